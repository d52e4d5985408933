/-! THE CLASS: lists within the relation; drop -/
/-- the reference's cells -/
def Kr (x : va_E) : Bool := Nat.beq (px_kd x) 7 || (Nat.beq (px_kd x) 1000 || Nat.beq (px_kd x) 5)
theorem Kr_kd {x : va_E} (h : Kr x = true) : px_kd x = 7 ∨ px_kd x = 1000 ∨ px_kd x = 5 := by
  unfold Kr at h
  rcases Bool.or_eq_true_iff.mp h with h | h
  · exact Or.inl (Nat.eq_of_beq_eq_true h)
  · rcases Bool.or_eq_true_iff.mp h with h | h
    · exact Or.inr (Or.inl (Nat.eq_of_beq_eq_true h))
    · exact Or.inr (Or.inr (Nat.eq_of_beq_eq_true h))
theorem px_kp.upn {K : va_E → Bool} {ws : va_W} {q : Nat} {e e' : va_E} (h : px_lk ws q = none) : px_kp K ws (px_up (ws ++ [(q, e)]) q e') := fun b y hy _ => px_keep (px_lk_old _ _ _ _ _ hy) (px_nn hy h)
abbrev WFs (G : px_G) (ws : va_W) : Prop := (∀ (a : Nat) (x : va_E), px_lk ws a = some x → g_lo G ≤ a) ∧ g_sv G 0 < g_lo G
theorem WFs.no {G : px_G} {ws : va_W} (h : WFs G ws) {a : Nat} {x : va_E} (ha : px_lk ws a = some x) : a ≠ g_sv G 0 := fun z => by
  have := h.1 a x ha
  have := h.2
  omega
/-- a cell of another kind isn't one of a list's two -/
theorem lsS_no {G : px_G} {ws : va_W} {L ar b : Nat} {xs : List Nat} {x : va_E} (hw : WFs G ws) (h : LSA G ws L ar xs) (hb : px_lk ws b = some x) (hL : b ≠ L) (h7 : ¬ px_kd x = 1001) : ¬ lsS L ar b := by
  obtain ⟨mc, hl, hmode⟩ := h
  rintro (z | z)
  · exact hL z
  · rcases hmode with ⟨h1, -⟩ | ⟨cap, f, h1, -⟩
    · exact hw.no hb (z.trans h1)
    · rw [z, h1] at hb
      cases hb
      exact h7 rfl
theorem lsS_nk {G : px_G} {ws : va_W} {L ar b : Nat} {xs : List Nat} {x : va_E} (hw : WFs G ws) (h : LSA G ws L ar xs) (hb : px_lk ws b = some x) (h6 : ¬ px_kd x = 6) (h7 : ¬ px_kd x = 1001) : ¬ lsS L ar b := by
  obtain ⟨mc, hl, hmode⟩ := id h
  exact lsS_no hw h hb (px_nek hb hl h6) h7
theorem LSA.kp {G : px_G} {ws w : va_W} {L ar : Nat} {xs : List Nat} (hw : WFs G ws) (h : LSA G ws L ar xs) (hf : px_fr (lsS L ar) ws w) : px_kp Kr ws w := by
  intro b x hb hk
  refine hf b x (lsS_nk hw h hb ?_ ?_) hb
  · rcases Kr_kd hk with h1 | h1 | h1 <;> rw [h1] <;> decide
  · rcases Kr_kd hk with h1 | h1 | h1 <;> rw [h1] <;> decide
/-- another list stays -/
theorem LSA.other {G : px_G} {ws w : va_W} {L ar L2 ar2 : Nat} {xs ys : List Nat} (hw : WFs G ws) (h : LSA G ws L ar xs) (h2 : LSA G ws L2 ar2 ys) (hf : px_fr (lsS L2 ar2) ws w) (hL : L ≠ L2) (hap : ar = ar2 → ar = g_sv G 0) : LSA G w L ar xs := by
  obtain ⟨mc, hl, hmode⟩ := h
  obtain ⟨mc2, hl2, hmode2⟩ := id h2
  refine ⟨mc, hf _ _ (lsS_no hw h2 hl hL (Nat.ne_of_beq_eq_false rfl)) hl, hmode.imp id (fun ⟨cap, f, a1, a2⟩ => ⟨cap, f, hf _ _ ?_ a1, a2⟩)⟩
  rintro (z | z)
  · rw [z, hl2] at a1
    cases a1
  · exact hw.no a1 (hap z)
/-- the relation, with any lists of entries' and displaced codes' cells -/
def CRg (G : px_G) (R : Int32) (ws : va_W) (o : Nat) (ad : Nat → Nat → Nat) (σ : Md) (EA DA : List Nat) : Prop :=
  px_lk ws o = some (oTM (ad 6 1) (ad 6 0) (d_g σ 0) (d_g σ 1) (d_g σ 2) (d_g σ 3)) ∧ px_lk ws (ad 6 0) = some (oMem R (ad 6 3) (ad 6 5)) ∧
  (LSA G ws (ad 6 1) (ad 6 2) ((List.range (d_n σ)).map (ad 0)) ∧ LSA G ws (ad 6 3) (ad 6 4) EA ∧ LSA G ws (ad 6 5) (ad 6 6) DA) ∧ c_sep G ad (d_n σ) (e_c σ) ∧ c_codes ws ad σ ∧ c_ents ws ad (d_e σ)
theorem CR.g {G : px_G} {R : Int32} {ws : va_W} {o : Nat} {ad : Nat → Nat → Nat} {σ : Md} (h : CR G R ws o ad σ) : CRg G R ws o ad σ ((e_c σ).map (ad 3)) ((d_d σ).map (ad 0)) := h
theorem CRg.c {G : px_G} {R : Int32} {ws : va_W} {o : Nat} {ad : Nat → Nat → Nat} {σ : Md} (h : CRg G R ws o ad σ ((e_c σ).map (ad 3)) ((d_d σ).map (ad 0))) : CR G R ws o ad σ := h
def up6 (ad : Nat → Nat → Nat) (j x : Nat) : Nat → Nat → Nat := fun k i => if k = 6 then (if i = j then x else ad 6 i) else ad k i
theorem c_codes.fr {S : Nat → Prop} {ws w : va_W} {ad : Nat → Nat → Nat} {σ : Md} (h : c_codes ws ad σ) (hf : px_fr S ws w) (hS : ∀ b x, px_lk ws b = some x → ¬ px_kd x = 6 → ¬ px_kd x = 1001 → ¬ S b) : c_codes w ad σ := fun i hi => ⟨hf _ _ (hS _ _ (h i hi).1 (Nat.ne_of_beq_eq_false rfl) (Nat.ne_of_beq_eq_false rfl)) (h i hi).1, hf _ _ (hS _ _ (h i hi).2.1 (Nat.ne_of_beq_eq_false rfl) (Nat.ne_of_beq_eq_false rfl)) (h i hi).2.1, hf _ _ (hS _ _ (h i hi).2.2 (Nat.ne_of_beq_eq_false rfl) (Nat.ne_of_beq_eq_false rfl)) (h i hi).2.2⟩
theorem c_ents.fr {S : Nat → Prop} {ws w : va_W} {ad : Nat → Nat → Nat} {es : List En4} (h : c_ents ws ad es) (hf : px_fr S ws w) (hS : ∀ b x, px_lk ws b = some x → ¬ px_kd x = 6 → ¬ px_kd x = 1001 → ¬ S b) : c_ents w ad es := fun i hi => ⟨hf _ _ (hS _ _ (h i hi).1 (Nat.ne_of_beq_eq_false rfl) (Nat.ne_of_beq_eq_false rfl)) (h i hi).1, hf _ _ (hS _ _ (h i hi).2.1 (Nat.ne_of_beq_eq_false rfl) (Nat.ne_of_beq_eq_false rfl)) (h i hi).2.1, hf _ _ (hS _ _ (h i hi).2.2 (Nat.ne_of_beq_eq_false rfl) (Nat.ne_of_beq_eq_false rfl)) (h i hi).2.2⟩
/-- the list of entries has changed, in its own cells alone -/
theorem CRg.l2 {G : px_G} {R : Int32} {ws w : va_W} {o : Nat} {ad : Nat → Nat → Nat} {σ : Md} {EA DA EA' : List Nat} {a2 : Nat} (hw : WFs G ws) (h : CRg G R ws o ad σ EA DA) (hf : px_fr (lsS (ad 6 3) (ad 6 4)) ws w) (ha : a2 = ad 6 4 ∨ px_lk ws a2 = none) (hl : LSA G w (ad 6 3) a2 EA') : CRg G R w o (up6 ad 4 a2) σ EA' DA := by
  obtain ⟨h1, h2, ⟨l1, l2, l3⟩, ⟨⟨s1, s2, s3⟩, ⟨p1, p2, p3⟩, s4⟩, h5, h6⟩ := h
  have hS : ∀ b x, px_lk ws b = some x → ¬ px_kd x = 6 → ¬ px_kd x = 1001 → ¬ lsS (ad 6 3) (ad 6 4) b := fun b x hb h6 h7 => lsS_nk hw l2 hb h6 h7
  have hap : ∀ {L ar : Nat} {xs : List Nat}, LSA G ws L ar xs → (ar = ad 6 4 → ar = g_sv G 0) → (ar = a2 → ar = g_sv G 0) := by
    intro L ar xs hls hh z
    rcases ha with ha | ha
    · exact hh (z.trans ha)
    · obtain ⟨mc, -, hmode⟩ := hls
      rcases hmode with ⟨q, -⟩ | ⟨cap, f, q, -⟩
      · exact q
      · rw [z, ha] at q
        cases q
  exact ⟨hf _ _ (hS _ _ h1 (Nat.ne_of_beq_eq_false rfl) (Nat.ne_of_beq_eq_false rfl)) h1, hf _ _ (hS _ _ h2 (Nat.ne_of_beq_eq_false rfl) (Nat.ne_of_beq_eq_false rfl)) h2, ⟨l1.other hw l2 hf s1 p1, hl, l3.other hw l2 hf (fun z => s3 z.symm) (fun z => z.trans (p3 z.symm))⟩, ⟨⟨s1, s2, s3⟩, ⟨hap l1 p1, p2, fun z => by
    have := hap l3 (fun z => z.trans (p3 z.symm)) z.symm
    exact z.trans this⟩, s4⟩, h5.fr hf hS, h6.fr hf hS⟩
theorem CRg.l3 {G : px_G} {R : Int32} {ws w : va_W} {o : Nat} {ad : Nat → Nat → Nat} {σ : Md} {EA DA DA' : List Nat} {a2 : Nat} (hw : WFs G ws) (h : CRg G R ws o ad σ EA DA) (hf : px_fr (lsS (ad 6 5) (ad 6 6)) ws w) (ha : a2 = ad 6 6 ∨ px_lk ws a2 = none) (hl : LSA G w (ad 6 5) a2 DA') : CRg G R w o (up6 ad 6 a2) σ EA DA' := by
  obtain ⟨h1, h2, ⟨l1, l2, l3⟩, ⟨⟨s1, s2, s3⟩, ⟨p1, p2, p3⟩, s4⟩, h5, h6⟩ := h
  have hS : ∀ b x, px_lk ws b = some x → ¬ px_kd x = 6 → ¬ px_kd x = 1001 → ¬ lsS (ad 6 5) (ad 6 6) b := fun b x hb h6 h7 => lsS_nk hw l3 hb h6 h7
  have hap : ∀ {L ar : Nat} {xs : List Nat}, LSA G ws L ar xs → (ar = ad 6 6 → ar = g_sv G 0) → (ar = a2 → ar = g_sv G 0) := by
    intro L ar xs hls hh z
    rcases ha with ha | ha
    · exact hh (z.trans ha)
    · obtain ⟨mc, -, hmode⟩ := hls
      rcases hmode with ⟨q, -⟩ | ⟨cap, f, q, -⟩
      · exact q
      · rw [z, ha] at q
        cases q
  exact ⟨hf _ _ (hS _ _ h1 (Nat.ne_of_beq_eq_false rfl) (Nat.ne_of_beq_eq_false rfl)) h1, hf _ _ (hS _ _ h2 (Nat.ne_of_beq_eq_false rfl) (Nat.ne_of_beq_eq_false rfl)) h2, ⟨l1.other hw l3 hf s2 p2, l2.other hw l3 hf s3 p3, hl⟩, ⟨⟨s1, s2, s3⟩, ⟨p1, hap l1 p2, hap l2 p3⟩, s4⟩, h5.fr hf hS, h6.fr hf hS⟩
/-- what is in a list is an object -/
theorem CR.obE {G : px_G} {R : Int32} {ws : va_W} {o : Nat} {ad : Nat → Nat → Nat} {σ : Md} (h : CR G R ws o ad σ) : ∀ x ∈ (e_c σ).map (ad 3), px_ob ws x := by
  intro x hx
  obtain ⟨i, hi, rfl⟩ := List.mem_map.mp hx
  obtain ⟨q, hq, rfl⟩ := List.mem_map.mp hi
  exact ⟨_, _, _, _, _, (h.2.2.2.2.2 q hq).1, rfl, w_690⟩
theorem CR.obC {G : px_G} {R : Int32} {ws : va_W} {o : Nat} {ad : Nat → Nat → Nat} {σ : Md} (h : CR G R ws o ad σ) {i : Nat} (hi : i < d_n σ) : px_ob ws (ad 0 i) := ⟨_, _, _, _, _, (h.2.2.2.2.1 i hi).1, rfl, w_687⟩
abbrev stE (σ : Md) (es : List En4) : Md := (d_n σ, d_A σ, d_p σ, es, d_d σ, d_g σ)
def dropE (es : List En4) (i : Nat) : List En4 := es.filter (fun x => !(Nat.beq x.1 i))
theorem dropE_none {es : List En4} {i : Nat} (h : i ∉ es.map (fun x => x.1)) : dropE es i = es := by
  unfold dropE
  rw [List.filter_eq_self]
  intro x hx
  have hne : x.1 ≠ i := fun z => h (List.mem_map.mpr ⟨x, hx, z⟩)
  cases hb : Nat.beq x.1 i with
  | false => rfl
  | true => exact absurd (Nat.eq_of_beq_eq_true hb) hne
theorem dropE_mem {es : List En4} {i : Nat} {x : En4} : x ∈ dropE es i ↔ x ∈ es ∧ x.1 ≠ i := by
  unfold dropE
  rw [List.mem_filter]
  constructor
  · rintro ⟨h1, h2⟩
    refine ⟨h1, fun z => ?_⟩
    rw [z] at h2
    simp at h2
  · rintro ⟨h1, h2⟩
    refine ⟨h1, ?_⟩
    cases hb : Nat.beq x.1 i with
    | false => rfl
    | true => exact absurd (Nat.eq_of_beq_eq_true hb) h2
theorem dropE_erase : ∀ (es : List En4) (i k : Nat), (es.map (fun x => x.1)).Nodup → (es.map (fun x => x.1))[k]? = some i → dropE es i = es.eraseIdx k
  | [], i, k, _, h => by simp at h
  | x :: es, i, 0, hn, h => by
    simp only [List.map_cons, List.getElem?_cons_zero, Option.some.injEq] at h
    rw [List.map_cons, List.nodup_cons] at hn
    show (x :: es).filter _ = es
    rw [List.filter_cons_of_neg (by rw [h]; simp)]
    exact dropE_none (by rw [← h]; exact hn.1)
  | x :: es, i, k + 1, hn, h => by
    rw [List.map_cons, List.getElem?_cons_succ] at h
    rw [List.map_cons, List.nodup_cons] at hn
    have hne : x.1 ≠ i := fun z => hn.1 (by rw [z]; exact List.mem_of_getElem? h)
    have hb : (!(Nat.beq x.1 i)) = true := by
      cases hb : Nat.beq x.1 i with
      | false => rfl
      | true => exact absurd (Nat.eq_of_beq_eq_true hb) hne
    show (x :: es).filter _ = (x :: es).eraseIdx (k + 1)
    rw [List.filter_cons_of_pos (p := fun x : En4 => !(Nat.beq x.1 i)) hb, List.eraseIdx_cons_succ, ← dropE_erase es i k hn.2 h]
    rfl
