/-! THE CLASS: store -/
def upA (ad : Nat → Nat → Nat) (k0 i0 x : Nat) : Nat → Nat → Nat := fun k i => if k = k0 then (if i = i0 then x else ad k0 i) else ad k i
def hapE (es : List En4) (c : Nat) (F : Sn4) : List En4 := es.map (fun x => if x.1 = c then (x.1, mn255 (x.2.1 + 1), x.2.2.1, F) else x)
theorem hapE_codes {es : List En4} {c : Nat} {F : Sn4} : (hapE es c F).map (fun x => x.1) = es.map (fun x => x.1) := by
  unfold hapE
  rw [List.map_map]
  apply List.map_congr_left
  intro x _
  show (if x.1 = c then (x.1, mn255 (x.2.1 + 1), x.2.2.1, F) else x).1 = x.1
  split <;> rfl
/-- addresses of codes and standings stay, and the object's own cells -/
def AdW (ad ad2 : Nat → Nat → Nat) : Prop := (∀ k i, k ≤ 2 → ad2 k i = ad k i) ∧ ∀ j, j ≠ 2 → j ≠ 4 → j ≠ 6 → ad2 6 j = ad 6 j
theorem AdW.rf {ad : Nat → Nat → Nat} : AdW ad ad := ⟨fun _ _ _ => rfl, fun _ _ _ _ => rfl⟩
theorem AdW.tr {a b c : Nat → Nat → Nat} (h1 : AdW a b) (h2 : AdW b c) : AdW a c := ⟨fun k i hk => (h2.1 k i hk).trans (h1.1 k i hk), fun j x y z => (h2.2 j x y z).trans (h1.2 j x y z)⟩
theorem AdS.w {a b : Nat → Nat → Nat} (h : AdS a b) : AdW a b := ⟨fun k i hk => h.1 k i (by omega), h.2⟩
theorem AdW.uA {ad : Nat → Nat → Nat} {k0 i0 x : Nat} (h : 3 ≤ k0) (h5 : k0 ≤ 5) : AdW ad (upA ad k0 i0 x) := ⟨fun k i hk => if_neg (by omega), fun j _ _ _ => if_neg (by omega)⟩
/-- it has happened once more -/
theorem CR.happen {G : px_G} {R : Int32} {ws : va_W} {o : Nat} {ad : Nat → Nat → Nat} {σ : Md} (h : CR G R ws o ad σ) {c sn : Nat} {F : Sn4} {hp : Int32} (hcm : c ∈ e_c σ) (hent : px_lk ws (ad 3 c) = some (oEn (ad 0 c) (ad 4 c) (ad 5 c) hp)) (hsn : px_lk ws sn = some (oSn4 F)) : CR G R (px_up ws (ad 3 c) (oEn (ad 0 c) (ad 4 c) sn (mn255 (hp + 1)))) o (upA ad 5 c sn) (stE σ (hapE (d_e σ) c F)) := by
  obtain ⟨h1, h2, hl, ⟨q1, q2, s0, q4, q5, q6, s7⟩, h5, h6⟩ := h
  have ec : e_c (stE σ (hapE (d_e σ) c F)) = e_c σ := hapE_codes
  refine ⟨px_keepK hent h1 (Nat.ne_of_beq_eq_false rfl), px_keepK hent h2 (Nat.ne_of_beq_eq_false rfl), ?_, ?_, fun j hj => ⟨?_, px_keepK hent (h5 j hj).2.1 (Nat.ne_of_beq_eq_false rfl), px_keepK hent (h5 j hj).2.2 (Nat.ne_of_beq_eq_false rfl)⟩, ?_⟩
  · rw [ec]
    exact hl.up hent (Nat.ne_of_beq_eq_false rfl) (Nat.ne_of_beq_eq_false rfl)
  · rw [ec]
    exact ⟨q1, q2, s0, q4, q5, q6, s7⟩
  · show px_lk _ (ad 0 j) = some (oCd _ _ _ _ _ _ _ _ (c_en (upA ad 5 c sn) (e_c (stE σ (hapE (d_e σ) c F))) j))
    rw [ec]
    exact px_keepK hent (h5 j hj).1 (Nat.ne_of_beq_eq_false rfl)
  · intro y hy
    obtain ⟨x, hx, rfl⟩ := List.mem_map.mp hy
    obtain ⟨e1, e2, e3⟩ := h6 x hx
    by_cases hxc : x.1 = c
    · rw [if_pos hxc]
      rw [hxc] at e1 e2
      have := Option.some.inj (e1.symm.trans hent)
      have hhp : x.2.1 = hp := by injection this with q; injection q with _ q; simp at q; exact q
      refine ⟨?_, ?_, ?_⟩
      · show px_lk _ (ad 3 x.1) = some (oEn (ad 0 x.1) (ad 4 x.1) (if x.1 = c then sn else ad 5 x.1) (mn255 (x.2.1 + 1)))
        rw [hxc, if_pos rfl, hhp]
        exact px_lk_same _ _ _ _ hent
      · show px_lk _ (ad 4 x.1) = some (oSn4 x.2.2.1)
        rw [hxc]
        exact px_keepK hent e2 (Nat.ne_of_beq_eq_false rfl)
      · show px_lk _ (if x.1 = c then sn else ad 5 x.1) = some (oSn4 F)
        rw [if_pos hxc]
        exact px_keepK hent hsn (Nat.ne_of_beq_eq_false rfl)
    · rw [if_neg hxc]
      refine ⟨?_, px_keepK hent e2 (Nat.ne_of_beq_eq_false rfl), ?_⟩
      · show px_lk _ (ad 3 x.1) = some (oEn (ad 0 x.1) (ad 4 x.1) (if x.1 = c then sn else ad 5 x.1) x.2.1)
        rw [if_neg hxc]
        exact px_keep e1 (fun z => hxc (s7 x.1 c (List.mem_map.mpr ⟨x, hx, rfl⟩) hcm z))
      · show px_lk _ (if x.1 = c then sn else ad 5 x.1) = some (oSn4 x.2.2.2)
        rw [if_neg hxc]
        exact px_keepK hent e3 (Nat.ne_of_beq_eq_false rfl)
abbrev adE (ad : Nat → Nat → Nat) (c e sn : Nat) : Nat → Nat → Nat := upA (upA (upA ad 3 c e) 4 c sn) 5 c sn
/-- a new entry's cells, ahead of its place in the list -/
theorem CRg.stored {G : px_G} {R : Int32} {ws : va_W} {o : Nat} {ad : Nat → Nat → Nat} {σ : Md} (h : CR G R ws o ad σ) {c sn e : Nat} {F : Sn4} (hc : c < d_n σ) (hcm : c ∉ e_c σ) (he : px_lk ws e = none) (hsn : px_lk ws sn = some (oSn4 F)) :
    CRg G R (px_up (px_up (ws ++ [(e, .inr (4, [.null, .null, .null, .int 0]))]) e (oEn (ad 0 c) sn sn 1)) (ad 0 c) (oCd (nI (c + 1)) (d_A σ 0 c) (d_A σ 1 c) (d_A σ 2 c) (ad 1 c) (ad 2 c) (d_A σ 11 c) (c_pa ad (d_p σ c)) (some e))) o (adE ad c e sn) (stE σ (d_e σ ++ [(c, 1, F, F)])) ((e_c σ).map (ad 3)) ((d_d σ).map (ad 0)) := by
  obtain ⟨h1, h2, hl, ⟨q1, q2, s0, q4, q5, q6, s7⟩, h5, h6⟩ := h
  have hcc := (h5 c hc).1
  generalize hw1 : px_up (ws ++ [(e, .inr (4, [.null, .null, .null, .int 0]))]) e (oEn (ad 0 c) sn sn 1) = w1
  have fr : px_fr (fun _ => False) ws w1 := by rw [← hw1]; exact px_fr.upn he
  have K : ∀ {b : Nat} {x : va_E}, px_lk ws b = some x → px_lk w1 b = some x := fun hb => fr _ _ (fun z => z) hb
  have hE1 : px_lk w1 e = some (oEn (ad 0 c) sn sn 1) := by rw [← hw1]; exact px_lk_same _ _ _ _ (px_lk_new _ _ _ he)
  have hc1 := K hcc
  have ec : e_c (stE σ (d_e σ ++ [(c, 1, F, F)])) = e_c σ ++ [c] := by
    show (d_e σ ++ [(c, 1, F, F)]).map (fun x : En4 => x.1) = _
    rw [List.map_append]; rfl
  have hl1 : c_lists G w1 ad (d_n σ) (e_c σ) (d_d σ) := ⟨hl.1.fr fr (fun z => z) (fun z => z), hl.2.1.fr fr (fun z => z) (fun z => z), hl.2.2.fr fr (fun z => z) (fun z => z)⟩
  refine ⟨px_keepK hc1 (K h1) (Nat.ne_of_beq_eq_false rfl), px_keepK hc1 (K h2) (Nat.ne_of_beq_eq_false rfl), hl1.up hc1 (Nat.ne_of_beq_eq_false rfl) (Nat.ne_of_beq_eq_false rfl), ?_, fun j hj => ⟨?_, px_keepK hc1 (K (h5 j hj).2.1) (Nat.ne_of_beq_eq_false rfl), px_keepK hc1 (K (h5 j hj).2.2) (Nat.ne_of_beq_eq_false rfl)⟩, ?_⟩
  · rw [ec]
    refine ⟨q1, q2, s0, q4, q5, q6, ?_⟩
    have hfre : ∀ j, j ∈ e_c σ → ad 3 j ≠ e := by
      intro j hj z
      obtain ⟨x, hx, rfl⟩ := List.mem_map.mp hj
      have := (h6 x hx).1
      rw [z, he] at this
      cases this
    intro a b ha hb hab
    have hab : (if a = c then e else ad 3 a) = (if b = c then e else ad 3 b) := hab
    rcases List.mem_append.mp ha with ha | ha <;> rcases List.mem_append.mp hb with hb | hb
    · rw [if_neg (fun z : a = c => hcm (z ▸ ha)), if_neg (fun z : b = c => hcm (z ▸ hb))] at hab
      exact s7 a b ha hb hab
    · have hbc := List.mem_singleton.mp hb
      rw [if_neg (fun z : a = c => hcm (z ▸ ha)), if_pos hbc] at hab
      exact absurd hab (hfre a ha)
    · have hac := List.mem_singleton.mp ha
      rw [if_pos hac, if_neg (fun z : b = c => hcm (z ▸ hb))] at hab
      exact absurd hab.symm (hfre b hb)
    · rw [List.mem_singleton.mp ha, List.mem_singleton.mp hb]
  · by_cases hjc : j = c
    · subst hjc
      have hen : c_en (adE ad j e sn) (e_c (stE σ (d_e σ ++ [(j, 1, F, F)]))) j = some e := by
        rw [ec, c_en, if_pos (List.mem_append_right _ (List.mem_singleton.mpr rfl))]
        show some (if j = j then e else ad 3 j) = some e
        rw [if_pos rfl]
      show px_lk _ (ad 0 j) = some (oCd _ _ _ _ _ _ _ _ (c_en (adE ad j e sn) (e_c (stE σ (d_e σ ++ [(j, 1, F, F)]))) j))
      rw [hen]
      exact px_lk_same _ _ _ _ hc1
    · have hen : c_en (adE ad c e sn) (e_c (stE σ (d_e σ ++ [(c, 1, F, F)]))) j = c_en ad (e_c σ) j := by
        rw [ec]
        by_cases hm : j ∈ e_c σ
        · rw [c_en_in hm, c_en, if_pos (List.mem_append_left _ hm)]
          show some (if j = c then e else ad 3 j) = some (ad 3 j)
          rw [if_neg hjc]
        · rw [c_en_out hm]
          exact c_en_out (fun z => (List.mem_append.mp z).elim hm (fun z => hjc (List.mem_singleton.mp z)))
      show px_lk _ (ad 0 j) = some (oCd _ _ _ _ _ _ _ _ (c_en (adE ad c e sn) (e_c (stE σ (d_e σ ++ [(c, 1, F, F)]))) j))
      rw [hen]
      exact px_keep (K (h5 j hj).1) (fun z => hjc (s0 j c hj hc z))
  · intro x hx
    rcases List.mem_append.mp hx with hx | hx
    · have hxc : x.1 ≠ c := fun z => hcm (List.mem_map.mpr ⟨x, hx, z⟩)
      obtain ⟨e1, e2, e3⟩ := h6 x hx
      refine ⟨?_, ?_, ?_⟩
      · show px_lk _ (if x.1 = c then e else ad 3 x.1) = some (oEn (ad 0 x.1) (if x.1 = c then sn else ad 4 x.1) (if x.1 = c then sn else ad 5 x.1) x.2.1)
        rw [if_neg hxc, if_neg hxc, if_neg hxc]
        exact px_keepK hc1 (K e1) (Nat.ne_of_beq_eq_false rfl)
      · show px_lk _ (if x.1 = c then sn else ad 4 x.1) = _
        rw [if_neg hxc]
        exact px_keepK hc1 (K e2) (Nat.ne_of_beq_eq_false rfl)
      · show px_lk _ (if x.1 = c then sn else ad 5 x.1) = _
        rw [if_neg hxc]
        exact px_keepK hc1 (K e3) (Nat.ne_of_beq_eq_false rfl)
    · have hxe := List.mem_singleton.mp hx
      subst hxe
      refine ⟨?_, ?_, ?_⟩
      · show px_lk _ (if c = c then e else ad 3 c) = some (oEn (ad 0 c) (if c = c then sn else ad 4 c) (if c = c then sn else ad 5 c) 1)
        rw [if_pos rfl, if_pos rfl, if_pos rfl]
        exact px_keepK hc1 hE1 (Nat.ne_of_beq_eq_false rfl)
      · show px_lk _ (if c = c then sn else ad 4 c) = _
        rw [if_pos rfl]
        exact px_keepK hc1 (K hsn) (Nat.ne_of_beq_eq_false rfl)
      · show px_lk _ (if c = c then sn else ad 5 c) = _
        rw [if_pos rfl]
        exact px_keepK hc1 (K hsn) (Nat.ne_of_beq_eq_false rfl)
set_option maxHeartbeats 4000000 in
theorem c_store_new {G : px_G} {ws : va_W} {d : Nat} {R : Int32} {o : Nat} {ad : Nat → Nat → Nat} {σ : Md} (h : CR G R ws o ad σ) (hlen : (e_c σ).length ≤ 500) {c sn : Nat} {F : Sn4} (hc : c < d_n σ) (hcm : c ∉ e_c σ) (hsn : px_lk ws sn = some (oSn4 F)) : px G m_Mem_store 40 [(0, .ref (ad 6 0)), (1, .ref (ad 0 c)), (2, .ref sn)] [] ws (d + 8) 2 1004 (fun v w => v = none ∧ ∃ ad2, AdW ad ad2 ∧ CR G R w o ad2 (stE σ (d_e σ ++ [(c, 1, F, F)])) ∧ px_kp Kr ws w) := by
  have hcc := (h.2.2.2.2.1 c hc).1
  refine p_s rfl rfl ?_
  refine p_new (N := 4) rfl nc_Mem_32 (fun e he hel => ?_)
  refine p_s rfl rfl ?_
  refine p_s rfl rfl ?_
  refine p_s rfl rfl ?_
  refine p_callI rfl c_Mem_45 g_En_init rfl rfl rfl (p_le (by omega) (Nat.le_refl _) (Nat.le_refl _) (c_EnInit (d := d) (px_lk_new _ _ _ he))) (fun v w hq => ?_)
  obtain ⟨rfl, rfl⟩ := hq
  have hc1 := px_keep (e := oEn (ad 0 c) sn sn 1) (px_lk_old ws e (ad 0 c) (.inr (4, [.null, .null, .null, .int 0])) _ hcc) (px_nn hcc he)
  refine p_put rfl fp_Mem_25 hc1 rfl rfl (by exact Nat.le_of_ble_eq_true rfl) ?_
  have hg := CRg.stored h hc hcm he hsn
  have hkp0 : px_kp Kr ws (px_up (px_up (ws ++ [(e, .inr (4, [.null, .null, .null, .int 0]))]) e (oEn (ad 0 c) sn sn 1)) (ad 0 c) (oCd (nI (c + 1)) (d_A σ 0 c) (d_A σ 1 c) (d_A σ 2 c) (ad 1 c) (ad 2 c) (d_A σ 11 c) (c_pa ad (d_p σ c)) (some e))) := (px_kp.nw.tr (px_kp.up (px_lk_new _ _ _ he) rfl)).tr (px_kp.up hc1 rfl)
  have hc2 := px_lk_same _ _ _ (oCd (nI (c + 1)) (d_A σ 0 c) (d_A σ 1 c) (d_A σ 2 c) (ad 1 c) (ad 2 c) (d_A σ 11 c) (c_pa ad (d_p σ c)) (some e)) hc1
  have he2 : px_ob (px_up (px_up (ws ++ [(e, .inr (4, [.null, .null, .null, .int 0]))]) e (oEn (ad 0 c) sn sn 1)) (ad 0 c) (oCd (nI (c + 1)) (d_A σ 0 c) (d_A σ 1 c) (d_A σ 2 c) (ad 1 c) (ad 2 c) (d_A σ 11 c) (c_pa ad (d_p σ c)) (some e))) e := ⟨_, _, _, _, _, px_keepK hc1 (px_lk_same _ _ _ (oEn (ad 0 c) sn sn 1) (px_lk_new ws e (.inr (4, [.null, .null, .null, .int 0])) he)) (Nat.ne_of_beq_eq_false rfl), rfl, w_690⟩
  have hobs : ∀ x ∈ (e_c σ).map (ad 3), px_ob (px_up (px_up (ws ++ [(e, .inr (4, [.null, .null, .null, .int 0]))]) e (oEn (ad 0 c) sn sn 1)) (ad 0 c) (oCd (nI (c + 1)) (d_A σ 0 c) (d_A σ 1 c) (d_A σ 2 c) (ad 1 c) (ad 2 c) (d_A σ 11 c) (c_pa ad (d_p σ c)) (some e))) x := fun x hx => (((h.obE x hx).old (q := e) (e := .inr (4, [.null, .null, .null, .int 0]))).up (px_lk_new _ _ _ he) (e := oEn (ad 0 c) sn sn 1) ⟨rfl, Or.inl (by exact Nat.le_of_ble_eq_true rfl)⟩).up hc1 (e := oCd (nI (c + 1)) (d_A σ 0 c) (d_A σ 1 c) (d_A σ 2 c) (ad 1 c) (ad 2 c) (d_A σ 11 c) (c_pa ad (d_p σ c)) (some e)) ⟨rfl, Or.inl (by exact Nat.le_of_ble_eq_true rfl)⟩
  refine p_wf (fun hw => ?_)
  have hg2 := hg.2.1
  have hL2 := hg.2.2.1.2.1
  obtain ⟨sz, mc, hL2c⟩ := hL2.cell
  refine p_s rfl rfl ?_
  refine p_get rfl f_Mem_12 hg2 rfl ?_
  refine p_s rfl rfl ?_
  refine p_get rfl f_Mem_25 hc2 rfl ?_
  refine p_callV rfl c_Mem_48 rfl hL2c g_AL_add1 rfl rfl rfl (p_le (by omega) (Nat.le_refl _) (Nat.le_refl _) (c_add (d := d) hL2 (by rw [List.length_map]; omega) hobs he2)) (fun v w hq => ?_)
  obtain ⟨rfl, a2, ha2, hl2, hf2⟩ := hq
  have hg3 := CRg.l2 hw hg hf2 ha2 hl2
  have hkp := hL2.kp hw hf2
  refine p_s rfl rfl ?_
  refine p_vret rfl rfl ⟨rfl, up6 (adE ad c e sn) 4 a2, ?_, ?_, hkp0.tr hkp⟩
  · exact ((((AdW.uA (ad := ad) (k0 := 3) (by omega) (by omega)).tr (AdW.uA (k0 := 4) (by omega) (by omega))).tr (AdW.uA (k0 := 5) (by omega) (by omega))).tr (AdS.u (Or.inr (Or.inl rfl))).w)
  · have e1 : (e_c (stE σ (d_e σ ++ [(c, 1, F, F)]))).map (up6 (adE ad c e sn) 4 a2 3) = (e_c σ).map (ad 3) ++ [e] := by
      show ((d_e σ ++ [(c, 1, F, F)]).map (fun x : En4 => x.1)).map _ = _
      rw [List.map_append, List.map_append]
      congr 1
      · apply List.map_congr_left
        intro j hj
        show (if j = c then e else ad 3 j) = ad 3 j
        exact if_neg (fun z : j = c => hcm (z ▸ hj))
      · show [if c = c then e else ad 3 c] = [e]
        rw [if_pos rfl]
    have hg4 : CRg G R w o (up6 (adE ad c e sn) 4 a2) (stE σ (d_e σ ++ [(c, 1, F, F)])) ((e_c (stE σ (d_e σ ++ [(c, 1, F, F)]))).map (up6 (adE ad c e sn) 4 a2 3)) ((d_d σ).map (ad 0)) := by rw [e1]; exact hg3
    exact hg4
