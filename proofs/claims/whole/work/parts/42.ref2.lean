/-! THE REFERENCE OVER THE MODEL: rows; is, set, statusOf, many, none, freshen, keep -/
def RX (G : px_G) (R : Int32) (q : Nat) (ws0 ws : va_W) (m : Nat) (aa : Nat → Nat) (σ : Md) : Prop := ∃ fa s, RH G ws m aa fa s ∧ RS R q fa s σ ∧ px_kp Kc ws0 ws
theorem RX.cong {G : px_G} {R : Int32} {q : Nat} {ws0 ws : va_W} {m : Nat} {aa : Nat → Nat} {σ σ' : Md} (h : RX G R q ws0 ws m aa σ) (e : σ = σ') : RX G R q ws0 ws m aa σ' := e ▸ h
theorem sHas_z (s b : Int32) : isZ (sHas s b) := by
  unfold sHas
  split
  · exact Or.inl rfl
  · exact Or.inr rfl
theorem up1_34 {A : Nat → Nat → Int32} {i : Nat} {s t a g x : Int32} : up1 (up4 A 3 i s t a g) 3 i x = up4 A 3 i x t a g ∧ up1 (up4 A 3 i s t a g) 4 i x = up4 A 3 i s x a g ∧ up1 (up4 A 3 i s t a g) 5 i x = up4 A 3 i s t x g ∧ up1 (up4 A 3 i s t a g) 6 i x = up4 A 3 i s t a x := by
  refine ⟨?_, ?_, ?_, ?_⟩ <;> funext k j <;> unfold up1 up4 <;> (repeat' split) <;> first | rfl | (exfalso; omega)
theorem stA_X3 {σ : Md} {i : Nat} {s t a g x : Int32} : stX (stA σ 3 i s t a g) 3 i x = stA σ 3 i x t a g := by show (_, up1 _ _ _ _, _) = (_, up4 _ _ _ _ _ _ _, _); rw [up1_34.1]
theorem stA_X4 {σ : Md} {i : Nat} {s t a g x : Int32} : stX (stA σ 3 i s t a g) 4 i x = stA σ 3 i s x a g := by show (_, up1 _ _ _ _, _) = (_, up4 _ _ _ _ _ _ _, _); rw [up1_34.2.1]
theorem stA_X5 {σ : Md} {i : Nat} {s t a g x : Int32} : stX (stA σ 3 i s t a g) 5 i x = stA σ 3 i s t x g := by show (_, up1 _ _ _ _, _) = (_, up4 _ _ _ _ _ _ _, _); rw [up1_34.2.2.1]
theorem stA_X6 {σ : Md} {i : Nat} {s t a g x : Int32} : stX (stA σ 3 i s t a g) 6 i x = stA σ 3 i s t a x := by show (_, up1 _ _ _ _, _) = (_, up4 _ _ _ _ _ _ _, _); rw [up1_34.2.2.2]
theorem stA_3 {σ : Md} {i : Nat} {s t a g : Int32} : d_A (stA σ 3 i s t a g) 3 i = s := by show up4 _ _ _ _ _ _ _ _ _ = _; simp [up4]
theorem stA_4 {σ : Md} {i : Nat} {s t a g : Int32} : d_A (stA σ 3 i s t a g) 4 i = t := by show up4 _ _ _ _ _ _ _ _ _ = _; simp [up4]
theorem stA_5 {σ : Md} {i : Nat} {s t a g : Int32} : d_A (stA σ 3 i s t a g) 5 i = a := by show up4 _ _ _ _ _ _ _ _ _ = _; simp [up4]
theorem stA_6 {σ : Md} {i : Nat} {s t a g : Int32} : d_A (stA σ 3 i s t a g) 6 i = g := by show up4 _ _ _ _ _ _ _ _ _ = _; simp [up4]
theorem stA_id {σ : Md} {i : Nat} : stA σ 3 i (d_A σ 3 i) (d_A σ 4 i) (d_A σ 5 i) (d_A σ 6 i) = σ := by
  have e : up4 (d_A σ) 3 i (d_A σ 3 i) (d_A σ 4 i) (d_A σ 5 i) (d_A σ 6 i) = d_A σ := by
    funext k j
    unfold up4
    (repeat' split) <;> first | rfl | (subst_vars; rfl)
  show (_, up4 _ _ _ _ _ _ _, _) = σ
  rw [e]
theorem stX_X {σ : Md} {k i : Nat} {x y : Int32} : stX (stX σ k i x) k i y = stX σ k i y := by
  have e : up1 (up1 (d_A σ) k i x) k i y = up1 (d_A σ) k i y := by
    funext c j
    unfold up1
    (repeat' split) <;> rfl
  show (_, up1 _ _ _ _, _) = (_, up1 _ _ _ _, _)
  rw [e]
theorem stX_s {σ : Md} {k i : Nat} {x : Int32} : d_A (stX σ k i x) k i = x := up1_same
theorem stX_id {σ : Md} {k i : Nat} : stX σ k i (d_A σ k i) = σ := by
  have e : up1 (d_A σ) k i (d_A σ k i) = d_A σ := by
    funext c j
    unfold up1
    split
    · next h => rw [h.1, h.2]
    · rfl
  show (_, up1 _ _ _ _, _) = σ
  rw [e]
section RXW
variable {G : px_G} {M : px_M} {pc nx d bc bs : Nat} {tg : List Nat} {z : Int32} {lv : List (Nat × Value)} {st : List Value} {ws ws0 : va_W} {Q : Option Value → va_W → Prop}
variable {R : Int32} {q m : Nat} {aa : Nat → Nat} {fa : Nat → Nat → Int32} {s : Nat → Int32} {σ σ' : Md}
theorem rc201 {k : Nat} (hk : isAt k) (f : Nat → Int32) : rcell G k f = oIA G 201 f := by
  rcases hk with rfl | rfl | rfl | rfl | rfl | rfl | rfl | rfl | rfl | rfl <;> rfl
theorem p_rld {k a i : Nat} {j x : Int32} (ha : px_at M pc = some (.iaload, nx, tg, z)) (hr : RH G ws m aa fa s) (hs : RS R q fa s σ) (hk : isAt k) (hat : att k = a) (hx : d_A σ a i = x) (hi : i < d_n σ) (hj : j = nI (i + 1)) (kk : px G M nx lv (.int x :: st) ws d bc bs Q) : px G M pc lv (.int j :: .ref (aa k) :: st) ws d bc bs Q := by
  have hc := hr.2.1 k (by omega)
  rw [rc201 hk] at hc
  have hn := hs.1
  subst hat
  subst hx
  refine p_ialdS ha hc hj (by omega) (by decide) ?_
  rw [hs.2.1 k hk i hi]
  exact kk
theorem p_rst {k a i : Nat} {j x : Int32} (ha : px_at M pc = some (.iastore, nx, tg, z)) (hr : RH G ws m aa fa s) (hs : RS R q fa s σ) (h0 : px_kp Kc ws0 ws) (hk : isAt k) (hat : att k = a) (he : stX σ a i x = σ') (hi : i < d_n σ) (hj : j = nI (i + 1)) (kk : ∀ ws fa s, RH G ws m aa fa s → RS R q fa s σ' → px_kp Kc ws0 ws → px G M nx lv st ws d bc bs Q) : px G M pc lv (.int x :: .int j :: .ref (aa k) :: st) ws d bc bs Q := by
  have hc := hr.2.1 k (by omega)
  have hp := hr.put (k := k) (i := i + 1) (v := x) (by omega) (fun z => by omega)
  have hkp := hr.kp (k := k) (e := rcell G k (upd (fa k) (i + 1) x)) (by omega)
  rw [rc201 hk] at hc hp hkp
  have hn := hs.1
  subst hat
  subst he
  refine p_iastS ha hc hj (by omega) (by decide) ?_
  exact kk _ _ _ hp (hs.at hk hi) (h0.tr hkp)
theorem p_rzst {i b : Nat} {j x : Int32} (ha : px_at M pc = some (.bastore, nx, tg, z)) (hr : RH G ws m aa fa s) (hs : RS R q fa s σ) (h0 : px_kp Kc ws0 ws) (he : stX σ 7 i (setB (d_A σ 7 i) b x) = σ') (hi : i < d_n σ) (hb : b < 8) (hx : isZ x) (hj : j = nI (8 * (i + 1) + b)) (kk : ∀ ws fa s, RH G ws m aa fa s → RS R q fa s σ' → px_kp Kc ws0 ws → px G M nx lv st ws d bc bs Q) : px G M pc lv (.int x :: .int j :: .ref (aa 9) :: st) ws d bc bs Q := by
  have hn := hs.1
  subst he
  refine p_zastS ha (hr.2.1 9 (by decide)) hj (by omega) (by decide) hx ?_
  exact kk _ _ _ (hr.put (k := 9) (by decide) (fun _ => hx)) (hs.bit (Or.inr ⟨rfl, rfl⟩) hi hb hx) (h0.tr (hr.kp (k := 9) (by decide)))
abbrev oRl (aa : Nat → Nat) (s : Nat → Int32) : List Value := [.int (s 0), .int (s 1), .int (s 2), .ref (aa 0), .ref (aa 1), .ref (aa 2), .ref (aa 3), .ref (aa 4), .ref (aa 5), .ref (aa 6), .ref (aa 7), .ref (aa 8), .ref (aa 9), .ref (aa 10), .ref (aa 11), .ref (aa 12), .ref (aa 13), .ref (aa 14), .ref (aa 15), .int (s 3), .int (s 4), .ref (aa 16), .ref (aa 17), .int (s 5), .int (s 6), .int (s 7)]
/-- a number of the object is set -/
theorem p_rput {idx kf k : Nat} {x : Int32} {ty : FieldType} (ha : px_at M pc = some (.putfield idx, nx, tg, z)) (hF : px_Fp (px_y M).cls idx 7 kf ty) (hr : RH G ws m aa fa s) (h0 : px_kp Kc ws0 ws) (hn : narrow ty (.int x) = .int x) (hf : fits ty (.int x) = true) (hkl : kf < 26) (hset : (oRl aa s).set kf (.int x) = oRl aa (upS s k x)) (hs : RS R q fa (upS s k x) σ') (kk : ∀ ws s, RH G ws m aa fa s → RS R q fa s σ' → px_kp Kc ws0 ws → px G M nx lv st ws d bc bs Q) : px G M pc lv (.int x :: .ref m :: st) ws d bc bs Q := by
  refine p_put (fs := oRl aa s) ha hF hr.1 hn hf hkl ?_
  rw [hset]
  exact kk _ _ (hr.sc (upS s k x)) hs (h0.tr hr.kps)
theorem RS.cod (hs : RS R q fa s σ) : RS R q fa (upS s 0 0) σ := hs
theorem RS.s2 (hs : RS R q fa s σ) : s 2 = nI (d_n σ) := hs.2.2.2.2.2.2.2.2.2.1
theorem RS.s1 (hs : RS R q fa s σ) : s 1 = R := hs.2.2.2.2.2.2.2.2.1
theorem RS.s5 (hs : RS R q fa s σ) : s 5 = if d_g σ 1 = 0 then 1 else 0 := hs.2.2.2.2.2.2.2.2.2.2.1
theorem RS.s6 (hs : RS R q fa s σ) : s 6 = d_g σ 2 := hs.2.2.2.2.2.2.2.2.2.2.2.1
theorem RS.s7 (hs : RS R q fa s σ) : s 7 = d_g σ 3 := hs.2.2.2.2.2.2.2.2.2.2.2.2.1
theorem RS.b (hs : RS R q fa s σ) {i b : Nat} (hi : i < d_n σ) (hb : b < 8) : fa 5 (8 * (i + 1) + b) = sHas (d_A σ 3 i) (pw b) := (hs.2.2.1 i hi b hb).1
theorem RS.is3 (hs : RS R q fa s σ) {i : Nat} (hi : i < d_n σ) : isB (d_A σ 3 i) := (hs.2.2.2.1 i hi).1
theorem RS.is7 (hs : RS R q fa s σ) {i : Nat} (hi : i < d_n σ) : isB (d_A σ 7 i) := (hs.2.2.2.1 i hi).2
theorem RS.cutT (hs : RS R q fa s σ) (hp : d_g σ 1 = 0) : s 5 = 1 := by rw [hs.s5, if_pos hp]
theorem RS.cutF (hs : RS R q fa s σ) (hp : ¬ d_g σ 1 = 0) : s 5 = 0 := by rw [hs.s5, if_neg hp]
theorem r_isX (hr : RH G ws m aa fa s) (hs : RS R q fa s σ) {i b : Nat} {x : Int32} (hi : i < d_n σ) (hb : b < 8) (hx : d_A σ 3 i = x) : px G m_Rf_is 0 (lv_args 0 [.ref m, .int (nI (i + 1)), .int (nI b)]) [] ws d 0 0 (fun v w => v = some (.int (sHas x (pw b))) ∧ w = ws) := by
  have hn := hs.1
  have h := r_is (d := d) hr (c := i + 1) (b := b) (by omega) hb
  rw [hs.b hi hb, hx] at h
  exact h
theorem r_setX (hr : RH G ws m aa fa s) (hs : RS R q fa s σ) (h0 : px_kp Kc ws0 ws) {i b : Nat} {x : Int32} (hi : i < d_n σ) (hb : b < 8) (hx : isZ x) (he : stX σ 3 i (setB (d_A σ 3 i) b x) = σ') : px G m_Rf_set 0 (lv_args 0 [.ref m, .int (nI (i + 1)), .int (nI b), .int x]) [] ws d 0 0 (fun v w => v = none ∧ RX G R q ws0 w m aa σ') := by
  have hn := hs.1
  subst he
  exact p_post (fun v w hq => ⟨hq.1, _, _, hq.2.1, hs.bit (Or.inl ⟨rfl, rfl⟩) hi hb hx, h0.tr hq.2.2⟩) (r_set hr (c := i + 1) (b := b) (by omega) hb hx)
theorem stA_B {i b : Nat} {t a g x v : Int32} : stX (stA σ 3 i v t a g) 3 i (setB (d_A (stA σ 3 i v t a g) 3 i) b x) = stA σ 3 i (setB v b x) t a g := by rw [stA_3, stA_X3]
theorem isB_stR {x : Int32} (hx : isB x) : stR (fun b => sHas x (pw b)) 8 = x := by
  obtain ⟨k, hk, rfl⟩ := hx
  exact stR_s k hk
theorem stR_cong {f g : Nat → Int32} : ∀ n, (∀ b, b < n → f b = g b) → stR f n = stR g n
  | 0, _ => rfl
  | n + 1, h => by rw [stR, stR, stR_cong n (fun b hb => h b (by omega)), h n (by omega)]
theorem isB_ext {x y : Int32} (hx : isB x) (hy : isB y) (h : ∀ b, b < 8 → sHas x (pw b) = sHas y (pw b)) : x = y := by
  rw [← isB_stR hx, ← isB_stR hy]
  exact stR_cong 8 h
theorem r_statusX (hr : RH G ws m aa fa s) (hs : RS R q fa s σ) {i : Nat} {x : Int32} (hi : i < d_n σ) (hx : d_A σ 3 i = x) : px G m_Rf_statusOf 0 (lv_args 0 [.ref m, .int (nI (i + 1))]) [] ws (d + 1) 0 0 (fun v w => v = some (.int x) ∧ w = ws) := by
  have hn := hs.1
  have h := r_statusOf (d := d) hr (c := i + 1) (by omega)
  rw [stR_cong (g := fun b => sHas (d_A σ 3 i) (pw b)) 8 (fun b hb => hs.b hi hb), isB_stR (hs.is3 hi), hx] at h
  exact h
theorem cnR_cntB {A : Nat → Nat → Int32} {f : Nat → Int32} {b : Nat} : ∀ n, (∀ i, i < n → f (i + 1) = sHas (A 3 i) (pw b)) → cnR f n = cntB A (pw b) n
  | 0, _ => rfl
  | n + 1, h => by rw [cnR, cntB, cnR_cntB n (fun i hi => h i (by omega)), h n (by omega)]
theorem r_manyX (hr : RH G ws m aa fa s) (hs : RS R q fa s σ) {b : Nat} (hb : b < 8) : px G m_Rf_many 0 (lv_args 0 [.ref m, .int (nI b)]) [] ws (d + 1) 0 0 (fun v w => v = some (.int (nI (cntB (d_A σ) (pw b) (d_n σ)))) ∧ w = ws) := by
  have h := r_many (d := d) hr hb hs.1 hs.s2
  rw [cnR_cntB (A := d_A σ) (b := b) (d_n σ) (fun i hi => hs.b hi hb)] at h
  exact h
theorem r_noneX1 (hr : RH G ws m aa fa s) (hs : RS R q fa s σ) (h0 : px_kp Kc ws0 ws) {x : Int32} (hx : x < 1 ∨ nI (d_n σ) < x) : px G m_Rf_none 0 (lv_args 0 [.ref m, .int x]) [] ws d 0 0 (fun v w => v = some (.int 1) ∧ RX G R q ws0 w m aa σ) := p_post (fun v w hq => ⟨hq.1, _, _, hq.2.1, hs.cod, h0.tr hq.2.2⟩) (r_noneT hr (by rw [hs.s2]; exact hx))
theorem r_noneX0 (hr : RH G ws m aa fa s) (hs : RS R q fa s σ) (h0 : px_kp Kc ws0 ws) {i : Nat} (hi : i < d_n σ) : px G m_Rf_none 0 (lv_args 0 [.ref m, .int (nI (i + 1))]) [] ws d 0 0 (fun v w => v = some (.int 0) ∧ RX G R q ws0 w m aa σ) := p_post (fun v w hq => ⟨hq.1, _, _, hq.2.1, hs.cod, h0.tr hq.2.2⟩) (r_noneF hr (by
  have hn := hs.1
  rw [hs.s2]
  rintro (z | z)
  · rw [show (1 : Int32) = nI 1 from rfl, nI_ltI (by omega) (by omega)] at z
    omega
  · rw [nI_ltI (by omega) (by omega)] at z
    omega))
end RXW
def frX (b : Nat) : Int32 := if nI b = 4 ∨ nI b = 6 then 1 else 0
def frB (v : Int32) : Nat → Int32
  | 0 => v
  | b + 1 => setB (frB v b) b (frX b)
theorem frX_z (b : Nat) : isZ (frX b) := by
  unfold frX
  split
  · exact Or.inr rfl
  · exact Or.inl rfl
theorem frB_k : ∀ k, k < 256 → frB (nI k) 8 = 80 := by decide +kernel
theorem frB_8 {v : Int32} (h : isB v) : frB v 8 = 80 := by
  obtain ⟨k, hk, rfl⟩ := h
  exact frB_k k hk
set_option maxHeartbeats 4000000 in
theorem r_fresh_loop {G : px_G} {ws0 : va_W} {d m : Nat} {R : Int32} {q : Nat} {aa : Nat → Nat} {σ : Md} {i : Nat} (hi : i < d_n σ) {bc bs : Nat} {Q : Option Value → va_W → Prop} : ∀ (k b : Nat) (ws : va_W) (x2 : Int32), b + k = 8 → x2 = nI b → RX G R q ws0 ws m aa (stX σ 3 i (frB (d_A σ 3 i) b)) → (∀ (w : va_W) (x2 : Int32), RX G R q ws0 w m aa (stX σ 3 i (frB (d_A σ 3 i) 8)) → px G m_Rf_freshen 36 [(2, .int x2), (0, .ref m), (1, .int (nI (i + 1)))] [] w (d + 1) bc bs Q) → px G m_Rf_freshen 2 [(2, .int x2), (0, .ref m), (1, .int (nI (i + 1)))] [] ws (d + 1) bc bs Q := by
  intro k
  induction k with
  | zero =>
    intro b ws x2 hbk h2 hX hK
    subst h2
    have hb : b = 8 := by omega
    subst hb
    refine p_s rfl rfl ?_
    refine p_s rfl rfl ?_
    refine p_icmpT rfl (show (8 : Int32) ≤ nI 8 by decide) ?_
    exact hK _ _ hX
  | succ k ih =>
    intro b ws x2 hbk h2 hX hK
    subst h2
    have hb : b < 8 := by omega
    obtain ⟨fa, s, hr, hs, hk⟩ := hX
    refine p_s rfl rfl ?_
    refine p_s rfl rfl ?_
    refine p_icmpF rfl (show ¬ (8 : Int32) ≤ nI b by rw [show (8 : Int32) = nI 8 from rfl, nI_leI (by decide) (by omega)]; omega) ?_
    refine p_s rfl rfl ?_
    refine p_s rfl rfl ?_
    refine p_s rfl rfl ?_
    refine p_s rfl rfl ?_
    refine p_s rfl rfl ?_
    refine p_icmp rfl (fun c => ?_) (fun c => ?_)
    · simp only [px_cmp] at c
      refine p_s rfl rfl ?_
      refine p_goto rfl ?_
      refine p_callV rfl c_Rf_80 rfl hr.1 g_Rf_set rfl rfl rfl (p_le (by omega) (Nat.le_refl _) (Nat.le_refl _) (r_setX (d := d) (b := b) hr hs hk hi hb (Or.inr rfl) (by rw [stX_s, stX_X]))) (fun v w hq => ?_)
      obtain ⟨rfl, hq⟩ := hq
      refine p_s rfl rfl ?_
      refine p_goto rfl ?_
      exact ih (b + 1) _ _ (by omega) (nI_1 b) (by rw [frB, show frX b = 1 from if_pos (Or.inl c)]; exact hq) hK
    · simp only [px_ncmp] at c
      refine p_s rfl rfl ?_
      refine p_s rfl rfl ?_
      refine p_icmp rfl (fun c2 => ?_) (fun c2 => ?_)
      · simp only [px_cmp] at c2
        refine p_s rfl rfl ?_
        refine p_callV rfl c_Rf_80 rfl hr.1 g_Rf_set rfl rfl rfl (p_le (by omega) (Nat.le_refl _) (Nat.le_refl _) (r_setX (d := d) (b := b) hr hs hk hi hb (Or.inl rfl) (by rw [stX_s, stX_X]))) (fun v w hq => ?_)
        obtain ⟨rfl, hq⟩ := hq
        refine p_s rfl rfl ?_
        refine p_goto rfl ?_
        exact ih (b + 1) _ _ (by omega) (nI_1 b) (by rw [frB, show frX b = 0 from if_neg (fun z => z.elim c c2)]; exact hq) hK
      · simp only [px_ncmp] at c2
        refine p_s rfl rfl ?_
        refine p_goto rfl ?_
        refine p_callV rfl c_Rf_80 rfl hr.1 g_Rf_set rfl rfl rfl (p_le (by omega) (Nat.le_refl _) (Nat.le_refl _) (r_setX (d := d) (b := b) hr hs hk hi hb (Or.inr rfl) (by rw [stX_s, stX_X]))) (fun v w hq => ?_)
        obtain ⟨rfl, hq⟩ := hq
        refine p_s rfl rfl ?_
        refine p_goto rfl ?_
        exact ih (b + 1) _ _ (by omega) (nI_1 b) (by rw [frB, show frX b = 1 from if_pos (Or.inr (by simpa using c2))]; exact hq) hK
theorem frs_eq {σ : Md} {i : Nat} : stX (stX (stX (stX (stX σ 3 i 80) 11 i 0) 4 i 0) 5 i 0) 6 i 0 = stX (stA σ 3 i 80 0 0 0) 11 i 0 := by
  have e : up1 (up1 (up1 (up1 (up1 (d_A σ) 3 i 80) 11 i 0) 4 i 0) 5 i 0) 6 i 0 = up1 (up4 (d_A σ) 3 i 80 0 0 0) 11 i 0 := by
    funext k j
    unfold up1 up4
    (repeat' split) <;> first | rfl | (exfalso; omega)
  show (_, up1 _ _ _ _, _) = (_, up1 _ _ _ _, _)
  rw [e]
set_option maxHeartbeats 4000000 in
theorem r_freshen {G : px_G} {ws0 : va_W} {d m : Nat} {R : Int32} {q : Nat} {aa : Nat → Nat} {ws : va_W} {fa : Nat → Nat → Int32} {s : Nat → Int32} {σ : Md} (hr : RH G ws m aa fa s) (hs : RS R q fa s σ) (hk : px_kp Kc ws0 ws) {i : Nat} (hi : i < d_n σ) : px G m_Rf_freshen 0 (lv_args 0 [.ref m, .int (nI (i + 1))]) [] ws (d + 1) 0 0 (fun v w => v = none ∧ RX G R q ws0 w m aa (stX (stA σ 3 i 80 0 0 0) 11 i 0)) := by
  refine p_s rfl rfl ?_
  refine p_s rfl rfl ?_
  refine r_fresh_loop hi 8 0 ws _ (by omega) rfl ⟨fa, s, hr, by rw [frB, stX_id]; exact hs, hk⟩ (fun ws x2 hX => ?_)
  rw [frB_8 (hs.is3 hi)] at hX
  clear hr hs hk
  obtain ⟨fa, s, hr, hs, hk⟩ := hX
  refine p_s rfl rfl ?_
  refine p_get rfl f_Rf_22 hr.1 rfl ?_
  refine p_s rfl rfl ?_
  refine p_s rfl rfl ?_
  refine p_rst rfl hr hs hk (k := 4) (i := i) (by decide) rfl rfl hi rfl (fun ws fa s hr hs hk => ?_)
  refine p_s rfl rfl ?_
  refine p_get rfl f_Rf_29 hr.1 rfl ?_
  refine p_s rfl rfl ?_
  refine p_s rfl rfl ?_
  refine p_rst rfl hr hs hk (k := 6) (i := i) (by decide) rfl rfl hi rfl (fun ws fa s hr hs hk => ?_)
  refine p_s rfl rfl ?_
  refine p_get rfl f_Rf_32 hr.1 rfl ?_
  refine p_s rfl rfl ?_
  refine p_s rfl rfl ?_
  refine p_rst rfl hr hs hk (k := 7) (i := i) (by decide) rfl rfl hi rfl (fun ws fa s hr hs hk => ?_)
  refine p_s rfl rfl ?_
  refine p_get rfl f_Rf_35 hr.1 rfl ?_
  refine p_s rfl rfl ?_
  refine p_s rfl rfl ?_
  refine p_rst rfl hr hs hk (k := 8) (i := i) (by decide) rfl rfl hi rfl (fun ws fa s hr hs hk => ?_)
  exact p_vret rfl rfl ⟨rfl, fa, s, hr, by rw [← frs_eq]; exact hs, hk⟩
def kpB (v y : Int32) : Nat → Int32
  | 0 => y
  | b + 1 => setB (kpB v y b) b (sHas v (pw b))
theorem kpB_is {v y : Int32} (hy : isB y) : ∀ b, b ≤ 8 → isB (kpB v y b)
  | 0, _ => hy
  | b + 1, h => setB_is (kpB_is hy b (by omega)) (sHas_z _ _) (by omega)
theorem kpB_has {v y : Int32} (hy : isB y) : ∀ b, b ≤ 8 → ∀ c, c < 8 → sHas (kpB v y b) (pw c) = if c < b then sHas v (pw c) else sHas y (pw c)
  | 0, _, c, _ => by rw [kpB, if_neg (by omega)]
  | b + 1, h, c, hc => by
    rw [kpB, setB_has (kpB_is hy b (by omega)) (sHas_z _ _) (by omega) hc, kpB_has hy b (by omega) c hc]
    by_cases h1 : c = b
    · rw [if_pos h1, if_pos (by omega), h1]
    · rw [if_neg h1]
      by_cases h2 : c < b
      · rw [if_pos h2, if_pos (by omega)]
      · rw [if_neg h2, if_neg (by omega)]
theorem kpB_8 {v y : Int32} (hv : isB v) (hy : isB y) : kpB v y 8 = v := isB_ext (kpB_is hy 8 (by omega)) hv (fun b hb => by rw [kpB_has hy 8 (by omega) b hb, if_pos hb])
theorem kee_eq {σ : Md} {i : Nat} {s t a g : Int32} : stX (stX (stX (stX σ 7 i s) 8 i t) 9 i a) 10 i g = stA σ 7 i s t a g := by
  have e : up1 (up1 (up1 (up1 (d_A σ) 7 i s) 8 i t) 9 i a) 10 i g = up4 (d_A σ) 7 i s t a g := by
    funext k j
    unfold up1 up4
    (repeat' split) <;> first | rfl | (exfalso; omega)
  show (_, up1 _ _ _ _, _) = (_, up4 _ _ _ _ _ _ _, _)
  rw [e]
theorem stX_o {σ : Md} {k i c : Nat} {x : Int32} (h : c ≠ k) : d_A (stX σ k i x) c i = d_A σ c i := up1_ne (Or.inl h)
set_option maxHeartbeats 4000000 in
theorem r_keep_loop {G : px_G} {ws0 : va_W} {d m : Nat} {R : Int32} {q : Nat} {aa : Nat → Nat} {σ : Md} {i : Nat} (hi : i < d_n σ) {bc bs : Nat} {Q : Option Value → va_W → Prop} : ∀ (k b : Nat) (ws : va_W) (x2 : Int32), b + k = 8 → x2 = nI b → RX G R q ws0 ws m aa (stX σ 7 i (kpB (d_A σ 3 i) (d_A σ 7 i) b)) → (∀ (w : va_W) (x2 : Int32), RX G R q ws0 w m aa (stX σ 7 i (kpB (d_A σ 3 i) (d_A σ 7 i) 8)) → px G m_Rf_keep 31 [(2, .int x2), (0, .ref m), (1, .int (nI (i + 1)))] [] w (d + 1) bc bs Q) → px G m_Rf_keep 2 [(2, .int x2), (0, .ref m), (1, .int (nI (i + 1)))] [] ws (d + 1) bc bs Q := by
  intro k
  induction k with
  | zero =>
    intro b ws x2 hbk h2 hX hK
    subst h2
    have hb : b = 8 := by omega
    subst hb
    refine p_s rfl rfl ?_
    refine p_s rfl rfl ?_
    refine p_icmpT rfl (show (8 : Int32) ≤ nI 8 by decide) ?_
    exact hK _ _ hX
  | succ k ih =>
    intro b ws x2 hbk h2 hX hK
    subst h2
    have hb : b < 8 := by omega
    obtain ⟨fa, s, hr, hs, hk⟩ := hX
    refine p_s rfl rfl ?_
    refine p_s rfl rfl ?_
    refine p_icmpF rfl (show ¬ (8 : Int32) ≤ nI b by rw [show (8 : Int32) = nI 8 from rfl, nI_leI (by decide) (by omega)]; omega) ?_
    refine p_s rfl rfl ?_
    refine p_get rfl f_Rf_38 hr.1 rfl ?_
    refine p_s rfl rfl ?_
    refine p_s rfl rfl ?_
    refine p_s rfl rfl ?_
    refine p_s rfl rfl ?_
    refine p_s rfl rfl ?_
    refine p_s rfl rfl ?_
    refine p_s rfl rfl ?_
    refine p_s rfl rfl ?_
    refine p_callV rfl c_Rf_76 rfl hr.1 g_Rf_is rfl rfl rfl (p_le (by omega) (Nat.le_refl _) (Nat.le_refl _) (r_isX (d := d) (b := b) hr hs hi hb (stX_o (by decide)))) (fun v w hq => ?_)
    obtain ⟨rfl, hw9⟩ := hq
    have hw9 := hw9.symm
    subst hw9
    refine p_rzst rfl hr hs hk (by rw [stX_s, stX_X]) hi hb (sHas_z _ _) (ix8 (i + 1) b) (fun ws fa s hr hs hk => ?_)
    refine p_s rfl rfl ?_
    refine p_goto rfl ?_
    exact ih (b + 1) _ _ (by omega) (nI_1 b) (by rw [kpB]; exact ⟨fa, s, hr, hs, hk⟩) hK
set_option maxHeartbeats 4000000 in
theorem r_keep {G : px_G} {ws0 : va_W} {d m : Nat} {R : Int32} {q : Nat} {aa : Nat → Nat} {ws : va_W} {fa : Nat → Nat → Int32} {s : Nat → Int32} {σ : Md} (hr : RH G ws m aa fa s) (hs : RS R q fa s σ) (hk : px_kp Kc ws0 ws) {i : Nat} (hi : i < d_n σ) {v t a g : Int32} (h3 : d_A σ 3 i = v) (h4 : d_A σ 4 i = t) (h5 : d_A σ 5 i = a) (h6 : d_A σ 6 i = g) : px G m_Rf_keep 0 (lv_args 0 [.ref m, .int (nI (i + 1))]) [] ws (d + 1) 0 0 (fun v2 w => v2 = none ∧ RX G R q ws0 w m aa (stA σ 7 i v t a g)) := by
  refine p_s rfl rfl ?_
  refine p_s rfl rfl ?_
  subst h3
  subst h4
  subst h5
  subst h6
  refine r_keep_loop hi 8 0 ws _ (by omega) rfl ⟨fa, s, hr, by rw [kpB, stX_id]; exact hs, hk⟩ (fun ws x2 hX => ?_)
  rw [kpB_8 (hs.is3 hi) (hs.is7 hi)] at hX
  clear hr hs hk
  obtain ⟨fa, s, hr, hs, hk⟩ := hX
  refine p_s rfl rfl ?_
  refine p_get rfl f_Rf_41 hr.1 rfl ?_
  refine p_s rfl rfl ?_
  refine p_s rfl rfl ?_
  refine p_get rfl f_Rf_29 hr.1 rfl ?_
  refine p_s rfl rfl ?_
  refine p_rld rfl hr hs (k := 6) (i := i) (by decide) rfl (stX_o (by decide)) hi rfl ?_
  refine p_rst rfl hr hs hk (k := 10) (i := i) (by decide) rfl rfl hi rfl (fun ws fa s hr hs hk => ?_)
  refine p_s rfl rfl ?_
  refine p_get rfl f_Rf_44 hr.1 rfl ?_
  refine p_s rfl rfl ?_
  refine p_s rfl rfl ?_
  refine p_get rfl f_Rf_32 hr.1 rfl ?_
  refine p_s rfl rfl ?_
  refine p_rld rfl hr hs (k := 7) (i := i) (by decide) rfl ((stX_o (by decide)).trans (stX_o (by decide))) hi rfl ?_
  refine p_rst rfl hr hs hk (k := 11) (i := i) (by decide) rfl rfl hi rfl (fun ws fa s hr hs hk => ?_)
  refine p_s rfl rfl ?_
  refine p_get rfl f_Rf_47 hr.1 rfl ?_
  refine p_s rfl rfl ?_
  refine p_s rfl rfl ?_
  refine p_get rfl f_Rf_35 hr.1 rfl ?_
  refine p_s rfl rfl ?_
  refine p_rld rfl hr hs (k := 8) (i := i) (by decide) rfl ((stX_o (by decide)).trans ((stX_o (by decide)).trans (stX_o (by decide)))) hi rfl ?_
  refine p_rst rfl hr hs hk (k := 12) (i := i) (by decide) rfl rfl hi rfl (fun ws fa s hr hs hk => ?_)
  exact p_vret rfl rfl ⟨rfl, fa, s, hr, by rw [← kee_eq]; exact hs, hk⟩
