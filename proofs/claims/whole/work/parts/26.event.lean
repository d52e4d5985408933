/-! THE CLASS: event -/
theorem storeM_n (R : Int32) (σ : Md) (c : Nat) (F : Sn4) : d_n (storeM R σ c F) = d_n σ := by
  unfold storeM
  split
  · rfl
  · split
    · rfl
    · split <;> rfl
theorem failM_n (R : Int32) (σ : Md) (c : Nat) (l : Int32) : d_n (failM R σ c l) = d_n σ := by
  unfold failM
  split
  · exact storeM_n _ _ _ _
  · rfl
theorem judgeM_n (R : Int32) (σ : Md) (c : Nat) : d_n (judgeM R σ c) = d_n σ := by
  unfold judgeM
  split
  · rfl
  · split
    · exact failM_n _ _ _ _
    · rfl
theorem c_cd_cnt {ad : Nat → Nat → Nat} {σ : Md} {i : Nat} {x : Int32} : c_cd ad (stX σ 11 i x) i = oCd (nI (i + 1)) (d_A σ 0 i) (d_A σ 1 i) (d_A σ 2 i) (ad 1 i) (ad 2 i) x (c_pa ad (d_p σ i)) (c_en ad (e_c σ) i) := by
  show oCd _ (up1 (d_A σ) 11 i x 0 i) (up1 (d_A σ) 11 i x 1 i) (up1 (d_A σ) 11 i x 2 i) _ _ (up1 (d_A σ) 11 i x 11 i) _ _ = _
  rw [up1_same, up1_ne (Or.inl (by decide)), up1_ne (Or.inl (by decide)), up1_ne (Or.inl (by decide))]
theorem CR.cnt {G : px_G} {R : Int32} {ws : va_W} {o : Nat} {ad : Nat → Nat → Nat} {σ : Md} (h : CR G R ws o ad σ) {i : Nat} (hi : i < d_n σ) (x : Int32) : CR G R (px_up ws (ad 0 i) (oCd (nI (i + 1)) (d_A σ 0 i) (d_A σ 1 i) (d_A σ 2 i) (ad 1 i) (ad 2 i) x (c_pa ad (d_p σ i)) (c_en ad (e_c σ) i))) o ad (stX σ 11 i x) := by
  rw [← c_cd_cnt]
  refine h.cd (σ' := stX σ 11 i x) hi rfl rfl rfl rfl (fun j hj => ?_) (fun j => ?_) (fun j => ?_)
  · show oCd _ (up1 (d_A σ) 11 i x 0 j) (up1 (d_A σ) 11 i x 1 j) (up1 (d_A σ) 11 i x 2 j) _ _ (up1 (d_A σ) 11 i x 11 j) _ _ = _
    rw [up1_ne (Or.inr hj), up1_ne (Or.inr hj), up1_ne (Or.inr hj), up1_ne (Or.inr hj)]
  · show oSg (up1 (d_A σ) 11 i x 3 j) (up1 (d_A σ) 11 i x 4 j) (up1 (d_A σ) 11 i x 5 j) (up1 (d_A σ) 11 i x 6 j) = _
    rw [up1_ne (Or.inl (by decide)), up1_ne (Or.inl (by decide)), up1_ne (Or.inl (by decide)), up1_ne (Or.inl (by decide))]
  · show oSg (up1 (d_A σ) 11 i x 7 j) (up1 (d_A σ) 11 i x 8 j) (up1 (d_A σ) 11 i x 9 j) (up1 (d_A σ) 11 i x 10 j) = _
    rw [up1_ne (Or.inl (by decide)), up1_ne (Or.inl (by decide)), up1_ne (Or.inl (by decide)), up1_ne (Or.inl (by decide))]
def upG (g : Nat → Int32) (k0 : Nat) (x : Int32) : Nat → Int32 := fun k => if k = k0 then x else g k
/-- how a call ends: its answer, and the state that the cells stand for -/
abbrev OPc (G : px_G) (R : Int32) (o : Nat) (ws : va_W) (ans : Int32) (σ : Md) : Option Value → va_W → Prop := fun v w => v = some (.int ans) ∧ ∃ ad, CR G R w o ad σ ∧ px_kp Kr ws w
def condOf (i : Nat) : Int32 := nI (i + 1) - nI (i + 1) / 32 * 32
def eventM (R : Int32) (σ : Md) (i : Nat) (f : Int32) : Md :=
  if sHas (d_g σ 0) (1 <<< (condOf i &&& 31)) = 0 then stG σ (upG (d_g σ) 3 (d_g σ 3 + 1))
  else judgeM R (stX (stG σ (upG (d_g σ) 3 (d_g σ 3 + 1))) 11 i (cCnt f (d_A σ 11 i) (d_A σ 1 i) (d_A σ 2 i))) i
set_option maxHeartbeats 4000000 in
theorem o_eventN {G : px_G} {ws : va_W} {d : Nat} {R : Int32} {o : Nat} {ad : Nat → Nat → Nat} {σ : Md} (h : CR G R ws o ad σ) {x f : Int32} (hx : x < 1 ∨ nI (d_n σ) < x) : px G m_TM_event 0 (lv_args 0 [.ref o, .int x, .int f]) [] ws (d + 10) 4 2008 (OPc G R o ws (-1) (σ)) := by
  refine p_s rfl rfl ?_
  refine p_s rfl rfl ?_
  refine p_callV rfl c_TM_60 rfl h.1 g_TM_find rfl rfl rfl (p_le (by omega) (Nat.le_refl _) (Nat.le_refl _) (c_findN (d := d) h hx)) (fun v w hq => ?_)
  obtain ⟨rfl, hw9⟩ := hq
  have hw9 := hw9.symm
  subst hw9
  refine p_s rfl rfl ?_
  refine p_s rfl rfl ?_
  refine p_ifnonnull (r := none) rfl (fun c => absurd rfl c) (fun _ => ?_)
  refine p_s rfl rfl ?_
  exact p_iret rfl rfl rfl ⟨rfl, ad, h, px_kp.rf⟩
set_option maxHeartbeats 4000000 in
theorem o_eventC {G : px_G} {ws : va_W} {d : Nat} {R : Int32} {o : Nat} {ad : Nat → Nat → Nat} {σ : Md} (h : CR G R ws o ad σ) {f : Int32} (hn : d_n σ ≤ 200) {i : Nat} (hi : i < d_n σ) (hp : d_g σ 1 = 0) : px G m_TM_event 0 (lv_args 0 [.ref o, .int (nI (i + 1)), .int f]) [] ws (d + 10) 4 2008 (OPc G R o ws (-3) (σ)) := by
  refine p_s rfl rfl ?_
  refine p_s rfl rfl ?_
  refine p_callV rfl c_TM_60 rfl h.1 g_TM_find rfl rfl rfl (p_le (by omega) (Nat.le_refl _) (Nat.le_refl _) (c_findS (d := d) h hn hi)) (fun v w hq => ?_)
  obtain ⟨rfl, hw9⟩ := hq
  have hw9 := hw9.symm
  subst hw9
  refine p_s rfl rfl ?_
  refine p_s rfl rfl ?_
  refine p_ifnonnull (r := some (ad 0 i)) rfl (fun _ => ?_) (fun c => by cases c)
  refine p_s rfl rfl ?_
  refine p_get rfl f_TM_20 h.1 rfl ?_
  refine p_ifF rfl hp ?_
  refine p_s rfl rfl ?_
  exact p_iret rfl rfl rfl ⟨rfl, ad, h, px_kp.rf⟩
set_option maxHeartbeats 4000000 in
theorem o_event {G : px_G} {ws : va_W} {d : Nat} {R : Int32} {o : Nat} {ad : Nat → Nat → Nat} {σ : Md} (h : CR G R ws o ad σ) {f : Int32} (hwf : Wf σ) {i : Nat} (hi : i < d_n σ) (hp : ¬ d_g σ 1 = 0) : px G m_TM_event 0 (lv_args 0 [.ref o, .int (nI (i + 1)), .int f]) [] ws (d + 10) 4 2008 (OPc G R o ws (d_A (eventM R σ i f) 3 i) (eventM R σ i f)) := by
  have hn := hwf.1
  refine p_s rfl rfl ?_
  refine p_s rfl rfl ?_
  refine p_callV rfl c_TM_60 rfl h.1 g_TM_find rfl rfl rfl (p_le (by omega) (Nat.le_refl _) (Nat.le_refl _) (c_findS (d := d) h hn hi)) (fun v w hq => ?_)
  obtain ⟨rfl, hw9⟩ := hq
  have hw9 := hw9.symm
  subst hw9
  refine p_s rfl rfl ?_
  refine p_s rfl rfl ?_
  refine p_ifnonnull (r := some (ad 0 i)) rfl (fun _ => ?_) (fun c => by cases c)
  refine p_s rfl rfl ?_
  refine p_get rfl f_TM_20 h.1 rfl ?_
  refine p_ifT rfl hp ?_
  refine p_s rfl rfl ?_
  refine p_s rfl rfl ?_
  refine p_get rfl f_TM_27 h.1 rfl ?_
  refine p_s rfl rfl ?_
  refine p_s rfl rfl ?_
  refine p_put rfl fp_TM_27 h.1 rfl rfl (by exact Nat.le_of_ble_eq_true rfl) ?_
  have h1 : CR G R (px_up ws o (oTM (ad 6 1) (ad 6 0) (d_g σ 0) (d_g σ 1) (d_g σ 2) (d_g σ 3 + 1))) o ad (stG σ (upG (d_g σ) 3 (d_g σ 3 + 1))) := h.tm (upG (d_g σ) 3 (d_g σ 3 + 1))
  have k1 : px_kp Kr ws (px_up ws o (oTM (ad 6 1) (ad 6 0) (d_g σ 0) (d_g σ 1) (d_g σ 2) (d_g σ 3 + 1))) := px_kp.up h.1 rfl
  have hc1 := h1.2.2.2.2.1 i hi
  refine p_s rfl rfl ?_
  refine p_s rfl rfl ?_
  refine p_callV rfl c_TM_64 rfl hc1.1 g_Cd_condition rfl rfl rfl (p_le (by omega) (Nat.le_refl _) (Nat.le_refl _) (c_condition (d := d) hc1.1)) (fun v w hq => ?_)
  obtain ⟨rfl, hw9⟩ := hq
  have hw9 := hw9.symm
  subst hw9
  refine p_callV rfl c_TM_67 rfl h1.1 g_TM_isOn rfl rfl rfl (c_isOn h1.1) (fun v w hq => ?_)
  obtain ⟨rfl, hw9⟩ := hq
  have hw9 := hw9.symm
  subst hw9
  refine p_if rfl (fun c => ?_) (fun c => ?_)
  · simp only [px_cmp] at c
    refine p_s rfl rfl ?_
    refine p_get rfl f_TM_79 hc1.1 rfl ?_
    refine p_get rfl f_TM_83 hc1.2.1 rfl ?_
    refine p_iret rfl rfl rfl ⟨?_, ad, ?_, k1⟩
    · rw [eventM, if_pos (show sHas (d_g σ 0) (1 <<< (condOf i &&& 31)) = 0 from c)]
    · rw [eventM, if_pos (show sHas (d_g σ 0) (1 <<< (condOf i &&& 31)) = 0 from c)]
      exact h1
  · simp only [px_ncmp] at c
    refine p_s rfl rfl ?_
    refine p_s rfl rfl ?_
    refine p_callV rfl c_TM_71 rfl hc1.1 g_Cd_count rfl rfl rfl (p_le (by omega) (Nat.le_refl _) (Nat.le_refl _) (c_count (d := d) hc1.1)) (fun v w hq => ?_)
    obtain ⟨rfl, hw9⟩ := hq
    subst hw9
    have h2 := h1.cnt hi (cCnt f (d_A σ 11 i) (d_A σ 1 i) (d_A σ 2 i))
    have k2 := px_kp.up (K := Kr) (e := oCd (nI (i + 1)) (d_A σ 0 i) (d_A σ 1 i) (d_A σ 2 i) (ad 1 i) (ad 2 i) (cCnt f (d_A σ 11 i) (d_A σ 1 i) (d_A σ 2 i)) (c_pa ad (d_p σ i)) (c_en ad (e_c σ) i)) hc1.1 rfl
    refine p_s rfl rfl ?_
    refine p_s rfl rfl ?_
    refine p_callV rfl c_TM_75 rfl h2.1 g_TM_judge rfl rfl rfl (c_judge h2 hwf hi) (fun v w hq => ?_)
    obtain ⟨rfl, ad2, a1, a2, a3⟩ := hq
    have hi2 : i < d_n (judgeM R (stX (stG σ (upG (d_g σ) 3 (d_g σ 3 + 1))) 11 i (cCnt f (d_A σ 11 i) (d_A σ 1 i) (d_A σ 2 i))) i) := by rw [judgeM_n]; exact hi
    have hc3 := a2.2.2.2.2.1 i hi2
    have e0 := hc3.1
    rw [a1.1 0 i (by omega)] at e0
    refine p_s rfl rfl ?_
    refine p_get rfl f_TM_79 e0 rfl ?_
    refine p_get rfl f_TM_83 hc3.2.1 rfl ?_
    refine p_iret rfl rfl rfl ⟨?_, ad2, ?_, (k1.tr k2).tr a3⟩
    · rw [eventM, if_neg (show ¬ sHas (d_g σ 0) (1 <<< (condOf i &&& 31)) = 0 from c)]
    · rw [eventM, if_neg (show ¬ sHas (d_g σ 0) (1 <<< (condOf i &&& 31)) = 0 from c)]
      exact a2
