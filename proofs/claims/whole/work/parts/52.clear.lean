/-! THE REFERENCE: clear, enable -/
theorem grp_k : ∀ k, k ≤ 255 → 1 ≤ k → (nI k + 31) / 32 = 1 + (nI k - 1) / 32 := by decide +kernel
theorem grp_b {x : Int32} (h : bdN x 1 255) : (x + 31) / 32 = 1 + (x - 1) / 32 := by
  obtain ⟨k, h1, h2, rfl⟩ := h
  exact grp_k k h2 h1
theorem frs_eq2 {σ : Md} {i : Nat} : stA (stX (stA σ 3 i 80 0 0 0) 11 i 0) 7 i 80 0 0 0 = frsM σ i := by
  have e : ∀ B : Nat → Nat → Int32, up4 (up1 B 11 i 0) 7 i 80 0 0 0 = up1 (up4 B 7 i 80 0 0 0) 11 i 0 := by
    intro B
    funext k j
    by_cases hk : k = 11
    · subst hk
      rw [up4_out (Or.inr (by omega))]
      unfold up1
      rw [up4_out (Or.inr (by omega))]
    · rw [up1_ne (A := up4 B 7 i 80 0 0 0) (Or.inl hk)]
      unfold up4
      rw [up1_ne (Or.inl hk)]
  show (_, up4 _ _ _ _ _ _ _, _) = (_, up1 _ _ _ _, _)
  rw [e]
set_option maxHeartbeats 4000000 in
theorem r_clr_loop {G : px_G} {ws0 : va_W} {d m : Nat} {R : Int32} {q : Nat} {aa : Nat → Nat} {g : Int32} {A : Nat → Nat → Int32} {n : Nat} (hA : ∀ j, j < n → bdN (A 0 j) 1 255) {Q : Option Value → va_W → Prop} {bc bs : Nat} : ∀ (k i : Nat) (ws : va_W) (σ : Md) (x2 x3 : Int32), RX G R q ws0 ws m aa σ → d_n σ = n → (∀ j, d_A σ 0 j = A 0 j) → i + k = n → x3 = nI (i + 1) → x2 = nI (clrN A g i) → (∀ (w : va_W), RX G R q ws0 w m aa (fdR (clrM g) k i σ) → Q (some (.int (nI (clrN A g n)))) w) → px G m_Rf_clear 42 [(3, .int x3), (2, .int x2), (0, .ref m), (1, .int g)] [] ws (d + 9) bc bs Q := by
  intro k
  induction k with
  | zero =>
    intro i ws σ x2 x3 hX hdn hpr hik h3 h2 hK
    subst h3
    subst hdn
    obtain ⟨fa, s, hr, hs, hk⟩ := hX
    have hn := hs.1
    have hin : i = d_n σ := by omega
    rw [hin] at h2
    refine p_s rfl rfl ?_
    refine p_s rfl rfl ?_
    refine p_get rfl f_Rf_73 hr.1 rfl ?_
    rw [hs.s2]
    refine p_icmpT rfl (show nI (d_n σ) < nI (i + 1) from nI_lt (by omega) (by omega)) ?_
    refine p_s rfl rfl ?_
    subst h2
    exact p_iret rfl rfl rfl (hK ws ⟨fa, s, hr, hs, hk⟩)
  | succ k ih =>
    intro i ws σ x2 x3 hX hdn hpr hik h3 h2 hK
    subst h3
    subst h2
    subst hdn
    obtain ⟨fa, s, hr, hs, hk⟩ := hX
    have hn := hs.1
    have hi : i < d_n σ := by omega
    have hgb : (d_A σ 0 i + 31) / 32 = 1 + (d_A σ 0 i - 1) / 32 := grp_b (by rw [hpr]; exact hA i hi)
    have H70 : inG (d_A σ) g i → px G m_Rf_clear 70 [(3, .int (nI (i + 1))), (2, .int (nI (clrN A g i))), (0, .ref m), (1, .int g)] [] ws (d + 9) bc bs Q := by
      intro hin
      have hinA : inG A g i := hin.imp id (fun z => by rw [← hpr]; exact z)
      refine p_s rfl rfl ?_
      refine p_s rfl rfl ?_
      refine p_callV rfl c_Rf_88 rfl hr.1 g_Rf_freshen rfl rfl rfl (p_le (by omega) (Nat.le_refl _) (Nat.le_refl _) (r_freshen (d := d) hr hs hk hi)) (fun v w hq => ?_)
      obtain ⟨rfl, fa, s, hr, hs, hk⟩ := hq
      refine p_s rfl rfl ?_
      refine p_s rfl rfl ?_
      refine p_callV rfl c_Rf_92 rfl hr.1 g_Rf_keep rfl rfl rfl (p_le (by omega) (Nat.le_refl _) (Nat.le_refl _) (r_keep (d := d) hr hs hk hi ((stX_o (by decide)).trans stA_3) ((stX_o (by decide)).trans stA_4) ((stX_o (by decide)).trans stA_5) ((stX_o (by decide)).trans stA_6))) (fun v w hq => ?_)
      obtain ⟨rfl, fa, s, hr, hs, hk⟩ := hq
      rw [frs_eq2] at hs
      refine p_s rfl rfl ?_
      refine p_get rfl f_Rf_50 hr.1 rfl ?_
      refine p_s rfl rfl ?_
      refine p_s rfl rfl ?_
      have hs2 := hs.drp (x := i) (by omega)
      refine p_hst (k := 13) (n := 201) rfl hr hk (by decide) (fun _ => rfl) (by decide) rfl rfl (show i + 1 < 201 by omega) (by decide) (fun ws hr hk => ?_)
      refine p_s rfl rfl ?_
      refine p_s rfl rfl ?_
      refine p_goto rfl ?_
      exact ih (i + 1) ws (clrM g σ i) _ _ ⟨_, _, hr, by rw [clrM, if_pos hin]; exact hs2, hk⟩ (clrM_n g σ i) (fun j => (clrM_pr g σ i j).trans (hpr j)) (by omega) (nI_1 _) (by rw [clrN, if_pos hinA]; exact nI_1 _) hK
    refine p_s rfl rfl ?_
    refine p_s rfl rfl ?_
    refine p_get rfl f_Rf_73 hr.1 rfl ?_
    rw [hs.s2]
    refine p_icmpF rfl (show ¬ nI (d_n σ) < nI (i + 1) from nI_nlt (by omega) (by omega)) ?_
    refine p_s rfl rfl ?_
    refine p_if rfl (fun c => ?_) (fun c => ?_)
    · simp only [px_cmp] at c
      exact H70 (Or.inl c)
    · simp only [px_ncmp] at c
      refine p_s rfl rfl ?_
      refine p_get rfl f_Rf_7 hr.1 rfl ?_
      refine p_s rfl rfl ?_
      refine p_rld rfl hr hs (k := 0) (a := 0) (i := i) (by decide) rfl rfl hi rfl ?_
      refine p_s rfl rfl ?_
      refine p_s rfl rfl ?_
      refine p_s rfl rfl ?_
      refine p_idiv rfl (by decide) ?_
      refine p_s rfl rfl ?_
      refine p_icmp rfl (fun c1 => ?_) (fun c1 => ?_)
      · simp only [px_cmp] at c1
        have hin : ¬ inG (d_A σ) g i := fun z => z.elim c (fun w => c1 (hgb.trans w))
        have hinA : ¬ inG A g i := fun z => hin (z.imp id (fun z => by rw [hpr]; exact z))
        refine p_s rfl rfl ?_
        refine p_goto rfl ?_
        exact ih (i + 1) ws (clrM g σ i) _ _ ⟨_, _, hr, by rw [clrM, if_neg hin]; exact hs, hk⟩ (clrM_n g σ i) (fun j => (clrM_pr g σ i j).trans (hpr j)) (by omega) (nI_1 _) (by rw [clrN, if_neg hinA, Nat.add_zero]) hK
      · simp only [px_ncmp] at c1
        exact H70 (Or.inr (hgb.symm.trans (by simpa using c1)))
set_option maxHeartbeats 4000000 in
theorem r_clearN {G : px_G} {d m : Nat} {R : Int32} {q : Nat} {aa : Nat → Nat} {ws : va_W} {fa : Nat → Nat → Int32} {s : Nat → Int32} {σ : Md} (hr : RH G ws m aa fa s) (hs : RS R q fa s σ) {g : Int32} (hx : isw g 0 8 = 0) : px G m_Rf_clear 0 (lv_args 0 [.ref m, .int g]) [] ws (d + 10) 0 0 (OPr G R q m aa ws (-2) (σ)) := by
  have hk : px_kp Kc ws ws := px_kp.rf
  refine p_s rfl rfl ?_
  refine p_s rfl rfl ?_
  refine p_rput (k := 0) rfl fp_Rf_70 hr hk rfl rfl (by decide) rfl hs.cod (fun ws s hr hs hk => ?_)
  refine p_s rfl rfl ?_
  refine p_if rfl (fun c => ?_) (fun c => ?_)
  · simp only [px_cmp] at c
    refine p_s rfl rfl ?_
    exact p_iret rfl rfl rfl ⟨rfl, fa, s, hr, hs, hk⟩
  · simp only [px_ncmp] at c
    refine p_s rfl rfl ?_
    refine p_s rfl rfl ?_
    refine p_icmpF rfl (Int32.not_le.mpr ((isw0 hx).resolve_left c)) ?_
    refine p_s rfl rfl ?_
    exact p_iret rfl rfl rfl ⟨rfl, fa, s, hr, hs, hk⟩
set_option maxHeartbeats 4000000 in
theorem r_clearC {G : px_G} {d m : Nat} {R : Int32} {q : Nat} {aa : Nat → Nat} {ws : va_W} {fa : Nat → Nat → Int32} {s : Nat → Int32} {σ : Md} (hr : RH G ws m aa fa s) (hs : RS R q fa s σ) {g : Int32} (hx : ¬ isw g 0 8 = 0) (hp : d_g σ 1 = 0) : px G m_Rf_clear 0 (lv_args 0 [.ref m, .int g]) [] ws (d + 10) 0 0 (OPr G R q m aa ws (-3) (σ)) := by
  have hk : px_kp Kc ws ws := px_kp.rf
  refine p_s rfl rfl ?_
  refine p_s rfl rfl ?_
  refine p_rput (k := 0) rfl fp_Rf_70 hr hk rfl rfl (by decide) rfl hs.cod (fun ws s hr hs hk => ?_)
  refine p_s rfl rfl ?_
  refine p_ifF rfl (isw1 hx).1 ?_
  refine p_s rfl rfl ?_
  refine p_s rfl rfl ?_
  refine p_icmpT rfl (isw1 hx).2 ?_
  refine p_s rfl rfl ?_
  refine p_get rfl f_Rf_84 hr.1 rfl ?_
  rw [hs.cutT hp]
  refine p_ifT rfl (show ¬ (1 : Int32) = 0 by decide) ?_
  refine p_s rfl rfl ?_
  exact p_iret rfl rfl rfl ⟨rfl, fa, s, hr, hs, hk⟩
set_option maxHeartbeats 4000000 in
theorem r_clearO {G : px_G} {d m : Nat} {R : Int32} {q : Nat} {aa : Nat → Nat} {ws : va_W} {fa : Nat → Nat → Int32} {s : Nat → Int32} {σ : Md} (hr : RH G ws m aa fa s) (hs : RS R q fa s σ) {g : Int32} (hx : ¬ isw g 0 8 = 0) (hp : ¬ d_g σ 1 = 0) (ho : sHas (d_g σ 0) (1 <<< ((31 : Int32) &&& 31)) = 0) : px G m_Rf_clear 0 (lv_args 0 [.ref m, .int g]) [] ws (d + 10) 0 0 (OPr G R q m aa ws (-3) (σ)) := by
  have hk : px_kp Kc ws ws := px_kp.rf
  refine p_s rfl rfl ?_
  refine p_s rfl rfl ?_
  refine p_rput (k := 0) rfl fp_Rf_70 hr hk rfl rfl (by decide) rfl hs.cod (fun ws s hr hs hk => ?_)
  refine p_s rfl rfl ?_
  refine p_ifF rfl (isw1 hx).1 ?_
  refine p_s rfl rfl ?_
  refine p_s rfl rfl ?_
  refine p_icmpT rfl (isw1 hx).2 ?_
  refine p_s rfl rfl ?_
  refine p_get rfl f_Rf_84 hr.1 rfl ?_
  rw [hs.cutF hp]
  refine p_ifF rfl (show (0 : Int32) = 0 from rfl) ?_
  refine p_s rfl rfl ?_
  refine p_get rfl f_Rf_62 hr.1 rfl ?_
  refine p_s rfl rfl ?_
  refine p_zaldS (i := 31) rfl (hr.2.1 17 (by decide)) rfl (by decide) (by decide) ?_
  rw [hs.2.2.2.2.2.2.2.1 31 (by decide), if_pos (show sHas (d_g σ 0) (1 <<< (nI 31 &&& 31)) = 0 from ho)]
  refine p_ifF rfl (show ¬ (1 : Int32) = 0 by decide) ?_
  refine p_s rfl rfl ?_
  exact p_iret rfl rfl rfl ⟨rfl, fa, s, hr, hs, hk⟩
set_option maxHeartbeats 4000000 in
theorem r_clear {G : px_G} {d m : Nat} {R : Int32} {q : Nat} {aa : Nat → Nat} {ws : va_W} {fa : Nat → Nat → Int32} {s : Nat → Int32} {σ : Md} (hr : RH G ws m aa fa s) (hs : RS R q fa s σ) {g : Int32} (hI : Iv σ) (hx : ¬ isw g 0 8 = 0) (hp : ¬ d_g σ 1 = 0) (ho : ¬ sHas (d_g σ 0) (1 <<< ((31 : Int32) &&& 31)) = 0) : px G m_Rf_clear 0 (lv_args 0 [.ref m, .int g]) [] ws (d + 10) 0 0 (OPr G R q m aa ws (nI (clrN (d_A σ) g (d_n σ))) (fdR (clrM g) (d_n σ) 0 σ)) := by
  have hk : px_kp Kc ws ws := px_kp.rf
  refine p_s rfl rfl ?_
  refine p_s rfl rfl ?_
  refine p_rput (k := 0) rfl fp_Rf_70 hr hk rfl rfl (by decide) rfl hs.cod (fun ws s hr hs hk => ?_)
  refine p_s rfl rfl ?_
  refine p_ifF rfl (isw1 hx).1 ?_
  refine p_s rfl rfl ?_
  refine p_s rfl rfl ?_
  refine p_icmpT rfl (isw1 hx).2 ?_
  refine p_s rfl rfl ?_
  refine p_get rfl f_Rf_84 hr.1 rfl ?_
  rw [hs.cutF hp]
  refine p_ifF rfl (show (0 : Int32) = 0 from rfl) ?_
  refine p_s rfl rfl ?_
  refine p_get rfl f_Rf_62 hr.1 rfl ?_
  refine p_s rfl rfl ?_
  refine p_zaldS (i := 31) rfl (hr.2.1 17 (by decide)) rfl (by decide) (by decide) ?_
  rw [hs.2.2.2.2.2.2.2.1 31 (by decide), if_neg (show ¬ sHas (d_g σ 0) (1 <<< (nI 31 &&& 31)) = 0 from ho)]
  refine p_ifT rfl (show (0 : Int32) = 0 from rfl) ?_
  refine p_s rfl rfl ?_
  refine p_s rfl rfl ?_
  refine p_s rfl rfl ?_
  refine p_s rfl rfl ?_
  exact p_le (d := d + 9) (by omega) (Nat.le_refl _) (Nat.le_refl _) (r_clr_loop (fun j hj => (hI.2.2.2 j hj).1) (d_n σ) 0 ws σ _ _ ⟨fa, s, hr, hs, hk⟩ rfl (fun j => rfl) (by omega) rfl rfl (fun w hX => ⟨rfl, hX⟩))
theorem en_bit {g : Int32} {j : Nat} (hj : j < 32) : (if sHas g (bmk j) = 0 then (1 : Int32) else 0) = 0 ↔ g.toBitVec.getLsbD j = true := by
  rw [sHas_bit hj]
  by_cases h : g.toBitVec.getLsbD j = true
  · rw [if_pos h, if_neg (by decide)]
    exact ⟨fun _ => h, fun _ => rfl⟩
  · rw [if_neg h, if_pos rfl]
    exact ⟨fun z => absurd z (by decide), fun z => absurd z h⟩
theorem RS.onn {R : Int32} {q : Nat} {fa fa2 : Nat → Nat → Int32} {s : Nat → Int32} {σ : Md} (h : RS R q fa s σ) {x : Int32} (hf : ∀ c, c ≠ 17 → fa2 c = fa c) (ho : ∀ j, j < 32 → fa2 17 j = if sHas x (bmk j) = 0 then 1 else 0) : RS R q fa2 s (stG σ (upG (d_g σ) 0 x)) := by
  obtain ⟨h0, ha, hb, hr, hp, he, hd, -, hs⟩ := h
  refine ⟨h0, fun c hc j hj => ?_, fun j hj b hb2 => ?_, hr, ?_, ?_, ?_, ho, hs⟩
  · rw [hf c (by omega)]
    exact ha c hc j hj
  · rw [hf 5 (by decide), hf 9 (by decide)]
    exact hb j hj b hb2
  · unfold RSp
    rw [hf 3 (by decide)]
    exact hp
  · unfold RSe
    rw [hf 13 (by decide), hf 14 (by decide), hf 15 (by decide)]
    exact he
  · unfold RSd
    rw [hf 16 (by decide)]
    exact hd
theorem RS.on {R : Int32} {q : Nat} {fa : Nat → Nat → Int32} {s : Nat → Int32} {σ : Md} (h : RS R q fa s σ) {k : Nat} (hk : k < 32) : RS R q (upF fa 17 k 0) s (stG σ (upG (d_g σ) 0 (d_g σ 0 ||| bmk k))) := by
  refine h.onn (fun c hc => upF_ne hc) (fun j hj => ?_)
  rw [upF_at, bit_or hj hk, h.2.2.2.2.2.2.2.1 j hj]
  by_cases hjk : j = k
  · rw [if_pos hjk, if_pos hjk, if_neg (by decide)]
  · rw [if_neg hjk, if_neg hjk]
theorem RS.off {R : Int32} {q : Nat} {fa : Nat → Nat → Int32} {s : Nat → Int32} {σ : Md} (h : RS R q fa s σ) {k : Nat} (hk : k < 32) : RS R q (upF fa 17 k 1) s (stG σ (upG (d_g σ) 0 (d_g σ 0 &&& (bmk k ^^^ -1)))) := by
  refine h.onn (fun c hc => upF_ne hc) (fun j hj => ?_)
  rw [upF_at, bit_and hj hk, h.2.2.2.2.2.2.2.1 j hj]
  by_cases hjk : j = k
  · rw [if_pos hjk, if_pos hjk, if_pos rfl]
  · rw [if_neg hjk, if_neg hjk]
abbrev bG (σ : Md) (j : Nat) : Bool := (d_g σ 0).toBitVec.getLsbD j
set_option maxHeartbeats 4000000 in
theorem r_en_loop {G : px_G} {d m : Nat} {R : Int32} {q : Nat} {aa : Nat → Nat} {ws : va_W} {fa : Nat → Nat → Int32} {s : Nat → Int32} {σ : Md} (hr : RH G ws m aa fa s) (hs : RS R q fa s σ) {y1 y2 : Int32} {Q : Option Value → va_W → Prop} {bc bs : Nat} (hK : Q (some (.int (bcF (d_g σ 0)))) ws) : ∀ (k j : Nat) (x3 x4 : Int32), j + k = 32 → x4 = nI j → x3 = nI (cb (bG σ) j) → px G m_Rf_enable 47 [(4, .int x4), (3, .int x3), (0, .ref m), (1, .int y1), (2, .int y2)] [] ws d bc bs Q := by
  intro k
  induction k with
  | zero =>
    intro j x3 x4 hjk h4 h3
    subst h4
    have hj : j = 32 := by omega
    subst hj
    refine p_s rfl rfl ?_
    refine p_s rfl rfl ?_
    refine p_icmpT rfl (show (32 : Int32) ≤ nI 32 by decide) ?_
    refine p_s rfl rfl ?_
    subst h3
    rw [bcF_pop] at hK
    exact p_iret rfl rfl rfl hK
  | succ k ih =>
    intro j x3 x4 hjk h4 h3
    subst h4
    subst h3
    have hj : j < 32 := by omega
    refine p_s rfl rfl ?_
    refine p_s rfl rfl ?_
    refine p_icmpF rfl (show ¬ (32 : Int32) ≤ nI j by rw [show (32 : Int32) = nI 32 from rfl, nI_leI (by decide) (by omega)]; omega) ?_
    refine p_s rfl rfl ?_
    refine p_get rfl f_Rf_62 hr.1 rfl ?_
    refine p_s rfl rfl ?_
    refine p_zaldS rfl (hr.2.1 17 (by decide)) rfl hj (by decide) ?_
    rw [hs.2.2.2.2.2.2.2.1 j hj]
    refine p_if rfl (fun c => ?_) (fun c => ?_)
    · simp only [px_cmp] at c
      refine p_s rfl rfl ?_
      refine p_s rfl rfl ?_
      refine p_s rfl rfl ?_
      refine p_s rfl rfl ?_
      refine p_s rfl rfl ?_
      refine p_goto rfl ?_
      exact ih (j + 1) _ _ (by omega) (nI_1 j) (by rw [cb, if_pos ((en_bit hj).mp c)]; exact nI_1 _)
    · simp only [px_ncmp] at c
      refine p_s rfl rfl ?_
      refine p_goto rfl ?_
      refine p_s rfl rfl ?_
      refine p_s rfl rfl ?_
      refine p_goto rfl ?_
      exact ih (j + 1) _ _ (by omega) (nI_1 j) (by rw [cb, if_neg (fun z => c ((en_bit hj).mpr z)), Nat.add_zero])
set_option maxHeartbeats 4000000 in
theorem r_enableN {G : px_G} {d m : Nat} {R : Int32} {q : Nat} {aa : Nat → Nat} {ws : va_W} {fa : Nat → Nat → Int32} {s : Nat → Int32} {σ : Md} (hr : RH G ws m aa fa s) (hs : RS R q fa s σ) {x y : Int32} (hx : isw x 0 31 = 0) : px G m_Rf_enable 0 (lv_args 0 [.ref m, .int x, .int y]) [] ws (d + 10) 0 0 (OPr G R q m aa ws (-1) (σ)) := by
  have hk : px_kp Kc ws ws := px_kp.rf
  refine p_s rfl rfl ?_
  refine p_s rfl rfl ?_
  refine p_rput (k := 0) rfl fp_Rf_70 hr hk rfl rfl (by decide) rfl hs.cod (fun ws s hr hs hk => ?_)
  refine p_s rfl rfl ?_
  refine p_if rfl (fun c => ?_) (fun c => ?_)
  · simp only [px_cmp] at c
    refine p_s rfl rfl ?_
    exact p_iret rfl rfl rfl ⟨rfl, fa, s, hr, hs, hk⟩
  · simp only [px_ncmp] at c
    refine p_s rfl rfl ?_
    refine p_s rfl rfl ?_
    refine p_icmpF rfl (Int32.not_le.mpr ((isw0 hx).resolve_left c)) ?_
    refine p_s rfl rfl ?_
    exact p_iret rfl rfl rfl ⟨rfl, fa, s, hr, hs, hk⟩
set_option maxHeartbeats 4000000 in
theorem r_enableC {G : px_G} {d m : Nat} {R : Int32} {q : Nat} {aa : Nat → Nat} {ws : va_W} {fa : Nat → Nat → Int32} {s : Nat → Int32} {σ : Md} (hr : RH G ws m aa fa s) (hs : RS R q fa s σ) {x y : Int32} (hx : ¬ isw x 0 31 = 0) (hp : d_g σ 1 = 0) : px G m_Rf_enable 0 (lv_args 0 [.ref m, .int x, .int y]) [] ws (d + 10) 0 0 (OPr G R q m aa ws (-3) (σ)) := by
  have hk : px_kp Kc ws ws := px_kp.rf
  refine p_s rfl rfl ?_
  refine p_s rfl rfl ?_
  refine p_rput (k := 0) rfl fp_Rf_70 hr hk rfl rfl (by decide) rfl hs.cod (fun ws s hr hs hk => ?_)
  refine p_s rfl rfl ?_
  refine p_ifF rfl (isw1 hx).1 ?_
  refine p_s rfl rfl ?_
  refine p_s rfl rfl ?_
  refine p_icmpT rfl (isw1 hx).2 ?_
  refine p_s rfl rfl ?_
  refine p_get rfl f_Rf_84 hr.1 rfl ?_
  rw [hs.cutT hp]
  refine p_ifF rfl (show ¬ (1 : Int32) = 0 by decide) ?_
  refine p_s rfl rfl ?_
  exact p_iret rfl rfl rfl ⟨rfl, fa, s, hr, hs, hk⟩
theorem z_nat {x : Int32} (h : ¬ x < 0) : ∃ k, k < 2 ^ 31 ∧ x = nI k := by
  have h0 : 0 ≤ x.toInt := by
    have := Int32.not_lt.mp h
    rw [Int32.le_iff_toInt_le] at this
    exact this
  have h1 : x.toInt < 2 ^ 31 := x.toInt_lt
  refine ⟨x.toNatClampNeg, ?_, ?_⟩
  · show x.toInt.toNat < 2 ^ 31
    omega
  · apply Int32.toInt_inj.mp
    show x.toInt = (Int32.ofNat x.toInt.toNat).toInt
    rw [Int32.toInt_ofNat_of_lt (by omega)]
    omega
theorem isw_nat {x : Int32} {n : Nat} (hn : n < 2 ^ 31) (h : ¬ isw x 0 (nI n) = 0) : ∃ k, k ≤ n ∧ x = nI k := by
  obtain ⟨h1, h2⟩ := isw1 h
  obtain ⟨k, hk, rfl⟩ := z_nat h1
  exact ⟨k, by rw [nI_leI hk hn] at h2; exact h2, rfl⟩
set_option maxHeartbeats 4000000 in
theorem r_enable1 {G : px_G} {d m : Nat} {R : Int32} {q : Nat} {aa : Nat → Nat} {ws : va_W} {fa : Nat → Nat → Int32} {s : Nat → Int32} {σ : Md} (hr : RH G ws m aa fa s) (hs : RS R q fa s σ) {x y : Int32} (hx : ¬ isw x 0 31 = 0) (hp : ¬ d_g σ 1 = 0) (hy : ¬ y = 0) : px G m_Rf_enable 0 (lv_args 0 [.ref m, .int x, .int y]) [] ws (d + 10) 0 0 (OPr G R q m aa ws (bcF (d_g σ 0 ||| (1 <<< (x &&& 31)))) (stG σ (upG (d_g σ) 0 (d_g σ 0 ||| (1 <<< (x &&& 31)))))) := by
  have hk : px_kp Kc ws ws := px_kp.rf
  refine p_s rfl rfl ?_
  refine p_s rfl rfl ?_
  refine p_rput (k := 0) rfl fp_Rf_70 hr hk rfl rfl (by decide) rfl hs.cod (fun ws s hr hs hk => ?_)
  refine p_s rfl rfl ?_
  refine p_ifF rfl (isw1 hx).1 ?_
  refine p_s rfl rfl ?_
  refine p_s rfl rfl ?_
  refine p_icmpT rfl (isw1 hx).2 ?_
  refine p_s rfl rfl ?_
  refine p_get rfl f_Rf_84 hr.1 rfl ?_
  rw [hs.cutF hp]
  refine p_ifT rfl (show (0 : Int32) = 0 from rfl) ?_
  refine p_s rfl rfl ?_
  refine p_get rfl f_Rf_62 hr.1 rfl ?_
  obtain ⟨j, hj, rfl⟩ := isw_nat (n := 31) (by decide) hx
  have hj : j < 32 := by omega
  refine p_s rfl rfl ?_
  refine p_s rfl rfl ?_
  refine p_ifT rfl hy ?_
  refine p_s rfl rfl ?_
  refine p_zastS rfl (hr.2.1 17 (by decide)) rfl hj (by decide) (by decide) ?_
  have hs3 := (hs.on hj)
  have hr2 := hr.put (k := 17) (i := j) (v := 0) (by decide) (fun _ => by decide)
  have hk2 := hk.tr (hr.kp (k := 17) (e := rcell G 17 (upd (fa 17) j 0)) (by decide))
  refine p_s rfl rfl ?_
  refine p_s rfl rfl ?_
  refine p_s rfl rfl ?_
  refine p_s rfl rfl ?_
  exact r_en_loop hr2 hs3 ⟨rfl, _, _, hr2, hs3, hk2⟩ 32 0 _ _ (by omega) rfl rfl
set_option maxHeartbeats 4000000 in
theorem r_enable0 {G : px_G} {d m : Nat} {R : Int32} {q : Nat} {aa : Nat → Nat} {ws : va_W} {fa : Nat → Nat → Int32} {s : Nat → Int32} {σ : Md} (hr : RH G ws m aa fa s) (hs : RS R q fa s σ) {x y : Int32} (hx : ¬ isw x 0 31 = 0) (hp : ¬ d_g σ 1 = 0) (hy : y = 0) : px G m_Rf_enable 0 (lv_args 0 [.ref m, .int x, .int y]) [] ws (d + 10) 0 0 (OPr G R q m aa ws (bcF (d_g σ 0 &&& ((1 <<< (x &&& 31)) ^^^ -1))) (stG σ (upG (d_g σ) 0 (d_g σ 0 &&& ((1 <<< (x &&& 31)) ^^^ -1))))) := by
  have hk : px_kp Kc ws ws := px_kp.rf
  refine p_s rfl rfl ?_
  refine p_s rfl rfl ?_
  refine p_rput (k := 0) rfl fp_Rf_70 hr hk rfl rfl (by decide) rfl hs.cod (fun ws s hr hs hk => ?_)
  refine p_s rfl rfl ?_
  refine p_ifF rfl (isw1 hx).1 ?_
  refine p_s rfl rfl ?_
  refine p_s rfl rfl ?_
  refine p_icmpT rfl (isw1 hx).2 ?_
  refine p_s rfl rfl ?_
  refine p_get rfl f_Rf_84 hr.1 rfl ?_
  rw [hs.cutF hp]
  refine p_ifT rfl (show (0 : Int32) = 0 from rfl) ?_
  refine p_s rfl rfl ?_
  refine p_get rfl f_Rf_62 hr.1 rfl ?_
  obtain ⟨j, hj, rfl⟩ := isw_nat (n := 31) (by decide) hx
  have hj : j < 32 := by omega
  refine p_s rfl rfl ?_
  refine p_s rfl rfl ?_
  refine p_ifF rfl hy ?_
  refine p_s rfl rfl ?_
  refine p_goto rfl ?_
  refine p_zastS rfl (hr.2.1 17 (by decide)) rfl hj (by decide) (by decide) ?_
  have hs3 := (hs.off hj)
  have hr2 := hr.put (k := 17) (i := j) (v := 1) (by decide) (fun _ => by decide)
  have hk2 := hk.tr (hr.kp (k := 17) (e := rcell G 17 (upd (fa 17) j 1)) (by decide))
  refine p_s rfl rfl ?_
  refine p_s rfl rfl ?_
  refine p_s rfl rfl ?_
  refine p_s rfl rfl ?_
  exact r_en_loop hr2 hs3 ⟨rfl, _, _, hr2, hs3, hk2⟩ 32 0 _ _ (by omega) rfl rfl
