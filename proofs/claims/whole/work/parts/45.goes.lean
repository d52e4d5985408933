/-! THE REFERENCE: entries, goes, shoot -/
theorem RS.st {R : Int32} {q : Nat} {fa : Nat → Nat → Int32} {s : Nat → Int32} {σ : Md} (hs : RS R q fa s σ) : RSe q fa s (d_e σ) := hs.2.2.2.2.2.1
theorem cnP_cnI {f : Nat → Int32} {N : Nat → Nat} {es : List Nat} : ∀ n, n ≤ 200 → (∀ i, i < 200 → f (i + 1) = nI (N i) ∧ N i < 2 ^ 31 ∧ (N i = 0 ↔ i ∉ es)) → cnP f n = cnI es n
  | 0, _, _ => rfl
  | n + 1, hn, h => by
    obtain ⟨h1, h2, h3⟩ := h n (by omega)
    rw [cnP, cnI, cnP_cnI n (by omega) h, h1]
    by_cases hm : n ∈ es
    · have h0 : 0 < N n := Nat.pos_of_ne_zero (fun z => h3.mp z hm)
      rw [if_neg (nI_nle h0 h2), if_pos hm]
    · rw [h3.mpr hm, if_pos (by decide), if_neg hm]
theorem RS.cnt {R : Int32} {q : Nat} {fa : Nat → Nat → Int32} {s : Nat → Int32} {σ : Md} (hs : RS R q fa s σ) (hq : q < 100000) (hd : (e_c σ).Nodup) (hl : ∀ x ∈ e_c σ, x < d_n σ) : cnP (fa 13) (d_n σ) = (e_c σ).length := by
  obtain ⟨N, la, -, h2, h3, -⟩ := hs.st
  rw [cnP_cnI (N := N) (es := e_c σ) (d_n σ) hs.1 (fun i hi => ⟨(h3 i hi).1, by have := (h3 i hi).2.1; omega, (h3 i hi).2.2⟩), cnI_len _ hd hl]
theorem r_entriesX {G : px_G} {d m : Nat} {R : Int32} {q : Nat} {aa : Nat → Nat} {ws : va_W} {fa : Nat → Nat → Int32} {s : Nat → Int32} {σ : Md} (hr : RH G ws m aa fa s) (hs : RS R q fa s σ) (hq : q < 100000) (hd : (e_c σ).Nodup) (hl : ∀ x ∈ e_c σ, x < d_n σ) : px G m_Rf_entries 0 (lv_args 0 [.ref m]) [] ws d 0 0 (fun v w => v = some (.int (nI (e_c σ).length)) ∧ w = ws) := by
  have h := r_entries (d := d) hr hs.1 hs.s2
  rw [hs.cnt hq hd hl] at h
  exact h
set_option maxHeartbeats 4000000 in
theorem r_low_loop {G : px_G} {d m : Nat} {R : Int32} {q : Nat} {aa : Nat → Nat} {ws : va_W} {fa : Nat → Nat → Int32} {s : Nat → Int32} {σ : Md} (hr : RH G ws m aa fa s) (hs : RS R q fa s σ) {N pr : Nat → Nat} (hN : ∀ i, i < 200 → fa 13 (i + 1) = nI (N i) ∧ N i < 2 ^ 31) (hpr : PrOk (d_A σ) pr (d_n σ)) {i : Nat} (hi : i < d_n σ) {Q : Option Value → va_W → Prop} : ∀ (k e : Nat) (x2 x3 : Int32), e + k = d_n σ → x3 = nI (e + 1) → x2 = nI (lowF (d_A σ) pr N i e) → (∀ x3 x2, x2 = nI (lowF (d_A σ) pr N i (d_n σ)) → px G m_Rf_goes 99 [(3, .int x3), (2, .int x2), (0, .ref m), (1, .int (nI (i + 1)))] [] ws (d + 1) 0 0 Q) → px G m_Rf_goes 4 [(3, .int x3), (2, .int x2), (0, .ref m), (1, .int (nI (i + 1)))] [] ws (d + 1) 0 0 Q := by
  have hn := hs.1
  intro k
  induction k with
  | zero =>
    intro e x2 x3 hek h3 h2 hK
    subst h3
    have hen : e = d_n σ := by omega
    rw [hen] at h2
    refine p_s rfl rfl ?_
    refine p_s rfl rfl ?_
    refine p_get rfl f_Rf_73 hr.1 rfl ?_
    rw [hs.s2]
    refine p_icmpT rfl (show nI (d_n σ) < nI (e + 1) from nI_lt (by omega) (by omega)) ?_
    exact hK _ _ h2
  | succ k ih =>
    intro e x2 x3 hek h3 h2 hK
    subst h3
    subst h2
    have he : e < d_n σ := by omega
    obtain ⟨-, pe1, pe2⟩ := hpr e he
    obtain ⟨-, pc1, pc2⟩ := hpr i hi
    have hlow : lowF (d_A σ) pr N i e ≤ 255 := by
      rcases (lowF_sp (A := d_A σ) (N := N) (c := i) (fun j hj => (hpr j hj).2.1) e (by omega)).2 with h | ⟨e2, e3, -, e4⟩
      · omega
      · have := (hpr e2 (by omega)).2.2
        omega
    have H : ∀ y : Int32, y = (if mayR (d_A σ) pr N i e then 1 else 0) → px G m_Rf_goes 65 [(3, .int (nI (e + 1))), (2, .int (nI (lowF (d_A σ) pr N i e))), (0, .ref m), (1, .int (nI (i + 1)))] [.int y] ws (d + 1) 0 0 Q := by
      intro y hy
      refine p_s rfl rfl ?_
      refine p_s rfl rfl ?_
      refine p_if rfl (fun c => ?_) (fun c => ?_)
      · simp only [px_cmp] at c
        refine p_s rfl rfl ?_
        refine p_s rfl rfl ?_
        refine p_s rfl rfl ?_
        refine p_goto rfl ?_
        refine p_lv (lv2 := [(3, .int (nI (e + 1) + 1)), (2, .int _), (0, .ref m), (1, .int (nI (i + 1)))]) (ks := [0, 1, 3, 4]) rfl ?_
        exact ih (e + 1) _ _ (by omega) (nI_1 (e + 1)) (by rw [lowF, if_neg (fun z => by rw [if_pos z.1] at hy; rw [hy] at c; exact absurd c (by decide))]) hK
      · simp only [px_ncmp] at c
        refine p_s rfl rfl ?_
        refine p_get rfl f_Rf_7 hr.1 rfl ?_
        refine p_s rfl rfl ?_
        refine p_rld rfl hr hs (k := 0) (i := e) (by decide) rfl (hpr e he).1 he rfl ?_
        refine p_s rfl rfl ?_
        refine p_icmp rfl (fun c2 => ?_) (fun c2 => ?_)
        · simp only [px_cmp] at c2
          refine p_s rfl rfl ?_
          refine p_s rfl rfl ?_
          refine p_s rfl rfl ?_
          refine p_goto rfl ?_
          refine p_lv (lv2 := [(3, .int (nI (e + 1) + 1)), (2, .int _), (0, .ref m), (1, .int (nI (i + 1)))]) (ks := [0, 1, 3, 4]) rfl ?_
          exact ih (e + 1) _ _ (by omega) (nI_1 (e + 1)) (by rw [lowF, if_neg (fun z => by rw [nI_leI (by omega) (by omega)] at c2; omega)]) hK
        · simp only [px_ncmp] at c2
          refine p_s rfl rfl ?_
          refine p_get rfl f_Rf_7 hr.1 rfl ?_
          refine p_s rfl rfl ?_
          refine p_rld rfl hr hs (k := 0) (i := e) (by decide) rfl (hpr e he).1 he rfl ?_
          refine p_goto rfl ?_
          refine p_s rfl rfl ?_
          refine p_s rfl rfl ?_
          refine p_goto rfl ?_
          refine p_lv (lv2 := [(3, .int (nI (e + 1) + 1)), (2, .int _), (0, .ref m), (1, .int (nI (i + 1)))]) (ks := [0, 1, 3, 4]) rfl ?_
          exact ih (e + 1) _ _ (by omega) (nI_1 (e + 1)) (by rw [lowF, if_pos ⟨Classical.byContradiction (fun z => c (by rw [hy, if_neg z])), by rw [nI_leI (by omega) (by omega)] at c2; omega⟩]) hK
    refine p_s rfl rfl ?_
    refine p_s rfl rfl ?_
    refine p_get rfl f_Rf_73 hr.1 rfl ?_
    rw [hs.s2]
    refine p_icmpF rfl (show ¬ nI (d_n σ) < nI (e + 1) from nI_nlt (by omega) (by omega)) ?_
    refine p_s rfl rfl ?_
    refine p_get rfl f_Rf_50 hr.1 rfl ?_
    refine p_s rfl rfl ?_
    refine p_ialdS rfl (hr.2.1 13 (by decide)) rfl (show e + 1 < 201 by omega) (by decide) ?_
    rw [(hN e (by omega)).1]
    refine p_if rfl (fun c => ?_) (fun c => ?_)
    · simp only [px_cmp] at c
      refine p_s rfl rfl ?_
      exact H 0 (by rw [if_neg (fun z => nI_nle z.1 (hN e (by omega)).2 c)])
    · simp only [px_ncmp] at c
      refine p_s rfl rfl ?_
      refine p_get rfl f_Rf_7 hr.1 rfl ?_
      refine p_s rfl rfl ?_
      refine p_rld rfl hr hs (k := 0) (i := e) (by decide) rfl (hpr e he).1 he rfl ?_
      refine p_s rfl rfl ?_
      refine p_get rfl f_Rf_7 hr.1 rfl ?_
      refine p_s rfl rfl ?_
      refine p_rld rfl hr hs (k := 0) (i := i) (by decide) rfl (hpr i hi).1 hi rfl ?_
      refine p_icmp rfl (fun c1 => ?_) (fun c1 => ?_)
      · simp only [px_cmp] at c1
        refine p_s rfl rfl ?_
        refine p_goto rfl ?_
        exact H 1 (by rw [if_pos (by rw [nI_ltI (by omega) (by omega)] at c1; exact ⟨Nat.pos_of_ne_zero (fun z => c (by rw [z]; decide)), Or.inl c1⟩)])
      · simp only [px_ncmp] at c1
        refine p_s rfl rfl ?_
        refine p_get rfl f_Rf_7 hr.1 rfl ?_
        refine p_s rfl rfl ?_
        refine p_rld rfl hr hs (k := 0) (i := e) (by decide) rfl (hpr e he).1 he rfl ?_
        refine p_s rfl rfl ?_
        refine p_get rfl f_Rf_7 hr.1 rfl ?_
        refine p_s rfl rfl ?_
        refine p_rld rfl hr hs (k := 0) (i := i) (by decide) rfl (hpr i hi).1 hi rfl ?_
        refine p_icmp rfl (fun c2 => ?_) (fun c2 => ?_)
        · simp only [px_cmp] at c2
          refine p_s rfl rfl ?_
          exact H 0 (by rw [if_neg (fun z => by rw [nI_ltI (by omega) (by omega)] at c1; exact c2 (by rw [show pr e = pr i by have := z.2; omega]))])
        · simp only [px_ncmp] at c2
          refine p_s rfl rfl ?_
          refine p_s rfl rfl ?_
          refine p_s rfl rfl ?_
          refine p_callV rfl c_Rf_76 rfl hr.1 g_Rf_is rfl rfl rfl (p_le (by omega) (Nat.le_refl _) (Nat.le_refl _) (r_isX (d := d) (b := 0) hr hs he (by decide) rfl)) (fun v w hq => ?_)
          obtain ⟨rfl, hw9⟩ := hq
          have hw9 := hw9.symm
          subst hw9
          refine p_if rfl (fun c3 => ?_) (fun c3 => ?_)
          · simp only [px_cmp] at c3
            refine p_s rfl rfl ?_
            exact H 0 (by rw [if_neg (fun z => by rw [nI_ltI (by omega) (by omega)] at c1; exact z.2.elim c1 (fun k => c3 k.2))])
          · simp only [px_ncmp] at c3
            refine p_s rfl rfl ?_
            refine p_goto rfl ?_
            exact H 1 (by rw [if_pos (by rw [nI_eq (by omega) (by omega)] at c2; exact ⟨Nat.pos_of_ne_zero (fun z => c (by rw [z]; decide)), Or.inr ⟨c2, c3⟩⟩)])
set_option maxHeartbeats 4000000 in
theorem r_som_loop {G : px_G} {d m : Nat} {R : Int32} {q : Nat} {aa : Nat → Nat} {ws : va_W} {fa : Nat → Nat → Int32} {s : Nat → Int32} {σ : Md} (hr : RH G ws m aa fa s) (hs : RS R q fa s σ) {N pr : Nat → Nat} (hN : ∀ i, i < 200 → fa 13 (i + 1) = nI (N i) ∧ N i < 2 ^ 31) (hpr : PrOk (d_A σ) pr (d_n σ)) {low : Nat} (hlow : low ≤ 255) {y1 : Int32} {Q : Option Value → va_W → Prop} : ∀ (k e : Nat) (x3 x4 : Int32), e + k = d_n σ → x4 = nI (e + 1) → x3 = somF (d_A σ) pr N low e → (∀ x4 x3, x3 = somF (d_A σ) pr N low (d_n σ) → px G m_Rf_goes 160 [(4, .int x4), (3, .int x3), (2, .int (nI low)), (0, .ref m), (1, .int y1)] [] ws (d + 1) 0 0 Q) → px G m_Rf_goes 104 [(4, .int x4), (3, .int x3), (2, .int (nI low)), (0, .ref m), (1, .int y1)] [] ws (d + 1) 0 0 Q := by
  have hn := hs.1
  intro k
  induction k with
  | zero =>
    intro e x3 x4 hek h4 h3 hK
    subst h4
    have hen : e = d_n σ := by omega
    rw [hen] at h3
    refine p_s rfl rfl ?_
    refine p_s rfl rfl ?_
    refine p_get rfl f_Rf_73 hr.1 rfl ?_
    rw [hs.s2]
    refine p_icmpT rfl (show nI (d_n σ) < nI (e + 1) from nI_lt (by omega) (by omega)) ?_
    exact hK _ _ h3
  | succ k ih =>
    intro e x3 x4 hek h4 h3 hK
    subst h4
    subst h3
    have he : e < d_n σ := by omega
    obtain ⟨-, pe1, pe2⟩ := hpr e he
    have H : ∀ y : Int32, y = somF (d_A σ) pr N low (e + 1) → px G m_Rf_goes 153 [(4, .int (nI (e + 1))), (3, .int (somF (d_A σ) pr N low e)), (2, .int (nI low)), (0, .ref m), (1, .int y1)] [.int y] ws (d + 1) 0 0 Q := by
      intro y hy
      refine p_s rfl rfl ?_
      refine p_s rfl rfl ?_
      refine p_goto rfl ?_
      exact ih (e + 1) _ _ (by omega) (nI_1 (e + 1)) hy hK
    refine p_s rfl rfl ?_
    refine p_s rfl rfl ?_
    refine p_get rfl f_Rf_73 hr.1 rfl ?_
    rw [hs.s2]
    refine p_icmpF rfl (show ¬ nI (d_n σ) < nI (e + 1) from nI_nlt (by omega) (by omega)) ?_
    refine p_s rfl rfl ?_
    refine p_if rfl (fun c => ?_) (fun c => ?_)
    · simp only [px_cmp] at c
      refine p_s rfl rfl ?_
      refine p_goto rfl ?_
      exact H 1 (by rw [somF, if_pos (Or.inl c)])
    · simp only [px_ncmp] at c
      refine p_s rfl rfl ?_
      refine p_get rfl f_Rf_50 hr.1 rfl ?_
      refine p_s rfl rfl ?_
      refine p_ialdS rfl (hr.2.1 13 (by decide)) rfl (show e + 1 < 201 by omega) (by decide) ?_
      rw [(hN e (by omega)).1]
      refine p_if rfl (fun c1 => ?_) (fun c1 => ?_)
      · simp only [px_cmp] at c1
        refine p_s rfl rfl ?_
        exact H 0 (by rw [somF, if_neg (fun z => z.elim (fun w => w c) (fun w => nI_nle w.1 (hN e (by omega)).2 c1))])
      · simp only [px_ncmp] at c1
        refine p_s rfl rfl ?_
        refine p_get rfl f_Rf_7 hr.1 rfl ?_
        refine p_s rfl rfl ?_
        refine p_rld rfl hr hs (k := 0) (i := e) (by decide) rfl (hpr e he).1 he rfl ?_
        refine p_s rfl rfl ?_
        refine p_icmp rfl (fun c2 => ?_) (fun c2 => ?_)
        · simp only [px_cmp] at c2
          refine p_s rfl rfl ?_
          exact H 0 (by rw [somF, if_neg (fun z => z.elim (fun w => w c) (fun w => c2 (by rw [w.2.1])))])
        · simp only [px_ncmp] at c2
          refine p_s rfl rfl ?_
          refine p_s rfl rfl ?_
          refine p_s rfl rfl ?_
          refine p_callV rfl c_Rf_76 rfl hr.1 g_Rf_is rfl rfl rfl (p_le (by omega) (Nat.le_refl _) (Nat.le_refl _) (r_isX (d := d) (b := 0) hr hs he (by decide) rfl)) (fun v w hq => ?_)
          obtain ⟨rfl, hw9⟩ := hq
          have hw9 := hw9.symm
          subst hw9
          refine p_if rfl (fun c3 => ?_) (fun c3 => ?_)
          · simp only [px_cmp] at c3
            refine p_s rfl rfl ?_
            exact H 0 (by rw [somF, if_neg (fun z => z.elim (fun w => w c) (fun w => c3 w.2.2))])
          · simp only [px_ncmp] at c3
            refine p_s rfl rfl ?_
            refine p_goto rfl ?_
            exact H 1 (by rw [somF, if_pos (by rw [nI_eq (by omega) (by omega)] at c2; exact Or.inr ⟨Nat.pos_of_ne_zero (fun z => c1 (by rw [z]; decide)), c2, c3⟩)])
set_option maxHeartbeats 4000000 in
theorem r_bes_loop {G : px_G} {d m : Nat} {R : Int32} {q : Nat} {aa : Nat → Nat} {ws : va_W} {fa : Nat → Nat → Int32} {s : Nat → Int32} {σ : Md} (hr : RH G ws m aa fa s) (hs : RS R q fa s σ) {N pr : Nat → Nat} (hN : ∀ i, i < 200 → fa 13 (i + 1) = nI (N i) ∧ N i < 2 ^ 31) (hpr : PrOk (d_A σ) pr (d_n σ)) {low : Nat} (hlow : low ≤ 255) (hl0 : 0 < low) {sm y1 : Int32} {Q : Option Value → va_W → Prop} (hQ : Q (some (.int (nI (besF (d_A σ) pr N low sm (d_n σ))))) ws) : ∀ (k e : Nat) (x4 x5 : Int32), e + k = d_n σ → x5 = nI (e + 1) → x4 = nI (besF (d_A σ) pr N low sm e) → px G m_Rf_goes 166 [(5, .int x5), (4, .int x4), (3, .int sm), (2, .int (nI low)), (0, .ref m), (1, .int y1)] [] ws (d + 1) 0 0 Q := by
  have hn := hs.1
  intro k
  induction k with
  | zero =>
    intro e x4 x5 hek h5 h4
    subst h5
    subst h4
    have hen : e = d_n σ := by omega
    refine p_s rfl rfl ?_
    refine p_s rfl rfl ?_
    refine p_get rfl f_Rf_73 hr.1 rfl ?_
    rw [hs.s2]
    refine p_icmpT rfl (show nI (d_n σ) < nI (e + 1) from nI_lt (by omega) (by omega)) ?_
    refine p_s rfl rfl ?_
    exact p_iret rfl rfl rfl (by rw [hen]; exact hQ)
  | succ k ih =>
    intro e x4 x5 hek h5 h4
    subst h5
    subst h4
    have he : e < d_n σ := by omega
    obtain ⟨-, pe1, pe2⟩ := hpr e he
    have hb : besF (d_A σ) pr N low sm e = 0 ∨ ∃ y, besF (d_A σ) pr N low sm e = y + 1 ∧ y < e := by
      rcases besF_sp (A := d_A σ) (pr := pr) (N := N) (low := low) (sm := sm) e with ⟨a, -⟩ | ⟨y, a, b, -⟩
      · exact Or.inl a
      · exact Or.inr ⟨y, a, b⟩
    have H : ∀ y : Int32, y = (if canR (d_A σ) pr N low sm e then 1 else 0) → px G m_Rf_goes 219 [(5, .int (nI (e + 1))), (4, .int (nI (besF (d_A σ) pr N low sm e))), (3, .int sm), (2, .int (nI low)), (0, .ref m), (1, .int y1)] [.int y] ws (d + 1) 0 0 Q := by
      intro y hy
      refine p_s rfl rfl ?_
      refine p_s rfl rfl ?_
      refine p_if rfl (fun c => ?_) (fun c => ?_)
      · simp only [px_cmp] at c
        refine p_s rfl rfl ?_
        refine p_s rfl rfl ?_
        refine p_s rfl rfl ?_
        refine p_goto rfl ?_
        refine p_lv (lv2 := [(5, .int (nI (e + 1) + 1)), (4, .int _), (3, .int sm), (2, .int (nI low)), (0, .ref m), (1, .int y1)]) (ks := [0, 1, 3, 4, 5, 6]) rfl ?_
        exact ih (e + 1) _ _ (by omega) (nI_1 (e + 1)) (by rw [besF, if_neg (fun z => by rw [if_pos z.1] at hy; rw [hy] at c; exact absurd c (by decide))])
      · simp only [px_ncmp] at c
        refine p_s rfl rfl ?_
        refine p_if rfl (fun c1 => ?_) (fun c1 => ?_)
        · simp only [px_cmp] at c1
          refine p_s rfl rfl ?_
          refine p_goto rfl ?_
          refine p_s rfl rfl ?_
          refine p_s rfl rfl ?_
          refine p_goto rfl ?_
          refine p_lv (lv2 := [(5, .int (nI (e + 1) + 1)), (4, .int _), (3, .int sm), (2, .int (nI low)), (0, .ref m), (1, .int y1)]) (ks := [0, 1, 3, 4, 5, 6]) rfl ?_
          exact ih (e + 1) _ _ (by omega) (nI_1 (e + 1)) (by rw [besF, if_pos ⟨Classical.byContradiction (fun z => c (by rw [hy, if_neg z])), Or.inl (hb.elim id (fun ⟨y2, e1, e2⟩ => absurd c1 (by rw [e1]; exact nI_ne0 (Nat.succ_pos y2) (by omega))))⟩])
        · simp only [px_ncmp] at c1
          obtain ⟨y2, e1, e2⟩ := hb.resolve_left (fun z => c1 (by rw [z]; rfl))
          refine p_s rfl rfl ?_
          refine p_get rfl f_Rf_50 hr.1 rfl ?_
          refine p_s rfl rfl ?_
          refine p_ialdS rfl (hr.2.1 13 (by decide)) rfl (show e + 1 < 201 by omega) (by decide) ?_
          rw [(hN e (by omega)).1]
          refine p_s rfl rfl ?_
          refine p_get rfl f_Rf_50 hr.1 rfl ?_
          refine p_s rfl rfl ?_
          refine p_ialdS rfl (hr.2.1 13 (by decide)) (congrArg nI e1) (show y2 + 1 < 201 by omega) (by decide) ?_
          rw [(hN y2 (by omega)).1]
          refine p_icmp rfl (fun c2 => ?_) (fun c2 => ?_)
          · simp only [px_cmp] at c2
            refine p_s rfl rfl ?_
            refine p_s rfl rfl ?_
            refine p_s rfl rfl ?_
            refine p_goto rfl ?_
            refine p_lv (lv2 := [(5, .int (nI (e + 1) + 1)), (4, .int _), (3, .int sm), (2, .int (nI low)), (0, .ref m), (1, .int y1)]) (ks := [0, 1, 3, 4, 5, 6]) rfl ?_
            exact ih (e + 1) _ _ (by omega) (nI_1 (e + 1)) (by rw [besF, if_neg (fun z => by rw [nI_leI (hN y2 (by omega)).2 (hN e (by omega)).2] at c2; have w := z.2; rw [e1, Nat.add_sub_cancel] at w; omega)])
          · simp only [px_ncmp] at c2
            refine p_s rfl rfl ?_
            refine p_goto rfl ?_
            refine p_s rfl rfl ?_
            refine p_s rfl rfl ?_
            refine p_goto rfl ?_
            refine p_lv (lv2 := [(5, .int (nI (e + 1) + 1)), (4, .int _), (3, .int sm), (2, .int (nI low)), (0, .ref m), (1, .int y1)]) (ks := [0, 1, 3, 4, 5, 6]) rfl ?_
            exact ih (e + 1) _ _ (by omega) (nI_1 (e + 1)) (by rw [besF, if_pos ⟨Classical.byContradiction (fun z => c (by rw [hy, if_neg z])), by rw [nI_leI (hN y2 (by omega)).2 (hN e (by omega)).2] at c2; rw [e1, Nat.add_sub_cancel]; omega⟩])
    refine p_s rfl rfl ?_
    refine p_s rfl rfl ?_
    refine p_get rfl f_Rf_73 hr.1 rfl ?_
    rw [hs.s2]
    refine p_icmpF rfl (show ¬ nI (d_n σ) < nI (e + 1) from nI_nlt (by omega) (by omega)) ?_
    refine p_s rfl rfl ?_
    refine p_ifF rfl (nI_nle hl0 (by omega)) ?_
    refine p_s rfl rfl ?_
    refine p_get rfl f_Rf_50 hr.1 rfl ?_
    refine p_s rfl rfl ?_
    refine p_ialdS rfl (hr.2.1 13 (by decide)) rfl (show e + 1 < 201 by omega) (by decide) ?_
    rw [(hN e (by omega)).1]
    refine p_if rfl (fun c => ?_) (fun c => ?_)
    · simp only [px_cmp] at c
      refine p_s rfl rfl ?_
      exact H 0 (by rw [if_neg (fun z => nI_nle z.1 (hN e (by omega)).2 c)])
    · simp only [px_ncmp] at c
      refine p_s rfl rfl ?_
      refine p_get rfl f_Rf_7 hr.1 rfl ?_
      refine p_s rfl rfl ?_
      refine p_rld rfl hr hs (k := 0) (i := e) (by decide) rfl (hpr e he).1 he rfl ?_
      refine p_s rfl rfl ?_
      refine p_icmp rfl (fun c1 => ?_) (fun c1 => ?_)
      · simp only [px_cmp] at c1
        refine p_s rfl rfl ?_
        exact H 0 (by rw [if_neg (fun z => c1 (by rw [z.2.1]))])
      · simp only [px_ncmp] at c1
        rw [nI_eq (by omega) (by omega)] at c1
        refine p_s rfl rfl ?_
        refine p_if rfl (fun c2 => ?_) (fun c2 => ?_)
        · simp only [px_cmp] at c2
          refine p_s rfl rfl ?_
          refine p_goto rfl ?_
          exact H 1 (by rw [if_pos (⟨Nat.pos_of_ne_zero (fun z => c (by rw [z]; decide)), c1, Or.inl c2⟩)])
        · simp only [px_ncmp] at c2
          refine p_s rfl rfl ?_
          refine p_s rfl rfl ?_
          refine p_s rfl rfl ?_
          refine p_callV rfl c_Rf_76 rfl hr.1 g_Rf_is rfl rfl rfl (p_le (by omega) (Nat.le_refl _) (Nat.le_refl _) (r_isX (d := d) (b := 0) hr hs he (by decide) rfl)) (fun v w hq => ?_)
          obtain ⟨rfl, hw9⟩ := hq
          have hw9 := hw9.symm
          subst hw9
          refine p_if rfl (fun c3 => ?_) (fun c3 => ?_)
          · simp only [px_cmp] at c3
            refine p_s rfl rfl ?_
            exact H 0 (by rw [if_neg (fun z => z.2.2.elim c2 c3)])
          · simp only [px_ncmp] at c3
            refine p_s rfl rfl ?_
            refine p_goto rfl ?_
            exact H 1 (by rw [if_pos (⟨Nat.pos_of_ne_zero (fun z => c (by rw [z]; decide)), c1, Or.inr c3⟩)])
set_option maxHeartbeats 4000000 in
theorem r_goes {G : px_G} {d m : Nat} {R : Int32} {q : Nat} {aa : Nat → Nat} {ws : va_W} {fa : Nat → Nat → Int32} {s : Nat → Int32} {σ : Md} (hr : RH G ws m aa fa s) (hs : RS R q fa s σ) {N pr : Nat → Nat} (hN : ∀ i, i < 200 → fa 13 (i + 1) = nI (N i) ∧ N i < 2 ^ 31) (hpr : PrOk (d_A σ) pr (d_n σ)) {i : Nat} (hi : i < d_n σ) : px G m_Rf_goes 0 (lv_args 0 [.ref m, .int (nI (i + 1))]) [] ws (d + 1) 0 0 (fun v w => v = some (.int (nI (goR (d_A σ) pr N i (d_n σ)))) ∧ w = ws) := by
  have hn := hs.1
  refine p_s rfl rfl ?_
  refine p_s rfl rfl ?_
  refine p_s rfl rfl ?_
  refine p_s rfl rfl ?_
  refine r_low_loop hr hs hN hpr hi (d_n σ) 0 _ _ (by omega) rfl rfl (fun x3 x2 h2 => ?_)
  subst h2
  have hlow : lowF (d_A σ) pr N i (d_n σ) ≤ 255 := by
    rcases (lowF_sp (A := d_A σ) (N := N) (c := i) (fun j hj => (hpr j hj).2.1) (d_n σ) (Nat.le_refl _)).2 with h | ⟨e2, e3, -, e4⟩
    · omega
    · have := (hpr e2 (by omega)).2.2
      omega
  refine p_s rfl rfl ?_
  refine p_s rfl rfl ?_
  refine p_s rfl rfl ?_
  refine p_s rfl rfl ?_
  refine r_som_loop hr hs hN hpr hlow (d_n σ) 0 _ _ (by omega) rfl rfl (fun x4 x3 h3 => ?_)
  subst h3
  refine p_s rfl rfl ?_
  refine p_s rfl rfl ?_
  refine p_s rfl rfl ?_
  refine p_s rfl rfl ?_
  refine p_lv (lv2 := [(5, .int 1), (4, .int 0), (3, .int (somF (d_A σ) pr N (lowF (d_A σ) pr N i (d_n σ)) (d_n σ))), (2, .int (nI (lowF (d_A σ) pr N i (d_n σ)))), (0, .ref m), (1, .int (nI (i + 1)))]) (ks := [0, 1, 2, 3, 4, 5]) rfl ?_
  by_cases hl0 : lowF (d_A σ) pr N i (d_n σ) = 0
  · rw [hl0]
    refine p_s rfl rfl ?_
    refine p_s rfl rfl ?_
    refine p_get rfl f_Rf_73 hr.1 rfl ?_
    rw [hs.s2]
    refine p_icmp rfl (fun c => ?_) (fun c => ?_)
    · simp only [px_cmp] at c
      refine p_s rfl rfl ?_
      exact p_iret rfl rfl rfl ⟨by rw [goR, if_pos hl0]; rfl, rfl⟩
    · simp only [px_ncmp] at c
      refine p_s rfl rfl ?_
      refine p_ifT rfl (show nI 0 ≤ (0 : Int32) by decide) ?_
      refine p_s rfl rfl ?_
      exact p_iret rfl rfl rfl ⟨by rw [goR, if_pos hl0]; rfl, rfl⟩
  · exact r_bes_loop hr hs hN hpr hlow (by omega) ⟨by rw [goR, if_neg hl0], rfl⟩ (d_n σ) 0 _ _ (by omega) rfl rfl
