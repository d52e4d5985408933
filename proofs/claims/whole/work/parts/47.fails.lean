/-! THE REFERENCE: fails, event; the ranges that hold of every state -/
abbrev bdN (x : Int32) (a b : Nat) : Prop := ∃ k, a ≤ k ∧ k ≤ b ∧ x = nI k
abbrev bdZ (x : Int32) : Prop := -128 ≤ x.toInt ∧ x.toInt ≤ 127
def IvC (A : Nat → Nat → Int32) (i : Nat) : Prop := bdN (A 0 i) 1 255 ∧ bdN (A 1 i) 1 127 ∧ bdN (A 2 i) 1 127 ∧ (bdN (A 4 i) 0 255 ∧ bdN (A 5 i) 0 39 ∧ bdN (A 6 i) 0 255) ∧ (bdN (A 8 i) 0 255 ∧ bdN (A 9 i) 0 39 ∧ bdN (A 10 i) 0 255) ∧ bdZ (A 11 i)
def Iv (σ : Md) : Prop := Wf σ ∧ Ac (d_n σ) (d_p σ) ∧ (∀ x ∈ d_e σ, ∃ k, k ≤ 255 ∧ x.2.1 = nI k) ∧ ∀ i, i < d_n σ → IvC (d_A σ) i
def prA (A : Nat → Nat → Int32) : Nat → Nat := fun i => (A 0 i).toNatClampNeg
theorem prA_ok {A : Nat → Nat → Int32} {n : Nat} (h : ∀ i, i < n → bdN (A 0 i) 1 255) : PrOk A (prA A) n := fun i hi => by
  obtain ⟨k, h1, h2, h3⟩ := h i hi
  have e : prA A i = k := by
    show (A 0 i).toNatClampNeg = k
    rw [h3, nI_clamp (by omega)]
  rw [e]
  exact ⟨h3, h1, h2⟩
theorem stA_0 {σ : Md} {i j : Nat} {s t a g : Int32} : d_A (stA σ 3 i s t a g) 0 j = d_A σ 0 j := up4_out (Or.inl (by omega))
theorem stA_lo {σ : Md} {i j k : Nat} {s t a g : Int32} (h : k < 3 ∨ 7 ≤ k) : d_A (stA σ 3 i s t a g) k j = d_A σ k j := up4_out (by omega)
theorem PrOk.st {σ : Md} {pr : Nat → Nat} {n i : Nat} {s t a g : Int32} (h : PrOk (d_A σ) pr n) : PrOk (d_A (stA σ 3 i s t a g)) pr n := fun j hj => by
  rw [stA_0]
  exact h j hj
abbrev fC (v : Int32) : Int32 := setB (setB v 4 0) 6 0
abbrev fD (v : Int32) : Int32 := setB (setB (setB v 1 1) 2 1) 5 1
theorem fC_k : ∀ k, k < 256 → fC (nI k) = nI k &&& -81 := by decide +kernel
theorem fA_k : ∀ k, k < 256 → setB (fD (fC (nI k))) 0 1 = (nI k &&& -81) ||| 39 ∧ sHas (fD (fC (nI k))) (pw 0) = sHas (nI k) 1 := by decide +kernel
theorem fB_k : ∀ k, k < 256 → setB (fD (setB (fC (nI k)) 3 1)) 0 1 = ((nI k &&& -81) ||| 8) ||| 39 ∧ sHas (fD (setB (fC (nI k)) 3 1)) (pw 0) = sHas (nI k) 1 := by decide +kernel
theorem fE_k : ∀ k, k < 256 → setB (fD (setB (setB (fC (nI k)) 3 1) 7 1)) 0 1 = ((nI k &&& -81) ||| 136) ||| 39 ∧ sHas (fD (setB (setB (fC (nI k)) 3 1) 7 1)) (pw 0) = sHas (nI k) 1 := by decide +kernel
theorem fP_k : ∀ k, k < 256 → setB (setB (setB (nI k) 0 0) 4 0) 6 0 = nI k &&& -82 := by decide +kernel
def aftF (R : Int32) (σ σ1 : Md) (i : Nat) : Md := if sHas (d_A σ 3 i) 1 = 0 ∧ hidF (d_A σ1) (d_p σ) 200 (d_p σ i) = 0 then storeM R σ1 i (snapOf σ1 i) else σ1
set_option maxHeartbeats 4000000 in
theorem r_fails82 {G : px_G} {ws0 : va_W} {d m : Nat} {R : Int32} {q : Nat} {aa : Nat → Nat} {ws : va_W} {fa : Nat → Nat → Int32} {s : Nat → Int32} {σ : Md} {pr : Nat → Nat} (hpr : PrOk (d_A σ) pr (d_n σ)) (hW : Wf σ) (hAc : Ac (d_n σ) (d_p σ)) (hhp : ∀ x ∈ d_e σ, ∃ k, k ≤ 255 ∧ x.2.1 = nI k) (hq : q < 100000) {i : Nat} (hi : i < d_n σ) {V T a g S1 : Int32} (hr : RH G ws m aa fa s) (hs : RS R q fa s (stA σ 3 i V T a g)) (hk : px_kp Kc ws0 ws) (hf : setB (fD V) 0 1 = S1) (hg : sHas (fD V) (pw 0) = sHas (d_A σ 3 i) 1) : px G m_Rf_fails 82 [(0, .ref m), (1, .int (nI (i + 1)))] [] ws (d + 4) 0 0 (fun v w => v = none ∧ RX G R (q + 1) ws0 w m aa (aftF R σ (stA σ 3 i S1 T 0 0) i)) := by
  refine p_s rfl rfl ?_
  refine p_s rfl rfl ?_
  refine p_s rfl rfl ?_
  refine p_s rfl rfl ?_
  refine p_callV rfl c_Rf_80 rfl hr.1 g_Rf_set rfl rfl rfl (p_le (by omega) (Nat.le_refl _) (Nat.le_refl _) (r_setX (d := d) (b := 1) hr hs hk hi (by decide) (by decide) stA_B)) (fun v w hq => ?_)
  obtain ⟨rfl, fa, s, hr, hs, hk⟩ := hq
  refine p_s rfl rfl ?_
  refine p_s rfl rfl ?_
  refine p_s rfl rfl ?_
  refine p_s rfl rfl ?_
  refine p_callV rfl c_Rf_80 rfl hr.1 g_Rf_set rfl rfl rfl (p_le (by omega) (Nat.le_refl _) (Nat.le_refl _) (r_setX (d := d) (b := 2) hr hs hk hi (by decide) (by decide) stA_B)) (fun v w hq => ?_)
  obtain ⟨rfl, fa, s, hr, hs, hk⟩ := hq
  refine p_s rfl rfl ?_
  refine p_s rfl rfl ?_
  refine p_s rfl rfl ?_
  refine p_s rfl rfl ?_
  refine p_callV rfl c_Rf_80 rfl hr.1 g_Rf_set rfl rfl rfl (p_le (by omega) (Nat.le_refl _) (Nat.le_refl _) (r_setX (d := d) (b := 5) hr hs hk hi (by decide) (by decide) stA_B)) (fun v w hq => ?_)
  obtain ⟨rfl, fa, s, hr, hs, hk⟩ := hq
  refine p_s rfl rfl ?_
  refine p_get rfl f_Rf_32 hr.1 rfl ?_
  refine p_s rfl rfl ?_
  refine p_s rfl rfl ?_
  refine p_rst rfl hr hs hk (k := 7) (a := 5) (i := i) (by decide) rfl stA_X5 hi rfl (fun ws fa s hr hs hk => ?_)
  refine p_s rfl rfl ?_
  refine p_get rfl f_Rf_35 hr.1 rfl ?_
  refine p_s rfl rfl ?_
  refine p_s rfl rfl ?_
  refine p_rst rfl hr hs hk (k := 8) (a := 6) (i := i) (by decide) rfl stA_X6 hi rfl (fun ws fa s hr hs hk => ?_)
  refine p_s rfl rfl ?_
  refine p_s rfl rfl ?_
  refine p_s rfl rfl ?_
  refine p_callV rfl c_Rf_76 rfl hr.1 g_Rf_is rfl rfl rfl (p_le (by omega) (Nat.le_refl _) (Nat.le_refl _) (r_isX (d := d) (b := 0) hr hs hi (by decide) stA_3)) (fun v w hq => ?_)
  obtain ⟨rfl, hw9⟩ := hq
  have hw9 := hw9.symm
  subst hw9
  refine p_s rfl rfl ?_
  refine p_s rfl rfl ?_
  refine p_s rfl rfl ?_
  refine p_s rfl rfl ?_
  refine p_s rfl rfl ?_
  refine p_callV rfl c_Rf_80 rfl hr.1 g_Rf_set rfl rfl rfl (p_le (by omega) (Nat.le_refl _) (Nat.le_refl _) (r_setX (d := d) (b := 0) hr hs hk hi (by decide) (by decide) stA_B)) (fun v w hq => ?_)
  obtain ⟨rfl, fa, s, hr, hs, hk⟩ := hq
  rw [hg]
  rw [hf] at hs
  refine p_s rfl rfl ?_
  refine p_if rfl (fun c => ?_) (fun c => ?_)
  · simp only [px_cmp] at c
    exact p_vret rfl rfl ⟨rfl, fa, s, hr, by rw [aftF, if_neg (fun z => c z.1)]; exact hs.mono (by omega), hk⟩
  · simp only [px_ncmp] at c
    refine p_s rfl rfl ?_
    refine p_s rfl rfl ?_
    refine p_callV rfl c_Rf_122 rfl hr.1 g_Rf_hidden rfl rfl rfl (p_le (by omega) (Nat.le_refl _) (Nat.le_refl _) (r_hidden (d := d) hr hs hAc hi)) (fun v w hq => ?_)
    obtain ⟨rfl, hw9⟩ := hq
    have hw9 := hw9.symm
    subst hw9
    refine p_if rfl (fun c2 => ?_) (fun c2 => ?_)
    · simp only [px_cmp] at c2
      exact p_vret rfl rfl ⟨rfl, fa, s, hr, by rw [aftF, if_neg (fun z => c2 z.2)]; exact hs.mono (by omega), hk⟩
    · simp only [px_ncmp] at c2
      refine p_s rfl rfl ?_
      refine p_s rfl rfl ?_
      refine p_callV rfl c_Rf_126 rfl hr.1 g_Rf_store rfl rfl rfl (p_le (by omega) (Nat.le_refl _) (Nat.le_refl _) (r_store (d := d) (σ := stA σ 3 i S1 T 0 0) hr hs hk hpr.st hW hhp hq hi)) (fun v w hq => ?_)
      obtain ⟨rfl, hq2⟩ := hq
      exact p_vret rfl rfl ⟨rfl, by rw [aftF, if_pos ⟨c, c2⟩]; exact hq2⟩
set_option maxHeartbeats 4000000 in
theorem r_fails46 {G : px_G} {ws0 : va_W} {d m : Nat} {R : Int32} {q : Nat} {aa : Nat → Nat} {ws : va_W} {fa : Nat → Nat → Int32} {s : Nat → Int32} {σ : Md} {pr : Nat → Nat} (hpr : PrOk (d_A σ) pr (d_n σ)) (hW : Wf σ) (hAc : Ac (d_n σ) (d_p σ)) (hhp : ∀ x ∈ d_e σ, ∃ k, k ≤ 255 ∧ x.2.1 = nI k) (hq : q < 100000) {i : Nat} (hi : i < d_n σ) {t a g : Int32} {k : Nat} (hkb : k < 256) (h3 : d_A σ 3 i = nI k) (ht : bdN t 0 256) (hr : RH G ws m aa fa s) (hs : RS R q fa s (stA σ 3 i (fC (nI k)) t a g)) (hk : px_kp Kc ws0 ws) : px G m_Rf_fails 46 [(0, .ref m), (1, .int (nI (i + 1)))] [] ws (d + 4) 0 0 (fun v w => v = none ∧ RX G R (q + 1) ws0 w m aa (aftF R σ (stA σ 3 i ((if t < 2 then nI k &&& -81 else (nI k &&& -81) ||| (if (if 64 < d_A σ 0 i then (0 : Int32) else 1) = 0 then 8 else 136)) ||| 39) t 0 0) i)) := by
  obtain ⟨hp1, hp2, hp3⟩ := hpr i hi
  obtain ⟨tk, -, ht2, rfl⟩ := ht
  have t2 : nI tk ≤ 1 → nI tk < 2 := fun z => by
    rw [show (1 : Int32) = nI 1 from rfl, nI_leI (by omega) (by omega)] at z
    exact nI_lt (b := 2) (by omega) (by omega)
  have t3 : ¬ nI tk ≤ 1 → ¬ nI tk < 2 := fun z => by
    rw [show (1 : Int32) = nI 1 from rfl, nI_leI (by omega) (by omega)] at z
    exact nI_nlt (b := 2) (by omega) (by omega)
  have p65 : (65 : Int32) ≤ nI (pr i) → (64 : Int32) < nI (pr i) := fun z => by
    rw [show (65 : Int32) = nI 65 from rfl, nI_leI (by omega) (by omega)] at z
    exact nI_lt (a := 64) (by omega) (by omega)
  have p64 : (64 : Int32) < nI (pr i) → (65 : Int32) ≤ nI (pr i) := fun z => by
    rw [show (64 : Int32) = nI 64 from rfl, nI_ltI (by omega) (by omega)] at z
    exact nI_le (a := 65) (by omega) (by omega)
  refine p_s rfl rfl ?_
  refine p_get rfl f_Rf_29 hr.1 rfl ?_
  refine p_s rfl rfl ?_
  refine p_rld rfl hr hs (k := 6) (a := 4) (i := i) (by decide) rfl stA_4 hi rfl ?_
  refine p_s rfl rfl ?_
  refine p_icmp rfl (fun c => ?_) (fun c => ?_)
  · simp only [px_cmp] at c
    rw [if_pos (t2 c)]
    exact r_fails82 hpr hW hAc hhp hq hi hr hs hk (fA_k k hkb).1 ((fA_k k hkb).2.trans (by rw [h3]))
  · simp only [px_ncmp] at c
    refine p_s rfl rfl ?_
    refine p_s rfl rfl ?_
    refine p_s rfl rfl ?_
    refine p_s rfl rfl ?_
    refine p_callV rfl c_Rf_80 rfl hr.1 g_Rf_set rfl rfl rfl (p_le (by omega) (Nat.le_refl _) (Nat.le_refl _) (r_setX (d := d) (b := 3) hr hs hk hi (by decide) (by decide) stA_B)) (fun v w hq => ?_)
    obtain ⟨rfl, fa, s, hr, hs, hk⟩ := hq
    refine p_s rfl rfl ?_
    refine p_get rfl f_Rf_7 hr.1 rfl ?_
    refine p_s rfl rfl ?_
    refine p_rld rfl hr hs (k := 0) (a := 0) (i := i) (by decide) rfl (stA_0.trans hp1) hi rfl ?_
    refine p_s rfl rfl ?_
    refine p_icmp rfl (fun c2 => ?_) (fun c2 => ?_)
    · simp only [px_cmp] at c2
      rw [if_neg (t3 c), if_pos (show (if 64 < d_A σ 0 i then (0 : Int32) else 1) = 0 by rw [hp1, if_pos (show (64 : Int32) < nI (pr i) from p65 c2)])]
      exact r_fails82 hpr hW hAc hhp hq hi hr hs hk (fB_k k hkb).1 ((fB_k k hkb).2.trans (by rw [h3]))
    · simp only [px_ncmp] at c2
      refine p_s rfl rfl ?_
      refine p_s rfl rfl ?_
      refine p_s rfl rfl ?_
      refine p_s rfl rfl ?_
      refine p_callV rfl c_Rf_80 rfl hr.1 g_Rf_set rfl rfl rfl (p_le (by omega) (Nat.le_refl _) (Nat.le_refl _) (r_setX (d := d) (b := 7) hr hs hk hi (by decide) (by decide) stA_B)) (fun v w hq => ?_)
      obtain ⟨rfl, fa, s, hr, hs, hk⟩ := hq
      rw [if_neg (t3 c), if_neg (show ¬ (if 64 < d_A σ 0 i then (0 : Int32) else 1) = 0 by rw [hp1, if_neg (show ¬ (64 : Int32) < nI (pr i) from fun z => c2 (p64 z))]; decide)]
      exact r_fails82 hpr hW hAc hhp hq hi hr hs hk (fE_k k hkb).1 ((fE_k k hkb).2.trans (by rw [h3]))
theorem failM_aft {R : Int32} {σ : Md} {i : Nat} {l : Int32} : failM R σ i l = aftF R σ (stA σ 3 i (sFailS l (d_A σ 3 i) (d_A σ 4 i)) (sFailT (d_A σ 3 i) (d_A σ 4 i)) 0 0) i := rfl
theorem fT_k : ∀ k, k < 256 → sHas (fC (nI k)) (pw 1) = sHas (nI k &&& -81) 2 := by decide +kernel
set_option maxHeartbeats 4000000 in
theorem r_fails {G : px_G} {ws0 : va_W} {d m : Nat} {R : Int32} {q : Nat} {aa : Nat → Nat} {ws : va_W} {fa : Nat → Nat → Int32} {s : Nat → Int32} {σ : Md} (hr : RH G ws m aa fa s) (hs : RS R q fa s σ) (hk : px_kp Kc ws0 ws) {pr : Nat → Nat} (hpr : PrOk (d_A σ) pr (d_n σ)) (hW : Wf σ) (hAc : Ac (d_n σ) (d_p σ)) (hhp : ∀ x ∈ d_e σ, ∃ k, k ≤ 255 ∧ x.2.1 = nI k) (hq : q < 100000) {i : Nat} (hi : i < d_n σ) (hIv : bdN (d_A σ 4 i) 0 255) : px G m_Rf_fails 0 (lv_args 0 [.ref m, .int (nI (i + 1))]) [] ws (d + 4) 0 0 (fun v w => v = none ∧ RX G R (q + 1) ws0 w m aa (failM R σ i (if 64 < d_A σ 0 i then 0 else 1))) := by
  obtain ⟨k, hkb, h3⟩ := hs.is3 hi
  obtain ⟨t, -, ht, h4⟩ := hIv
  have hs : RS R q fa s (stA σ 3 i (d_A σ 3 i) (d_A σ 4 i) (d_A σ 5 i) (d_A σ 6 i)) := by rw [stA_id]; exact hs
  refine p_s rfl rfl ?_
  refine p_s rfl rfl ?_
  refine p_s rfl rfl ?_
  refine p_s rfl rfl ?_
  refine p_callV rfl c_Rf_80 rfl hr.1 g_Rf_set rfl rfl rfl (p_le (by omega) (Nat.le_refl _) (Nat.le_refl _) (r_setX (d := d) (b := 4) hr hs hk hi (by decide) (by decide) stA_B)) (fun v w hq => ?_)
  obtain ⟨rfl, fa, s, hr, hs, hk⟩ := hq
  refine p_s rfl rfl ?_
  refine p_s rfl rfl ?_
  refine p_s rfl rfl ?_
  refine p_s rfl rfl ?_
  refine p_callV rfl c_Rf_80 rfl hr.1 g_Rf_set rfl rfl rfl (p_le (by omega) (Nat.le_refl _) (Nat.le_refl _) (r_setX (d := d) (b := 6) hr hs hk hi (by decide) (by decide) stA_B)) (fun v w hq => ?_)
  obtain ⟨rfl, fa, s, hr, hs, hk⟩ := hq
  refine p_s rfl rfl ?_
  refine p_s rfl rfl ?_
  refine p_s rfl rfl ?_
  refine p_callV rfl c_Rf_76 rfl hr.1 g_Rf_is rfl rfl rfl (p_le (by omega) (Nat.le_refl _) (Nat.le_refl _) (r_isX (d := d) (b := 1) hr hs hi (by decide) stA_3)) (fun v w hq => ?_)
  obtain ⟨rfl, hw9⟩ := hq
  have hw9 := hw9.symm
  subst hw9
  rw [h3, h4] at hs
  refine p_if rfl (fun c => ?_) (fun c => ?_)
  · simp only [px_cmp] at c
    have hT : sFailT (nI k) (nI t) = nI t := by rw [sFailT, if_neg (fun z => c (by rw [h3, fT_k k hkb]; exact z))]
    refine p_post (fun v w hq2 => ⟨hq2.1, ?_⟩) (r_fails46 hpr hW hAc hhp hq hi hkb h3 (t := nI t) ⟨t, by omega, by omega, rfl⟩ hr hs hk)
    rw [failM_aft, h3, h4, sFailS, hT]
    exact hq2.2
  · simp only [px_ncmp] at c
    refine p_s rfl rfl ?_
    refine p_get rfl f_Rf_29 hr.1 rfl ?_
    refine p_s rfl rfl ?_
    refine p_rld rfl hr hs (k := 6) (a := 4) (i := i) (by decide) rfl stA_4 hi rfl ?_
    refine p_s rfl rfl ?_
    refine p_icmp rfl (fun c2 => ?_) (fun c2 => ?_)
    · simp only [px_cmp] at c2
      have hT : sFailT (nI k) (nI t) = nI t := by
        rw [sFailT, if_pos (by rw [← fT_k k hkb, ← h3]; exact c), ← hap2 t ht (Int32.not_lt.mpr c2)]
        rw [show (255 : Int32) = nI 255 from rfl, nI_leI (by omega) (by omega)] at c2
        exact show nI 255 = nI t from congrArg nI (by omega)
      refine p_post (fun v w hq2 => ⟨hq2.1, ?_⟩) (r_fails46 hpr hW hAc hhp hq hi hkb h3 (t := nI t) ⟨t, by omega, by omega, rfl⟩ hr hs hk)
      rw [failM_aft, h3, h4, sFailS, hT]
      exact hq2.2
    · simp only [px_ncmp] at c2
      refine p_s rfl rfl ?_
      refine p_get rfl f_Rf_29 hr.1 rfl ?_
      refine p_s rfl rfl ?_
      refine p_s rfl rfl ?_
      refine p_rld rfl hr hs (k := 6) (a := 4) (i := i) (by decide) rfl stA_4 hi rfl ?_
      refine p_s rfl rfl ?_
      refine p_s rfl rfl ?_
      refine p_rst rfl hr hs hk (k := 6) (i := i) (by decide) rfl stA_X4 hi rfl (fun ws fa s hr hs hk => ?_)
      have hT : sFailT (nI k) (nI t) = nI t + 1 := by rw [sFailT, if_pos (by rw [← fT_k k hkb, ← h3]; exact c), ← hap1 t ht (Int32.not_le.mp c2)]
      refine p_post (fun v w hq2 => ⟨hq2.1, ?_⟩) (r_fails46 hpr hW hAc hhp hq hi hkb h3 (t := nI t + 1) ⟨t + 1, by omega, by omega, nI_1 t⟩ hr hs hk)
      rw [failM_aft, h3, h4, sFailS, hT]
      exact hq2.2
