/-! THE REFERENCE: cycle -/
theorem v2_k : ∀ k, k < 256 → setB (nI k) 2 0 = nI k &&& -5 := by decide +kernel
theorem v7_k : ∀ k, k < 256 → setB (setB (nI k) 2 0) 7 0 = (nI k &&& -5) &&& -129 := by decide +kernel
theorem v3_k : ∀ k, k < 256 → setB (nI k) 3 0 = nI k &&& -9 := by decide +kernel
theorem vb_k : ∀ k, k < 256 → setB (setB (nI k) 1 0) 6 1 = (nI k &&& -3) ||| 64 := by decide +kernel
theorem g3_k : ∀ k, k ≤ 255 → (mn255 (nI k + 1) ≤ 2 ↔ mn255 (nI k + 1) < 3) := by decide +kernel
def cycM (t : Int32) (σ : Md) (i : Nat) : Md := begM (endM t σ i) i
theorem begM_n (σ : Md) (i : Nat) : d_n (begM σ i) = d_n σ := rfl
theorem begM_ne {σ : Md} {i j k : Nat} (h : j ≠ i) : d_A (begM σ i) k j = d_A σ k j := by
  show up4 (up4 _ _ _ _ _ _ _) _ _ _ _ _ _ _ _ = _
  rw [up4_ne h, up4_ne h]
theorem endM_ne {t : Int32} {σ : Md} {i j k : Nat} (h : j ≠ i) : d_A (endM t σ i) k j = d_A σ k j := by
  unfold endM
  split
  · split
    · exact up4_ne h
    · split
      · split
        · exact up4_ne h
        · exact up4_ne h
      · exact up4_ne h
  · rfl
theorem cycM_ne {t : Int32} {σ : Md} {i j k : Nat} (h : j ≠ i) : d_A (cycM t σ i) k j = d_A σ k j := (begM_ne h).trans (endM_ne h)
theorem cycM_n {t : Int32} {σ : Md} {i : Nat} : d_n (cycM t σ i) = d_n σ := endM_n t σ i
theorem up4_dep {X Y : Nat → Nat → Int32} {b k c : Nat} {s t a g : Int32} (h : X k c = Y k c) : up4 X b c s t a g k c = up4 Y b c s t a g k c := by
  unfold up4
  rw [if_pos rfl, if_pos rfl, h]
theorem begM_A {σ : Md} {i j : Nat} {s t a g : Int32} (h : i ≠ j) : stA (begM σ i) 3 j s t a g = begM (stA σ 3 j s t a g) i := by
  have e : ∀ k, d_A (stA σ 3 j s t a g) k i = d_A σ k i := fun k => up4_ne h
  show (_, up4 (up4 (up4 (d_A σ) 3 i ((d_A σ 3 i &&& -3) ||| 64) (d_A σ 4 i) (d_A σ 5 i) (d_A σ 6 i)) 7 i ((d_A σ 3 i &&& -3) ||| 64) (d_A σ 4 i) (d_A σ 5 i) (d_A σ 6 i)) 3 j s t a g, _) = (_, up4 (up4 (up4 (d_A σ) 3 j s t a g) 3 i ((d_A (stA σ 3 j s t a g) 3 i &&& -3) ||| 64) (d_A (stA σ 3 j s t a g) 4 i) (d_A (stA σ 3 j s t a g) 5 i) (d_A (stA σ 3 j s t a g) 6 i)) 7 i ((d_A (stA σ 3 j s t a g) 3 i &&& -3) ||| 64) (d_A (stA σ 3 j s t a g) 4 i) (d_A (stA σ 3 j s t a g) 5 i) (d_A (stA σ 3 j s t a g) 6 i), _)
  rw [e 3, e 4, e 5, e 6]
  have e2 : ∀ {A : Nat → Nat → Int32} {s1 t1 a1 g1 s2 t2 a2 g2 : Int32}, up4 (up4 (up4 A 3 i s1 t1 a1 g1) 7 i s2 t2 a2 g2) 3 j s t a g = up4 (up4 (up4 A 3 j s t a g) 3 i s1 t1 a1 g1) 7 i s2 t2 a2 g2 := by
    intro A s1 t1 a1 g1 s2 t2 a2 g2
    funext k c
    by_cases hc : c = j
    · subst hc
      have h2 : c ≠ i := fun z => h z.symm
      rw [up4_ne (i := i) (b := 7) (A := up4 (up4 A 3 c s t a g) 3 i s1 t1 a1 g1) h2, up4_ne (i := i) (b := 3) (A := up4 A 3 c s t a g) h2]
      exact up4_dep (by rw [up4_ne h2, up4_ne h2])
    · rw [up4_ne hc]
      by_cases hci : c = i
      · subst hci
        unfold up4
        simp [hc]
      · rw [up4_ne hci, up4_ne hci, up4_ne hci, up4_ne hci, up4_ne hc]
  rw [e2]
  rfl
theorem end_beg {t : Int32} {σ : Md} {i j : Nat} (h : i ≠ j) : endM t (begM σ i) j = begM (endM t σ j) i := by
  have h' : j ≠ i := fun z => h z.symm
  have e : ∀ k, d_A (begM σ i) k j = d_A σ k j := fun k => begM_ne h'
  have E : ∀ {τ : Md} {es : List En4}, begM (stE τ es) i = stE (begM τ i) es := fun {τ es} => rfl
  unfold endM
  rw [show g_S (begM σ i) j = g_S σ j by unfold g_S; rw [e 3, e 6], show g_T (begM σ i) j = g_T σ j by unfold g_T; rw [e 3, e 4], show g_G (begM σ i) j = g_G σ j by unfold g_G; rw [e 6], e 3, e 5]
  split
  · split
    · exact begM_A h
    · split
      · split
        · exact begM_A h
        · show stE (stA (begM σ i) 3 j (g_S σ j &&& -9) 0 0 0) (dropE (d_e σ) j) = stE (begM (stA σ 3 j (g_S σ j &&& -9) 0 0 0) i) (dropE (d_e σ) j)
          rw [begM_A h]
      · exact begM_A h
  · rfl
theorem ends_beg {t : Int32} : ∀ (k i j : Nat) (σ : Md), i < j → fdR (endM t) k j (begM σ i) = begM (fdR (endM t) k j σ) i
  | 0, _, _, _, _ => rfl
  | k + 1, i, j, σ, h => by rw [fdR, fdR, end_beg (by omega), ends_beg k i (j + 1) _ (by omega)]
theorem cyc_eq {t : Int32} : ∀ (k i : Nat) (σ : Md), fdR (cycM t) k i σ = fdR begM k i (fdR (endM t) k i σ)
  | 0, _, _ => rfl
  | k + 1, i, σ => by rw [fdR, fdR, fdR, cyc_eq k (i + 1) _, cycM, ends_beg k i (i + 1) _ (by omega)]
theorem RS.cys {R : Int32} {q : Nat} {fa : Nat → Nat → Int32} {s : Nat → Int32} {σ : Md} (h : RS R q fa s σ) (x : Int32) : RS R q fa (upS s 6 x) (stG σ (upG (d_g σ) 2 x)) := by
  obtain ⟨h0, ha, hb, hr, hp, he, hd, ho, h1, h2, h3, h4, h5, h6⟩ := h
  exact ⟨h0, ha, hb, hr, hp, he, hd, ho, h1, h2, h3, rfl, h5, h6⟩
set_option maxHeartbeats 4000000 in
theorem r_cyc204 {G : px_G} {ws0 : va_W} {d m : Nat} {R : Int32} {q : Nat} {aa : Nat → Nat} {ws : va_W} {fa : Nat → Nat → Int32} {s : Nat → Int32} {σ : Md} (hr : RH G ws m aa fa s) (hs : RS R q fa s σ) (hk : px_kp Kc ws0 ws) {t : Int32} {i : Nat} (hi : i < d_n σ) {Q : Option Value → va_W → Prop} {bc bs : Nat} (K : ∀ w, RX G R q ws0 w m aa (begM σ i) → px G m_Rf_cycle 17 [(2, .int (nI (i + 1 + 1))), (0, .ref m), (1, .int t)] [] w (d + 9) bc bs Q) : px G m_Rf_cycle 204 [(2, .int (nI (i + 1))), (0, .ref m), (1, .int t)] [] ws (d + 9) bc bs Q := by
  obtain ⟨k, hkb, h3⟩ := hs.is3 hi
  rw [← stA_id (σ := σ) (i := i)] at hs
  refine p_s rfl rfl ?_
  refine p_s rfl rfl ?_
  refine p_s rfl rfl ?_
  refine p_s rfl rfl ?_
  refine p_callV rfl c_Rf_80 rfl hr.1 g_Rf_set rfl rfl rfl (p_le (by omega) (Nat.le_refl _) (Nat.le_refl _) (r_setX (d := d) (b := 1) hr hs hk hi (by decide) (by decide) stA_B)) (fun v w hq => ?_)
  obtain ⟨rfl, fa, s, hr, hs, hk⟩ := hq
  refine p_s rfl rfl ?_
  refine p_s rfl rfl ?_
  refine p_s rfl rfl ?_
  refine p_s rfl rfl ?_
  refine p_callV rfl c_Rf_80 rfl hr.1 g_Rf_set rfl rfl rfl (p_le (by omega) (Nat.le_refl _) (Nat.le_refl _) (r_setX (d := d) (b := 6) hr hs hk hi (by decide) (by decide) stA_B)) (fun v w hq => ?_)
  obtain ⟨rfl, fa, s, hr, hs, hk⟩ := hq
  rw [h3, vb_k k hkb, ← h3] at hs
  refine p_s rfl rfl ?_
  refine p_s rfl rfl ?_
  refine p_callV rfl c_Rf_92 rfl hr.1 g_Rf_keep rfl rfl rfl (p_le (by omega) (Nat.le_refl _) (Nat.le_refl _) (r_keep (d := d) hr hs hk hi stA_3 stA_4 stA_5 stA_6)) (fun v w hq => ?_)
  obtain ⟨rfl, hq⟩ := hq
  refine p_s rfl rfl ?_
  refine p_goto rfl ?_
  rw [nI_1]
  exact K _ hq
set_option maxHeartbeats 4000000 in
theorem r_cyc_body {G : px_G} {ws0 : va_W} {d m : Nat} {R : Int32} {q : Nat} {aa : Nat → Nat} {ws : va_W} {fa : Nat → Nat → Int32} {s : Nat → Int32} {σ : Md} (hr : RH G ws m aa fa s) (hs : RS R q fa s σ) (hk : px_kp Kc ws0 ws) {t : Int32} {i : Nat} (hi : i < d_n σ) (h5b : bdN (d_A σ 5 i) 0 39) (h6b : bdN (d_A σ 6 i) 0 255) {Q : Option Value → va_W → Prop} {bc bs : Nat} (K : ∀ w, RX G R q ws0 w m aa (endM t σ i) → px G m_Rf_cycle 204 [(2, .int (nI (i + 1))), (0, .ref m), (1, .int t)] [] w (d + 9) bc bs Q) : px G m_Rf_cycle 25 [(2, .int (nI (i + 1))), (0, .ref m), (1, .int t)] [] ws (d + 9) bc bs Q := by
  have hn := hs.1
  obtain ⟨k, hkb, h3⟩ := hs.is3 hi
  obtain ⟨g, -, hg, h6⟩ := h6b
  obtain ⟨ag, -, hag, h5⟩ := h5b
  have hS : isB (d_A σ 3 i) := hs.is3 hi
  have H158 : ∀ (A : Int32) (ws : va_W) (fa : Nat → Nat → Int32) (s : Nat → Int32), RH G ws m aa fa s → RS R q fa s (stA σ 3 i (g_S σ i) (g_T σ i) (A) (g_G σ i)) → px_kp Kc ws0 ws → (¬ A = 40 → endM t σ i = stA σ 3 i (g_S σ i) (g_T σ i) (A) (g_G σ i)) → (A = 40 → endM t σ i = stE (stA σ 3 i (g_S σ i &&& -9) 0 0 0) (dropE (d_e σ) i)) → px G m_Rf_cycle 158 [(2, .int (nI (i + 1))), (0, .ref m), (1, .int t)] [] ws (d + 9) bc bs Q := by
    intro A ws fa s hr hs hk e1 e2
    have hSb : isB (g_S σ i) := by have := hs.is3 (i := i) hi; rw [stA_3] at this; exact this
    obtain ⟨k2, hk2, h32⟩ := hSb
    refine p_s rfl rfl ?_
    refine p_get rfl f_Rf_32 hr.1 rfl ?_
    refine p_s rfl rfl ?_
    refine p_rld rfl hr hs (k := 7) (a := 5) (i := i) (by decide) rfl stA_5 hi rfl ?_
    refine p_s rfl rfl ?_
    refine p_icmp rfl (fun c => ?_) (fun c => ?_)
    · simp only [px_cmp] at c
      exact K ws ⟨fa, s, hr, by rw [e1 c]; exact hs, hk⟩
    · simp only [px_ncmp] at c
      refine p_s rfl rfl ?_
      refine p_s rfl rfl ?_
      refine p_s rfl rfl ?_
      refine p_s rfl rfl ?_
      refine p_callV rfl c_Rf_80 rfl hr.1 g_Rf_set rfl rfl rfl (p_le (by omega) (Nat.le_refl _) (Nat.le_refl _) (r_setX (d := d) (b := 3) hr hs hk hi (by decide) (by decide) stA_B)) (fun v w hq => ?_)
      obtain ⟨rfl, fa, s, hr, hs, hk⟩ := hq
      rw [h32, v3_k k2 hk2, ← h32] at hs
      refine p_s rfl rfl ?_
      refine p_get rfl f_Rf_29 hr.1 rfl ?_
      refine p_s rfl rfl ?_
      refine p_s rfl rfl ?_
      refine p_rst rfl hr hs hk (k := 6) (a := 4) (i := i) (by decide) rfl stA_X4 hi rfl (fun ws fa s hr hs hk => ?_)
      refine p_s rfl rfl ?_
      refine p_get rfl f_Rf_32 hr.1 rfl ?_
      refine p_s rfl rfl ?_
      refine p_s rfl rfl ?_
      refine p_rst rfl hr hs hk (k := 7) (a := 5) (i := i) (by decide) rfl stA_X5 hi rfl (fun ws fa s hr hs hk => ?_)
      refine p_s rfl rfl ?_
      refine p_get rfl f_Rf_35 hr.1 rfl ?_
      refine p_s rfl rfl ?_
      refine p_s rfl rfl ?_
      refine p_rst rfl hr hs hk (k := 8) (a := 6) (i := i) (by decide) rfl stA_X6 hi rfl (fun ws fa s hr hs hk => ?_)
      refine p_s rfl rfl ?_
      refine p_get rfl f_Rf_50 hr.1 rfl ?_
      refine p_s rfl rfl ?_
      refine p_s rfl rfl ?_
      have hs2 := hs.drp (x := i) (by omega)
      refine p_hst (k := 13) (n := 201) rfl hr hk (by decide) (fun _ => rfl) (by decide) rfl rfl (show i + 1 < 201 by omega) (by decide) (fun ws hr hk => ?_)
      exact K ws ⟨_, _, hr, by rw [e2 c]; exact hs2, hk⟩
  have h40 : ¬ d_A σ 5 i = 40 := by rw [h5, show (40 : Int32) = nI 40 from rfl, nI_eq (by omega) (by omega)]; omega
  have a40 : ¬ d_A σ 5 i + 1 = 40 → d_A σ 5 i + 1 < 40 := fun z => by
    rw [h5, nI_1] at z ⊢
    rw [show (40 : Int32) = nI 40 from rfl, nI_eq (by omega) (by omega)] at z
    exact nI_lt (b := 40) (by omega) (by omega)
  have H126 : ∀ (ws : va_W) (fa : Nat → Nat → Int32) (s : Nat → Int32), RH G ws m aa fa s → RS R q fa s (stA σ 3 i (g_S σ i) (g_T σ i) (d_A σ 5 i) (g_G σ i)) → px_kp Kc ws0 ws → (sHas (d_A σ 3 i) 2 = 0 ∧ sHas (d_A σ 3 i) 64 = 0) → px G m_Rf_cycle 126 [(2, .int (nI (i + 1))), (0, .ref m), (1, .int t)] [] ws (d + 9) bc bs Q := by
    intro ws fa s hr hs hk hb
    refine p_s rfl rfl ?_
    refine p_if rfl (fun c => ?_) (fun c => ?_)
    · simp only [px_cmp] at c
      exact H158 (d_A σ 5 i) ws fa s hr hs hk (fun _ => by rw [endM, if_pos hb, if_pos c]) (fun z => absurd z h40)
    · simp only [px_ncmp] at c
      refine p_s rfl rfl ?_
      refine p_s rfl rfl ?_
      refine p_s rfl rfl ?_
      refine p_callV rfl c_Rf_76 rfl hr.1 g_Rf_is rfl rfl rfl (p_le (by omega) (Nat.le_refl _) (Nat.le_refl _) (r_isX (d := d) (b := 3) hr hs hi (by decide) stA_3)) (fun v w hq => ?_)
      obtain ⟨rfl, hw9⟩ := hq
      have hw9 := hw9.symm
      subst hw9
      refine p_if rfl (fun c1 => ?_) (fun c1 => ?_)
      · simp only [px_cmp] at c1
        exact H158 (d_A σ 5 i) ws fa s hr hs hk (fun _ => by rw [endM, if_pos hb, if_neg c, if_neg (fun z => z.1 c1)]) (fun z => absurd z h40)
      · simp only [px_ncmp] at c1
        refine p_s rfl rfl ?_
        refine p_s rfl rfl ?_
        refine p_s rfl rfl ?_
        refine p_callV rfl c_Rf_76 rfl hr.1 g_Rf_is rfl rfl rfl (p_le (by omega) (Nat.le_refl _) (Nat.le_refl _) (r_isX (d := d) (b := 0) hr hs hi (by decide) stA_3)) (fun v w hq => ?_)
        obtain ⟨rfl, hw9⟩ := hq
        have hw9 := hw9.symm
        subst hw9
        refine p_if rfl (fun c2 => ?_) (fun c2 => ?_)
        · simp only [px_cmp] at c2
          exact H158 (d_A σ 5 i) ws fa s hr hs hk (fun _ => by rw [endM, if_pos hb, if_neg c, if_neg (fun z => c2 z.2)]) (fun z => absurd z h40)
        · simp only [px_ncmp] at c2
          refine p_s rfl rfl ?_
          refine p_get rfl f_Rf_32 hr.1 rfl ?_
          refine p_s rfl rfl ?_
          refine p_s rfl rfl ?_
          refine p_rld rfl hr hs (k := 7) (a := 5) (i := i) (by decide) rfl stA_5 hi rfl ?_
          refine p_s rfl rfl ?_
          refine p_s rfl rfl ?_
          refine p_rst rfl hr hs hk (k := 7) (a := 5) (i := i) (by decide) rfl stA_X5 hi rfl (fun ws fa s hr hs hk => ?_)
          exact H158 (d_A σ 5 i + 1) ws fa s hr hs hk (fun z => by rw [endM, if_pos hb, if_neg c, if_pos ⟨c1, c2⟩, if_pos (a40 z)]) (fun z => by rw [endM, if_pos hb, if_neg c, if_pos ⟨c1, c2⟩, if_neg (by rw [z]; decide)])
  have H107 : ∀ (y : Int32) (ws : va_W) (fa : Nat → Nat → Int32) (s : Nat → Int32), y = g_G σ i → RH G ws m aa fa s → RS R q fa s (stA σ 3 i (setB (nI k) 2 0) (g_T σ i) (d_A σ 5 i) (d_A σ 6 i)) → px_kp Kc ws0 ws → (sHas (d_A σ 3 i) 2 = 0 ∧ sHas (d_A σ 3 i) 64 = 0) → px G m_Rf_cycle 107 [(2, .int (nI (i + 1))), (0, .ref m), (1, .int t)] [.int y, .int (nI (i + 1)), .ref (aa 8)] ws (d + 9) bc bs Q := by
    intro y ws fa s hy hr hs hk hb
    subst hy
    have hgg : g_G σ i ≤ 2 ↔ g_G σ i < 3 := by
      unfold g_G
      rw [h6]
      exact g3_k g hg
    refine p_rst rfl hr hs hk (k := 8) (a := 6) (i := i) (by decide) rfl stA_X6 hi rfl (fun ws fa s hr hs hk => ?_)
    refine p_s rfl rfl ?_
    refine p_get rfl f_Rf_35 hr.1 rfl ?_
    refine p_s rfl rfl ?_
    refine p_rld rfl hr hs (k := 8) (a := 6) (i := i) (by decide) rfl stA_6 hi rfl ?_
    refine p_s rfl rfl ?_
    refine p_icmp rfl (fun c => ?_) (fun c => ?_)
    · simp only [px_cmp] at c
      exact H126 ws fa s hr (by rw [show g_S σ i = setB (nI k) 2 0 by unfold g_S sGoodS; rw [if_pos (hgg.mp c), h3, v2_k k hkb]]; exact hs) hk hb
    · simp only [px_ncmp] at c
      refine p_s rfl rfl ?_
      refine p_s rfl rfl ?_
      refine p_s rfl rfl ?_
      refine p_s rfl rfl ?_
      refine p_callV rfl c_Rf_80 rfl hr.1 g_Rf_set rfl rfl rfl (p_le (by omega) (Nat.le_refl _) (Nat.le_refl _) (r_setX (d := d) (b := 7) hr hs hk hi (by decide) (by decide) stA_B)) (fun v w hq => ?_)
      obtain ⟨rfl, fa, s, hr, hs, hk⟩ := hq
      exact H126 _ fa s hr (by rw [show g_S σ i = setB (setB (nI k) 2 0) 7 0 by unfold g_S sGoodS; rw [if_neg (fun z => c (hgg.mpr z)), h3, v7_k k hkb]]; exact hs) hk hb
  have H75 : ∀ (y : Int32) (ws : va_W) (fa : Nat → Nat → Int32) (s : Nat → Int32), y = g_T σ i → RH G ws m aa fa s → RS R q fa s (stA σ 3 i (setB (nI k) 2 0) (d_A σ 4 i) (d_A σ 5 i) (d_A σ 6 i)) → px_kp Kc ws0 ws → (sHas (d_A σ 3 i) 2 = 0 ∧ sHas (d_A σ 3 i) 64 = 0) → px G m_Rf_cycle 75 [(2, .int (nI (i + 1))), (0, .ref m), (1, .int t)] [.int y, .int (nI (i + 1)), .ref (aa 6)] ws (d + 9) bc bs Q := by
    intro y ws fa s hy hr hs hk hb
    subst hy
    refine p_rst rfl hr hs hk (k := 6) (a := 4) (i := i) (by decide) rfl stA_X4 hi rfl (fun ws fa s hr hs hk => ?_)
    refine p_s rfl rfl ?_
    refine p_get rfl f_Rf_35 hr.1 rfl ?_
    refine p_s rfl rfl ?_
    refine p_s rfl rfl ?_
    refine p_get rfl f_Rf_35 hr.1 rfl ?_
    refine p_s rfl rfl ?_
    refine p_rld rfl hr hs (k := 8) (a := 6) (i := i) (by decide) rfl (stA_6.trans h6) hi rfl ?_
    refine p_s rfl rfl ?_
    refine p_icmp rfl (fun c => ?_) (fun c => ?_)
    · simp only [px_cmp] at c
      refine p_s rfl rfl ?_
      exact H107 _ ws fa s (by unfold g_G; rw [h6]; exact hap2 g hg (Int32.not_lt.mpr c)) hr hs hk hb
    · simp only [px_ncmp] at c
      refine p_s rfl rfl ?_
      refine p_get rfl f_Rf_35 hr.1 rfl ?_
      refine p_s rfl rfl ?_
      refine p_rld rfl hr hs (k := 8) (a := 6) (i := i) (by decide) rfl (stA_6.trans h6) hi rfl ?_
      refine p_s rfl rfl ?_
      refine p_s rfl rfl ?_
      refine p_goto rfl ?_
      exact H107 _ ws fa s (by unfold g_G; rw [h6]; exact hap1 g hg (Int32.not_le.mp c)) hr hs hk hb
  refine p_s rfl rfl ?_
  refine p_s rfl rfl ?_
  refine p_s rfl rfl ?_
  refine p_callV rfl c_Rf_76 rfl hr.1 g_Rf_is rfl rfl rfl (p_le (by omega) (Nat.le_refl _) (Nat.le_refl _) (r_isX (d := d) (b := 1) hr hs hi (by decide) rfl)) (fun v w hq => ?_)
  obtain ⟨rfl, hw9⟩ := hq
  have hw9 := hw9.symm
  subst hw9
  refine p_if rfl (fun c => ?_) (fun c => ?_)
  · simp only [px_cmp] at c
    exact K ws ⟨fa, s, hr, by rw [endM, if_neg (fun z => c z.1)]; exact hs, hk⟩
  · simp only [px_ncmp] at c
    refine p_s rfl rfl ?_
    refine p_s rfl rfl ?_
    refine p_s rfl rfl ?_
    refine p_callV rfl c_Rf_76 rfl hr.1 g_Rf_is rfl rfl rfl (p_le (by omega) (Nat.le_refl _) (Nat.le_refl _) (r_isX (d := d) (b := 6) hr hs hi (by decide) rfl)) (fun v w hq => ?_)
    obtain ⟨rfl, hw9⟩ := hq
    have hw9 := hw9.symm
    subst hw9
    refine p_if rfl (fun c1 => ?_) (fun c1 => ?_)
    · simp only [px_cmp] at c1
      exact K ws ⟨fa, s, hr, by rw [endM, if_neg (fun z => c1 z.2)]; exact hs, hk⟩
    · simp only [px_ncmp] at c1
      rw [← stA_id (σ := σ) (i := i)] at hs
      refine p_s rfl rfl ?_
      refine p_s rfl rfl ?_
      refine p_s rfl rfl ?_
      refine p_s rfl rfl ?_
      refine p_callV rfl c_Rf_80 rfl hr.1 g_Rf_set rfl rfl rfl (p_le (by omega) (Nat.le_refl _) (Nat.le_refl _) (r_setX (d := d) (b := 2) hr hs hk hi (by decide) (by decide) stA_B)) (fun v w hq => ?_)
      obtain ⟨rfl, fa, s, hr, hs, hk⟩ := hq
      rw [h3] at hs
      refine p_s rfl rfl ?_
      refine p_get rfl f_Rf_29 hr.1 rfl ?_
      refine p_s rfl rfl ?_
      refine p_s rfl rfl ?_
      refine p_s rfl rfl ?_
      refine p_s rfl rfl ?_
      refine p_callV rfl c_Rf_76 rfl hr.1 g_Rf_is rfl rfl rfl (p_le (by omega) (Nat.le_refl _) (Nat.le_refl _) (r_isX (d := d) (b := 3) hr hs hi (by decide) stA_3)) (fun v w hq => ?_)
      obtain ⟨rfl, hw9⟩ := hq
      have hw9 := hw9.symm
      subst hw9
      refine p_if rfl (fun c2 => ?_) (fun c2 => ?_)
      · simp only [px_cmp] at c2
        refine p_s rfl rfl ?_
        exact H75 _ _ fa s (by unfold g_T sGoodT; rw [h3, ← v2_k k hkb, if_pos (show sHas (setB (nI k) 2 0) 8 = 0 from c2)]) hr hs hk ⟨c, c1⟩
      · simp only [px_ncmp] at c2
        refine p_s rfl rfl ?_
        refine p_get rfl f_Rf_29 hr.1 rfl ?_
        refine p_s rfl rfl ?_
        refine p_rld rfl hr hs (k := 6) (a := 4) (i := i) (by decide) rfl stA_4 hi rfl ?_
        refine p_goto rfl ?_
        exact H75 _ _ fa s (by unfold g_T sGoodT; rw [h3, ← v2_k k hkb, if_neg (show ¬ sHas (setB (nI k) 2 0) 8 = 0 from c2)]) hr hs hk ⟨c, c1⟩
set_option maxHeartbeats 4000000 in
theorem r_cyc_loop {G : px_G} {ws0 : va_W} {d m : Nat} {R : Int32} {q : Nat} {aa : Nat → Nat} {t : Int32} {Q : Option Value → va_W → Prop} {bc bs : Nat} : ∀ (k i : Nat) (ws : va_W) (σ : Md) (x2 : Int32), RX G R q ws0 ws m aa σ → (∀ j, i ≤ j → j < d_n σ → bdN (d_A σ 5 j) 0 39 ∧ bdN (d_A σ 6 j) 0 255) → i + k = d_n σ → x2 = nI (i + 1) → (∀ (w : va_W) (x2 : Int32), RX G R q ws0 w m aa (fdR (cycM t) k i σ) → px G m_Rf_cycle 230 [(2, .int x2), (0, .ref m), (1, .int t)] [] w (d + 9) bc bs Q) → px G m_Rf_cycle 17 [(2, .int x2), (0, .ref m), (1, .int t)] [] ws (d + 9) bc bs Q := by
  intro k
  induction k with
  | zero =>
    intro i ws σ x2 hX hb hik h2 hK
    subst h2
    obtain ⟨fa, s, hr, hs, hk⟩ := hX
    have hn := hs.1
    refine p_s rfl rfl ?_
    refine p_s rfl rfl ?_
    refine p_get rfl f_Rf_73 hr.1 rfl ?_
    rw [hs.s2]
    refine p_icmpT rfl (show nI (d_n σ) < nI (i + 1) from nI_lt (by omega) (by omega)) ?_
    exact hK ws _ ⟨fa, s, hr, hs, hk⟩
  | succ k ih =>
    intro i ws σ x2 hX hb hik h2 hK
    subst h2
    obtain ⟨fa, s, hr, hs, hk⟩ := hX
    have hn := hs.1
    have hi : i < d_n σ := by omega
    refine p_s rfl rfl ?_
    refine p_s rfl rfl ?_
    refine p_get rfl f_Rf_73 hr.1 rfl ?_
    rw [hs.s2]
    refine p_icmpF rfl (show ¬ nI (d_n σ) < nI (i + 1) from nI_nlt (by omega) (by omega)) ?_
    refine r_cyc_body hr hs hk hi (hb i (Nat.le_refl _) hi).1 (hb i (Nat.le_refl _) hi).2 (fun w hX2 => ?_)
    obtain ⟨fa, s, hr, hs, hk⟩ := hX2
    refine r_cyc204 hr hs hk (by rw [endM_n]; exact hi) (fun w hX3 => ?_)
    exact ih (i + 1) w (cycM t σ i) _ hX3 (fun j h1 h2 => by rw [cycM_ne (by omega), cycM_ne (by omega)]; rw [cycM_n] at h2; exact hb j (by omega) h2) (by rw [cycM_n]; omega) rfl hK
set_option maxHeartbeats 4000000 in
theorem r_cycleC {G : px_G} {d m : Nat} {R : Int32} {q : Nat} {aa : Nat → Nat} {ws : va_W} {fa : Nat → Nat → Int32} {s : Nat → Int32} {σ : Md} (hr : RH G ws m aa fa s) (hs : RS R q fa s σ) {t : Int32} (hp : d_g σ 1 = 0) : px G m_Rf_cycle 0 (lv_args 0 [.ref m, .int t]) [] ws (d + 10) 0 0 (OPr G R q m aa ws (-3) (σ)) := by
  have hk : px_kp Kc ws ws := px_kp.rf
  refine p_s rfl rfl ?_
  refine p_s rfl rfl ?_
  refine p_rput (k := 0) rfl fp_Rf_70 hr hk rfl rfl (by decide) rfl hs.cod (fun ws s hr hs hk => ?_)
  refine p_s rfl rfl ?_
  refine p_get rfl f_Rf_84 hr.1 rfl ?_
  rw [hs.cutT hp]
  refine p_ifF rfl (show ¬ (1 : Int32) = 0 by decide) ?_
  refine p_s rfl rfl ?_
  exact p_iret rfl rfl rfl ⟨rfl, fa, s, hr, hs, hk⟩
set_option maxHeartbeats 4000000 in
theorem r_cycle {G : px_G} {d m : Nat} {R : Int32} {q : Nat} {aa : Nat → Nat} {ws : va_W} {fa : Nat → Nat → Int32} {s : Nat → Int32} {σ : Md} (hr : RH G ws m aa fa s) (hs : RS R q fa s σ) {t : Int32} (hI : Iv σ) (hp : ¬ d_g σ 1 = 0) : px G m_Rf_cycle 0 (lv_args 0 [.ref m, .int t]) [] ws (d + 10) 0 0 (OPr G R q m aa ws (d_g (cycF t σ) 2) (cycF t σ)) := by
  have hk : px_kp Kc ws ws := px_kp.rf
  refine p_s rfl rfl ?_
  refine p_s rfl rfl ?_
  refine p_rput (k := 0) rfl fp_Rf_70 hr hk rfl rfl (by decide) rfl hs.cod (fun ws s hr hs hk => ?_)
  refine p_s rfl rfl ?_
  refine p_get rfl f_Rf_84 hr.1 rfl ?_
  rw [hs.cutF hp]
  refine p_ifT rfl (show (0 : Int32) = 0 from rfl) ?_
  refine p_s rfl rfl ?_
  refine p_s rfl rfl ?_
  refine p_le (d := d + 9) (by omega) (Nat.le_refl _) (Nat.le_refl _) (r_cyc_loop (d_n σ) 0 ws σ _ ⟨fa, s, hr, hs, hk⟩ (fun j _ hj => ⟨(hI.2.2.2 j hj).2.2.2.1.2.1, (hI.2.2.2 j hj).2.2.2.1.2.2⟩) (by omega) rfl (fun ws x2 hX => ?_))
  clear hr hs hk
  rw [cyc_eq] at hX
  obtain ⟨fa, s, hr, hs, hk⟩ := hX
  refine p_s rfl rfl ?_
  refine p_s rfl rfl ?_
  refine p_get rfl f_Rf_95 hr.1 rfl ?_
  rw [hs.s6]
  refine p_s rfl rfl ?_
  refine p_s rfl rfl ?_
  refine p_rput (k := 6) rfl fp_Rf_95 hr hk rfl rfl (by decide) rfl (hs.cys (d_g (cycB t σ) 2 + 1)) (fun ws s hr hs hk => ?_)
  refine p_s rfl rfl ?_
  refine p_get rfl f_Rf_95 hr.1 rfl ?_
  rw [hs.s6]
  exact p_iret rfl rfl rfl ⟨rfl, fa, s, hr, hs, hk⟩
