/-! THE REFERENCE: start, code -/
theorem RS.pow {R : Int32} {q : Nat} {fa : Nat → Nat → Int32} {s : Nat → Int32} {σ : Md} (h : RS R q fa s σ) : RS R q fa (upS s 5 0) (stG σ (upG (d_g σ) 1 1)) := by
  obtain ⟨h0, ha, hb, hr, hp, he, hd, ho, h1, h2, h3, h4, h5, h6⟩ := h
  exact ⟨h0, ha, hb, hr, hp, he, hd, ho, h1, h2, rfl, h4, h5, Or.inr rfl⟩
theorem upG_c (g : Nat → Int32) : upG (upG g 1 1) 0 (-1) = upG (upG g 0 (-1)) 1 1 := by
  funext k
  unfold upG
  by_cases h0 : k = 0
  · rw [if_pos h0, if_neg (by omega), if_pos h0]
  · rw [if_neg h0, if_neg h0]
theorem str_eq {σ : Md} {i : Nat} {s t a g : Int32} : stX (stX (stX (stX σ 3 i s) 4 i t) 5 i a) 6 i g = stA σ 3 i s t a g := by
  have e : up1 (up1 (up1 (up1 (d_A σ) 3 i s) 4 i t) 5 i a) 6 i g = up4 (d_A σ) 3 i s t a g := by
    funext k j
    unfold up1 up4
    (repeat' split) <;> first | rfl | (exfalso; omega)
  show (_, up1 _ _ _ _, _) = (_, up4 _ _ _ _ _ _ _, _)
  rw [e]
theorem startM_n (σ : Md) (i : Nat) : d_n (startM σ i) = d_n σ := rfl
theorem start_g (g : Nat → Int32) : ∀ (k i : Nat) (σ : Md), fdR startM k i (stG σ g) = stG (fdR startM k i σ) g
  | 0, _, _ => rfl
  | k + 1, i, σ => start_g g k (i + 1) (startM σ i)
theorem start_dg : ∀ (k i : Nat) (σ : Md), d_g (fdR startM k i σ) = d_g σ
  | 0, _, _ => rfl
  | k + 1, i, σ => start_dg k (i + 1) (startM σ i)
theorem startF_eq (σ : Md) : fdR startM (d_n σ) 0 (stG (stG σ (upG (d_g σ) 1 1)) (upG (d_g (stG σ (upG (d_g σ) 1 1))) 0 (-1))) = startF σ := by
  show fdR startM (d_n σ) 0 (stG σ (upG (upG (d_g σ) 1 1) 0 (-1))) = _
  rw [start_g, upG_c]
  show _ = stG (fdR startM (d_n σ) 0 σ) (upG (upG (d_g (fdR startM (d_n σ) 0 σ)) 0 (-1)) 1 1)
  rw [start_dg]
theorem start_n : ∀ (k i : Nat) (σ : Md), d_n (fdR startM k i σ) = d_n σ
  | 0, _, _ => rfl
  | k + 1, i, σ => start_n k (i + 1) (startM σ i)
set_option maxHeartbeats 4000000 in
theorem r_on_loop {G : px_G} {ws0 : va_W} {d m : Nat} {aa : Nat → Nat} {s : Nat → Int32} {fa0 : Nat → Nat → Int32} {Q : Option Value → va_W → Prop} {bc bs : Nat} : ∀ (k j : Nat) (ws : va_W) (fa : Nat → Nat → Int32) (x1 : Int32), RH G ws m aa fa s → px_kp Kc ws0 ws → (∀ c, c ≠ 17 → fa c = fa0 c) → (∀ i, i < j → fa 17 i = 0) → j + k = 32 → x1 = nI j → (∀ (w : va_W) (fa : Nat → Nat → Int32) (x1 : Int32), RH G w m aa fa s → px_kp Kc ws0 w → (∀ c, c ≠ 17 → fa c = fa0 c) → (∀ i, i < 32 → fa 17 i = 0) → px G m_Rf_start 41 [(1, .int x1), (0, .ref m)] [] w d bc bs Q) → px G m_Rf_start 22 [(1, .int x1), (0, .ref m)] [] ws d bc bs Q := by
  intro k
  induction k with
  | zero =>
    intro j ws fa x1 hr hk hf hz hjk h1 hK
    subst h1
    have hj : j = 32 := by omega
    subst hj
    refine p_s rfl rfl ?_
    refine p_s rfl rfl ?_
    refine p_icmpT rfl (show (32 : Int32) ≤ nI 32 by decide) ?_
    exact hK _ fa _ hr hk hf hz
  | succ k ih =>
    intro j ws fa x1 hr hk hf hz hjk h1 hK
    subst h1
    have hj : j < 32 := by omega
    have hr2 := hr.put (k := 17) (i := j) (v := 0) (by decide) (fun _ => by decide)
    have hk2 := hk.tr (hr.kp (k := 17) (e := rcell G 17 (upd (fa 17) j 0)) (by decide))
    refine p_s rfl rfl ?_
    refine p_s rfl rfl ?_
    refine p_icmpF rfl (show ¬ (32 : Int32) ≤ nI j by rw [show (32 : Int32) = nI 32 from rfl, nI_leI (by decide) (by omega)]; omega) ?_
    refine p_s rfl rfl ?_
    refine p_get rfl f_Rf_62 hr.1 rfl ?_
    refine p_s rfl rfl ?_
    refine p_s rfl rfl ?_
    refine p_zastS rfl (hr.2.1 17 (by decide)) rfl hj (by decide) (by decide) ?_
    refine p_s rfl rfl ?_
    refine p_goto rfl ?_
    exact ih (j + 1) _ (upF fa 17 j 0) _ hr2 hk2 (fun c hc => (upF_ne hc).trans (hf c hc)) (fun i hi => by
      rw [upF_at]
      by_cases hij : i = j
      · rw [if_pos hij]
      · rw [if_neg hij]
        exact hz i (by omega)) (by omega) (nI_1 j) hK
set_option maxHeartbeats 4000000 in
theorem r_rst_loop {G : px_G} {ws0 : va_W} {d m : Nat} {R : Int32} {q : Nat} {aa : Nat → Nat} {σ : Md} {i : Nat} (hi : i < d_n σ) {Q : Option Value → va_W → Prop} {bc bs : Nat} : ∀ (k b : Nat) (ws : va_W) (x2 : Int32), b + k = 8 → x2 = nI b → RX G R q ws0 ws m aa (stX σ 3 i (kpB (d_A σ 7 i) (d_A σ 3 i) b)) → (∀ (w : va_W) (x2 : Int32), RX G R q ws0 w m aa (stX σ 3 i (kpB (d_A σ 7 i) (d_A σ 3 i) 8)) → px G m_Rf_start 82 [(2, .int x2), (1, .int (nI (i + 1))), (0, .ref m)] [] w (d + 1) bc bs Q) → px G m_Rf_start 53 [(2, .int x2), (1, .int (nI (i + 1))), (0, .ref m)] [] ws (d + 1) bc bs Q := by
  intro k
  induction k with
  | zero =>
    intro b ws x2 hbk h2 hX hK
    subst h2
    have hb : b = 8 := by omega
    subst hb
    refine p_s rfl rfl ?_
    refine p_s rfl rfl ?_
    refine p_icmpT rfl (show (8 : Int32) ≤ nI 8 by decide) ?_
    exact hK _ _ hX
  | succ k ih =>
    intro b ws x2 hbk h2 hX hK
    subst h2
    have hb : b < 8 := by omega
    obtain ⟨fa, s, hr, hs, hk⟩ := hX
    have hn := hs.1
    have hn : d_n σ ≤ 200 := hn
    have e7 : fa 9 (8 * (i + 1) + b) = sHas (d_A σ 7 i) (pw b) := by
      rw [(hs.2.2.1 i hi b hb).2, stX_o (by decide)]
    refine p_s rfl rfl ?_
    refine p_s rfl rfl ?_
    refine p_icmpF rfl (show ¬ (8 : Int32) ≤ nI b by rw [show (8 : Int32) = nI 8 from rfl, nI_leI (by decide) (by omega)]; omega) ?_
    refine p_s rfl rfl ?_
    refine p_s rfl rfl ?_
    refine p_s rfl rfl ?_
    refine p_s rfl rfl ?_
    refine p_get rfl f_Rf_38 hr.1 rfl ?_
    refine p_s rfl rfl ?_
    refine p_s rfl rfl ?_
    refine p_s rfl rfl ?_
    refine p_s rfl rfl ?_
    refine p_s rfl rfl ?_
    refine p_zaldS rfl (hr.2.1 9 (by decide)) (ix8 (i + 1) b) (by omega) (by decide) ?_
    rw [e7]
    refine p_callV rfl c_Rf_80 rfl hr.1 g_Rf_set rfl rfl rfl (p_le (by omega) (Nat.le_refl _) (Nat.le_refl _) (r_setX (d := d) (b := b) hr hs hk hi hb (sHas_z _ _) (by rw [stX_s, stX_X]))) (fun v w hq => ?_)
    obtain ⟨rfl, hq⟩ := hq
    refine p_s rfl rfl ?_
    refine p_goto rfl ?_
    exact ih (b + 1) _ _ (by omega) (nI_1 b) (by rw [kpB]; exact hq) hK
set_option maxHeartbeats 4000000 in
theorem r_start_loop {G : px_G} {ws0 : va_W} {d m : Nat} {R : Int32} {q : Nat} {aa : Nat → Nat} {Q : Option Value → va_W → Prop} {bc bs : Nat} : ∀ (k i : Nat) (ws : va_W) (σ : Md) (x1 : Int32), RX G R q ws0 ws m aa σ → i + k = d_n σ → x1 = nI (i + 1) → (∀ (w : va_W) (x1 : Int32), RX G R q ws0 w m aa (fdR startM k i σ) → px G m_Rf_start 131 [(1, .int x1), (0, .ref m)] [] w (d + 9) bc bs Q) → px G m_Rf_start 43 [(1, .int x1), (0, .ref m)] [] ws (d + 9) bc bs Q := by
  intro k
  induction k with
  | zero =>
    intro i ws σ x1 hX hik h1 hK
    subst h1
    obtain ⟨fa, s, hr, hs, hk⟩ := hX
    have hn := hs.1
    refine p_s rfl rfl ?_
    refine p_s rfl rfl ?_
    refine p_get rfl f_Rf_73 hr.1 rfl ?_
    rw [hs.s2]
    refine p_icmpT rfl (show nI (d_n σ) < nI (i + 1) from nI_lt (by omega) (by omega)) ?_
    exact hK ws _ ⟨fa, s, hr, hs, hk⟩
  | succ k ih =>
    intro i ws σ x1 hX hik h1 hK
    subst h1
    obtain ⟨fa, s, hr, hs, hk⟩ := hX
    have hn := hs.1
    have hi : i < d_n σ := by omega
    refine p_s rfl rfl ?_
    refine p_s rfl rfl ?_
    refine p_get rfl f_Rf_73 hr.1 rfl ?_
    rw [hs.s2]
    refine p_icmpF rfl (show ¬ nI (d_n σ) < nI (i + 1) from nI_nlt (by omega) (by omega)) ?_
    refine p_s rfl rfl ?_
    refine p_s rfl rfl ?_
    refine r_rst_loop (d := d + 8) hi 8 0 ws _ (by omega) rfl ⟨fa, s, hr, by rw [kpB, stX_id]; exact hs, hk⟩ (fun ws x2 hX => ?_)
    rw [kpB_8 (hs.is7 hi) (hs.is3 hi)] at hX
    clear hr hs hk
    obtain ⟨fa, s, hr, hs, hk⟩ := hX
    refine p_s rfl rfl ?_
    refine p_get rfl f_Rf_29 hr.1 rfl ?_
    refine p_s rfl rfl ?_
    refine p_s rfl rfl ?_
    refine p_get rfl f_Rf_41 hr.1 rfl ?_
    refine p_s rfl rfl ?_
    refine p_rld rfl hr hs (k := 10) (a := 8) (i := i) (by decide) rfl (stX_o (by decide)) hi rfl ?_
    refine p_rst rfl hr hs hk (k := 6) (a := 4) (i := i) (by decide) rfl rfl hi rfl (fun ws fa s hr hs hk => ?_)
    refine p_s rfl rfl ?_
    refine p_get rfl f_Rf_32 hr.1 rfl ?_
    refine p_s rfl rfl ?_
    refine p_s rfl rfl ?_
    refine p_get rfl f_Rf_44 hr.1 rfl ?_
    refine p_s rfl rfl ?_
    refine p_rld rfl hr hs (k := 11) (a := 9) (i := i) (by decide) rfl ((stX_o (by decide)).trans (stX_o (by decide))) hi rfl ?_
    refine p_rst rfl hr hs hk (k := 7) (a := 5) (i := i) (by decide) rfl rfl hi rfl (fun ws fa s hr hs hk => ?_)
    refine p_s rfl rfl ?_
    refine p_get rfl f_Rf_35 hr.1 rfl ?_
    refine p_s rfl rfl ?_
    refine p_s rfl rfl ?_
    refine p_get rfl f_Rf_47 hr.1 rfl ?_
    refine p_s rfl rfl ?_
    refine p_rld rfl hr hs (k := 12) (a := 10) (i := i) (by decide) rfl ((stX_o (by decide)).trans ((stX_o (by decide)).trans (stX_o (by decide)))) hi rfl ?_
    refine p_rst rfl hr hs hk (k := 8) (a := 6) (i := i) (by decide) rfl rfl hi rfl (fun ws fa s hr hs hk => ?_)
    rw [str_eq] at hs
    refine p_s rfl rfl ?_
    refine p_get rfl f_Rf_22 hr.1 rfl ?_
    refine p_s rfl rfl ?_
    refine p_s rfl rfl ?_
    refine p_rst rfl hr hs hk (k := 4) (a := 11) (i := i) (by decide) rfl rfl hi rfl (fun ws fa s hr hs hk => ?_)
    refine p_s rfl rfl ?_
    refine p_goto rfl ?_
    refine p_lv (lv2 := [(1, .int (nI (i + 1) + 1)), (0, .ref m)]) (ks := [0, 2]) rfl ?_
    exact ih (i + 1) ws (startM σ i) _ ⟨fa, s, hr, hs, hk⟩ (by show i + 1 + k = d_n σ; omega) (nI_1 _) hK
set_option maxHeartbeats 4000000 in
theorem r_startC {G : px_G} {d m : Nat} {R : Int32} {q : Nat} {aa : Nat → Nat} {ws : va_W} {fa : Nat → Nat → Int32} {s : Nat → Int32} {σ : Md} (hr : RH G ws m aa fa s) (hs : RS R q fa s σ) (hp : ¬ d_g σ 1 = 0) : px G m_Rf_start 0 (lv_args 0 [.ref m]) [] ws (d + 10) 0 0 (OPr G R q m aa ws (-3) (σ)) := by
  have hk : px_kp Kc ws ws := px_kp.rf
  refine p_s rfl rfl ?_
  refine p_s rfl rfl ?_
  refine p_rput (k := 0) rfl fp_Rf_70 hr hk rfl rfl (by decide) rfl hs.cod (fun ws s hr hs hk => ?_)
  refine p_s rfl rfl ?_
  refine p_get rfl f_Rf_84 hr.1 rfl ?_
  rw [hs.cutF hp]
  refine p_ifF rfl (show (0 : Int32) = 0 from rfl) ?_
  refine p_s rfl rfl ?_
  exact p_iret rfl rfl rfl ⟨rfl, fa, s, hr, hs, hk⟩
set_option maxHeartbeats 4000000 in
theorem r_start {G : px_G} {d m : Nat} {R : Int32} {q : Nat} {aa : Nat → Nat} {ws : va_W} {fa : Nat → Nat → Int32} {s : Nat → Int32} {σ : Md} (hr : RH G ws m aa fa s) (hs : RS R q fa s σ) (hq : q < 100000) (hd : (e_c σ).Nodup) (hl : ∀ x ∈ e_c σ, x < d_n σ) (hp : d_g σ 1 = 0) : px G m_Rf_start 0 (lv_args 0 [.ref m]) [] ws (d + 10) 0 0 (OPr G R q m aa ws (nI (e_c σ).length) (startF σ)) := by
  have hk : px_kp Kc ws ws := px_kp.rf
  refine p_s rfl rfl ?_
  refine p_s rfl rfl ?_
  refine p_rput (k := 0) rfl fp_Rf_70 hr hk rfl rfl (by decide) rfl hs.cod (fun ws s hr hs hk => ?_)
  refine p_s rfl rfl ?_
  refine p_get rfl f_Rf_84 hr.1 rfl ?_
  rw [hs.cutT hp]
  refine p_ifT rfl (show ¬ (1 : Int32) = 0 by decide) ?_
  refine p_s rfl rfl ?_
  refine p_s rfl rfl ?_
  refine p_rput (k := 5) rfl fp_Rf_84 hr hk rfl rfl (by decide) rfl hs.pow (fun ws s hr hs hk => ?_)
  refine p_s rfl rfl ?_
  refine p_s rfl rfl ?_
  refine r_on_loop (fa0 := fa) 32 0 ws fa _ hr hk (fun c hc => rfl) (fun i hi => absurd hi (by omega)) (by omega) rfl (fun ws fa2 x1 hr hk hf hz => ?_)
  have hs := hs.onn (x := -1) hf (fun j hj => by rw [hz j hj, if_neg (bit_all j hj)])
  refine p_s rfl rfl ?_
  refine p_s rfl rfl ?_
  refine p_le (d := d + 9) (by omega) (Nat.le_refl _) (Nat.le_refl _) (r_start_loop (d_n σ) 0 ws _ _ ⟨_, _, hr, hs, hk⟩ (by show 0 + d_n σ = d_n σ; omega) rfl (fun ws x1 hX => ?_))
  rw [startF_eq] at hX
  clear hr hs hk
  obtain ⟨fa, s, hr, hs, hk⟩ := hX
  have ee : e_c (startF σ) = e_c σ := fdR_start_e _ _ _
  have en : d_n (startF σ) = d_n σ := start_n _ _ _
  have hent := r_entriesX (d := d) hr hs hq (by rw [ee]; exact hd) (by rw [ee, en]; exact hl)
  rw [ee] at hent
  refine p_s rfl rfl ?_
  refine p_callV rfl c_Rf_109 rfl hr.1 g_Rf_entries rfl rfl rfl (p_le (by omega) (Nat.le_refl _) (Nat.le_refl _) hent) (fun v w hq => ?_)
  obtain ⟨rfl, hw9⟩ := hq
  have hw9 := hw9.symm
  subst hw9
  exact p_iret rfl rfl rfl ⟨rfl, fa, s, hr, hs, hk⟩
def mkB (f : Nat → Int32) : Nat → Int32
  | 0 => 0
  | b + 1 => setB (mkB f b) b (f b)
theorem mkB_is {f : Nat → Int32} (hf : ∀ b, isZ (f b)) : ∀ b, b ≤ 8 → isB (mkB f b)
  | 0, _ => ⟨0, by decide, rfl⟩
  | b + 1, h => setB_is (mkB_is hf b (by omega)) (hf b) (by omega)
theorem mkB_has {f : Nat → Int32} (hf : ∀ b, isZ (f b)) : ∀ b, b ≤ 8 → ∀ c, c < b → sHas (mkB f b) (pw c) = f c
  | 0, _, c, h => absurd h (by omega)
  | b + 1, h, c, hc => by
    rw [mkB, setB_has (mkB_is hf b (by omega)) (hf b) (by omega) (by omega)]
    by_cases h1 : c = b
    · rw [if_pos h1, h1]
    · rw [if_neg h1]
      exact mkB_has hf b (by omega) c (by omega)
def gro (fa : Nat → Nat → Int32) (n k : Nat) : Int32 := match k with
  | 0 => fa 0 (n + 1)
  | 1 => fa 1 (n + 1)
  | 2 => fa 2 (n + 1)
  | 3 => mkB (fun b => fa 5 (8 * (n + 1) + b)) 8
  | 4 => fa 6 (n + 1)
  | 5 => fa 7 (n + 1)
  | 6 => fa 8 (n + 1)
  | 7 => mkB (fun b => fa 9 (8 * (n + 1) + b)) 8
  | 8 => fa 10 (n + 1)
  | 9 => fa 11 (n + 1)
  | 10 => fa 12 (n + 1)
  | 11 => fa 4 (n + 1)
  | _ => 0
def groA (fa : Nat → Nat → Int32) (A : Nat → Nat → Int32) (n : Nat) : Nat → Nat → Int32 := fun k j => if j = n then gro fa n k else A k j
abbrev groM (fa : Nat → Nat → Int32) (σ : Md) : Md := (d_n σ + 1, groA fa (d_A σ) (d_n σ), (fun j => if j = d_n σ then 0 else d_p σ j), d_e σ, d_d σ, d_g σ)
theorem gro_at {fa : Nat → Nat → Int32} {n k : Nat} (h : isAt k) : fa k (n + 1) = gro fa n (att k) := by
  rcases h with rfl | rfl | rfl | rfl | rfl | rfl | rfl | rfl | rfl | rfl <;> rfl
theorem groA_s {fa A : Nat → Nat → Int32} {n k : Nat} : groA fa A n k n = gro fa n k := if_pos rfl
theorem groA_n {fa A : Nat → Nat → Int32} {n k j : Nat} (h : j ≠ n) : groA fa A n k j = A k j := if_neg h
theorem RS.grow {R : Int32} {q : Nat} {fa : Nat → Nat → Int32} {s : Nat → Int32} {σ : Md} (h : RS R q fa s σ) (hn : d_n σ < 200) (z5 : ∀ j, isZ (fa 5 j)) (z9 : ∀ j, isZ (fa 9 j)) : RS R q fa (upS s 2 (nI (d_n σ + 1))) (groM fa σ) := by
  obtain ⟨h0, ha, hb, hr, ⟨hp1, hp2⟩, he, hd, ho, h1, h2, h3, h4, h5, h6⟩ := h
  refine ⟨hn, fun k hk i hi => ?_, fun i hi b hb8 => ?_, fun i hi => ?_, ⟨fun i hi => ?_, fun i hi hi2 => hp2 i (by have hi : d_n σ + 1 ≤ i := hi; omega) hi2⟩, he, hd, ho, h1, rfl, h3, h4, h5, h6⟩
  · have hi : i < d_n σ + 1 := hi
    show _ = groA fa (d_A σ) (d_n σ) (att k) i
    by_cases hin : i = d_n σ
    · subst hin
      rw [groA_s]
      exact gro_at hk
    · rw [groA_n hin]
      exact ha k hk i (by omega)
  · have hi : i < d_n σ + 1 := hi
    show _ = sHas (groA fa (d_A σ) (d_n σ) 3 i) (pw b) ∧ _ = sHas (groA fa (d_A σ) (d_n σ) 7 i) (pw b)
    by_cases hin : i = d_n σ
    · subst hin
      rw [groA_s, groA_s]
      exact ⟨(mkB_has (fun b => z5 _) 8 (by omega) b hb8).symm, (mkB_has (fun b => z9 _) 8 (by omega) b hb8).symm⟩
    · rw [groA_n hin, groA_n hin]
      exact hb i (by omega) b hb8
  · have hi : i < d_n σ + 1 := hi
    show isB (groA fa (d_A σ) (d_n σ) 3 i) ∧ isB (groA fa (d_A σ) (d_n σ) 7 i)
    by_cases hin : i = d_n σ
    · subst hin
      rw [groA_s, groA_s]
      exact ⟨mkB_is (fun b => z5 _) 8 (by omega), mkB_is (fun b => z9 _) 8 (by omega)⟩
    · rw [groA_n hin, groA_n hin]
      exact hr i (by omega)
  · have hi : i < d_n σ + 1 := hi
    show _ = nI (if i = d_n σ then 0 else d_p σ i)
    by_cases hin : i = d_n σ
    · rw [if_pos hin, hin]
      exact hp2 _ (Nat.le_refl _) hn
    · rw [if_neg hin]
      exact hp1 i (by omega)
theorem code_A {fa A : Nat → Nat → Int32} {n : Nat} {p u v : Int32} : up4 (up1 (up4 (up1 (up1 (up1 (groA fa A n) 0 n p) 1 n u) 2 n v) 3 n 80 0 0 0) 11 n 0) 7 n 80 0 0 0 = newA A n p u v := by
  funext k j
  by_cases hj : j = n
  · subst hj
    by_cases h0 : k < 12
    · rcases (show k = 0 ∨ k = 1 ∨ k = 2 ∨ k = 3 ∨ k = 4 ∨ k = 5 ∨ k = 6 ∨ k = 7 ∨ k = 8 ∨ k = 9 ∨ k = 10 ∨ k = 11 by omega) with rfl | rfl | rfl | rfl | rfl | rfl | rfl | rfl | rfl | rfl | rfl | rfl <;> simp [up4, up1, newA]
    · obtain ⟨k2, rfl⟩ : ∃ k2, k = k2 + 12 := ⟨k - 12, by omega⟩
      rw [up4_out (by omega), up1_ne (Or.inl (by omega)), up4_out (by omega), up1_ne (Or.inl (by omega)), up1_ne (Or.inl (by omega)), up1_ne (Or.inl (by omega)), groA_s]
      show (0 : Int32) = newA A j p u v (k2 + 12) j
      unfold newA
      rw [if_pos rfl, if_neg (by omega), if_neg (by omega), if_neg (by omega), if_neg (by omega), if_neg (by omega)]
  · rw [up4_ne hj, up1_ne (Or.inr hj), up4_ne hj, up1_ne (Or.inr hj), up1_ne (Or.inr hj), up1_ne (Or.inr hj), groA_n hj, newA_ne hj]
theorem code_eq {fa : Nat → Nat → Int32} {σ : Md} {p u v : Int32} : stA (stX (stA (stX (stX (stX (groM fa σ) 0 (d_n σ) p) 1 (d_n σ) u) 2 (d_n σ) v) 3 (d_n σ) 80 0 0 0) 11 (d_n σ) 0) 7 (d_n σ) 80 0 0 0 = codeM σ p u v := by
  show (d_n σ + 1, up4 (up1 (up4 (up1 (up1 (up1 (groA fa (d_A σ) (d_n σ)) 0 (d_n σ) p) 1 (d_n σ) u) 2 (d_n σ) v) 3 (d_n σ) 80 0 0 0) 11 (d_n σ) 0) 7 (d_n σ) 80 0 0 0, _) = (d_n σ + 1, newA _ _ _ _ _, _)
  rw [code_A]
set_option maxHeartbeats 4000000 in
theorem r_codeP {G : px_G} {d m : Nat} {R : Int32} {q : Nat} {aa : Nat → Nat} {ws : va_W} {fa : Nat → Nat → Int32} {s : Nat → Int32} {σ : Md} (hr : RH G ws m aa fa s) (hs : RS R q fa s σ) {p u v : Int32} (hx : isw p 1 255 = 0) : px G m_Rf_code 0 (lv_args 0 [.ref m, .int p, .int u, .int v]) [] ws (d + 10) 0 0 (OPr G R q m aa ws (-2) (σ)) := by
  have hk : px_kp Kc ws ws := px_kp.rf
  refine p_s rfl rfl ?_
  refine p_s rfl rfl ?_
  refine p_rput (k := 0) rfl fp_Rf_70 hr hk rfl rfl (by decide) rfl hs.cod (fun ws s hr hs hk => ?_)
  refine p_s rfl rfl ?_
  refine p_s rfl rfl ?_
  refine p_icmp rfl (fun c => ?_) (fun c => ?_)
  · simp only [px_cmp] at c
    refine p_s rfl rfl ?_
    exact p_iret rfl rfl rfl ⟨rfl, fa, s, hr, hs, hk⟩
  · simp only [px_ncmp] at c
    refine p_s rfl rfl ?_
    refine p_s rfl rfl ?_
    refine p_icmpT rfl ((isw0 hx).resolve_left c) ?_
    refine p_s rfl rfl ?_
    exact p_iret rfl rfl rfl ⟨rfl, fa, s, hr, hs, hk⟩
set_option maxHeartbeats 4000000 in
theorem r_codeU {G : px_G} {d m : Nat} {R : Int32} {q : Nat} {aa : Nat → Nat} {ws : va_W} {fa : Nat → Nat → Int32} {s : Nat → Int32} {σ : Md} (hr : RH G ws m aa fa s) (hs : RS R q fa s σ) {p u v : Int32} (hx : ¬ isw p 1 255 = 0) (hu : isw u 1 127 = 0) : px G m_Rf_code 0 (lv_args 0 [.ref m, .int p, .int u, .int v]) [] ws (d + 10) 0 0 (OPr G R q m aa ws (-2) (σ)) := by
  have hk : px_kp Kc ws ws := px_kp.rf
  refine p_s rfl rfl ?_
  refine p_s rfl rfl ?_
  refine p_rput (k := 0) rfl fp_Rf_70 hr hk rfl rfl (by decide) rfl hs.cod (fun ws s hr hs hk => ?_)
  refine p_s rfl rfl ?_
  refine p_s rfl rfl ?_
  refine p_icmpF rfl (isw1 hx).1 ?_
  refine p_s rfl rfl ?_
  refine p_s rfl rfl ?_
  refine p_icmpF rfl (Int32.not_lt.mpr (isw1 hx).2) ?_
  refine p_s rfl rfl ?_
  refine p_s rfl rfl ?_
  refine p_icmp rfl (fun c => ?_) (fun c => ?_)
  · simp only [px_cmp] at c
    refine p_s rfl rfl ?_
    exact p_iret rfl rfl rfl ⟨rfl, fa, s, hr, hs, hk⟩
  · simp only [px_ncmp] at c
    refine p_s rfl rfl ?_
    refine p_s rfl rfl ?_
    refine p_icmpT rfl ((isw0 hu).resolve_left c) ?_
    refine p_s rfl rfl ?_
    exact p_iret rfl rfl rfl ⟨rfl, fa, s, hr, hs, hk⟩
set_option maxHeartbeats 4000000 in
theorem r_codeV {G : px_G} {d m : Nat} {R : Int32} {q : Nat} {aa : Nat → Nat} {ws : va_W} {fa : Nat → Nat → Int32} {s : Nat → Int32} {σ : Md} (hr : RH G ws m aa fa s) (hs : RS R q fa s σ) {p u v : Int32} (hx : ¬ isw p 1 255 = 0) (hu : ¬ isw u 1 127 = 0) (hv : isw v 1 127 = 0) : px G m_Rf_code 0 (lv_args 0 [.ref m, .int p, .int u, .int v]) [] ws (d + 10) 0 0 (OPr G R q m aa ws (-2) (σ)) := by
  have hk : px_kp Kc ws ws := px_kp.rf
  refine p_s rfl rfl ?_
  refine p_s rfl rfl ?_
  refine p_rput (k := 0) rfl fp_Rf_70 hr hk rfl rfl (by decide) rfl hs.cod (fun ws s hr hs hk => ?_)
  refine p_s rfl rfl ?_
  refine p_s rfl rfl ?_
  refine p_icmpF rfl (isw1 hx).1 ?_
  refine p_s rfl rfl ?_
  refine p_s rfl rfl ?_
  refine p_icmpF rfl (Int32.not_lt.mpr (isw1 hx).2) ?_
  refine p_s rfl rfl ?_
  refine p_s rfl rfl ?_
  refine p_icmpF rfl (isw1 hu).1 ?_
  refine p_s rfl rfl ?_
  refine p_s rfl rfl ?_
  refine p_icmpF rfl (Int32.not_lt.mpr (isw1 hu).2) ?_
  refine p_s rfl rfl ?_
  refine p_s rfl rfl ?_
  refine p_icmp rfl (fun c => ?_) (fun c => ?_)
  · simp only [px_cmp] at c
    refine p_s rfl rfl ?_
    exact p_iret rfl rfl rfl ⟨rfl, fa, s, hr, hs, hk⟩
  · simp only [px_ncmp] at c
    refine p_s rfl rfl ?_
    refine p_s rfl rfl ?_
    refine p_icmpF rfl (Int32.not_le.mpr ((isw0 hv).resolve_left c)) ?_
    refine p_s rfl rfl ?_
    exact p_iret rfl rfl rfl ⟨rfl, fa, s, hr, hs, hk⟩
set_option maxHeartbeats 4000000 in
theorem r_codeC {G : px_G} {d m : Nat} {R : Int32} {q : Nat} {aa : Nat → Nat} {ws : va_W} {fa : Nat → Nat → Int32} {s : Nat → Int32} {σ : Md} (hr : RH G ws m aa fa s) (hs : RS R q fa s σ) {p u v : Int32} (hx : ¬ isw p 1 255 = 0) (hu : ¬ isw u 1 127 = 0) (hv : ¬ isw v 1 127 = 0) (hp : d_g σ 1 = 0) : px G m_Rf_code 0 (lv_args 0 [.ref m, .int p, .int u, .int v]) [] ws (d + 10) 0 0 (OPr G R q m aa ws (-3) (σ)) := by
  have hk : px_kp Kc ws ws := px_kp.rf
  refine p_s rfl rfl ?_
  refine p_s rfl rfl ?_
  refine p_rput (k := 0) rfl fp_Rf_70 hr hk rfl rfl (by decide) rfl hs.cod (fun ws s hr hs hk => ?_)
  refine p_s rfl rfl ?_
  refine p_s rfl rfl ?_
  refine p_icmpF rfl (isw1 hx).1 ?_
  refine p_s rfl rfl ?_
  refine p_s rfl rfl ?_
  refine p_icmpF rfl (Int32.not_lt.mpr (isw1 hx).2) ?_
  refine p_s rfl rfl ?_
  refine p_s rfl rfl ?_
  refine p_icmpF rfl (isw1 hu).1 ?_
  refine p_s rfl rfl ?_
  refine p_s rfl rfl ?_
  refine p_icmpF rfl (Int32.not_lt.mpr (isw1 hu).2) ?_
  refine p_s rfl rfl ?_
  refine p_s rfl rfl ?_
  refine p_icmpF rfl (isw1 hv).1 ?_
  refine p_s rfl rfl ?_
  refine p_s rfl rfl ?_
  refine p_icmpT rfl (isw1 hv).2 ?_
  refine p_s rfl rfl ?_
  refine p_get rfl f_Rf_84 hr.1 rfl ?_
  rw [hs.cutT hp]
  refine p_ifF rfl (show ¬ (1 : Int32) = 0 by decide) ?_
  refine p_s rfl rfl ?_
  exact p_iret rfl rfl rfl ⟨rfl, fa, s, hr, hs, hk⟩
set_option maxHeartbeats 4000000 in
theorem r_codeF {G : px_G} {d m : Nat} {R : Int32} {q : Nat} {aa : Nat → Nat} {ws : va_W} {fa : Nat → Nat → Int32} {s : Nat → Int32} {σ : Md} (hr : RH G ws m aa fa s) (hs : RS R q fa s σ) {p u v : Int32} (hx : ¬ isw p 1 255 = 0) (hu : ¬ isw u 1 127 = 0) (hv : ¬ isw v 1 127 = 0) (hp : ¬ d_g σ 1 = 0) (hn : d_n σ = 200) : px G m_Rf_code 0 (lv_args 0 [.ref m, .int p, .int u, .int v]) [] ws (d + 10) 0 0 (OPr G R q m aa ws (-4) (σ)) := by
  have hk : px_kp Kc ws ws := px_kp.rf
  refine p_s rfl rfl ?_
  refine p_s rfl rfl ?_
  refine p_rput (k := 0) rfl fp_Rf_70 hr hk rfl rfl (by decide) rfl hs.cod (fun ws s hr hs hk => ?_)
  refine p_s rfl rfl ?_
  refine p_s rfl rfl ?_
  refine p_icmpF rfl (isw1 hx).1 ?_
  refine p_s rfl rfl ?_
  refine p_s rfl rfl ?_
  refine p_icmpF rfl (Int32.not_lt.mpr (isw1 hx).2) ?_
  refine p_s rfl rfl ?_
  refine p_s rfl rfl ?_
  refine p_icmpF rfl (isw1 hu).1 ?_
  refine p_s rfl rfl ?_
  refine p_s rfl rfl ?_
  refine p_icmpF rfl (Int32.not_lt.mpr (isw1 hu).2) ?_
  refine p_s rfl rfl ?_
  refine p_s rfl rfl ?_
  refine p_icmpF rfl (isw1 hv).1 ?_
  refine p_s rfl rfl ?_
  refine p_s rfl rfl ?_
  refine p_icmpT rfl (isw1 hv).2 ?_
  refine p_s rfl rfl ?_
  refine p_get rfl f_Rf_84 hr.1 rfl ?_
  rw [hs.cutF hp]
  refine p_ifT rfl (show (0 : Int32) = 0 from rfl) ?_
  refine p_s rfl rfl ?_
  refine p_get rfl f_Rf_73 hr.1 rfl ?_
  rw [hs.s2, hn]
  refine p_s rfl rfl ?_
  refine p_icmpF rfl (show nI 200 = 200 from rfl) ?_
  refine p_s rfl rfl ?_
  exact p_iret rfl rfl rfl ⟨rfl, fa, s, hr, hs, hk⟩
set_option maxHeartbeats 4000000 in
theorem r_code {G : px_G} {d m : Nat} {R : Int32} {q : Nat} {aa : Nat → Nat} {ws : va_W} {fa : Nat → Nat → Int32} {s : Nat → Int32} {σ : Md} (hr : RH G ws m aa fa s) (hs : RS R q fa s σ) {p u v : Int32} (hx : ¬ isw p 1 255 = 0) (hu : ¬ isw u 1 127 = 0) (hv : ¬ isw v 1 127 = 0) (hp : ¬ d_g σ 1 = 0) (hn : d_n σ < 200) : px G m_Rf_code 0 (lv_args 0 [.ref m, .int p, .int u, .int v]) [] ws (d + 10) 0 0 (OPr G R q m aa ws (nI (d_n σ + 1)) (codeM σ p u v)) := by
  have hk : px_kp Kc ws ws := px_kp.rf
  refine p_s rfl rfl ?_
  refine p_s rfl rfl ?_
  refine p_rput (k := 0) rfl fp_Rf_70 hr hk rfl rfl (by decide) rfl hs.cod (fun ws s hr hs hk => ?_)
  refine p_s rfl rfl ?_
  refine p_s rfl rfl ?_
  refine p_icmpF rfl (isw1 hx).1 ?_
  refine p_s rfl rfl ?_
  refine p_s rfl rfl ?_
  refine p_icmpF rfl (Int32.not_lt.mpr (isw1 hx).2) ?_
  refine p_s rfl rfl ?_
  refine p_s rfl rfl ?_
  refine p_icmpF rfl (isw1 hu).1 ?_
  refine p_s rfl rfl ?_
  refine p_s rfl rfl ?_
  refine p_icmpF rfl (Int32.not_lt.mpr (isw1 hu).2) ?_
  refine p_s rfl rfl ?_
  refine p_s rfl rfl ?_
  refine p_icmpF rfl (isw1 hv).1 ?_
  refine p_s rfl rfl ?_
  refine p_s rfl rfl ?_
  refine p_icmpT rfl (isw1 hv).2 ?_
  refine p_s rfl rfl ?_
  refine p_get rfl f_Rf_84 hr.1 rfl ?_
  rw [hs.cutF hp]
  refine p_ifT rfl (show (0 : Int32) = 0 from rfl) ?_
  refine p_s rfl rfl ?_
  refine p_get rfl f_Rf_73 hr.1 rfl ?_
  rw [hs.s2]
  refine p_s rfl rfl ?_
  refine p_icmpT rfl (show ¬ nI (d_n σ) = 200 by rw [show (200 : Int32) = nI 200 from rfl, nI_eq (by omega) (by omega)]; omega) ?_
  refine p_s rfl rfl ?_
  refine p_s rfl rfl ?_
  refine p_get rfl f_Rf_73 hr.1 rfl ?_
  rw [hs.s2]
  refine p_s rfl rfl ?_
  refine p_s rfl rfl ?_
  have hs2 := hs.grow hn hr.2.2.2.1 hr.2.2.2.2.1
  refine p_hput (k := 2) rfl fp_Rf_73 hr hk (nI_1 (d_n σ)) rfl rfl (by decide) rfl (fun ws hr hk => ?_)
  clear hs
  have hs := hs2
  clear hs2
  refine p_s rfl rfl ?_
  refine p_get rfl f_Rf_7 hr.1 rfl ?_
  refine p_s rfl rfl ?_
  refine p_get rfl f_Rf_73 hr.1 rfl ?_
  rw [hs.s2]
  refine p_s rfl rfl ?_
  refine p_rst rfl hr hs hk (k := 0) (a := 0) (i := d_n σ) (by decide) rfl rfl (show d_n σ < d_n σ + 1 by omega) rfl (fun ws fa s hr hs hk => ?_)
  refine p_s rfl rfl ?_
  refine p_get rfl f_Rf_13 hr.1 rfl ?_
  refine p_s rfl rfl ?_
  refine p_get rfl f_Rf_73 hr.1 rfl ?_
  rw [hs.s2]
  refine p_s rfl rfl ?_
  refine p_rst rfl hr hs hk (k := 1) (a := 1) (i := d_n σ) (by decide) rfl rfl (show d_n σ < d_n σ + 1 by omega) rfl (fun ws fa s hr hs hk => ?_)
  refine p_s rfl rfl ?_
  refine p_get rfl f_Rf_16 hr.1 rfl ?_
  refine p_s rfl rfl ?_
  refine p_get rfl f_Rf_73 hr.1 rfl ?_
  rw [hs.s2]
  refine p_s rfl rfl ?_
  refine p_rst rfl hr hs hk (k := 2) (a := 2) (i := d_n σ) (by decide) rfl rfl (show d_n σ < d_n σ + 1 by omega) rfl (fun ws fa s hr hs hk => ?_)
  refine p_s rfl rfl ?_
  refine p_s rfl rfl ?_
  refine p_get rfl f_Rf_73 hr.1 rfl ?_
  rw [hs.s2]
  refine p_callV rfl c_Rf_88 rfl hr.1 g_Rf_freshen rfl rfl rfl (p_le (by omega) (Nat.le_refl _) (Nat.le_refl _) (r_freshen (d := d) (i := d_n σ) hr hs hk (show d_n σ < d_n σ + 1 by omega))) (fun v w hq => ?_)
  obtain ⟨rfl, fa, s, hr, hs, hk⟩ := hq
  refine p_s rfl rfl ?_
  refine p_s rfl rfl ?_
  refine p_get rfl f_Rf_73 hr.1 rfl ?_
  rw [hs.s2]
  refine p_callV rfl c_Rf_92 rfl hr.1 g_Rf_keep rfl rfl rfl (p_le (by omega) (Nat.le_refl _) (Nat.le_refl _) (r_keep (d := d) (i := d_n σ) hr hs hk (show d_n σ < d_n σ + 1 by omega) ((stX_o (by decide)).trans stA_3) ((stX_o (by decide)).trans stA_4) ((stX_o (by decide)).trans stA_5) ((stX_o (by decide)).trans stA_6))) (fun v w hq => ?_)
  obtain ⟨rfl, fa, s, hr, hs, hk⟩ := hq
  rw [code_eq] at hs
  refine p_s rfl rfl ?_
  refine p_get rfl f_Rf_73 hr.1 rfl ?_
  rw [hs.s2]
  exact p_iret rfl rfl rfl ⟨rfl, fa, s, hr, hs, hk⟩
