/-! THE REFERENCE: chains of parents; hidden, parent -/
abbrev OPr (G : px_G) (R : Int32) (q m : Nat) (aa : Nat → Nat) (ws : va_W) (ans : Int32) (σ : Md) : Option Value → va_W → Prop := fun v w => v = some (.int ans) ∧ RX G R q ws w m aa σ
/-- the chain from p ends after just f steps -/
def ends (P : Nat → Nat) : Nat → Nat → Prop
  | 0, p => p = 0
  | f + 1, p => p ≠ 0 ∧ ends P f (P (p - 1))
theorem ends_fun {P : Nat → Nat} : ∀ (f g p : Nat), ends P f p → ends P g p → f = g
  | 0, 0, _, _, _ => rfl
  | 0, _ + 1, _, h1, h2 => absurd h1 h2.1
  | _ + 1, 0, _, h1, h2 => absurd h2 h1.1
  | f + 1, g + 1, p, h1, h2 => by rw [ends_fun f g _ h1.2 h2.2]
theorem nodup_le : ∀ (n : Nat) (l : List Nat), l.Nodup → (∀ x ∈ l, x < n) → l.length ≤ n
  | 0, l, _, h => by
    cases l with
    | nil => exact Nat.le_refl _
    | cons a t => exact absurd (h a List.mem_cons_self) (Nat.not_lt_zero _)
  | n + 1, l, hd, h => by
    by_cases hn : n ∈ l
    · have h1 := nodup_le n (l.erase n) (hd.erase n) (fun x hx => by
        have h2 := (hd.mem_erase_iff).mp hx
        have h3 := h x h2.2
        have h4 := h2.1
        omega)
      rw [List.length_erase_of_mem hn] at h1
      omega
    · have h1 := nodup_le n l hd (fun x hx => by
        have h3 := h x hx
        have h4 : x ≠ n := fun z => hn (z ▸ hx)
        omega)
      omega
theorem ends_list {P : Nat → Nat} {n : Nat} (hP : ∀ i, i < n → P i ≤ n) : ∀ (f p : Nat), ends P f p → p ≤ n → ∃ l : List Nat, l.length = f ∧ l.Nodup ∧ ∀ x ∈ l, x < n ∧ ∃ g, g ≤ f ∧ ends P g (x + 1)
  | 0, p, h, hp => ⟨[], rfl, List.nodup_nil, fun x hx => by cases hx⟩
  | f + 1, p, h, hp => by
    have hp0 := h.1
    obtain ⟨l, h1, h2, h3⟩ := ends_list hP f (P (p - 1)) h.2 (hP (p - 1) (by omega))
    have e : p - 1 + 1 = p := by omega
    refine ⟨(p - 1) :: l, by rw [List.length_cons, h1], List.nodup_cons.mpr ⟨fun z => ?_, h2⟩, fun x hx => ?_⟩
    · obtain ⟨-, g, hg, hge⟩ := h3 _ z
      rw [e] at hge
      have := ends_fun _ _ _ h hge
      omega
    · rcases List.mem_cons.mp hx with rfl | hx
      · exact ⟨by omega, f + 1, Nat.le_refl _, by rw [e]; exact h⟩
      · obtain ⟨a1, g, a2, a3⟩ := h3 x hx
        exact ⟨a1, g, by omega, a3⟩
theorem ends_le {P : Nat → Nat} {n f p : Nat} (hP : ∀ i, i < n → P i ≤ n) (h : ends P f p) (hp : p ≤ n) : f ≤ n := by
  obtain ⟨l, h1, h2, h3⟩ := ends_list hP f p h hp
  rw [← h1]
  exact nodup_le n l h2 (fun x hx => (h3 x hx).1)
theorem hidF_ge {A : Nat → Nat → Int32} {P : Nat → Nat} : ∀ (f F p : Nat), ends P f p → f ≤ F → hidF A P F p = hidF A P f p
  | 0, 0, _, _, _ => rfl
  | 0, F + 1, p, h, _ => if_pos (show p = 0 from h)
  | f + 1, 0, p, h, hF => absurd hF (by omega)
  | f + 1, F + 1, p, h, hF => by rw [hidF, hidF, hidF_ge f F _ h.2 (by omega)]
theorem cntF_ge {P : Nat → Nat} : ∀ (f F p : Nat), ends P f p → f ≤ F → cntF P F p = cntF P f p
  | 0, 0, _, _, _ => rfl
  | 0, F + 1, p, h, _ => if_pos (show p = 0 from h)
  | f + 1, 0, p, h, hF => absurd hF (by omega)
  | f + 1, F + 1, p, h, hF => by rw [cntF, cntF, cntF_ge f F _ h.2 (by omega)]
theorem belF_ge {P : Nat → Nat} {c : Nat} : ∀ (f F p : Nat), ends P f p → f ≤ F → belF P c F p = belF P c f p
  | 0, 0, _, _, _ => rfl
  | 0, F + 1, p, h, _ => if_pos (show p = 0 from h)
  | f + 1, 0, p, h, hF => absurd hF (by omega)
  | f + 1, F + 1, p, h, hF => by rw [belF, belF, belF_ge f F _ h.2 (by omega)]
def Ac (n : Nat) (P : Nat → Nat) : Prop := (∀ i, i < n → P i ≤ n) ∧ ∀ p, p ≤ n → ∃ f, ends P f p
theorem Ac.f {n : Nat} {P : Nat → Nat} (h : Ac n P) {p : Nat} (hp : p ≤ n) (hn : n ≤ 200) : ∃ f, f ≤ 200 ∧ ends P f p := by
  obtain ⟨f, hf⟩ := h.2 p hp
  exact ⟨f, Nat.le_trans (ends_le h.1 hf hp) hn, hf⟩
abbrev upP (P : Nat → Nat) (c p : Nat) : Nat → Nat := fun j => if j = c then p else P j
theorem ends_avoid {P : Nat → Nat} {c r : Nat} : ∀ (f p : Nat), ends P f p → belF P c f p = 0 → ends (upP P c r) f p
  | 0, _, h, _ => h
  | f + 1, p, h, hb => by
    have h0 := h.1
    rw [belF, if_neg h0] at hb
    by_cases hc : p = c + 1
    · rw [if_pos hc] at hb
      exact absurd hb (by decide)
    · rw [if_neg hc] at hb
      refine ⟨h0, ?_⟩
      rw [show upP P c r (p - 1) = P (p - 1) from if_neg (by omega)]
      exact ends_avoid f _ h.2 hb
theorem Ac.par {n : Nat} {P : Nat → Nat} (h : Ac n P) {c r : Nat} (hr : r ≤ n) {g : Nat} (hg : ends (upP P c r) g r) : Ac n (upP P c r) := by
  refine ⟨fun i hi => ?_, fun p hp => ?_⟩
  · by_cases hc : i = c
    · rw [show upP P c r i = r from if_pos hc]
      exact hr
    · rw [show upP P c r i = P i from if_neg hc]
      exact h.1 i hi
  · obtain ⟨f, hf⟩ := h.2 p hp
    clear hp
    induction f generalizing p with
    | zero => exact ⟨0, hf⟩
    | succ f ih =>
      have h0 := hf.1
      by_cases hc : p - 1 = c
      · exact ⟨g + 1, h0, by rw [show upP P c r (p - 1) = r from if_pos hc]; exact hg⟩
      · obtain ⟨g2, hg2⟩ := ih _ hf.2
        exact ⟨g2 + 1, h0, by rw [show upP P c r (p - 1) = P (p - 1) from if_neg hc]; exact hg2⟩
theorem ends_same {P P2 : Nat → Nat} {n : Nat} (hP : ∀ i, i < n → P i ≤ n) (h2 : ∀ i, i < n → P2 i = P i) : ∀ (f p : Nat), p ≤ n → ends P f p → ends P2 f p
  | 0, _, _, h => h
  | f + 1, p, hp, h => by
    have h0 := h.1
    refine ⟨h0, ?_⟩
    rw [h2 (p - 1) (by omega)]
    exact ends_same hP h2 f _ (hP _ (by omega)) h.2
theorem Ac.code {n : Nat} {P : Nat → Nat} (h : Ac n P) : Ac (n + 1) (upP P n 0) := by
  have e : ∀ i, i < n → upP P n 0 i = P i := fun i hi => if_neg (by omega)
  refine ⟨fun i hi => ?_, fun p hp => ?_⟩
  · by_cases hc : i = n
    · rw [show upP P n 0 i = 0 from if_pos hc]
      omega
    · rw [e i (by omega)]
      have := h.1 i (by omega)
      omega
  · by_cases hc : p = n + 1
    · exact ⟨1, by omega, by subst hc; exact if_pos rfl⟩
    · obtain ⟨f, hf⟩ := h.2 p (by omega)
      exact ⟨f, ends_same h.1 e f p (by omega) hf⟩
theorem RS.pa {R : Int32} {q : Nat} {fa : Nat → Nat → Int32} {s : Nat → Int32} {σ : Md} (hs : RS R q fa s σ) {i : Nat} (hi : i < d_n σ) : fa 3 (i + 1) = nI (d_p σ i) := hs.2.2.2.2.1.1 i hi
theorem RS.par {R : Int32} {q : Nat} {fa : Nat → Nat → Int32} {s : Nat → Int32} {σ : Md} (h : RS R q fa s σ) {i p : Nat} (hi : i < d_n σ) : RS R q (upF fa 3 (i + 1) (nI p)) s (stP σ i p) := by
  obtain ⟨h0, ha, hb, hr, hp, he, hd, ho, hs⟩ := h
  refine ⟨h0, fun c hc j hj => ?_, fun j hj b hb2 => ?_, hr, ⟨fun j hj => ?_, fun j hj h2 => ?_⟩, ?_, ?_, ?_, hs⟩
  · rw [upF_ne (by omega)]
    exact ha c hc j hj
  · rw [upF_ne (c := 5) (by omega), upF_ne (c := 9) (by omega)]
    exact hb j hj b hb2
  · show upF fa 3 (i + 1) (nI p) 3 (j + 1) = nI (if j = i then p else d_p σ j)
    rw [upF_at]
    by_cases hji : j = i
    · rw [if_pos (by omega), if_pos hji]
    · rw [if_neg (by omega), if_neg hji]
      exact hp.1 j hj
  · have h1 : d_n σ ≤ j := hj
    rw [upF_at, if_neg (by omega)]
    exact hp.2 j hj h2
  · unfold RSe
    rw [upF_ne (c := 13) (by omega), upF_ne (c := 14) (by omega), upF_ne (c := 15) (by omega)]
    exact he
  · unfold RSd
    rw [upF_ne (c := 16) (by omega)]
    exact hd
  · unfold RSo
    rw [upF_ne (c := 17) (by omega)]
    exact ho
set_option maxHeartbeats 4000000 in
theorem r_hid_loop {G : px_G} {d m : Nat} {R : Int32} {q : Nat} {aa : Nat → Nat} {ws : va_W} {fa : Nat → Nat → Int32} {s : Nat → Int32} {σ : Md} (hr : RH G ws m aa fa s) (hs : RS R q fa s σ) (hP : ∀ i, i < d_n σ → d_p σ i ≤ d_n σ) : ∀ (f p : Nat) (x2 y : Int32), ends (d_p σ) f p → p ≤ d_n σ → x2 = nI p → px G m_Rf_hidden 7 [(2, .int x2), (0, .ref m), (1, .int y)] [] ws (d + 1) 0 0 (fun v w => v = some (.int (hidF (d_A σ) (d_p σ) f p)) ∧ w = ws) := by
  have hn := hs.1
  intro f
  induction f with
  | zero =>
    intro p x2 y he hp h2
    subst h2
    have hp0 : p = 0 := he
    subst hp0
    refine p_s rfl rfl ?_
    refine p_ifT rfl (show nI 0 ≤ (0 : Int32) by decide) ?_
    refine p_s rfl rfl ?_
    exact p_iret rfl rfl rfl ⟨rfl, rfl⟩
  | succ f ih =>
    intro p x2 y he hp h2
    obtain ⟨i, rfl⟩ : ∃ i, p = i + 1 := ⟨p - 1, by have := he.1; omega⟩
    subst h2
    have hi : i < d_n σ := by omega
    have h3 := hP i hi
    refine p_s rfl rfl ?_
    refine p_ifF rfl (nI_nle (Nat.succ_pos i) (by omega)) ?_
    refine p_s rfl rfl ?_
    refine p_s rfl rfl ?_
    refine p_s rfl rfl ?_
    refine p_callV rfl c_Rf_76 rfl hr.1 g_Rf_is rfl rfl rfl (p_le (by omega) (Nat.le_refl _) (Nat.le_refl _) (r_isX (d := d) (b := 0) hr hs hi (by decide) rfl)) (fun v w hq => ?_)
    obtain ⟨rfl, hw9⟩ := hq
    have hw9 := hw9.symm
    subst hw9
    refine p_if rfl (fun c => ?_) (fun c => ?_)
    · simp only [px_cmp] at c
      refine p_s rfl rfl ?_
      refine p_get rfl f_Rf_19 hr.1 rfl ?_
      refine p_s rfl rfl ?_
      refine p_ialdS rfl (hr.2.1 3 (by decide)) rfl (show i + 1 < 201 by omega) (by decide) ?_
      rw [hs.pa hi]
      refine p_s rfl rfl ?_
      refine p_goto rfl ?_
      refine p_post (fun v w hq => ⟨?_, hq.2⟩) (ih _ _ _ he.2 h3 rfl)
      rw [hq.1, hidF, if_neg (by omega), if_pos (show sHas (d_A σ 3 (i + 1 - 1)) 1 = 0 from c)]
    · simp only [px_ncmp] at c
      refine p_s rfl rfl ?_
      exact p_iret rfl rfl rfl ⟨by rw [hidF, if_neg (by omega), if_neg (show ¬ sHas (d_A σ 3 (i + 1 - 1)) 1 = 0 from c)], rfl⟩
set_option maxHeartbeats 4000000 in
theorem r_hidden {G : px_G} {d m : Nat} {R : Int32} {q : Nat} {aa : Nat → Nat} {ws : va_W} {fa : Nat → Nat → Int32} {s : Nat → Int32} {σ : Md} (hr : RH G ws m aa fa s) (hs : RS R q fa s σ) (hA : Ac (d_n σ) (d_p σ)) {i : Nat} (hi : i < d_n σ) : px G m_Rf_hidden 0 (lv_args 0 [.ref m, .int (nI (i + 1))]) [] ws (d + 1) 0 0 (fun v w => v = some (.int (hidF (d_A σ) (d_p σ) 200 (d_p σ i))) ∧ w = ws) := by
  have hn := hs.1
  obtain ⟨f, hf1, hf2⟩ := hA.f (hA.1 i hi) hn
  refine p_s rfl rfl ?_
  refine p_get rfl f_Rf_19 hr.1 rfl ?_
  refine p_s rfl rfl ?_
  refine p_ialdS rfl (hr.2.1 3 (by decide)) rfl (show i + 1 < 201 by omega) (by decide) ?_
  rw [hs.pa hi]
  refine p_s rfl rfl ?_
  rw [hidF_ge f 200 _ hf2 hf1]
  exact r_hid_loop hr hs hA.1 f _ _ _ hf2 (hA.1 i hi) rfl
set_option maxHeartbeats 4000000 in
theorem r_parentN {G : px_G} {d m : Nat} {R : Int32} {q : Nat} {aa : Nat → Nat} {ws : va_W} {fa : Nat → Nat → Int32} {s : Nat → Int32} {σ : Md} (hr : RH G ws m aa fa s) (hs : RS R q fa s σ) {x y : Int32} (hx : x < 1 ∨ nI (d_n σ) < x) : px G m_Rf_parent 0 (lv_args 0 [.ref m, .int x, .int y]) [] ws (d + 10) 0 0 (OPr G R q m aa ws (-1) (σ)) := by
  have hk : px_kp Kc ws ws := px_kp.rf
  refine p_s rfl rfl ?_
  refine p_s rfl rfl ?_
  refine p_callV rfl c_Rf_129 rfl hr.1 g_Rf_none rfl rfl rfl (p_le (by omega) (Nat.le_refl _) (Nat.le_refl _) (r_noneX1 (d := d) hr hs hk hx)) (fun v w hq => ?_)
  obtain ⟨rfl, fa, s, hr, hs, hk⟩ := hq
  refine p_ifT rfl (show ¬ (1 : Int32) = 0 by decide) ?_
  refine p_s rfl rfl ?_
  exact p_iret rfl rfl rfl ⟨rfl, fa, s, hr, hs, hk⟩
theorem lt1 {y w : Int32} (h0 : ¬ y = 0) (c : ¬ y < 0) (z : y ≤ w) (h : y < 1 ∨ w < y) : False := by
  rcases h with h | h
  · have h1 := Int32.lt_iff_toInt_lt.mp h
    have h2 : ¬ y.toInt < 0 := fun k => c (Int32.lt_iff_toInt_lt.mpr k)
    have e1 : (1 : Int32).toInt = 1 := rfl
    exact h0 (Int32.toInt_inj.mp (by rw [show (0 : Int32).toInt = 0 from rfl]; omega))
  · exact absurd h (Int32.not_lt.mpr z)
set_option maxHeartbeats 4000000 in
theorem r_parentSN {G : px_G} {d m : Nat} {R : Int32} {q : Nat} {aa : Nat → Nat} {ws : va_W} {fa : Nat → Nat → Int32} {s : Nat → Int32} {σ : Md} (hr : RH G ws m aa fa s) (hs : RS R q fa s σ) {i : Nat} (hi : i < d_n σ) {y : Int32} (hy : y < 1 ∨ nI (d_n σ) < y) (h0 : ¬ y = 0) : px G m_Rf_parent 0 (lv_args 0 [.ref m, .int (nI (i + 1)), .int y]) [] ws (d + 10) 0 0 (OPr G R q m aa ws (-1) (σ)) := by
  have hk : px_kp Kc ws ws := px_kp.rf
  refine p_s rfl rfl ?_
  refine p_s rfl rfl ?_
  refine p_callV rfl c_Rf_129 rfl hr.1 g_Rf_none rfl rfl rfl (p_le (by omega) (Nat.le_refl _) (Nat.le_refl _) (r_noneX0 (d := d) hr hs hk hi)) (fun v w hq => ?_)
  obtain ⟨rfl, fa, s, hr, hs, hk⟩ := hq
  refine p_ifF rfl (show (0 : Int32) = 0 from rfl) ?_
  refine p_s rfl rfl ?_
  refine p_if rfl (fun c => ?_) (fun c => ?_)
  · simp only [px_cmp] at c
    refine p_s rfl rfl ?_
    exact p_iret rfl rfl rfl ⟨rfl, fa, s, hr, hs, hk⟩
  · simp only [px_ncmp] at c
    refine p_s rfl rfl ?_
    refine p_s rfl rfl ?_
    refine p_get rfl f_Rf_73 hr.1 rfl ?_
    rw [hs.s2]
    refine p_icmpF rfl (show ¬ y ≤ nI (d_n σ) from fun z => lt1 h0 c z hy) ?_
    refine p_s rfl rfl ?_
    exact p_iret rfl rfl rfl ⟨rfl, fa, s, hr, hs, hk⟩
set_option maxHeartbeats 4000000 in
theorem r_parent0C {G : px_G} {d m : Nat} {R : Int32} {q : Nat} {aa : Nat → Nat} {ws : va_W} {fa : Nat → Nat → Int32} {s : Nat → Int32} {σ : Md} (hr : RH G ws m aa fa s) (hs : RS R q fa s σ) {i : Nat} (hi : i < d_n σ) (hp : d_g σ 1 = 0) : px G m_Rf_parent 0 (lv_args 0 [.ref m, .int (nI (i + 1)), .int 0]) [] ws (d + 10) 0 0 (OPr G R q m aa ws (-3) (σ)) := by
  have hk : px_kp Kc ws ws := px_kp.rf
  have hn := hs.1
  refine p_s rfl rfl ?_
  refine p_s rfl rfl ?_
  refine p_callV rfl c_Rf_129 rfl hr.1 g_Rf_none rfl rfl rfl (p_le (by omega) (Nat.le_refl _) (Nat.le_refl _) (r_noneX0 (d := d) hr hs hk hi)) (fun v w hq => ?_)
  obtain ⟨rfl, fa, s, hr, hs, hk⟩ := hq
  refine p_ifF rfl (show (0 : Int32) = 0 from rfl) ?_
  refine p_s rfl rfl ?_
  refine p_ifF rfl (show ¬ (0 : Int32) < 0 by decide) ?_
  refine p_s rfl rfl ?_
  refine p_s rfl rfl ?_
  refine p_get rfl f_Rf_73 hr.1 rfl ?_
  rw [hs.s2]
  refine p_icmpT rfl (show (0 : Int32) ≤ nI (d_n σ) from nI_pos' (by omega)) ?_
  refine p_s rfl rfl ?_
  refine p_s rfl rfl ?_
  refine p_icmpT rfl (show ¬ nI (i + 1) = 0 from nI_ne0 (Nat.succ_pos i) (by omega)) ?_
  refine p_s rfl rfl ?_
  refine p_get rfl f_Rf_84 hr.1 rfl ?_
  rw [hs.cutT hp]
  refine p_ifF rfl (show ¬ (1 : Int32) = 0 by decide) ?_
  refine p_s rfl rfl ?_
  exact p_iret rfl rfl rfl ⟨rfl, fa, s, hr, hs, hk⟩
set_option maxHeartbeats 4000000 in
theorem r_parent0 {G : px_G} {d m : Nat} {R : Int32} {q : Nat} {aa : Nat → Nat} {ws : va_W} {fa : Nat → Nat → Int32} {s : Nat → Int32} {σ : Md} (hr : RH G ws m aa fa s) (hs : RS R q fa s σ) {i : Nat} (hi : i < d_n σ) (hp : ¬ d_g σ 1 = 0) : px G m_Rf_parent 0 (lv_args 0 [.ref m, .int (nI (i + 1)), .int 0]) [] ws (d + 10) 0 0 (OPr G R q m aa ws (nI (cntF (d_p (stP σ i 0)) 200 0)) (stP σ i 0)) := by
  have hk : px_kp Kc ws ws := px_kp.rf
  have hn := hs.1
  refine p_s rfl rfl ?_
  refine p_s rfl rfl ?_
  refine p_callV rfl c_Rf_129 rfl hr.1 g_Rf_none rfl rfl rfl (p_le (by omega) (Nat.le_refl _) (Nat.le_refl _) (r_noneX0 (d := d) hr hs hk hi)) (fun v w hq => ?_)
  obtain ⟨rfl, fa, s, hr, hs, hk⟩ := hq
  refine p_ifF rfl (show (0 : Int32) = 0 from rfl) ?_
  refine p_s rfl rfl ?_
  refine p_ifF rfl (show ¬ (0 : Int32) < 0 by decide) ?_
  refine p_s rfl rfl ?_
  refine p_s rfl rfl ?_
  refine p_get rfl f_Rf_73 hr.1 rfl ?_
  rw [hs.s2]
  refine p_icmpT rfl (show (0 : Int32) ≤ nI (d_n σ) from nI_pos' (by omega)) ?_
  refine p_s rfl rfl ?_
  refine p_s rfl rfl ?_
  refine p_icmpT rfl (show ¬ nI (i + 1) = 0 from nI_ne0 (Nat.succ_pos i) (by omega)) ?_
  refine p_s rfl rfl ?_
  refine p_get rfl f_Rf_84 hr.1 rfl ?_
  rw [hs.cutF hp]
  refine p_ifT rfl (show (0 : Int32) = 0 from rfl) ?_
  refine p_s rfl rfl ?_
  refine p_s rfl rfl ?_
  refine p_s rfl rfl ?_
  refine p_ifT rfl (show (0 : Int32) ≤ 0 by decide) ?_
  refine p_s rfl rfl ?_
  refine p_get rfl f_Rf_19 hr.1 rfl ?_
  refine p_s rfl rfl ?_
  refine p_s rfl rfl ?_
  refine p_iastS rfl (hr.2.1 3 (by decide)) rfl (show i + 1 < 201 by omega) (by decide) ?_
  have hr2 := hr.put (k := 3) (i := i + 1) (v := nI (0)) (by decide) (fun z => by omega)
  have hk2 := hk.tr (hr.kp (k := 3) (e := rcell G 3 (upd (fa 3) (i + 1) (nI (0)))) (by decide))
  have hs2 := hs.par (i := i) (p := 0) hi
  refine p_s rfl rfl ?_
  refine p_s rfl rfl ?_
  refine p_s rfl rfl ?_
  refine p_s rfl rfl ?_
  refine p_s rfl rfl ?_
  refine p_ifT rfl (show (0 : Int32) ≤ 0 by decide) ?_
  refine p_s rfl rfl ?_
  exact p_iret rfl rfl rfl ⟨rfl, _, _, hr2, hs2, hk2⟩
set_option maxHeartbeats 4000000 in
theorem r_parentE {G : px_G} {d m : Nat} {R : Int32} {q : Nat} {aa : Nat → Nat} {ws : va_W} {fa : Nat → Nat → Int32} {s : Nat → Int32} {σ : Md} (hr : RH G ws m aa fa s) (hs : RS R q fa s σ) {i : Nat} (hi : i < d_n σ) : px G m_Rf_parent 0 (lv_args 0 [.ref m, .int (nI (i + 1)), .int (nI (i + 1))]) [] ws (d + 10) 0 0 (OPr G R q m aa ws (-2) (σ)) := by
  have hk : px_kp Kc ws ws := px_kp.rf
  have hn := hs.1
  refine p_s rfl rfl ?_
  refine p_s rfl rfl ?_
  refine p_callV rfl c_Rf_129 rfl hr.1 g_Rf_none rfl rfl rfl (p_le (by omega) (Nat.le_refl _) (Nat.le_refl _) (r_noneX0 (d := d) hr hs hk hi)) (fun v w hq => ?_)
  obtain ⟨rfl, fa, s, hr, hs, hk⟩ := hq
  refine p_ifF rfl (show (0 : Int32) = 0 from rfl) ?_
  refine p_s rfl rfl ?_
  refine p_ifF rfl (nI_pos (show i + 1 < 2 ^ 31 by omega)) ?_
  refine p_s rfl rfl ?_
  refine p_s rfl rfl ?_
  refine p_get rfl f_Rf_73 hr.1 rfl ?_
  rw [hs.s2]
  refine p_icmpT rfl (nI_le (show i + 1 ≤ d_n σ by omega) (by omega)) ?_
  refine p_s rfl rfl ?_
  refine p_s rfl rfl ?_
  refine p_icmpF rfl rfl ?_
  refine p_s rfl rfl ?_
  exact p_iret rfl rfl rfl ⟨rfl, fa, s, hr, hs, hk⟩
set_option maxHeartbeats 4000000 in
theorem r_parentC {G : px_G} {d m : Nat} {R : Int32} {q : Nat} {aa : Nat → Nat} {ws : va_W} {fa : Nat → Nat → Int32} {s : Nat → Int32} {σ : Md} (hr : RH G ws m aa fa s) (hs : RS R q fa s σ) {i : Nat} (hi : i < d_n σ) {j : Nat} (hj : j < d_n σ) (hij : ¬ i = j) (hp : d_g σ 1 = 0) : px G m_Rf_parent 0 (lv_args 0 [.ref m, .int (nI (i + 1)), .int (nI (j + 1))]) [] ws (d + 10) 0 0 (OPr G R q m aa ws (-3) (σ)) := by
  have hk : px_kp Kc ws ws := px_kp.rf
  have hn := hs.1
  refine p_s rfl rfl ?_
  refine p_s rfl rfl ?_
  refine p_callV rfl c_Rf_129 rfl hr.1 g_Rf_none rfl rfl rfl (p_le (by omega) (Nat.le_refl _) (Nat.le_refl _) (r_noneX0 (d := d) hr hs hk hi)) (fun v w hq => ?_)
  obtain ⟨rfl, fa, s, hr, hs, hk⟩ := hq
  refine p_ifF rfl (show (0 : Int32) = 0 from rfl) ?_
  refine p_s rfl rfl ?_
  refine p_ifF rfl (nI_pos (show j + 1 < 2 ^ 31 by omega)) ?_
  refine p_s rfl rfl ?_
  refine p_s rfl rfl ?_
  refine p_get rfl f_Rf_73 hr.1 rfl ?_
  rw [hs.s2]
  refine p_icmpT rfl (nI_le (show j + 1 ≤ d_n σ by omega) (by omega)) ?_
  refine p_s rfl rfl ?_
  refine p_s rfl rfl ?_
  refine p_icmpT rfl (show ¬ nI (i + 1) = nI (j + 1) by rw [nI_eq (by omega) (by omega)]; omega) ?_
  refine p_s rfl rfl ?_
  refine p_get rfl f_Rf_84 hr.1 rfl ?_
  rw [hs.cutT hp]
  refine p_ifF rfl (show ¬ (1 : Int32) = 0 by decide) ?_
  refine p_s rfl rfl ?_
  exact p_iret rfl rfl rfl ⟨rfl, fa, s, hr, hs, hk⟩
set_option maxHeartbeats 4000000 in
theorem r_par_loop {G : px_G} {d m : Nat} {R : Int32} {q : Nat} {aa : Nat → Nat} {ws : va_W} {fa : Nat → Nat → Int32} {s : Nat → Int32} {σ : Md} (hr : RH G ws m aa fa s) (hs : RS R q fa s σ) (hP : ∀ i, i < d_n σ → d_p σ i ≤ d_n σ) {i : Nat} (hi : i < d_n σ) {y : Int32} {Q : Option Value → va_W → Prop} : ∀ (f p : Nat) (x3 : Int32), ends (d_p σ) f p → p ≤ d_n σ → x3 = nI p → (¬ belF (d_p σ) i f p = 0 → Q (some (.int (-3))) ws) → (belF (d_p σ) i f p = 0 → ∀ x3, px G m_Rf_parent 64 [(3, .int x3), (0, .ref m), (1, .int (nI (i + 1))), (2, .int y)] [] ws d 0 0 Q) → px G m_Rf_parent 42 [(3, .int x3), (0, .ref m), (1, .int (nI (i + 1))), (2, .int y)] [] ws d 0 0 Q := by
  have hn := hs.1
  intro f
  induction f with
  | zero =>
    intro p x3 he hp h3 h1 h2
    subst h3
    have hp0 : p = 0 := he
    subst hp0
    refine p_s rfl rfl ?_
    refine p_ifT rfl (show nI 0 ≤ (0 : Int32) by decide) ?_
    exact h2 rfl _
  | succ f ih =>
    intro p x3 he hp h3 h1 h2
    obtain ⟨k, rfl⟩ : ∃ k, p = k + 1 := ⟨p - 1, by have := he.1; omega⟩
    subst h3
    have hkn : k < d_n σ := by omega
    have h4 := hP k hkn
    rw [belF, if_neg (Nat.succ_ne_zero k)] at h1 h2
    refine p_s rfl rfl ?_
    refine p_ifF rfl (nI_nle (Nat.succ_pos k) (by omega)) ?_
    refine p_s rfl rfl ?_
    refine p_s rfl rfl ?_
    refine p_icmp rfl (fun c => ?_) (fun c => ?_)
    · simp only [px_cmp] at c
      refine p_s rfl rfl ?_
      refine p_get rfl f_Rf_19 hr.1 rfl ?_
      refine p_s rfl rfl ?_
      refine p_ialdS rfl (hr.2.1 3 (by decide)) rfl (show k + 1 < 201 by omega) (by decide) ?_
      rw [hs.pa hkn]
      refine p_s rfl rfl ?_
      rw [nI_eq (by omega) (by omega)] at c
      rw [if_neg c] at h1 h2
      refine p_goto rfl ?_
      exact ih _ _ he.2 h4 rfl h1 h2
    · simp only [px_ncmp] at c
      refine p_s rfl rfl ?_
      rw [nI_eq (by omega) (by omega)] at c
      rw [if_pos c] at h1
      exact p_iret rfl rfl rfl (h1 (by decide))
set_option maxHeartbeats 4000000 in
theorem r_cnt_loop {G : px_G} {d m : Nat} {R : Int32} {q : Nat} {aa : Nat → Nat} {ws : va_W} {fa : Nat → Nat → Int32} {s : Nat → Int32} {σ : Md} (hr : RH G ws m aa fa s) (hs : RS R q fa s σ) (hP : ∀ i, i < d_n σ → d_p σ i ≤ d_n σ) {i : Nat} {y : Int32} {Q : Option Value → va_W → Prop} : ∀ (f p k : Nat) (x3 x4 : Int32), ends (d_p σ) f p → p ≤ d_n σ → x4 = nI p → x3 = nI k → Q (some (.int (nI (k + cntF (d_p σ) f p)))) ws → px G m_Rf_parent 76 [(4, .int x4), (3, .int x3), (0, .ref m), (1, .int (nI (i + 1))), (2, .int y)] [] ws d 0 0 Q := by
  have hn := hs.1
  intro f
  induction f with
  | zero =>
    intro p k x3 x4 he hp h4 h3 h1
    subst h3
    subst h4
    have hp0 : p = 0 := he
    subst hp0
    refine p_s rfl rfl ?_
    refine p_ifT rfl (show nI 0 ≤ (0 : Int32) by decide) ?_
    refine p_s rfl rfl ?_
    exact p_iret rfl rfl rfl h1
  | succ f ih =>
    intro p k x3 x4 he hp h4 h3 h1
    obtain ⟨c, rfl⟩ : ∃ c, p = c + 1 := ⟨p - 1, by have := he.1; omega⟩
    subst h3
    subst h4
    have hkn : c < d_n σ := by omega
    have h5 := hP c hkn
    rw [cntF, if_neg (Nat.succ_ne_zero c)] at h1
    refine p_s rfl rfl ?_
    refine p_ifF rfl (nI_nle (Nat.succ_pos c) (by omega)) ?_
    refine p_s rfl rfl ?_
    refine p_s rfl rfl ?_
    refine p_get rfl f_Rf_19 hr.1 rfl ?_
    refine p_s rfl rfl ?_
    refine p_ialdS rfl (hr.2.1 3 (by decide)) rfl (show c + 1 < 201 by omega) (by decide) ?_
    rw [hs.pa hkn]
    refine p_s rfl rfl ?_
    refine p_goto rfl ?_
    exact ih _ (k + 1) _ _ he.2 h5 rfl (nI_1 k) (by rw [Nat.add_assoc k 1, Nat.add_comm 1]; exact h1)
set_option maxHeartbeats 4000000 in
theorem r_parentB {G : px_G} {d m : Nat} {R : Int32} {q : Nat} {aa : Nat → Nat} {ws : va_W} {fa : Nat → Nat → Int32} {s : Nat → Int32} {σ : Md} (hr : RH G ws m aa fa s) (hs : RS R q fa s σ) (hA : Ac (d_n σ) (d_p σ)) {i : Nat} (hi : i < d_n σ) {j : Nat} (hj : j < d_n σ) (hij : ¬ i = j) (hp : ¬ d_g σ 1 = 0) (hb : ¬ belF (d_p σ) i 200 (d_p σ j) = 0) : px G m_Rf_parent 0 (lv_args 0 [.ref m, .int (nI (i + 1)), .int (nI (j + 1))]) [] ws (d + 10) 0 0 (OPr G R q m aa ws (-3) (σ)) := by
  have hk : px_kp Kc ws ws := px_kp.rf
  have hn := hs.1
  obtain ⟨f, hf1, hf2⟩ := hA.f (hA.1 j hj) hn
  have hbe : belF (d_p σ) i (f + 1) (j + 1) = belF (d_p σ) i 200 (d_p σ j) := by
    rw [belF, if_neg (Nat.succ_ne_zero j), if_neg (show ¬ j + 1 = i + 1 by omega), Nat.add_sub_cancel, belF_ge f 200 _ hf2 hf1]
  refine p_s rfl rfl ?_
  refine p_s rfl rfl ?_
  refine p_callV rfl c_Rf_129 rfl hr.1 g_Rf_none rfl rfl rfl (p_le (by omega) (Nat.le_refl _) (Nat.le_refl _) (r_noneX0 (d := d) hr hs hk hi)) (fun v w hq => ?_)
  obtain ⟨rfl, fa, s, hr, hs, hk⟩ := hq
  refine p_ifF rfl (show (0 : Int32) = 0 from rfl) ?_
  refine p_s rfl rfl ?_
  refine p_ifF rfl (nI_pos (show j + 1 < 2 ^ 31 by omega)) ?_
  refine p_s rfl rfl ?_
  refine p_s rfl rfl ?_
  refine p_get rfl f_Rf_73 hr.1 rfl ?_
  rw [hs.s2]
  refine p_icmpT rfl (nI_le (show j + 1 ≤ d_n σ by omega) (by omega)) ?_
  refine p_s rfl rfl ?_
  refine p_s rfl rfl ?_
  refine p_icmpT rfl (show ¬ nI (i + 1) = nI (j + 1) by rw [nI_eq (by omega) (by omega)]; omega) ?_
  refine p_s rfl rfl ?_
  refine p_get rfl f_Rf_84 hr.1 rfl ?_
  rw [hs.cutF hp]
  refine p_ifT rfl (show (0 : Int32) = 0 from rfl) ?_
  refine p_s rfl rfl ?_
  refine p_s rfl rfl ?_
  exact r_par_loop hr hs hA.1 hi (f + 1) (j + 1) _ ⟨Nat.succ_ne_zero j, hf2⟩ (by omega) rfl (fun _ => ⟨rfl, fa, s, hr, hs, hk⟩) (fun z => absurd (hbe.symm.trans z) hb)
set_option maxHeartbeats 4000000 in
theorem r_parent {G : px_G} {d m : Nat} {R : Int32} {q : Nat} {aa : Nat → Nat} {ws : va_W} {fa : Nat → Nat → Int32} {s : Nat → Int32} {σ : Md} (hr : RH G ws m aa fa s) (hs : RS R q fa s σ) (hA : Ac (d_n σ) (d_p σ)) {i : Nat} (hi : i < d_n σ) {j : Nat} (hj : j < d_n σ) (hij : ¬ i = j) (hp : ¬ d_g σ 1 = 0) (hb : belF (d_p σ) i 200 (d_p σ j) = 0) : px G m_Rf_parent 0 (lv_args 0 [.ref m, .int (nI (i + 1)), .int (nI (j + 1))]) [] ws (d + 10) 0 0 (OPr G R q m aa ws (nI (cntF (d_p (stP σ i (j + 1))) 200 (j + 1))) (stP σ i (j + 1))) := by
  have hk : px_kp Kc ws ws := px_kp.rf
  have hn := hs.1
  obtain ⟨f, hf1, hf2⟩ := hA.f (hA.1 j hj) hn
  have hbe : belF (d_p σ) i (f + 1) (j + 1) = belF (d_p σ) i 200 (d_p σ j) := by
    rw [belF, if_neg (Nat.succ_ne_zero j), if_neg (show ¬ j + 1 = i + 1 by omega), Nat.add_sub_cancel, belF_ge f 200 _ hf2 hf1]
  have hg : ends (d_p (stP σ i (j + 1))) (f + 1) (j + 1) := ends_avoid (f + 1) (j + 1) ⟨Nat.succ_ne_zero j, hf2⟩ (hbe.trans hb)
  refine p_s rfl rfl ?_
  refine p_s rfl rfl ?_
  refine p_callV rfl c_Rf_129 rfl hr.1 g_Rf_none rfl rfl rfl (p_le (by omega) (Nat.le_refl _) (Nat.le_refl _) (r_noneX0 (d := d) hr hs hk hi)) (fun v w hq => ?_)
  obtain ⟨rfl, fa, s, hr, hs, hk⟩ := hq
  refine p_ifF rfl (show (0 : Int32) = 0 from rfl) ?_
  refine p_s rfl rfl ?_
  refine p_ifF rfl (nI_pos (show j + 1 < 2 ^ 31 by omega)) ?_
  refine p_s rfl rfl ?_
  refine p_s rfl rfl ?_
  refine p_get rfl f_Rf_73 hr.1 rfl ?_
  rw [hs.s2]
  refine p_icmpT rfl (nI_le (show j + 1 ≤ d_n σ by omega) (by omega)) ?_
  refine p_s rfl rfl ?_
  refine p_s rfl rfl ?_
  refine p_icmpT rfl (show ¬ nI (i + 1) = nI (j + 1) by rw [nI_eq (by omega) (by omega)]; omega) ?_
  refine p_s rfl rfl ?_
  refine p_get rfl f_Rf_84 hr.1 rfl ?_
  rw [hs.cutF hp]
  refine p_ifT rfl (show (0 : Int32) = 0 from rfl) ?_
  refine p_s rfl rfl ?_
  refine p_s rfl rfl ?_
  refine r_par_loop hr hs hA.1 hi (f + 1) (j + 1) _ ⟨Nat.succ_ne_zero j, hf2⟩ (by omega) rfl (fun z => absurd (hbe.trans hb) z) (fun _ x3 => ?_)
  refine p_s rfl rfl ?_
  refine p_get rfl f_Rf_19 hr.1 rfl ?_
  refine p_s rfl rfl ?_
  refine p_s rfl rfl ?_
  refine p_iastS rfl (hr.2.1 3 (by decide)) rfl (show i + 1 < 201 by omega) (by decide) ?_
  have hr2 := hr.put (k := 3) (i := i + 1) (v := nI (j + 1)) (by decide) (fun z => by omega)
  have hk2 := hk.tr (hr.kp (k := 3) (e := rcell G 3 (upd (fa 3) (i + 1) (nI (j + 1)))) (by decide))
  have hs2 := hs.par (i := i) (p := j + 1) hi
  refine p_s rfl rfl ?_
  refine p_s rfl rfl ?_
  refine p_s rfl rfl ?_
  refine p_s rfl rfl ?_
  have hA2 : Ac (d_n (stP σ i (j + 1))) (d_p (stP σ i (j + 1))) := hA.par (by omega) hg
  rw [cntF_ge (f + 1) 200 (j + 1) hg (Nat.le_trans (ends_le hA2.1 hg (by show j + 1 ≤ d_n σ; omega)) hn)]
  refine p_lv (lv2 := [(4, .int (nI (j + 1))), (3, .int 0), (0, .ref m), (1, .int (nI (i + 1))), (2, .int (nI (j + 1)))]) (ks := [0, 1, 2, 3, 4]) rfl ?_
  exact r_cnt_loop hr2 hs2 hA2.1 (f + 1) (j + 1) 0 _ _ hg (by show j + 1 ≤ d_n σ; omega) rfl rfl ⟨by rw [Nat.zero_add], _, _, hr2, hs2, hk2⟩
