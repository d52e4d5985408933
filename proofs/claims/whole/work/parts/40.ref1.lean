/-! THE REFERENCE: its cells; none, is, set, statusOf, many, entries -/
/-- the reference's object: arrays at aa k (0 priority, 1 up, 2 down, 3 parent, 4 counter, 5 bit, 6 trips, 7 age, 8 good, 9 keptBit, 10 keptTrips, 11 keptAge, 12 keptGood, 13 stored, 14 happened, 15 snapshot, 16 displaced, 17 offCondition), numbers s k (0 code, 1 room, 2 codes, 3 last, 4 gone, 5 cut, 6 cycles, 7 events) -/
abbrev oRf (aa : Nat → Nat) (s : Nat → Int32) : va_E := .inr (7, [.int (s 0), .int (s 1), .int (s 2), .ref (aa 0), .ref (aa 1), .ref (aa 2), .ref (aa 3), .ref (aa 4), .ref (aa 5), .ref (aa 6), .ref (aa 7), .ref (aa 8), .ref (aa 9), .ref (aa 10), .ref (aa 11), .ref (aa 12), .ref (aa 13), .ref (aa 14), .ref (aa 15), .int (s 3), .int (s 4), .ref (aa 16), .ref (aa 17), .int (s 5), .int (s 6), .int (s 7)])
def rcell (G : px_G) (k : Nat) (f : Nat → Int32) : va_E := match k with
  | 5 => oZA G 1608 f
  | 9 => oZA G 1608 f
  | 17 => oZA G 32 f
  | 15 => oIA G 1608 f
  | 16 => oIA G 500 f
  | _ => oIA G 201 f
theorem rcell_kd (G : px_G) (k : Nat) (f : Nat → Int32) : px_kd (rcell G k f) = 1000 := by
  unfold rcell
  split <;> rfl
abbrev isZ (x : Int32) : Prop := x = 0 ∨ x = 1
def RH (G : px_G) (ws : va_W) (m : Nat) (aa : Nat → Nat) (fa : Nat → Nat → Int32) (s : Nat → Int32) : Prop :=
  px_lk ws m = some (oRf aa s) ∧ (∀ k, k < 18 → px_lk ws (aa k) = some (rcell G k (fa k))) ∧ (∀ i j, i < 18 → j < 18 → aa i = aa j → i = j) ∧ (∀ j, isZ (fa 5 j)) ∧ (∀ j, isZ (fa 9 j)) ∧ (∀ j, isZ (fa 17 j))
def upF (fa : Nat → Nat → Int32) (k i : Nat) (v : Int32) : Nat → Nat → Int32 := fun k' => if k' = k then upd (fa k) i v else fa k'
/-- the class's cells -/
def Kc (x : va_E) : Bool := Nat.ble (px_kd x) 6 || Nat.beq (px_kd x) 1001
theorem RH.put {G : px_G} {ws : va_W} {m : Nat} {aa : Nat → Nat} {fa : Nat → Nat → Int32} {s : Nat → Int32} (h : RH G ws m aa fa s) {k i : Nat} {v : Int32} (hk : k < 18) (hz : (k = 5 ∨ k = 9 ∨ k = 17) → isZ v) : RH G (px_up ws (aa k) (rcell G k (upd (fa k) i v))) m aa (upF fa k i v) s := by
  obtain ⟨h1, h2, h3, z5, z9, z17⟩ := h
  have hc := h2 k hk
  have hkd : ¬ px_kd (oRf aa s) = px_kd (rcell G k (fa k)) := by rw [rcell_kd]; exact Nat.ne_of_beq_eq_false rfl
  have zz : ∀ c, (c = 5 ∨ c = 9 ∨ c = 17) → (∀ j, isZ (fa c j)) → ∀ j, isZ (upF fa k i v c j) := by
    intro c hc hh j
    unfold upF
    by_cases hck : c = k
    · rw [if_pos hck]
      unfold upd
      by_cases hj : j = i
      · rw [if_pos hj]
        exact hz (hck ▸ hc)
      · rw [if_neg hj, ← hck]
        exact hh j
    · rw [if_neg hck]
      exact hh j
  refine ⟨px_keepK hc h1 hkd, fun c hcl => ?_, h3, zz 5 (by omega) z5, zz 9 (by omega) z9, zz 17 (by omega) z17⟩
  unfold upF
  by_cases hck : c = k
  · subst hck
    rw [if_pos rfl]
    exact px_lk_same _ _ _ _ hc
  · rw [if_neg hck]
    exact px_keep (h2 c hcl) (fun z => hck (h3 c k hcl hk z))
theorem RH.kp {G : px_G} {ws : va_W} {m : Nat} {aa : Nat → Nat} {fa : Nat → Nat → Int32} {s : Nat → Int32} (h : RH G ws m aa fa s) {k : Nat} (hk : k < 18) {e : va_E} : px_kp Kc ws (px_up ws (aa k) e) := px_kp.up (h.2.1 k hk) (by
  unfold Kc
  rw [rcell_kd]
  rfl)
theorem RH.sc {G : px_G} {ws : va_W} {m : Nat} {aa : Nat → Nat} {fa : Nat → Nat → Int32} {s : Nat → Int32} (h : RH G ws m aa fa s) (s' : Nat → Int32) : RH G (px_up ws m (oRf aa s')) m aa fa s' := by
  obtain ⟨h1, h2, h3⟩ := h
  refine ⟨px_lk_same _ _ _ _ h1, fun c hcl => px_keepK h1 (h2 c hcl) ?_, h3⟩
  rw [rcell_kd]
  exact Nat.ne_of_beq_eq_false rfl
theorem RH.kps {G : px_G} {ws : va_W} {m : Nat} {aa : Nat → Nat} {fa : Nat → Nat → Int32} {s : Nat → Int32} (h : RH G ws m aa fa s) {e : va_E} : px_kp Kc ws (px_up ws m e) := px_kp.up h.1 rfl
theorem nz_bool {x : Int32} (h : isZ x) : narrow .boolean (.int x) = .int x := by
  rcases h with rfl | rfl <;> rfl
theorem ix8 (c b : Nat) : (8 : Int32) * nI c + nI b = nI (8 * c + b) := by rw [show (8 : Int32) = nI 8 from rfl, pk_mul, nI_add]
set_option maxHeartbeats 4000000 in
theorem r_is {G : px_G} {ws : va_W} {d m : Nat} {aa : Nat → Nat} {fa : Nat → Nat → Int32} {s : Nat → Int32} (h : RH G ws m aa fa s) {c b : Nat} (hc : c ≤ 200) (hb : b < 8) : px G m_Rf_is 0 (lv_args 0 [.ref m, .int (nI c), .int (nI b)]) [] ws d 0 0 (fun v w => v = some (.int (fa 5 (8 * c + b))) ∧ w = ws) := by
  refine p_s rfl rfl ?_
  refine p_get rfl f_Rf_25 h.1 rfl ?_
  refine p_s rfl rfl ?_
  refine p_s rfl rfl ?_
  refine p_s rfl rfl ?_
  refine p_s rfl rfl ?_
  refine p_s rfl rfl ?_
  refine p_zaldS rfl (h.2.1 5 (by decide)) (ix8 c b) (by omega) (by decide) ?_
  exact p_iret rfl rfl (nz_bool (h.2.2.2.1 _)) ⟨rfl, rfl⟩
set_option maxHeartbeats 4000000 in
theorem r_set {G : px_G} {ws : va_W} {d m : Nat} {aa : Nat → Nat} {fa : Nat → Nat → Int32} {s : Nat → Int32} (h : RH G ws m aa fa s) {c b : Nat} {x : Int32} (hc : c ≤ 200) (hb : b < 8) (hx : isZ x) : px G m_Rf_set 0 (lv_args 0 [.ref m, .int (nI c), .int (nI b), .int x]) [] ws d 0 0 (fun v w => v = none ∧ RH G w m aa (upF fa 5 (8 * c + b) x) s ∧ px_kp Kc ws w) := by
  refine p_s rfl rfl ?_
  refine p_get rfl f_Rf_25 h.1 rfl ?_
  refine p_s rfl rfl ?_
  refine p_s rfl rfl ?_
  refine p_s rfl rfl ?_
  refine p_s rfl rfl ?_
  refine p_s rfl rfl ?_
  refine p_s rfl rfl ?_
  refine p_zastS rfl (h.2.1 5 (by decide)) (ix8 c b) (by omega) (by decide) hx ?_
  exact p_vret rfl rfl ⟨rfl, h.put (by decide) (fun _ => hx), h.kp (by decide)⟩
def upS (s : Nat → Int32) (k0 : Nat) (x : Int32) : Nat → Int32 := fun k => if k = k0 then x else s k
set_option maxHeartbeats 4000000 in
theorem r_noneT {G : px_G} {ws : va_W} {d m : Nat} {aa : Nat → Nat} {fa : Nat → Nat → Int32} {s : Nat → Int32} (h : RH G ws m aa fa s) {x : Int32} (hx : x < 1 ∨ s 2 < x) : px G m_Rf_none 0 (lv_args 0 [.ref m, .int x]) [] ws d 0 0 (fun v w => v = some (.int 1) ∧ RH G w m aa fa (upS s 0 0) ∧ px_kp Kc ws w) := by
  refine p_s rfl rfl ?_
  refine p_s rfl rfl ?_
  refine p_put rfl fp_Rf_70 h.1 rfl rfl (by exact Nat.le_of_ble_eq_true rfl) ?_
  have h1 : RH G (px_up ws m (oRf aa (upS s 0 0))) m aa fa (upS s 0 0) := h.sc (upS s 0 0)
  refine p_s rfl rfl ?_
  refine p_s rfl rfl ?_
  refine p_icmp rfl (fun c => ?_) (fun c => ?_)
  · simp only [px_cmp] at c
    refine p_s rfl rfl ?_
    refine p_goto rfl ?_
    exact p_iret rfl rfl rfl ⟨rfl, h1, h.kps⟩
  · simp only [px_ncmp] at c
    refine p_s rfl rfl ?_
    refine p_s rfl rfl ?_
    refine p_get rfl f_Rf_73 h1.1 rfl ?_
    refine p_icmp rfl (fun c2 => ?_) (fun c2 => ?_)
    · simp only [px_cmp] at c2
      refine p_s rfl rfl ?_
      exact absurd hx (fun z => z.elim c (fun z => absurd c2 (Int32.not_le.mpr z)))
    · simp only [px_ncmp] at c2
      refine p_s rfl rfl ?_
      refine p_goto rfl ?_
      exact p_iret rfl rfl rfl ⟨rfl, h1, h.kps⟩
set_option maxHeartbeats 4000000 in
theorem r_noneF {G : px_G} {ws : va_W} {d m : Nat} {aa : Nat → Nat} {fa : Nat → Nat → Int32} {s : Nat → Int32} (h : RH G ws m aa fa s) {x : Int32} (hx : ¬ (x < 1 ∨ s 2 < x)) : px G m_Rf_none 0 (lv_args 0 [.ref m, .int x]) [] ws d 0 0 (fun v w => v = some (.int 0) ∧ RH G w m aa fa (upS s 0 0) ∧ px_kp Kc ws w) := by
  refine p_s rfl rfl ?_
  refine p_s rfl rfl ?_
  refine p_put rfl fp_Rf_70 h.1 rfl rfl (by exact Nat.le_of_ble_eq_true rfl) ?_
  have h1 : RH G (px_up ws m (oRf aa (upS s 0 0))) m aa fa (upS s 0 0) := h.sc (upS s 0 0)
  refine p_s rfl rfl ?_
  refine p_s rfl rfl ?_
  refine p_icmpF rfl (fun z => hx (Or.inl z)) ?_
  refine p_s rfl rfl ?_
  refine p_s rfl rfl ?_
  refine p_get rfl f_Rf_73 h1.1 rfl ?_
  refine p_icmpT rfl (Int32.not_lt.mp (fun z => hx (Or.inr z))) ?_
  refine p_s rfl rfl ?_
  exact p_iret rfl rfl rfl ⟨rfl, h1, h.kps⟩
def stR (g : Nat → Int32) : Nat → Int32
  | 0 => 0
  | b + 1 => if g b = 0 then stR g b else stR g b + (1 <<< (nI b &&& 31))
set_option maxHeartbeats 4000000 in
theorem r_st_loop {G : px_G} {ws : va_W} {d m : Nat} {aa : Nat → Nat} {fa : Nat → Nat → Int32} {s : Nat → Int32} (h : RH G ws m aa fa s) {c : Nat} (hc : c ≤ 200) : ∀ (k b : Nat) (x2 x3 : Int32), b + k = 8 → x3 = nI b → x2 = stR (fun b => fa 5 (8 * c + b)) b → px G m_Rf_statusOf 4 [(3, .int x3), (2, .int x2), (0, .ref m), (1, .int (nI c))] [] ws (d + 1) 0 0 (fun v w => v = some (.int (stR (fun b => fa 5 (8 * c + b)) 8)) ∧ w = ws) := by
  intro k
  induction k with
  | zero =>
    intro b x2 x3 hbk h3 h2
    subst h3
    subst h2
    have hb : b = 8 := by omega
    subst hb
    refine p_s rfl rfl ?_
    refine p_s rfl rfl ?_
    refine p_icmpT rfl (show (8 : Int32) ≤ nI 8 by decide) ?_
    refine p_s rfl rfl ?_
    exact p_iret rfl rfl rfl ⟨rfl, rfl⟩
  | succ k ih =>
    intro b x2 x3 hbk h3 h2
    subst h3
    subst h2
    have hb : b < 8 := by omega
    refine p_s rfl rfl ?_
    refine p_s rfl rfl ?_
    refine p_icmpF rfl (show ¬ (8 : Int32) ≤ nI b by rw [show (8 : Int32) = nI 8 from rfl, nI_leI (by decide) (by omega)]; omega) ?_
    refine p_s rfl rfl ?_
    refine p_s rfl rfl ?_
    refine p_s rfl rfl ?_
    refine p_callV rfl c_Rf_76 rfl h.1 g_Rf_is rfl rfl rfl (r_is h hc hb) (fun v w hq => ?_)
    obtain ⟨rfl, hw9⟩ := hq
    have hw9 := hw9.symm
    subst hw9
    refine p_if rfl (fun c2 => ?_) (fun c2 => ?_)
    · simp only [px_cmp] at c2
      refine p_s rfl rfl ?_
      refine p_s rfl rfl ?_
      refine p_s rfl rfl ?_
      refine p_goto rfl ?_
      exact ih (b + 1) _ _ (by omega) (nI_1 b) (by rw [stR, if_pos c2])
    · simp only [px_ncmp] at c2
      refine p_s rfl rfl ?_
      refine p_s rfl rfl ?_
      refine p_s rfl rfl ?_
      refine p_s rfl rfl ?_
      refine p_s rfl rfl ?_
      refine p_goto rfl ?_
      refine p_s rfl rfl ?_
      refine p_s rfl rfl ?_
      refine p_goto rfl ?_
      exact ih (b + 1) _ _ (by omega) (nI_1 b) (by rw [stR, if_neg c2])
theorem r_statusOf {G : px_G} {ws : va_W} {d m : Nat} {aa : Nat → Nat} {fa : Nat → Nat → Int32} {s : Nat → Int32} (h : RH G ws m aa fa s) {c : Nat} (hc : c ≤ 200) : px G m_Rf_statusOf 0 (lv_args 0 [.ref m, .int (nI c)]) [] ws (d + 1) 0 0 (fun v w => v = some (.int (stR (fun b => fa 5 (8 * c + b)) 8)) ∧ w = ws) := by
  refine p_s rfl rfl ?_
  refine p_s rfl rfl ?_
  refine p_s rfl rfl ?_
  refine p_s rfl rfl ?_
  exact r_st_loop h hc 8 0 _ _ (by omega) rfl rfl
/-- how many of 1 .. k have g -/
def cnR (g : Nat → Int32) : Nat → Nat
  | 0 => 0
  | k + 1 => cnR g k + (if g (k + 1) = 0 then 0 else 1)
def cnP (g : Nat → Int32) : Nat → Nat
  | 0 => 0
  | k + 1 => cnP g k + (if g (k + 1) ≤ 0 then 0 else 1)
set_option maxHeartbeats 4000000 in
theorem r_many_loop {G : px_G} {ws : va_W} {d m : Nat} {aa : Nat → Nat} {fa : Nat → Nat → Int32} {s : Nat → Int32} (h : RH G ws m aa fa s) {b : Nat} (hb : b < 8) {n : Nat} (hn : n ≤ 200) (hs : s 2 = nI n) : ∀ (k c : Nat) (x2 x3 : Int32), c + k = n → x3 = nI (c + 1) → x2 = nI ((cnR (fun c => fa 5 (8 * c + b))) c) → px G m_Rf_many 4 [(3, .int x3), (2, .int x2), (0, .ref m), (1, .int (nI b))] [] ws (d + 1) 0 0 (fun v w => v = some (.int (nI ((cnR (fun c => fa 5 (8 * c + b))) n))) ∧ w = ws) := by
  intro k
  induction k with
  | zero =>
    intro c x2 x3 hck h3 h2
    subst h3
    subst h2
    have hcn : c = n := by omega
    subst hcn
    refine p_s rfl rfl ?_
    refine p_s rfl rfl ?_
    refine p_get rfl f_Rf_73 h.1 rfl ?_
    rw [hs]
    refine p_icmpT rfl (show nI c < nI (c + 1) from nI_lt (by omega) (by omega)) ?_
    refine p_s rfl rfl ?_
    exact p_iret rfl rfl rfl ⟨rfl, rfl⟩
  | succ k ih =>
    intro c x2 x3 hck h3 h2
    subst h3
    subst h2
    have hcn : c < n := by omega
    refine p_s rfl rfl ?_
    refine p_s rfl rfl ?_
    refine p_get rfl f_Rf_73 h.1 rfl ?_
    rw [hs]
    refine p_icmpF rfl (show ¬ nI n < nI (c + 1) from nI_nlt (by omega) (by omega)) ?_
    refine p_s rfl rfl ?_
    refine p_s rfl rfl ?_
    refine p_s rfl rfl ?_
    refine p_callV rfl c_Rf_76 rfl h.1 g_Rf_is rfl rfl rfl (r_is h (by omega) hb) (fun v w hq => ?_)
    obtain ⟨rfl, hw9⟩ := hq
    have hw9 := hw9.symm
    subst hw9
    refine p_if rfl (fun c2 => ?_) (fun c2 => ?_)
    · simp only [px_cmp] at c2
      refine p_s rfl rfl ?_
      refine p_s rfl rfl ?_
      refine p_s rfl rfl ?_
      refine p_goto rfl ?_
      exact ih (c + 1) _ _ (by omega) (nI_1 (c + 1)) (by rw [cnR, if_pos c2, Nat.add_zero])
    · simp only [px_ncmp] at c2
      refine p_s rfl rfl ?_
      refine p_s rfl rfl ?_
      refine p_s rfl rfl ?_
      refine p_goto rfl ?_
      refine p_s rfl rfl ?_
      refine p_s rfl rfl ?_
      refine p_goto rfl ?_
      exact ih (c + 1) _ _ (by omega) (nI_1 (c + 1)) (by rw [cnR, if_neg c2]; exact nI_1 _)
theorem r_many {G : px_G} {ws : va_W} {d m : Nat} {aa : Nat → Nat} {fa : Nat → Nat → Int32} {s : Nat → Int32} (h : RH G ws m aa fa s) {b : Nat} (hb : b < 8) {n : Nat} (hn : n ≤ 200) (hs : s 2 = nI n) : px G m_Rf_many 0 (lv_args 0 [.ref m, .int (nI b)]) [] ws (d + 1) 0 0 (fun v w => v = some (.int (nI ((cnR (fun c => fa 5 (8 * c + b))) n))) ∧ w = ws) := by
  refine p_s rfl rfl ?_
  refine p_s rfl rfl ?_
  refine p_s rfl rfl ?_
  refine p_s rfl rfl ?_
  exact r_many_loop h hb hn hs n 0 _ _ (by omega) rfl rfl
set_option maxHeartbeats 4000000 in
theorem r_entries_loop {G : px_G} {ws : va_W} {d m : Nat} {aa : Nat → Nat} {fa : Nat → Nat → Int32} {s : Nat → Int32} (h : RH G ws m aa fa s) {n : Nat} (hn : n ≤ 200) (hs : s 2 = nI n) : ∀ (k c : Nat) (x2 x3 : Int32), c + k = n → x3 = nI (c + 1) → x2 = nI ((cnP (fa 13)) c) → px G m_Rf_entries 4 [(2, .int x3), (1, .int x2), (0, .ref m)] [] ws d 0 0 (fun v w => v = some (.int (nI ((cnP (fa 13)) n))) ∧ w = ws) := by
  intro k
  induction k with
  | zero =>
    intro c x2 x3 hck h3 h2
    subst h3
    subst h2
    have hcn : c = n := by omega
    subst hcn
    refine p_s rfl rfl ?_
    refine p_s rfl rfl ?_
    refine p_get rfl f_Rf_73 h.1 rfl ?_
    rw [hs]
    refine p_icmpT rfl (show nI c < nI (c + 1) from nI_lt (by omega) (by omega)) ?_
    refine p_s rfl rfl ?_
    exact p_iret rfl rfl rfl ⟨rfl, rfl⟩
  | succ k ih =>
    intro c x2 x3 hck h3 h2
    subst h3
    subst h2
    have hcn : c < n := by omega
    refine p_s rfl rfl ?_
    refine p_s rfl rfl ?_
    refine p_get rfl f_Rf_73 h.1 rfl ?_
    rw [hs]
    refine p_icmpF rfl (show ¬ nI n < nI (c + 1) from nI_nlt (by omega) (by omega)) ?_
    refine p_s rfl rfl ?_
    refine p_get rfl f_Rf_50 h.1 rfl ?_
    refine p_s rfl rfl ?_
    refine p_ialdS rfl (h.2.1 13 (by decide)) rfl (by omega) (by decide) ?_
    refine p_if rfl (fun c2 => ?_) (fun c2 => ?_)
    · simp only [px_cmp] at c2
      refine p_s rfl rfl ?_
      refine p_s rfl rfl ?_
      refine p_s rfl rfl ?_
      refine p_goto rfl ?_
      exact ih (c + 1) _ _ (by omega) (nI_1 (c + 1)) (by rw [cnP, if_pos c2, Nat.add_zero])
    · simp only [px_ncmp] at c2
      refine p_s rfl rfl ?_
      refine p_s rfl rfl ?_
      refine p_s rfl rfl ?_
      refine p_goto rfl ?_
      refine p_s rfl rfl ?_
      refine p_s rfl rfl ?_
      refine p_goto rfl ?_
      exact ih (c + 1) _ _ (by omega) (nI_1 (c + 1)) (by rw [cnP, if_neg c2]; exact nI_1 _)
theorem r_entries {G : px_G} {ws : va_W} {d m : Nat} {aa : Nat → Nat} {fa : Nat → Nat → Int32} {s : Nat → Int32} (h : RH G ws m aa fa s) {n : Nat} (hn : n ≤ 200) (hs : s 2 = nI n) : px G m_Rf_entries 0 (lv_args 0 [.ref m]) [] ws d 0 0 (fun v w => v = some (.int (nI ((cnP (fa 13)) n))) ∧ w = ws) := by
  refine p_s rfl rfl ?_
  refine p_s rfl rfl ?_
  refine p_s rfl rfl ?_
  refine p_s rfl rfl ?_
  exact r_entries_loop h hn hs n 0 _ _ (by omega) rfl rfl
