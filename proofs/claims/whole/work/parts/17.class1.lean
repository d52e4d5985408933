/-! THE CLASS: find, isOn, countCodesWith -/
def isw (x a b : Int32) : Int32 := if x < a ∨ b < x then 0 else 1
set_option maxHeartbeats 2000000 in
theorem c_isWithin {G : px_G} {ws : va_W} {d : Nat} {x a b : Int32} : px G m_TM_isWithin 0 (lv_args 0 [.int x, .int a, .int b]) [] ws d 0 0 (fun v w => v = some (.int (isw x a b)) ∧ w = ws) := by
  refine p_s rfl rfl ?_
  refine p_s rfl rfl ?_
  refine p_icmp rfl (fun c => ?_) (fun c => ?_)
  · simp only [px_cmp] at c
    refine p_s rfl rfl ?_
    exact p_iret rfl rfl rfl ⟨by rw [isw, if_pos (Or.inl c)], rfl⟩
  · simp only [px_ncmp] at c
    refine p_s rfl rfl ?_
    refine p_s rfl rfl ?_
    refine p_icmp rfl (fun c2 => ?_) (fun c2 => ?_)
    · simp only [px_cmp] at c2
      refine p_s rfl rfl ?_
      exact p_iret rfl rfl rfl ⟨by rw [isw, if_pos (Or.inr c2)], rfl⟩
    · simp only [px_ncmp] at c2
      refine p_s rfl rfl ?_
      refine p_goto rfl ?_
      exact p_iret rfl rfl rfl ⟨by rw [isw, if_neg (fun z => z.elim c c2)], rfl⟩
theorem c_at (ad : Nat → Nat → Nat) {n i : Nat} (hi : i < n) : ((List.range n).map (ad 0))[i]? = some (ad 0 i) := by
  rw [List.getElem?_map, List.getElem?_range hi]; rfl
theorem c_len (ad : Nat → Nat → Nat) (n : Nat) : ((List.range n).map (ad 0)).length = n := by rw [List.length_map, List.length_range]
/-- a number is a code's, or none's -/
theorem c_num (x : Int32) {n : Nat} (hn : n ≤ 200) : (∃ i, i < n ∧ x = nI (i + 1)) ∨ (x < 1 ∨ nI n < x) := by
  by_cases h1 : x < 1
  · exact Or.inr (Or.inl h1)
  · by_cases h2 : nI n < x
    · exact Or.inr (Or.inr h2)
    · left
      have h1' : ¬ x.toInt < 1 := fun z => h1 (Int32.lt_iff_toInt_lt.mpr z)
      have h2' : ¬ (n : Int) < x.toInt := fun z => h2 (Int32.lt_iff_toInt_lt.mpr (by rw [nI_toInt (by omega)]; exact z))
      obtain ⟨j, hj, rfl⟩ := nI_of (x := x) (fun z => h1' (by have := Int32.lt_iff_toInt_lt.mp z; have e : (0 : Int32).toInt = 0 := rfl; omega))
      rw [nI_toInt hj] at h1' h2'
      exact ⟨j - 1, by omega, by congr 1; omega⟩
theorem isw_in {i n : Nat} (hi : i < n) (hn : n ≤ 200) : ¬ isw (nI (i + 1)) 1 (nI n) = 0 := by
  rw [isw, if_neg]
  · decide
  · rintro (z | z)
    · rw [show (1 : Int32) = nI 1 from rfl, nI_ltI (by omega) (by omega)] at z
      omega
    · rw [nI_ltI (by omega) (by omega)] at z
      omega
set_option maxHeartbeats 2000000 in
theorem c_findS {G : px_G} {ws : va_W} {d : Nat} {R : Int32} {o : Nat} {ad : Nat → Nat → Nat} {σ : Md} (h : CR G R ws o ad σ) (hn : d_n σ ≤ 200) {i : Nat} (hi : i < d_n σ) : px G m_TM_find 0 (lv_args 0 [.ref o, .int (nI (i + 1))]) [] ws (d + 3) 0 0 (fun v w => v = some (.ref (ad 0 i)) ∧ w = ws) := by
  obtain ⟨sz, mc, hL1⟩ := h.2.2.1.1.cell
  refine p_s rfl rfl ?_
  refine p_s rfl rfl ?_
  refine p_s rfl rfl ?_
  refine p_get rfl f_TM_12 h.1 rfl ?_
  refine p_callV rfl c_TM_44 rfl hL1 g_AL_size rfl rfl rfl (c_size h.2.2.1.1) (fun v w hq => ?_)
  obtain ⟨rfl, rfl⟩ := hq
  rw [c_len]
  refine p_callS rfl c_TM_33 g_TM_isWithin rfl rfl rfl (c_isWithin) (fun v w hq => ?_)
  obtain ⟨rfl, rfl⟩ := hq
  refine p_ifF rfl (isw_in hi hn) ?_
  refine p_s rfl rfl ?_
  refine p_get rfl f_TM_12 h.1 rfl ?_
  refine p_s rfl rfl ?_
  refine p_s rfl rfl ?_
  refine p_s rfl rfl ?_
  rw [show (fun x y : Int32 => x - y) (nI (i + 1)) 1 = nI i by exact nI_pred i]
  refine p_callV rfl c_TM_88 rfl hL1 g_AL_get rfl rfl rfl (c_get h.2.2.1.1 (c_at ad hi)) (fun v w hq => ?_)
  obtain ⟨rfl, rfl⟩ := hq
  refine p_castS rfl cs_TM_48 (h.2.2.2.2.1 i hi).1 ?_
  refine p_goto rfl ?_
  exact p_aretR rfl rfl (Or.inl ⟨_, rfl⟩) ⟨rfl, rfl⟩
set_option maxHeartbeats 2000000 in
theorem c_findN {G : px_G} {ws : va_W} {d : Nat} {R : Int32} {o : Nat} {ad : Nat → Nat → Nat} {σ : Md} (h : CR G R ws o ad σ) {x : Int32} (hx : x < 1 ∨ nI (d_n σ) < x) : px G m_TM_find 0 (lv_args 0 [.ref o, .int x]) [] ws (d + 3) 0 0 (fun v w => v = some .null ∧ w = ws) := by
  obtain ⟨sz, mc, hL1⟩ := h.2.2.1.1.cell
  refine p_s rfl rfl ?_
  refine p_s rfl rfl ?_
  refine p_s rfl rfl ?_
  refine p_get rfl f_TM_12 h.1 rfl ?_
  refine p_callV rfl c_TM_44 rfl hL1 g_AL_size rfl rfl rfl (c_size h.2.2.1.1) (fun v w hq => ?_)
  obtain ⟨rfl, rfl⟩ := hq
  rw [c_len]
  refine p_callS rfl c_TM_33 g_TM_isWithin rfl rfl rfl (c_isWithin) (fun v w hq => ?_)
  obtain ⟨rfl, rfl⟩ := hq
  refine p_ifT rfl (show isw x 1 (nI (d_n σ)) = 0 by rw [isw, if_pos hx]) ?_
  refine p_s rfl rfl ?_
  exact p_aret (r := none) rfl rfl (Or.inl ⟨_, rfl⟩) ⟨rfl, rfl⟩
set_option maxHeartbeats 2000000 in
theorem c_isOn {G : px_G} {ws : va_W} {d : Nat} {o l m : Nat} {cd p cy ev k : Int32} (h : px_lk ws o = some (oTM l m cd p cy ev)) : px G m_TM_isOn 0 (lv_args 0 [.ref o, .int k]) [] ws d 0 0 (fun v w => v = some (.int (sHas cd (1 <<< (k &&& 31)))) ∧ w = ws) := by
  refine p_s rfl rfl ?_
  refine p_get rfl f_TM_16 h rfl ?_
  refine p_s rfl rfl ?_
  refine p_s rfl rfl ?_
  refine p_s rfl rfl ?_
  refine p_s rfl rfl ?_
  refine p_if rfl (fun c => ?_) (fun c => ?_)
  · simp only [px_cmp] at c
    refine p_s rfl rfl ?_
    exact p_iret rfl rfl rfl ⟨by rw [sHas, if_pos c], rfl⟩
  · simp only [px_ncmp] at c
    refine p_s rfl rfl ?_
    refine p_goto rfl ?_
    exact p_iret rfl rfl rfl ⟨by rw [sHas, if_neg c], rfl⟩
/-- how many of the first k codes have the bit -/
def cntB (A : Nat → Nat → Int32) (b : Int32) : Nat → Nat
  | 0 => 0
  | k + 1 => cntB A b k + (if sHas (A 3 k) b = 0 then 0 else 1)
theorem cntB_le (A : Nat → Nat → Int32) (b : Int32) : ∀ k, cntB A b k ≤ k
  | 0 => Nat.le_refl _
  | k + 1 => by
    have := cntB_le A b k
    unfold cntB
    split <;> omega
set_option maxHeartbeats 2000000 in
theorem c_cnt_loop {G : px_G} {ws : va_W} {d : Nat} {R : Int32} {o : Nat} {ad : Nat → Nat → Nat} {σ : Md} (h : CR G R ws o ad σ) (hn : d_n σ ≤ 200) (b : Int32) : ∀ (k i : Nat) (x2 x3 : Int32), i + k = d_n σ → x3 = nI i → x2 = nI (cntB (d_A σ) b i) → px G m_TM_countCodesWith 4 [(3, .int x3), (2, .int x2), (0, .ref o), (1, .int b)] [] ws (d + 3) 0 0 (fun v w => v = some (.int (nI (cntB (d_A σ) b (d_n σ)))) ∧ w = ws) := by
  obtain ⟨sz, mc, hL1⟩ := h.2.2.1.1.cell
  intro k
  induction k with
  | zero =>
    intro i x2 x3 hik h3 h2
    subst h3
    subst h2
    have hin : i = d_n σ := by omega
    refine p_s rfl rfl ?_
    refine p_s rfl rfl ?_
    refine p_get rfl f_TM_12 h.1 rfl ?_
    refine p_callV rfl c_TM_44 rfl hL1 g_AL_size rfl rfl rfl (c_size h.2.2.1.1) (fun v w hq => ?_)
    obtain ⟨rfl, rfl⟩ := hq
    rw [c_len]
    refine p_icmpT rfl (show nI (d_n σ) ≤ nI i by rw [hin]; exact Int32.le_refl _) ?_
    refine p_s rfl rfl ?_
    exact p_iret rfl rfl rfl ⟨by rw [hin], rfl⟩
  | succ k ih =>
    intro i x2 x3 hik h3 h2
    subst h3
    subst h2
    have hin : i < d_n σ := by omega
    refine p_s rfl rfl ?_
    refine p_s rfl rfl ?_
    refine p_get rfl f_TM_12 h.1 rfl ?_
    refine p_callV rfl c_TM_44 rfl hL1 g_AL_size rfl rfl rfl (c_size h.2.2.1.1) (fun v w hq => ?_)
    obtain ⟨rfl, rfl⟩ := hq
    rw [c_len]
    refine p_icmpF rfl (show ¬ nI (d_n σ) ≤ nI i from nI_ge hin (by omega)) ?_
    refine p_s rfl rfl ?_
    refine p_get rfl f_TM_12 h.1 rfl ?_
    refine p_s rfl rfl ?_
    refine p_callV rfl c_TM_88 rfl hL1 g_AL_get rfl rfl rfl (c_get h.2.2.1.1 (c_at ad hin)) (fun v w hq => ?_)
    obtain ⟨rfl, rfl⟩ := hq
    refine p_castS rfl cs_TM_48 (h.2.2.2.2.1 i hin).1 ?_
    refine p_get rfl f_TM_79 (h.2.2.2.2.1 i hin).1 rfl ?_
    refine p_s rfl rfl ?_
    refine p_callV rfl c_TM_173 rfl (h.2.2.2.2.1 i hin).2.1 g_Sg_has rfl rfl rfl (c_has (h.2.2.2.2.1 i hin).2.1) (fun v w hq => ?_)
    obtain ⟨rfl, rfl⟩ := hq
    refine p_if rfl (fun c => ?_) (fun c => ?_)
    · simp only [px_cmp] at c
      refine p_s rfl rfl ?_
      refine p_goto rfl ?_
      exact ih (i + 1) _ _ (by omega) (nI_1 i) (by rw [cntB, if_pos c]; rfl)
    · simp only [px_ncmp] at c
      refine p_s rfl rfl ?_
      refine p_s rfl rfl ?_
      refine p_goto rfl ?_
      exact ih (i + 1) _ _ (by omega) (nI_1 i) (by rw [cntB, if_neg c]; exact nI_1 _)
theorem c_countCodesWith {G : px_G} {ws : va_W} {d : Nat} {R : Int32} {o : Nat} {ad : Nat → Nat → Nat} {σ : Md} (h : CR G R ws o ad σ) (hn : d_n σ ≤ 200) {b : Int32} : px G m_TM_countCodesWith 0 (lv_args 0 [.ref o, .int b]) [] ws (d + 3) 0 0 (fun v w => v = some (.int (nI (cntB (d_A σ) b (d_n σ)))) ∧ w = ws) := by
  refine p_s rfl rfl ?_
  refine p_s rfl rfl ?_
  refine p_s rfl rfl ?_
  refine p_s rfl rfl ?_
  exact c_cnt_loop h hn b (d_n σ) 0 _ _ (by omega) rfl rfl
