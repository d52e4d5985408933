/-! STANDING: a code's status, trips, age, good -/
abbrev oSg (s t a g : Int32) : va_E := .inr (3, [.int s, .int t, .int a, .int g])
def sHas (s b : Int32) : Int32 := if s &&& b = 0 then 0 else 1
set_option maxHeartbeats 1000000 in
theorem c_has {G : px_G} {ws : va_W} {a d : Nat} {s t ag g : Int32} {b : Int32} (h : px_lk ws a = some (oSg s t ag g)) : px G m_Sg_has 0 (lv_args 0 [.ref a, .int b]) [] ws d 0 0 (fun v w => v = some (.int (sHas s b)) ∧ w = ws) := by
  refine p_s rfl rfl ?_
  refine p_get rfl f_Sg_9 h rfl ?_
  refine p_s rfl rfl ?_
  refine p_s rfl rfl ?_
  refine p_if rfl (fun c => ?_) (fun c => ?_)
  · simp only [px_cmp] at c
    refine p_s rfl rfl ?_
    exact p_iret rfl rfl rfl ⟨by rw [sHas, if_pos c], rfl⟩
  · simp only [px_ncmp] at c
    refine p_s rfl rfl ?_
    refine p_goto rfl ?_
    exact p_iret rfl rfl rfl ⟨by rw [sHas, if_neg c], rfl⟩
set_option maxHeartbeats 1000000 in
theorem c_copyFrom {G : px_G} {ws : va_W} {a d : Nat} {s t ag g : Int32} {b : Nat} {s2 t2 ag2 g2 : Int32} (h : px_lk ws a = some (oSg s t ag g)) (h2 : px_lk ws b = some (oSg s2 t2 ag2 g2)) (hne : b ≠ a) : px G m_Sg_copyFrom 0 (lv_args 0 [.ref a, .ref b]) [] ws d 0 0 (fun v w => v = none ∧ w = px_up ws a (oSg s2 t2 ag2 g2)) := by
  refine p_own h ?_
  refine p_s rfl rfl ?_
  refine p_s rfl rfl ?_
  refine p_get rfl f_Sg_9 (px_keep h2 hne) rfl ?_
  refine p_put2 rfl fp_Sg_9 h rfl rfl (by exact Nat.le_of_ble_eq_true rfl) ?_
  refine p_s rfl rfl ?_
  refine p_s rfl rfl ?_
  refine p_get rfl f_Sg_15 (px_keep h2 hne) rfl ?_
  refine p_put2 rfl fp_Sg_15 h rfl rfl (by exact Nat.le_of_ble_eq_true rfl) ?_
  refine p_s rfl rfl ?_
  refine p_s rfl rfl ?_
  refine p_get rfl f_Sg_18 (px_keep h2 hne) rfl ?_
  refine p_put2 rfl fp_Sg_18 h rfl rfl (by exact Nat.le_of_ble_eq_true rfl) ?_
  refine p_s rfl rfl ?_
  refine p_s rfl rfl ?_
  refine p_get rfl f_Sg_21 (px_keep h2 hne) rfl ?_
  refine p_put2 rfl fp_Sg_21 h rfl rfl (by exact Nat.le_of_ble_eq_true rfl) ?_
  exact p_vret rfl rfl ⟨rfl, rfl⟩
set_option maxHeartbeats 1000000 in
theorem c_reset {G : px_G} {ws : va_W} {a d : Nat} {s t ag g : Int32} (h : px_lk ws a = some (oSg s t ag g)) : px G m_Sg_reset 0 (lv_args 0 [.ref a]) [] ws d 0 0 (fun v w => v = none ∧ w = px_up ws a (oSg 80 0 0 0)) := by
  refine p_own h ?_
  refine p_s rfl rfl ?_
  refine p_s rfl rfl ?_
  refine p_put2 rfl fp_Sg_9 h rfl rfl (by exact Nat.le_of_ble_eq_true rfl) ?_
  refine p_s rfl rfl ?_
  refine p_s rfl rfl ?_
  refine p_put2 rfl fp_Sg_15 h rfl rfl (by exact Nat.le_of_ble_eq_true rfl) ?_
  refine p_s rfl rfl ?_
  refine p_s rfl rfl ?_
  refine p_put2 rfl fp_Sg_18 h rfl rfl (by exact Nat.le_of_ble_eq_true rfl) ?_
  refine p_s rfl rfl ?_
  refine p_s rfl rfl ?_
  refine p_put2 rfl fp_Sg_21 h rfl rfl (by exact Nat.le_of_ble_eq_true rfl) ?_
  exact p_vret rfl rfl ⟨rfl, rfl⟩
set_option maxHeartbeats 1000000 in
theorem c_pass {G : px_G} {ws : va_W} {a d : Nat} {s t ag g : Int32} (h : px_lk ws a = some (oSg s t ag g)) : px G m_Sg_pass 0 (lv_args 0 [.ref a]) [] ws d 0 0 (fun v w => v = none ∧ w = px_up ws a (oSg (s &&& -82) t ag g)) := by
  refine p_own h ?_
  refine p_s rfl rfl ?_
  refine p_s rfl rfl ?_
  refine p_get2 rfl f_Sg_9 h rfl ?_
  refine p_s rfl rfl ?_
  refine p_s rfl rfl ?_
  refine p_put2 rfl fp_Sg_9 h rfl rfl (by exact Nat.le_of_ble_eq_true rfl) ?_
  exact p_vret rfl rfl ⟨rfl, rfl⟩
set_option maxHeartbeats 1000000 in
theorem c_heal {G : px_G} {ws : va_W} {a d : Nat} {s t ag g : Int32} (h : px_lk ws a = some (oSg s t ag g)) : px G m_Sg_heal 0 (lv_args 0 [.ref a]) [] ws d 0 0 (fun v w => v = none ∧ w = px_up ws a (oSg (s &&& -9) 0 0 0)) := by
  refine p_own h ?_
  refine p_s rfl rfl ?_
  refine p_s rfl rfl ?_
  refine p_get2 rfl f_Sg_9 h rfl ?_
  refine p_s rfl rfl ?_
  refine p_s rfl rfl ?_
  refine p_put2 rfl fp_Sg_9 h rfl rfl (by exact Nat.le_of_ble_eq_true rfl) ?_
  refine p_s rfl rfl ?_
  refine p_s rfl rfl ?_
  refine p_put2 rfl fp_Sg_15 h rfl rfl (by exact Nat.le_of_ble_eq_true rfl) ?_
  refine p_s rfl rfl ?_
  refine p_s rfl rfl ?_
  refine p_put2 rfl fp_Sg_18 h rfl rfl (by exact Nat.le_of_ble_eq_true rfl) ?_
  refine p_s rfl rfl ?_
  refine p_s rfl rfl ?_
  refine p_put2 rfl fp_Sg_21 h rfl rfl (by exact Nat.le_of_ble_eq_true rfl) ?_
  exact p_vret rfl rfl ⟨rfl, rfl⟩
set_option maxHeartbeats 1000000 in
theorem c_beginCycle {G : px_G} {ws : va_W} {a d : Nat} {s t ag g : Int32} (h : px_lk ws a = some (oSg s t ag g)) : px G m_Sg_beginCycle 0 (lv_args 0 [.ref a]) [] ws d 0 0 (fun v w => v = none ∧ w = px_up ws a (oSg ((s &&& -3) ||| 64) t ag g)) := by
  refine p_own h ?_
  refine p_s rfl rfl ?_
  refine p_s rfl rfl ?_
  refine p_get2 rfl f_Sg_9 h rfl ?_
  refine p_s rfl rfl ?_
  refine p_s rfl rfl ?_
  refine p_put2 rfl fp_Sg_9 h rfl rfl (by exact Nat.le_of_ble_eq_true rfl) ?_
  refine p_s rfl rfl ?_
  refine p_s rfl rfl ?_
  refine p_get2 rfl f_Sg_9 h rfl ?_
  refine p_s rfl rfl ?_
  refine p_s rfl rfl ?_
  refine p_put2 rfl fp_Sg_9 h rfl rfl (by exact Nat.le_of_ble_eq_true rfl) ?_
  exact p_vret rfl rfl ⟨rfl, rfl⟩
def mn255 (x : Int32) : Int32 := if 255 < x then 255 else x
def sFailT (s t : Int32) : Int32 := if sHas (s &&& -81) 2 = 0 then mn255 (t + 1) else t
def sFailS (l s t : Int32) : Int32 := (if sFailT s t < 2 then s &&& -81 else (s &&& -81) ||| (if l = 0 then 8 else 136)) ||| 39
set_option maxHeartbeats 1000000 in
theorem c_fail {G : px_G} {ws : va_W} {a d : Nat} {s t ag g : Int32} {l : Int32} (h : px_lk ws a = some (oSg s t ag g)) : px G m_Sg_fail 0 (lv_args 0 [.ref a, .int l]) [] ws (d + 1) 0 0 (fun v w => v = none ∧ w = px_up ws a (oSg (sFailS l s t) (sFailT s t) 0 0)) := by
  refine p_own h ?_
  refine p_s rfl rfl ?_
  refine p_s rfl rfl ?_
  refine p_get2 rfl f_Sg_9 h rfl ?_
  refine p_s rfl rfl ?_
  refine p_s rfl rfl ?_
  refine p_put2 rfl fp_Sg_9 h rfl rfl (by exact Nat.le_of_ble_eq_true rfl) ?_
  refine p_s rfl rfl ?_
  refine p_s rfl rfl ?_
  refine p_callV rfl c_Sg_24 rfl (px_lk_same _ _ _ _ h) g_Sg_has rfl rfl rfl (c_has ((px_lk_same _ _ _ _ h))) (fun v w hq => ?_)
  obtain ⟨rfl, rfl⟩ := hq
  refine p_if rfl (fun c => ?_) (fun c => ?_)
  · simp only [px_cmp] at c
    refine p_s rfl rfl ?_
    refine p_get2 rfl f_Sg_15 h rfl ?_
    refine p_s rfl rfl ?_
    refine p_icmp rfl (fun c2 => ?_) (fun c2 => ?_)
    · simp only [px_cmp] at c2
      refine p_s rfl rfl ?_
      refine p_s rfl rfl ?_
      refine p_get2 rfl f_Sg_9 h rfl ?_
      refine p_s rfl rfl ?_
      refine p_s rfl rfl ?_
      refine p_put2 rfl fp_Sg_9 h rfl rfl (by exact Nat.le_of_ble_eq_true rfl) ?_
      refine p_s rfl rfl ?_
      refine p_s rfl rfl ?_
      refine p_put2 rfl fp_Sg_18 h rfl rfl (by exact Nat.le_of_ble_eq_true rfl) ?_
      refine p_s rfl rfl ?_
      refine p_s rfl rfl ?_
      refine p_put2 rfl fp_Sg_21 h rfl rfl (by exact Nat.le_of_ble_eq_true rfl) ?_
      exact p_vret rfl rfl ⟨rfl, by rw [sFailS, sFailT, if_neg c, if_pos (show t < 2 from c2)]; rfl⟩
    · simp only [px_ncmp] at c2
      refine p_s rfl rfl ?_
      refine p_s rfl rfl ?_
      refine p_get2 rfl f_Sg_9 h rfl ?_
      refine p_s rfl rfl ?_
      refine p_if rfl (fun c3 => ?_) (fun c3 => ?_)
      · simp only [px_cmp] at c3
        refine p_s rfl rfl ?_
        refine p_s rfl rfl ?_
        refine p_put2 rfl fp_Sg_9 h rfl rfl (by exact Nat.le_of_ble_eq_true rfl) ?_
        refine p_s rfl rfl ?_
        refine p_s rfl rfl ?_
        refine p_get2 rfl f_Sg_9 h rfl ?_
        refine p_s rfl rfl ?_
        refine p_s rfl rfl ?_
        refine p_put2 rfl fp_Sg_9 h rfl rfl (by exact Nat.le_of_ble_eq_true rfl) ?_
        refine p_s rfl rfl ?_
        refine p_s rfl rfl ?_
        refine p_put2 rfl fp_Sg_18 h rfl rfl (by exact Nat.le_of_ble_eq_true rfl) ?_
        refine p_s rfl rfl ?_
        refine p_s rfl rfl ?_
        refine p_put2 rfl fp_Sg_21 h rfl rfl (by exact Nat.le_of_ble_eq_true rfl) ?_
        exact p_vret rfl rfl ⟨rfl, by rw [sFailS, sFailT, if_neg c, if_neg (show ¬ t < 2 from c2), if_pos c3]; rfl⟩
      · simp only [px_ncmp] at c3
        refine p_s rfl rfl ?_
        refine p_goto rfl ?_
        refine p_s rfl rfl ?_
        refine p_put2 rfl fp_Sg_9 h rfl rfl (by exact Nat.le_of_ble_eq_true rfl) ?_
        refine p_s rfl rfl ?_
        refine p_s rfl rfl ?_
        refine p_get2 rfl f_Sg_9 h rfl ?_
        refine p_s rfl rfl ?_
        refine p_s rfl rfl ?_
        refine p_put2 rfl fp_Sg_9 h rfl rfl (by exact Nat.le_of_ble_eq_true rfl) ?_
        refine p_s rfl rfl ?_
        refine p_s rfl rfl ?_
        refine p_put2 rfl fp_Sg_18 h rfl rfl (by exact Nat.le_of_ble_eq_true rfl) ?_
        refine p_s rfl rfl ?_
        refine p_s rfl rfl ?_
        refine p_put2 rfl fp_Sg_21 h rfl rfl (by exact Nat.le_of_ble_eq_true rfl) ?_
        exact p_vret rfl rfl ⟨rfl, by rw [sFailS, sFailT, if_neg c, if_neg (show ¬ t < 2 from c2), if_neg c3]; rfl⟩
  · simp only [px_ncmp] at c
    refine p_s rfl rfl ?_
    refine p_s rfl rfl ?_
    refine p_get2 rfl f_Sg_15 h rfl ?_
    refine p_s rfl rfl ?_
    refine p_s rfl rfl ?_
    refine p_s rfl rfl ?_
    refine p_min rfl w_277 w_217 w_10 w_218 (by exact Nat.le_of_ble_eq_true rfl) ?_
    refine p_put2 rfl fp_Sg_15 h rfl rfl (by exact Nat.le_of_ble_eq_true rfl) ?_
    refine p_s rfl rfl ?_
    refine p_get2 rfl f_Sg_15 h rfl ?_
    refine p_s rfl rfl ?_
    refine p_icmp rfl (fun c2 => ?_) (fun c2 => ?_)
    · simp only [px_cmp] at c2
      refine p_s rfl rfl ?_
      refine p_s rfl rfl ?_
      refine p_get2 rfl f_Sg_9 h rfl ?_
      refine p_s rfl rfl ?_
      refine p_s rfl rfl ?_
      refine p_put2 rfl fp_Sg_9 h rfl rfl (by exact Nat.le_of_ble_eq_true rfl) ?_
      refine p_s rfl rfl ?_
      refine p_s rfl rfl ?_
      refine p_put2 rfl fp_Sg_18 h rfl rfl (by exact Nat.le_of_ble_eq_true rfl) ?_
      refine p_s rfl rfl ?_
      refine p_s rfl rfl ?_
      refine p_put2 rfl fp_Sg_21 h rfl rfl (by exact Nat.le_of_ble_eq_true rfl) ?_
      exact p_vret rfl rfl ⟨rfl, by rw [sFailS, sFailT, if_pos c, if_pos (show mn255 (t + 1) < 2 from c2)]; rfl⟩
    · simp only [px_ncmp] at c2
      refine p_s rfl rfl ?_
      refine p_s rfl rfl ?_
      refine p_get2 rfl f_Sg_9 h rfl ?_
      refine p_s rfl rfl ?_
      refine p_if rfl (fun c3 => ?_) (fun c3 => ?_)
      · simp only [px_cmp] at c3
        refine p_s rfl rfl ?_
        refine p_s rfl rfl ?_
        refine p_put2 rfl fp_Sg_9 h rfl rfl (by exact Nat.le_of_ble_eq_true rfl) ?_
        refine p_s rfl rfl ?_
        refine p_s rfl rfl ?_
        refine p_get2 rfl f_Sg_9 h rfl ?_
        refine p_s rfl rfl ?_
        refine p_s rfl rfl ?_
        refine p_put2 rfl fp_Sg_9 h rfl rfl (by exact Nat.le_of_ble_eq_true rfl) ?_
        refine p_s rfl rfl ?_
        refine p_s rfl rfl ?_
        refine p_put2 rfl fp_Sg_18 h rfl rfl (by exact Nat.le_of_ble_eq_true rfl) ?_
        refine p_s rfl rfl ?_
        refine p_s rfl rfl ?_
        refine p_put2 rfl fp_Sg_21 h rfl rfl (by exact Nat.le_of_ble_eq_true rfl) ?_
        exact p_vret rfl rfl ⟨rfl, by rw [sFailS, sFailT, if_pos c, if_neg (show ¬ mn255 (t + 1) < 2 from c2), if_pos c3]; rfl⟩
      · simp only [px_ncmp] at c3
        refine p_s rfl rfl ?_
        refine p_goto rfl ?_
        refine p_s rfl rfl ?_
        refine p_put2 rfl fp_Sg_9 h rfl rfl (by exact Nat.le_of_ble_eq_true rfl) ?_
        refine p_s rfl rfl ?_
        refine p_s rfl rfl ?_
        refine p_get2 rfl f_Sg_9 h rfl ?_
        refine p_s rfl rfl ?_
        refine p_s rfl rfl ?_
        refine p_put2 rfl fp_Sg_9 h rfl rfl (by exact Nat.le_of_ble_eq_true rfl) ?_
        refine p_s rfl rfl ?_
        refine p_s rfl rfl ?_
        refine p_put2 rfl fp_Sg_18 h rfl rfl (by exact Nat.le_of_ble_eq_true rfl) ?_
        refine p_s rfl rfl ?_
        refine p_s rfl rfl ?_
        refine p_put2 rfl fp_Sg_21 h rfl rfl (by exact Nat.le_of_ble_eq_true rfl) ?_
        exact p_vret rfl rfl ⟨rfl, by rw [sFailS, sFailT, if_pos c, if_neg (show ¬ mn255 (t + 1) < 2 from c2), if_neg c3]; rfl⟩
set_option maxHeartbeats 1000000 in
theorem c_wasOnlyGood {G : px_G} {ws : va_W} {a d : Nat} {s t ag g : Int32} (h : px_lk ws a = some (oSg s t ag g)) : px G m_Sg_wasOnlyGood 0 (lv_args 0 [.ref a]) [] ws (d + 1) 0 0 (fun v w => v = some (.int (if sHas s 2 = 0 ∧ sHas s 64 = 0 then 1 else 0)) ∧ w = ws) := by
  refine p_s rfl rfl ?_
  refine p_s rfl rfl ?_
  refine p_callV rfl c_Sg_24 rfl h g_Sg_has rfl rfl rfl (c_has h) (fun v w hq => ?_)
  obtain ⟨rfl, rfl⟩ := hq
  refine p_if rfl (fun c => ?_) (fun c => ?_)
  · simp only [px_cmp] at c
    refine p_s rfl rfl ?_
    exact p_iret rfl rfl rfl ⟨by rw [if_neg (fun h => c h.1)], rfl⟩
  · simp only [px_ncmp] at c
    refine p_s rfl rfl ?_
    refine p_s rfl rfl ?_
    refine p_callV rfl c_Sg_24 rfl h g_Sg_has rfl rfl rfl (c_has h) (fun v w hq => ?_)
    obtain ⟨rfl, rfl⟩ := hq
    refine p_if rfl (fun c2 => ?_) (fun c2 => ?_)
    · simp only [px_cmp] at c2
      refine p_s rfl rfl ?_
      exact p_iret rfl rfl rfl ⟨by rw [if_neg (fun h => c2 h.2)], rfl⟩
    · simp only [px_ncmp] at c2
      refine p_s rfl rfl ?_
      refine p_goto rfl ?_
      exact p_iret rfl rfl rfl ⟨by rw [if_pos ⟨c, c2⟩], rfl⟩
set_option maxHeartbeats 1000000 in
theorem c_ages {G : px_G} {ws : va_W} {a d : Nat} {s t ag g : Int32} (h : px_lk ws a = some (oSg s t ag g)) : px G m_Sg_ages 0 (lv_args 0 [.ref a]) [] ws (d + 1) 0 0 (fun v w => v = some (.int (if ¬ sHas s 8 = 0 ∧ sHas s 1 = 0 then 1 else 0)) ∧ w = ws) := by
  refine p_s rfl rfl ?_
  refine p_s rfl rfl ?_
  refine p_callV rfl c_Sg_24 rfl h g_Sg_has rfl rfl rfl (c_has h) (fun v w hq => ?_)
  obtain ⟨rfl, rfl⟩ := hq
  refine p_if rfl (fun c => ?_) (fun c => ?_)
  · simp only [px_cmp] at c
    refine p_s rfl rfl ?_
    exact p_iret rfl rfl rfl ⟨by rw [if_neg (fun h => h.1 c)], rfl⟩
  · simp only [px_ncmp] at c
    refine p_s rfl rfl ?_
    refine p_s rfl rfl ?_
    refine p_callV rfl c_Sg_24 rfl h g_Sg_has rfl rfl rfl (c_has h) (fun v w hq => ?_)
    obtain ⟨rfl, rfl⟩ := hq
    refine p_if rfl (fun c2 => ?_) (fun c2 => ?_)
    · simp only [px_cmp] at c2
      refine p_s rfl rfl ?_
      exact p_iret rfl rfl rfl ⟨by rw [if_neg (fun h => c2 h.2)], rfl⟩
    · simp only [px_ncmp] at c2
      refine p_s rfl rfl ?_
      refine p_goto rfl ?_
      exact p_iret rfl rfl rfl ⟨by rw [if_pos ⟨c, c2⟩], rfl⟩
def sGoodT (s t : Int32) : Int32 := if sHas (s &&& -5) 8 = 0 then 0 else t
def sGoodS (s g : Int32) : Int32 := if mn255 (g + 1) < 3 then s &&& -5 else (s &&& -5) &&& -129
set_option maxHeartbeats 1000000 in
theorem c_addGoodCycle {G : px_G} {ws : va_W} {a d : Nat} {s t ag g : Int32} (h : px_lk ws a = some (oSg s t ag g)) : px G m_Sg_addGoodCycle 0 (lv_args 0 [.ref a]) [] ws (d + 1) 0 0 (fun v w => v = none ∧ w = px_up ws a (oSg (sGoodS s g) (sGoodT s t) ag (mn255 (g + 1)))) := by
  refine p_own h ?_
  refine p_s rfl rfl ?_
  refine p_s rfl rfl ?_
  refine p_get2 rfl f_Sg_9 h rfl ?_
  refine p_s rfl rfl ?_
  refine p_s rfl rfl ?_
  refine p_put2 rfl fp_Sg_9 h rfl rfl (by exact Nat.le_of_ble_eq_true rfl) ?_
  refine p_s rfl rfl ?_
  refine p_s rfl rfl ?_
  refine p_callV rfl c_Sg_24 rfl (px_lk_same _ _ _ _ h) g_Sg_has rfl rfl rfl (c_has ((px_lk_same _ _ _ _ h))) (fun v w hq => ?_)
  obtain ⟨rfl, rfl⟩ := hq
  refine p_if rfl (fun c => ?_) (fun c => ?_)
  · simp only [px_cmp] at c
    refine p_s rfl rfl ?_
    refine p_s rfl rfl ?_
    refine p_get2 rfl f_Sg_21 h rfl ?_
    refine p_s rfl rfl ?_
    refine p_s rfl rfl ?_
    refine p_s rfl rfl ?_
    refine p_min rfl w_277 w_217 w_10 w_218 (by exact Nat.le_of_ble_eq_true rfl) ?_
    refine p_put2 rfl fp_Sg_21 h rfl rfl (by exact Nat.le_of_ble_eq_true rfl) ?_
    refine p_s rfl rfl ?_
    refine p_get2 rfl f_Sg_21 h rfl ?_
    refine p_s rfl rfl ?_
    refine p_icmp rfl (fun c2 => ?_) (fun c2 => ?_)
    · simp only [px_cmp] at c2
      exact p_vret rfl rfl ⟨rfl, by rw [sGoodT, sGoodS, if_neg c, if_pos (show mn255 (g + 1) < 3 from c2)]; rfl⟩
    · simp only [px_ncmp] at c2
      refine p_s rfl rfl ?_
      refine p_s rfl rfl ?_
      refine p_get2 rfl f_Sg_9 h rfl ?_
      refine p_s rfl rfl ?_
      refine p_s rfl rfl ?_
      refine p_put2 rfl fp_Sg_9 h rfl rfl (by exact Nat.le_of_ble_eq_true rfl) ?_
      exact p_vret rfl rfl ⟨rfl, by rw [sGoodT, sGoodS, if_neg c, if_neg (show ¬ mn255 (g + 1) < 3 from c2)]; rfl⟩
  · simp only [px_ncmp] at c
    refine p_s rfl rfl ?_
    refine p_s rfl rfl ?_
    refine p_put2 rfl fp_Sg_15 h rfl rfl (by exact Nat.le_of_ble_eq_true rfl) ?_
    refine p_s rfl rfl ?_
    refine p_s rfl rfl ?_
    refine p_get2 rfl f_Sg_21 h rfl ?_
    refine p_s rfl rfl ?_
    refine p_s rfl rfl ?_
    refine p_s rfl rfl ?_
    refine p_min rfl w_277 w_217 w_10 w_218 (by exact Nat.le_of_ble_eq_true rfl) ?_
    refine p_put2 rfl fp_Sg_21 h rfl rfl (by exact Nat.le_of_ble_eq_true rfl) ?_
    refine p_s rfl rfl ?_
    refine p_get2 rfl f_Sg_21 h rfl ?_
    refine p_s rfl rfl ?_
    refine p_icmp rfl (fun c2 => ?_) (fun c2 => ?_)
    · simp only [px_cmp] at c2
      exact p_vret rfl rfl ⟨rfl, by rw [sGoodT, sGoodS, if_pos c, if_pos (show mn255 (g + 1) < 3 from c2)]; rfl⟩
    · simp only [px_ncmp] at c2
      refine p_s rfl rfl ?_
      refine p_s rfl rfl ?_
      refine p_get2 rfl f_Sg_9 h rfl ?_
      refine p_s rfl rfl ?_
      refine p_s rfl rfl ?_
      refine p_put2 rfl fp_Sg_9 h rfl rfl (by exact Nat.le_of_ble_eq_true rfl) ?_
      exact p_vret rfl rfl ⟨rfl, by rw [sGoodT, sGoodS, if_pos c, if_neg (show ¬ mn255 (g + 1) < 3 from c2)]; rfl⟩
set_option maxHeartbeats 1000000 in
theorem c_SgInit {G : px_G} {ws : va_W} {a d : Nat} {s t ag g : Int32} (h : px_lk ws a = some (oSg s t ag g)) : px G m_Sg_init 0 (lv_args 0 [.ref a]) [] ws (d + 1) 0 0 (fun v w => v = none ∧ w = px_up ws a (oSg 80 0 0 0)) := by
  refine p_own h ?_
  refine p_s rfl rfl ?_
  refine p_objI rfl w_114 w_24 w_25 (by exact Nat.le_of_ble_eq_true rfl) ?_
  refine p_s rfl rfl ?_
  refine p_s rfl rfl ?_
  refine p_put2 rfl fp_Sg_9 h rfl rfl (by exact Nat.le_of_ble_eq_true rfl) ?_
  refine p_s rfl rfl ?_
  refine p_s rfl rfl ?_
  refine p_put2 rfl fp_Sg_15 h rfl rfl (by exact Nat.le_of_ble_eq_true rfl) ?_
  refine p_s rfl rfl ?_
  refine p_s rfl rfl ?_
  refine p_put2 rfl fp_Sg_18 h rfl rfl (by exact Nat.le_of_ble_eq_true rfl) ?_
  refine p_s rfl rfl ?_
  refine p_s rfl rfl ?_
  refine p_put2 rfl fp_Sg_21 h rfl rfl (by exact Nat.le_of_ble_eq_true rfl) ?_
  exact p_vret rfl rfl ⟨rfl, rfl⟩
