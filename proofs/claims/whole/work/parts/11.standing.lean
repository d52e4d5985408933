/-! STANDING: a code's status, trips, age, good -/
abbrev oSg (s t a g : Int32) : va_E := .inr (3, [.int s, .int t, .int a, .int g])
def sHas (s b : Int32) : Int32 := if s &&& b = 0 then 0 else 1
set_option maxHeartbeats 1000000 in
theorem c_has {G : px_G} {ws : va_W} {a d : Nat} {s t ag g : Int32} {b : Int32} (h : px_lk ws a = some (oSg s t ag g)) : px G m_Sg_has 0 (lv_args 0 [.ref a, .int b]) [] ws d 0 0 (fun v w => v = some (.int (sHas s b)) ∧ w = ws) := by
  refine p_s rfl rfl ?_
  refine p_get rfl f_Sg_9 h rfl ?_
  refine p_s rfl rfl ?_
  refine p_s rfl rfl ?_
  refine p_if rfl (fun c => ?_) (fun c => ?_)
  · simp only [px_cmp] at c
    refine p_s rfl rfl ?_
    exact p_iret rfl rfl rfl ⟨by rw [sHas, if_pos c], rfl⟩
  · simp only [px_ncmp] at c
    refine p_s rfl rfl ?_
    refine p_goto rfl ?_
    exact p_iret rfl rfl rfl ⟨by rw [sHas, if_neg c], rfl⟩
set_option maxHeartbeats 1000000 in
theorem c_copyFrom {G : px_G} {ws : va_W} {a d : Nat} {s t ag g : Int32} {b : Nat} {s2 t2 ag2 g2 : Int32} (h : px_lk ws a = some (oSg s t ag g)) (h2 : px_lk ws b = some (oSg s2 t2 ag2 g2)) (hne : b ≠ a) : px G m_Sg_copyFrom 0 (lv_args 0 [.ref a, .ref b]) [] ws d 0 0 (fun v w => v = none ∧ w = px_up ws a (oSg s2 t2 ag2 g2)) := by
  refine p_own h ?_
  refine p_s rfl rfl ?_
  refine p_s rfl rfl ?_
  refine p_get rfl f_Sg_9 (px_keep h2 hne) rfl ?_
  refine p_put2 rfl fp_Sg_9 h rfl rfl (by exact Nat.le_of_ble_eq_true rfl) ?_
  refine p_s rfl rfl ?_
  refine p_s rfl rfl ?_
  refine p_get rfl f_Sg_15 (px_keep h2 hne) rfl ?_
  refine p_put2 rfl fp_Sg_15 h rfl rfl (by exact Nat.le_of_ble_eq_true rfl) ?_
  refine p_s rfl rfl ?_
  refine p_s rfl rfl ?_
  refine p_get rfl f_Sg_18 (px_keep h2 hne) rfl ?_
  refine p_put2 rfl fp_Sg_18 h rfl rfl (by exact Nat.le_of_ble_eq_true rfl) ?_
  refine p_s rfl rfl ?_
  refine p_s rfl rfl ?_
  refine p_get rfl f_Sg_21 (px_keep h2 hne) rfl ?_
  refine p_put2 rfl fp_Sg_21 h rfl rfl (by exact Nat.le_of_ble_eq_true rfl) ?_
  exact p_vret rfl rfl ⟨rfl, rfl⟩
set_option maxHeartbeats 1000000 in
theorem c_reset {G : px_G} {ws : va_W} {a d : Nat} {s t ag g : Int32} (h : px_lk ws a = some (oSg s t ag g)) : px G m_Sg_reset 0 (lv_args 0 [.ref a]) [] ws d 0 0 (fun v w => v = none ∧ w = px_up ws a (oSg 80 0 0 0)) := by
  refine p_own h ?_
  refine p_s rfl rfl ?_
  refine p_s rfl rfl ?_
  refine p_put2 rfl fp_Sg_9 h rfl rfl (by exact Nat.le_of_ble_eq_true rfl) ?_
  refine p_s rfl rfl ?_
  refine p_s rfl rfl ?_
  refine p_put2 rfl fp_Sg_15 h rfl rfl (by exact Nat.le_of_ble_eq_true rfl) ?_
  refine p_s rfl rfl ?_
  refine p_s rfl rfl ?_
  refine p_put2 rfl fp_Sg_18 h rfl rfl (by exact Nat.le_of_ble_eq_true rfl) ?_
  refine p_s rfl rfl ?_
  refine p_s rfl rfl ?_
  refine p_put2 rfl fp_Sg_21 h rfl rfl (by exact Nat.le_of_ble_eq_true rfl) ?_
  exact p_vret rfl rfl ⟨rfl, rfl⟩
set_option maxHeartbeats 1000000 in
theorem c_pass {G : px_G} {ws : va_W} {a d : Nat} {s t ag g : Int32} (h : px_lk ws a = some (oSg s t ag g)) : px G m_Sg_pass 0 (lv_args 0 [.ref a]) [] ws d 0 0 (fun v w => v = none ∧ w = px_up ws a (oSg (s &&& -82) t ag g)) := by
  refine p_own h ?_
  refine p_s rfl rfl ?_
  refine p_s rfl rfl ?_
  refine p_get2 rfl f_Sg_9 h rfl ?_
  refine p_s rfl rfl ?_
  refine p_s rfl rfl ?_
  refine p_put2 rfl fp_Sg_9 h rfl rfl (by exact Nat.le_of_ble_eq_true rfl) ?_
  exact p_vret rfl rfl ⟨rfl, rfl⟩
set_option maxHeartbeats 1000000 in
theorem c_heal {G : px_G} {ws : va_W} {a d : Nat} {s t ag g : Int32} (h : px_lk ws a = some (oSg s t ag g)) : px G m_Sg_heal 0 (lv_args 0 [.ref a]) [] ws d 0 0 (fun v w => v = none ∧ w = px_up ws a (oSg (s &&& -9) 0 0 0)) := by
  refine p_own h ?_
  refine p_s rfl rfl ?_
  refine p_s rfl rfl ?_
  refine p_get2 rfl f_Sg_9 h rfl ?_
  refine p_s rfl rfl ?_
  refine p_s rfl rfl ?_
  refine p_put2 rfl fp_Sg_9 h rfl rfl (by exact Nat.le_of_ble_eq_true rfl) ?_
  refine p_s rfl rfl ?_
  refine p_s rfl rfl ?_
  refine p_put2 rfl fp_Sg_15 h rfl rfl (by exact Nat.le_of_ble_eq_true rfl) ?_
  refine p_s rfl rfl ?_
  refine p_s rfl rfl ?_
  refine p_put2 rfl fp_Sg_18 h rfl rfl (by exact Nat.le_of_ble_eq_true rfl) ?_
  refine p_s rfl rfl ?_
  refine p_s rfl rfl ?_
  refine p_put2 rfl fp_Sg_21 h rfl rfl (by exact Nat.le_of_ble_eq_true rfl) ?_
  exact p_vret rfl rfl ⟨rfl, rfl⟩
set_option maxHeartbeats 1000000 in
theorem c_beginCycle {G : px_G} {ws : va_W} {a d : Nat} {s t ag g : Int32} (h : px_lk ws a = some (oSg s t ag g)) : px G m_Sg_beginCycle 0 (lv_args 0 [.ref a]) [] ws d 0 0 (fun v w => v = none ∧ w = px_up ws a (oSg ((s &&& -3) ||| 64) t ag g)) := by
  refine p_own h ?_
  refine p_s rfl rfl ?_
  refine p_s rfl rfl ?_
  refine p_get2 rfl f_Sg_9 h rfl ?_
  refine p_s rfl rfl ?_
  refine p_s rfl rfl ?_
  refine p_put2 rfl fp_Sg_9 h rfl rfl (by exact Nat.le_of_ble_eq_true rfl) ?_
  refine p_s rfl rfl ?_
  refine p_s rfl rfl ?_
  refine p_get2 rfl f_Sg_9 h rfl ?_
  refine p_s rfl rfl ?_
  refine p_s rfl rfl ?_
  refine p_put2 rfl fp_Sg_9 h rfl rfl (by exact Nat.le_of_ble_eq_true rfl) ?_
  exact p_vret rfl rfl ⟨rfl, rfl⟩
