/-! CODE, SNAPSHOT, ENTRY: what has no loop -/
abbrev oCd (nu pr up dn : Int32) (n k : Nat) (cn : Int32) (pa en : Option Nat) : va_E := .inr (2, [.int nu, .int pr, .int up, .int dn, .ref n, .ref k, .int cn, va_rf pa, va_rf en])
abbrev oEn (ow fi la : Nat) (hp : Int32) : va_E := .inr (4, [.ref ow, .ref fi, .ref la, .int hp])
abbrev oSn (cy ev fc up : Int32) : va_E := .inr (5, [.int cy, .int ev, .int fc, .int up])
set_option maxHeartbeats 1000000 in
theorem c_group {G : px_G} {ws : va_W} {a d : Nat} {nu pr up dn cn : Int32} {n k : Nat} {pa en : Option Nat} (h : px_lk ws a = some (oCd nu pr up dn n k cn pa en)) : px G m_Cd_group 0 (lv_args 0 [.ref a]) [] ws d 0 0 (fun v w => v = some (.int (1 + (pr - 1) / 32)) ∧ w = ws) := by
  refine p_s rfl rfl ?_
  refine p_s rfl rfl ?_
  refine p_get rfl f_Cd_36 h rfl ?_
  refine p_s rfl rfl ?_
  refine p_s rfl rfl ?_
  refine p_s rfl rfl ?_
  refine p_idiv rfl (by decide) ?_
  refine p_s rfl rfl ?_
  exact p_iret rfl rfl rfl ⟨rfl, rfl⟩
set_option maxHeartbeats 1000000 in
theorem c_condition {G : px_G} {ws : va_W} {a d : Nat} {nu pr up dn cn : Int32} {n k : Nat} {pa en : Option Nat} (h : px_lk ws a = some (oCd nu pr up dn n k cn pa en)) : px G m_Cd_condition 0 (lv_args 0 [.ref a]) [] ws d 0 0 (fun v w => v = some (.int (nu - nu / 32 * 32)) ∧ w = ws) := by
  refine p_s rfl rfl ?_
  refine p_get rfl f_Cd_33 h rfl ?_
  refine p_s rfl rfl ?_
  refine p_irem rfl (by decide) ?_
  exact p_iret rfl rfl rfl ⟨rfl, rfl⟩
def cCnt (f cn up dn : Int32) : Int32 := if f = 0 then (if (if 0 < cn then 0 else cn) - dn < -128 then -128 else (if 0 < cn then 0 else cn) - dn) else (if 127 < (if cn < 0 then 0 else cn) + up then 127 else (if cn < 0 then 0 else cn) + up)
set_option maxHeartbeats 1000000 in
theorem c_count {G : px_G} {ws : va_W} {a d : Nat} {nu pr up dn cn : Int32} {n k : Nat} {pa en : Option Nat} {f : Int32} (h : px_lk ws a = some (oCd nu pr up dn n k cn pa en)) : px G m_Cd_count 0 (lv_args 0 [.ref a, .int f]) [] ws (d + 1) 0 0 (fun v w => v = none ∧ w = px_up ws a (oCd nu pr up dn n k (cCnt f cn up dn) pa en)) := by
  refine p_own h ?_
  refine p_s rfl rfl ?_
  refine p_if rfl (fun c => ?_) (fun c => ?_)
  · simp only [px_cmp] at c
    refine p_s rfl rfl ?_
    refine p_s rfl rfl ?_
    refine p_get2 rfl f_Cd_21 h rfl ?_
    refine p_s rfl rfl ?_
    refine p_min rfl w_259 w_217 w_10 w_218 (by exact Nat.le_of_ble_eq_true rfl) ?_
    refine p_s rfl rfl ?_
    refine p_get2 rfl f_Cd_42 h rfl ?_
    refine p_s rfl rfl ?_
    refine p_s rfl rfl ?_
    refine p_max rfl w_258 w_189 w_10 w_190 (by exact Nat.le_of_ble_eq_true rfl) ?_
    refine p_put2 rfl fp_Cd_21 h rfl rfl (by exact Nat.le_of_ble_eq_true rfl) ?_
    exact p_vret rfl rfl ⟨rfl, by rw [cCnt, if_pos c]; rfl⟩
  · simp only [px_ncmp] at c
    refine p_s rfl rfl ?_
    refine p_s rfl rfl ?_
    refine p_get2 rfl f_Cd_21 h rfl ?_
    refine p_s rfl rfl ?_
    refine p_max rfl w_258 w_189 w_10 w_190 (by exact Nat.le_of_ble_eq_true rfl) ?_
    refine p_s rfl rfl ?_
    refine p_get2 rfl f_Cd_39 h rfl ?_
    refine p_s rfl rfl ?_
    refine p_s rfl rfl ?_
    refine p_min rfl w_259 w_217 w_10 w_218 (by exact Nat.le_of_ble_eq_true rfl) ?_
    refine p_put2 rfl fp_Cd_21 h rfl rfl (by exact Nat.le_of_ble_eq_true rfl) ?_
    refine p_goto rfl ?_
    exact p_vret rfl rfl ⟨rfl, by rw [cCnt, if_neg c]; rfl⟩
set_option maxHeartbeats 1000000 in
theorem c_forget {G : px_G} {ws : va_W} {a d : Nat} {nu pr up dn cn : Int32} {n k : Nat} {pa en : Option Nat} {s1 t1 a1 g1 s2 t2 a2 g2 : Int32} (h : px_lk ws a = some (oCd nu pr up dn n k cn pa en)) (hn : px_lk ws n = some (oSg s1 t1 a1 g1)) (hk : px_lk ws k = some (oSg s2 t2 a2 g2)) (hnk : k ≠ n) : px G m_Cd_forget 0 (lv_args 0 [.ref a]) [] ws (d + 1) 0 0 (fun v w => v = none ∧ w = px_up (px_up (px_up ws n (oSg 80 0 0 0)) k (oSg 80 0 0 0)) a (oCd nu pr up dn n k 0 pa en)) := by
  refine p_s rfl rfl ?_
  refine p_get rfl f_Cd_12 h rfl ?_
  refine p_callV rfl c_Cd_54 rfl hn g_Sg_reset rfl rfl rfl (c_reset hn) (fun v w hq => ?_)
  obtain ⟨rfl, rfl⟩ := hq
  have h2 := px_keepK (e := oSg 80 0 0 0) hn h (Nat.ne_of_beq_eq_false rfl)
  have hk2 := px_keep (e := oSg 80 0 0 0) hk hnk
  refine p_s rfl rfl ?_
  refine p_get rfl f_Cd_18 h2 rfl ?_
  refine p_callV rfl c_Cd_54 rfl hk2 g_Sg_reset rfl rfl rfl (c_reset hk2) (fun v w hq => ?_)
  obtain ⟨rfl, rfl⟩ := hq
  have h3 := px_keepK (e := oSg 80 0 0 0) hk2 h2 (Nat.ne_of_beq_eq_false rfl)
  refine p_s rfl rfl ?_
  refine p_s rfl rfl ?_
  refine p_put rfl fp_Cd_21 h3 rfl rfl (by exact Nat.le_of_ble_eq_true rfl) ?_
  exact p_vret rfl rfl ⟨rfl, rfl⟩
set_option maxHeartbeats 1000000 in
theorem c_CdInit {G : px_G} {ws : va_W} {a d : Nat} {nu pr up dn : Int32} (h : px_lk ws a = some (.inr (2, [.int 0, .int 0, .int 0, .int 0, .null, .null, .int 0, .null, .null]))) : px G m_Cd_init 0 (lv_args 0 [.ref a, .int nu, .int pr, .int up, .int dn]) [] ws (d + 2) 2 8 (fun v w => v = none ∧ ∃ n k : Nat, px_lk ws n = none ∧ px_lk ws k = none ∧ k ≠ n ∧ px_lk w a = some (oCd nu pr up dn n k 0 none none) ∧ px_lk w n = some (oSg 80 0 0 0) ∧ px_lk w k = some (oSg 80 0 0 0) ∧ px_fr (fun b => b = a) ws w) := by
  refine p_s rfl rfl ?_
  refine p_objI rfl w_108 w_24 w_25 (by exact Nat.le_of_ble_eq_true rfl) ?_
  refine p_s rfl rfl ?_
  refine p_new (N := 4) rfl nc_Cd_9 (fun n hn hnl => ?_)
  refine p_s rfl rfl ?_
  refine p_callIN rfl c_Cd_11 g_Sg_init rfl rfl rfl (c_SgInit (px_lk_new _ _ _ hn)) (fun v w hq => ?_)
  obtain ⟨rfl, rfl⟩ := hq
  obtain ⟨w1, hw1⟩ : ∃ w1, w1 = px_up (ws ++ [(n, oSg 0 0 0 0)]) n (oSg 80 0 0 0) := ⟨_, rfl⟩
  have A1 : px_lk w1 a = some (.inr (2, [.int 0, .int 0, .int 0, .int 0, .null, .null, .int 0, .null, .null])) := by rw [hw1]; exact px_keep (px_lk_old _ _ _ _ _ h) (px_nn h hn)
  have N1 : px_lk w1 n = some (oSg 80 0 0 0) := by rw [hw1]; exact px_lk_same _ _ _ _ (px_lk_new _ _ _ hn)
  have F1 : px_fr (fun b => b = a) ws w1 := by rw [hw1]; exact px_fr.upn hn
  rw [← hw1]
  refine p_putF rfl fF_Cd_12 rfl A1 rfl rfl (by exact Nat.le_of_ble_eq_true rfl) ?_
  have A2 := px_lk_same _ _ _ (.inr (2, [.int 0, .int 0, .int 0, .int 0, .ref n, .null, .int 0, .null, .null])) A1
  have N2 := px_keep (e := .inr (2, [.int 0, .int 0, .int 0, .int 0, .ref n, .null, .int 0, .null, .null])) N1 (px_nek N1 A1 (Nat.ne_of_beq_eq_false rfl))
  have F2 := F1.tr (px_fr.up (e := .inr (2, [.int 0, .int 0, .int 0, .int 0, .ref n, .null, .int 0, .null, .null])) (rfl : (fun b => b = a) a))
  obtain ⟨w2, hw2⟩ : ∃ w2, w2 = px_up w1 a (.inr (2, [.int 0, .int 0, .int 0, .int 0, .ref n, .null, .int 0, .null, .null])) := ⟨_, rfl⟩
  rw [← hw2] at A2 N2 F2
  refine px_w (w := w2) hw2 ?_
  refine p_s rfl rfl ?_
  refine p_new (N := 4) rfl nc_Cd_9 (fun k hk hkl => ?_)
  refine p_s rfl rfl ?_
  refine p_callIN rfl c_Cd_11 g_Sg_init rfl rfl rfl (c_SgInit (px_lk_new _ _ _ hk)) (fun v w hq => ?_)
  obtain ⟨rfl, rfl⟩ := hq
  obtain ⟨w3, hw3⟩ : ∃ w3, w3 = px_up (w2 ++ [(k, oSg 0 0 0 0)]) k (oSg 80 0 0 0) := ⟨_, rfl⟩
  have A3 : px_lk w3 a = some (.inr (2, [.int 0, .int 0, .int 0, .int 0, .ref n, .null, .int 0, .null, .null])) := by rw [hw3]; exact px_keep (px_lk_old _ _ _ _ _ A2) (px_nn A2 hk)
  have N3 : px_lk w3 n = some (oSg 80 0 0 0) := by rw [hw3]; exact px_keep (px_lk_old _ _ _ _ _ N2) (px_nn N2 hk)
  have K3 : px_lk w3 k = some (oSg 80 0 0 0) := by rw [hw3]; exact px_lk_same _ _ _ _ (px_lk_new _ _ _ hk)
  have F3 : px_fr (fun b => b = a) ws w3 := by rw [hw3]; exact F2.tr (px_fr.upn hk)
  rw [← hw3]
  refine p_own A3 ?_
  refine p_putF2 rfl fF_Cd_18 rfl A3 rfl rfl (by exact Nat.le_of_ble_eq_true rfl) ?_
  refine p_s rfl rfl ?_
  refine p_s rfl rfl ?_
  refine p_put2 rfl fp_Cd_21 A3 rfl rfl (by exact Nat.le_of_ble_eq_true rfl) ?_
  refine p_s rfl rfl ?_
  refine p_s rfl rfl ?_
  refine p_put2 rfl fp_Cd_25 A3 rfl rfl (by exact Nat.le_of_ble_eq_true rfl) ?_
  refine p_s rfl rfl ?_
  refine p_s rfl rfl ?_
  refine p_put2 rfl fp_Cd_29 A3 rfl rfl (by exact Nat.le_of_ble_eq_true rfl) ?_
  refine p_s rfl rfl ?_
  refine p_s rfl rfl ?_
  refine p_putF2 rfl fF_Cd_33 rfl A3 rfl rfl (by exact Nat.le_of_ble_eq_true rfl) ?_
  refine p_s rfl rfl ?_
  refine p_s rfl rfl ?_
  refine p_putF2 rfl fF_Cd_36 rfl A3 rfl rfl (by exact Nat.le_of_ble_eq_true rfl) ?_
  refine p_s rfl rfl ?_
  refine p_s rfl rfl ?_
  refine p_putF2 rfl fF_Cd_39 rfl A3 rfl rfl (by exact Nat.le_of_ble_eq_true rfl) ?_
  refine p_s rfl rfl ?_
  refine p_s rfl rfl ?_
  refine p_putF2 rfl fF_Cd_42 rfl A3 rfl rfl (by exact Nat.le_of_ble_eq_true rfl) ?_
  refine p_vret rfl rfl ⟨rfl, n, k, hn, ?_, fun z => px_nn N2 hk z.symm, px_lk_same _ _ _ _ A3, px_keep N3 (px_nek N3 A3 (Nat.ne_of_beq_eq_false rfl)), px_keep K3 (px_nek K3 A3 (Nat.ne_of_beq_eq_false rfl)), F3.tr (px_fr.up rfl)⟩
  cases hz : px_lk ws k with
  | none => rfl
  | some x =>
    by_cases hka : k = a
    · rw [hka] at hk; rw [A2] at hk; cases hk
    · have := F2 k x hka hz
      rw [hk] at this
      cases this
set_option maxHeartbeats 1000000 in
theorem c_SnInit {G : px_G} {ws : va_W} {a d : Nat} {cy ev fc up : Int32} {x1 x2 x3 x4 : Int32} (h : px_lk ws a = some (oSn x1 x2 x3 x4)) : px G m_Sn_init 0 (lv_args 0 [.ref a, .int cy, .int ev, .int fc, .int up]) [] ws (d + 1) 0 0 (fun v w => v = none ∧ w = px_up ws a (oSn cy ev fc up)) := by
  refine p_own h ?_
  refine p_s rfl rfl ?_
  refine p_objI rfl w_296 w_24 w_25 (by exact Nat.le_of_ble_eq_true rfl) ?_
  refine p_s rfl rfl ?_
  refine p_s rfl rfl ?_
  refine p_putF2 rfl fF_Sn_7 rfl h rfl rfl (by exact Nat.le_of_ble_eq_true rfl) ?_
  refine p_s rfl rfl ?_
  refine p_s rfl rfl ?_
  refine p_putF2 rfl fF_Sn_13 rfl h rfl rfl (by exact Nat.le_of_ble_eq_true rfl) ?_
  refine p_s rfl rfl ?_
  refine p_s rfl rfl ?_
  refine p_putF2 rfl fF_Sn_16 rfl h rfl rfl (by exact Nat.le_of_ble_eq_true rfl) ?_
  refine p_s rfl rfl ?_
  refine p_s rfl rfl ?_
  refine p_putF2 rfl fF_Sn_19 rfl h rfl rfl (by exact Nat.le_of_ble_eq_true rfl) ?_
  exact p_vret rfl rfl ⟨rfl, rfl⟩
set_option maxHeartbeats 1000000 in
theorem c_EnInit {G : px_G} {ws : va_W} {a d ow sn : Nat} (h : px_lk ws a = some (.inr (4, [.null, .null, .null, .int 0]))) : px G m_En_init 0 (lv_args 0 [.ref a, .ref ow, .ref sn]) [] ws (d + 1) 0 0 (fun v w => v = none ∧ w = px_up ws a (oEn ow sn sn 1)) := by
  refine p_own h ?_
  refine p_s rfl rfl ?_
  refine p_objI rfl w_353 w_24 w_25 (by exact Nat.le_of_ble_eq_true rfl) ?_
  refine p_s rfl rfl ?_
  refine p_s rfl rfl ?_
  refine p_put2 rfl fp_En_9 h rfl rfl (by exact Nat.le_of_ble_eq_true rfl) ?_
  refine p_s rfl rfl ?_
  refine p_s rfl rfl ?_
  refine p_putF2 rfl fF_En_15 rfl h rfl rfl (by exact Nat.le_of_ble_eq_true rfl) ?_
  refine p_s rfl rfl ?_
  refine p_s rfl rfl ?_
  refine p_putF2 rfl fF_En_19 rfl h rfl rfl (by exact Nat.le_of_ble_eq_true rfl) ?_
  refine p_s rfl rfl ?_
  refine p_s rfl rfl ?_
  refine p_put2 rfl fp_En_23 h rfl rfl (by exact Nat.le_of_ble_eq_true rfl) ?_
  exact p_vret rfl rfl ⟨rfl, rfl⟩
set_option maxHeartbeats 1000000 in
theorem c_happenAgain {G : px_G} {ws : va_W} {a d ow fi la : Nat} {hp : Int32} {sn : Nat} (h : px_lk ws a = some (oEn ow fi la hp)) : px G m_En_happenAgain 0 (lv_args 0 [.ref a, .ref sn]) [] ws (d + 1) 0 0 (fun v w => v = none ∧ w = px_up ws a (oEn ow fi sn (mn255 (hp + 1)))) := by
  refine p_own h ?_
  refine p_s rfl rfl ?_
  refine p_s rfl rfl ?_
  refine p_get2 rfl f_En_9 h rfl ?_
  refine p_s rfl rfl ?_
  refine p_s rfl rfl ?_
  refine p_s rfl rfl ?_
  refine p_min rfl w_318 w_217 w_10 w_218 (by exact Nat.le_of_ble_eq_true rfl) ?_
  refine p_put2 rfl fp_En_9 h rfl rfl (by exact Nat.le_of_ble_eq_true rfl) ?_
  refine p_s rfl rfl ?_
  refine p_s rfl rfl ?_
  refine p_put2 rfl fp_En_23 h rfl rfl (by exact Nat.le_of_ble_eq_true rfl) ?_
  exact p_vret rfl rfl ⟨rfl, rfl⟩
set_option maxHeartbeats 1000000 in
theorem c_mayGoFor {G : px_G} {ws : va_W} {a d ow fi la : Nat} {hp : Int32} {b : Nat} {nu pr up dn cn : Int32} {n k : Nat} {pa en : Option Nat} {nu2 pr2 up2 dn2 cn2 : Int32} {n2 k2 : Nat} {pa2 en2 : Option Nat} {s t ag g : Int32} (h : px_lk ws a = some (oEn ow fi la hp)) (ho : px_lk ws ow = some (oCd nu pr up dn n k cn pa en)) (hn : px_lk ws n = some (oSg s t ag g)) (hb : px_lk ws b = some (oCd nu2 pr2 up2 dn2 n2 k2 cn2 pa2 en2)) : px G m_En_mayGoFor 0 (lv_args 0 [.ref a, .ref b]) [] ws (d + 1) 0 0 (fun v w => v = some (.int (if pr2 < pr ∨ (pr = pr2 ∧ sHas s 1 = 0) then 1 else 0)) ∧ w = ws) := by
  refine p_s rfl rfl ?_
  refine p_get rfl f_En_15 h rfl ?_
  refine p_get rfl f_En_32 ho rfl ?_
  refine p_s rfl rfl ?_
  refine p_get rfl f_En_32 hb rfl ?_
  refine p_icmp rfl (fun c => ?_) (fun c => ?_)
  · simp only [px_cmp] at c
    refine p_s rfl rfl ?_
    refine p_goto rfl ?_
    exact p_iret rfl rfl rfl ⟨by rw [if_pos (Or.inl c)], rfl⟩
  · simp only [px_ncmp] at c
    refine p_s rfl rfl ?_
    refine p_get rfl f_En_15 h rfl ?_
    refine p_get rfl f_En_32 ho rfl ?_
    refine p_s rfl rfl ?_
    refine p_get rfl f_En_32 hb rfl ?_
    refine p_icmp rfl (fun c2 => ?_) (fun c2 => ?_)
    · simp only [px_cmp] at c2
      refine p_s rfl rfl ?_
      exact p_iret rfl rfl rfl ⟨by rw [if_neg (fun z => z.elim c (fun z => c2 z.1))], rfl⟩
    · simp only [px_ncmp] at c2
      refine p_s rfl rfl ?_
      refine p_get rfl f_En_15 h rfl ?_
      refine p_get rfl f_En_37 ho rfl ?_
      refine p_s rfl rfl ?_
      refine p_callV rfl c_En_41 rfl hn g_Sg_has rfl rfl rfl (c_has hn) (fun v w hq => ?_)
      obtain ⟨rfl, rfl⟩ := hq
      refine p_if rfl (fun c3 => ?_) (fun c3 => ?_)
      · simp only [px_cmp] at c3
        refine p_s rfl rfl ?_
        exact p_iret rfl rfl rfl ⟨by rw [if_neg (fun z => z.elim c (fun z => c3 z.2))], rfl⟩
      · simp only [px_ncmp] at c3
        refine p_s rfl rfl ?_
        refine p_goto rfl ?_
        exact p_iret rfl rfl rfl ⟨by rw [if_pos (Or.inr ⟨c2, c3⟩)], rfl⟩
set_option maxHeartbeats 1000000 in
theorem c_goesBefore {G : px_G} {ws : va_W} {a d ow fi la : Nat} {hp : Int32} {b ow2 fi2 la2 : Nat} {hp2 : Int32} {nu pr up dn cn : Int32} {n k : Nat} {pa en : Option Nat} {nu2 pr2 up2 dn2 cn2 : Int32} {n2 k2 : Nat} {pa2 en2 : Option Nat} {s t ag g s2 t2 ag2 g2 : Int32} (h : px_lk ws a = some (oEn ow fi la hp)) (h2 : px_lk ws b = some (oEn ow2 fi2 la2 hp2)) (ho : px_lk ws ow = some (oCd nu pr up dn n k cn pa en)) (hn : px_lk ws n = some (oSg s t ag g)) (ho2 : px_lk ws ow2 = some (oCd nu2 pr2 up2 dn2 n2 k2 cn2 pa2 en2)) (hn2 : px_lk ws n2 = some (oSg s2 t2 ag2 g2)) : px G m_En_goesBefore 0 (lv_args 0 [.ref a, .ref b]) [] ws (d + 1) 0 0 (fun v w => v = some (.int (if pr2 < pr ∨ (pr = pr2 ∧ sHas s 1 = 0 ∧ ¬ sHas s2 1 = 0) then 1 else 0)) ∧ w = ws) := by
  refine p_s rfl rfl ?_
  refine p_get rfl f_En_15 h rfl ?_
  refine p_get rfl f_En_32 ho rfl ?_
  refine p_s rfl rfl ?_
  refine p_get rfl f_En_15 h2 rfl ?_
  refine p_get rfl f_En_32 ho2 rfl ?_
  refine p_icmp rfl (fun c => ?_) (fun c => ?_)
  · simp only [px_cmp] at c
    refine p_s rfl rfl ?_
    refine p_get rfl f_En_15 h rfl ?_
    refine p_get rfl f_En_37 ho rfl ?_
    refine p_s rfl rfl ?_
    refine p_callV rfl c_En_41 rfl hn g_Sg_has rfl rfl rfl (c_has hn) (fun v w hq => ?_)
    obtain ⟨rfl, rfl⟩ := hq
    refine p_if rfl (fun c2 => ?_) (fun c2 => ?_)
    · simp only [px_cmp] at c2
      refine p_s rfl rfl ?_
      exact p_iret rfl rfl rfl ⟨by rw [if_neg (fun z => z.elim (fun z => by rw [c] at z; exact Int32.lt_irrefl z) (fun z => c2 z.2.1))], rfl⟩
    · simp only [px_ncmp] at c2
      refine p_s rfl rfl ?_
      refine p_get rfl f_En_15 h2 rfl ?_
      refine p_get rfl f_En_37 ho2 rfl ?_
      refine p_s rfl rfl ?_
      refine p_callV rfl c_En_41 rfl hn2 g_Sg_has rfl rfl rfl (c_has hn2) (fun v w hq => ?_)
      obtain ⟨rfl, rfl⟩ := hq
      refine p_if rfl (fun c3 => ?_) (fun c3 => ?_)
      · simp only [px_cmp] at c3
        refine p_s rfl rfl ?_
        exact p_iret rfl rfl rfl ⟨by rw [if_neg (fun z => z.elim (fun z => by rw [c] at z; exact Int32.lt_irrefl z) (fun z => z.2.2 c3))], rfl⟩
      · simp only [px_ncmp] at c3
        refine p_s rfl rfl ?_
        refine p_goto rfl ?_
        exact p_iret rfl rfl rfl ⟨by rw [if_pos (Or.inr ⟨c, c2, c3⟩)], rfl⟩
  · simp only [px_ncmp] at c
    refine p_s rfl rfl ?_
    refine p_get rfl f_En_15 h rfl ?_
    refine p_get rfl f_En_32 ho rfl ?_
    refine p_s rfl rfl ?_
    refine p_get rfl f_En_15 h2 rfl ?_
    refine p_get rfl f_En_32 ho2 rfl ?_
    refine p_icmp rfl (fun c2 => ?_) (fun c2 => ?_)
    · simp only [px_cmp] at c2
      refine p_s rfl rfl ?_
      exact p_iret rfl rfl rfl ⟨by rw [if_neg (fun z => z.elim (fun z => absurd c2 (Int32.not_le.mpr z)) (fun z => c z.1))], rfl⟩
    · simp only [px_ncmp] at c2
      refine p_s rfl rfl ?_
      refine p_goto rfl ?_
      exact p_iret rfl rfl rfl ⟨by rw [if_pos (Or.inl (Int32.not_le.mp c2))], rfl⟩
