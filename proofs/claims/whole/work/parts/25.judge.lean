/-! THE CLASS: snapshots, judge -/
def snapOf (σ : Md) (c : Nat) : Sn4 := (d_g σ 2, d_g σ 3, nI (cntB (d_A σ) 1 (d_n σ)), d_A σ 1 c)
/-- whatever keeps all cells keeps the relation -/
theorem CR.mono {G : px_G} {R : Int32} {ws w : va_W} {o : Nat} {ad : Nat → Nat → Nat} {σ : Md} (h : CR G R ws o ad σ) (hf : px_fr (fun _ => False) ws w) : CR G R w o ad σ := by
  have K : ∀ {b : Nat} {x : va_E}, px_lk ws b = some x → px_lk w b = some x := fun hb => hf _ _ (fun z => z) hb
  obtain ⟨h1, h2, hl, h4, h5, h6⟩ := h
  exact ⟨K h1, K h2, ⟨hl.1.fr hf (fun z => z) (fun z => z), hl.2.1.fr hf (fun z => z) (fun z => z), hl.2.2.fr hf (fun z => z) (fun z => z)⟩, h4, fun i hi => ⟨K (h5 i hi).1, K (h5 i hi).2.1, K (h5 i hi).2.2⟩, fun x hx => ⟨K (h6 x hx).1, K (h6 x hx).2.1, K (h6 x hx).2.2⟩⟩
theorem px_kp.mono {K : va_E → Bool} {ws w : va_W} (h : px_fr (fun _ => False) ws w) : px_kp K ws w := fun b x hb _ => h b x (fun z => z) hb
set_option maxHeartbeats 2000000 in
theorem c_takeSnapshot {G : px_G} {ws : va_W} {d : Nat} {R : Int32} {o : Nat} {ad : Nat → Nat → Nat} {σ : Md} (h : CR G R ws o ad σ) (hn : d_n σ ≤ 200) {c : Nat} (hc : c < d_n σ) : px G m_TM_takeSnapshot 0 (lv_args 0 [.ref o, .ref (ad 0 c)]) [] ws (d + 4) 1 4 (fun v w => ∃ q, v = some (.ref q) ∧ px_lk ws q = none ∧ px_lk w q = some (oSn4 (snapOf σ c)) ∧ px_fr (fun _ => False) ws w) := by
  refine p_new (N := 4) rfl nc_TM_120 (fun q hq hql => ?_)
  have h1 : CR G R (ws ++ [(q, oSn 0 0 0 0)]) o ad σ := h.mono px_fr.nw
  refine p_s rfl rfl ?_
  refine p_s rfl rfl ?_
  refine p_get rfl f_TM_24 h1.1 rfl ?_
  refine p_s rfl rfl ?_
  refine p_get rfl f_TM_27 h1.1 rfl ?_
  refine p_s rfl rfl ?_
  refine p_s rfl rfl ?_
  refine p_callV rfl c_TM_149 rfl h1.1 g_TM_countCodesWith rfl rfl rfl (c_countCodesWith h1 hn) (fun v w hq2 => ?_)
  obtain ⟨rfl, rfl⟩ := hq2
  refine p_s rfl rfl ?_
  refine p_get rfl f_TM_194 (h1.2.2.2.2.1 c hc).1 rfl ?_
  refine p_callI rfl c_TM_197 g_Sn_init rfl rfl rfl (p_le (by omega) (Nat.le_refl _) (Nat.le_refl _) (c_SnInit (d := d) (px_lk_new _ _ _ hq))) (fun v w hq2 => ?_)
  obtain ⟨rfl, rfl⟩ := hq2
  exact p_aretR rfl rfl (Or.inl ⟨_, rfl⟩) ⟨q, rfl, hq, px_lk_same _ _ _ _ (px_lk_new _ _ _ hq), px_fr.upn hq⟩
def failM (R : Int32) (σ : Md) (c : Nat) (l : Int32) : Md :=
  if sHas (d_A σ 3 c) 1 = 0 ∧ hidF (d_A (stA σ 3 c (sFailS l (d_A σ 3 c) (d_A σ 4 c)) (sFailT (d_A σ 3 c) (d_A σ 4 c)) 0 0)) (d_p σ) 200 (d_p σ c) = 0 then storeM R (stA σ 3 c (sFailS l (d_A σ 3 c) (d_A σ 4 c)) (sFailT (d_A σ 3 c) (d_A σ 4 c)) 0 0) c (snapOf (stA σ 3 c (sFailS l (d_A σ 3 c) (d_A σ 4 c)) (sFailT (d_A σ 3 c) (d_A σ 4 c)) 0 0) c) else stA σ 3 c (sFailS l (d_A σ 3 c) (d_A σ 4 c)) (sFailT (d_A σ 3 c) (d_A σ 4 c)) 0 0
def judgeM (R : Int32) (σ : Md) (c : Nat) : Md :=
  if d_A σ 11 c = -128 then stA σ 3 c (d_A σ 3 c &&& -82) (d_A σ 4 c) (d_A σ 5 c) (d_A σ 6 c)
  else if d_A σ 11 c = 127 then failM R σ c (if 64 < d_A σ 0 c then 0 else 1)
  else σ
set_option maxHeartbeats 4000000 in
theorem c_judge_tail {G : px_G} {ws : va_W} {d : Nat} {R : Int32} {o : Nat} {ad : Nat → Nat → Nat} {σ : Md} (h : CR G R ws o ad σ) (hwf : Wf σ) {c : Nat} (hc : c < d_n σ) (l : Int32) : px G m_TM_judge 55 [(2, .int (sHas (d_A σ 3 c) 1)), (0, .ref o), (1, .ref (ad 0 c))] [.int l, .ref (ad 1 c)] ws (d + 9) 4 2008 (fun v w => v = none ∧ ∃ ad2, AdW ad ad2 ∧ CR G R w o ad2 (failM R σ c l) ∧ px_kp Kr ws w) := by
  obtain ⟨w1, w2, w3, w4, w5, w6, w7⟩ := id hwf
  have hcc := h.2.2.2.2.1 c hc
  have h1 : CR G R (px_up ws (ad 1 c) (oSg (sFailS l (d_A σ 3 c) (d_A σ 4 c)) (sFailT (d_A σ 3 c) (d_A σ 4 c)) 0 0)) o ad (stA σ 3 c (sFailS l (d_A σ 3 c) (d_A σ 4 c)) (sFailT (d_A σ 3 c) (d_A σ 4 c)) 0 0) := h.st (b := 3) (Or.inl rfl) hc (s := sFailS l (d_A σ 3 c) (d_A σ 4 c)) (t := sFailT (d_A σ 3 c) (d_A σ 4 c)) (a := 0) (g := 0)
  have hk1 : px_kp Kr ws (px_up ws (ad 1 c) (oSg (sFailS l (d_A σ 3 c) (d_A σ 4 c)) (sFailT (d_A σ 3 c) (d_A σ 4 c)) 0 0)) := px_kp.up hcc.2.1 rfl
  refine p_callV rfl c_TM_179 rfl hcc.2.1 g_Sg_fail rfl rfl rfl (p_le (by omega) (Nat.le_refl _) (Nat.le_refl _) (c_fail (d := d) hcc.2.1)) (fun v w hq => ?_)
  obtain ⟨rfl, rfl⟩ := hq
  refine p_s rfl rfl ?_
  refine p_if rfl (fun k1 => ?_) (fun k1 => ?_)
  · simp only [px_cmp] at k1
    refine p_vret rfl rfl ⟨rfl, ad, AdW.rf, ?_, hk1⟩
    rw [failM, if_neg (fun z => k1 z.1)]
    exact h1
  · simp only [px_ncmp] at k1
    refine p_s rfl rfl ?_
    refine p_callV rfl c_TM_182 rfl (h1.2.2.2.2.1 c hc).1 g_Cd_isHidden rfl rfl rfl (p_le (by omega) (Nat.le_refl _) (Nat.le_refl _) (c_isHidden (d := d) h1.2.2.2.2.1 w2 hc)) (fun v w hq => ?_)
    obtain ⟨rfl, rfl⟩ := hq
    refine p_if rfl (fun c2 => ?_) (fun c2 => ?_)
    · simp only [px_cmp] at c2
      refine p_vret rfl rfl ⟨rfl, ad, AdW.rf, ?_, hk1⟩
      rw [failM, if_neg (fun z => c2 z.2)]
      exact h1
    · simp only [px_ncmp] at c2
      refine p_s rfl rfl ?_
      refine p_get rfl f_TM_40 h1.1 rfl ?_
      refine p_s rfl rfl ?_
      refine p_s rfl rfl ?_
      refine p_s rfl rfl ?_
      refine p_callV rfl c_TM_186 rfl h1.1 g_TM_takeSnapshot rfl rfl rfl (p_le (by omega) (Nat.le_refl _) (Nat.le_refl _) (c_takeSnapshot (d := d) h1 w1 hc)) (fun v w hq => ?_)
      obtain ⟨q, rfl, hq0, hq1, hq2⟩ := hq
      refine p_callV rfl c_TM_190 rfl (h1.mono hq2).2.1 g_Mem_store rfl rfl rfl (c_store (h1.mono hq2) hwf hc hq1) (fun v w hq => ?_)
      obtain ⟨rfl, ad2, a1, a2, a3⟩ := hq
      refine p_vret rfl rfl ⟨rfl, ad2, a1, ?_, (hk1.tr (px_kp.mono hq2)).tr a3⟩
      rw [failM, if_pos ⟨k1, c2⟩]
      exact a2
set_option maxHeartbeats 4000000 in
theorem c_judge {G : px_G} {ws : va_W} {d : Nat} {R : Int32} {o : Nat} {ad : Nat → Nat → Nat} {σ : Md} (h : CR G R ws o ad σ) (hwf : Wf σ) {c : Nat} (hc : c < d_n σ) : px G m_TM_judge 0 (lv_args 0 [.ref o, .ref (ad 0 c)]) [] ws (d + 9) 4 2008 (fun v w => v = none ∧ ∃ ad2, AdW ad ad2 ∧ CR G R w o ad2 (judgeM R σ c) ∧ px_kp Kr ws w) := by
  have hcc := h.2.2.2.2.1 c hc
  refine p_s rfl rfl ?_
  refine p_get rfl f_TM_164 hcc.1 rfl ?_
  refine p_s rfl rfl ?_
  refine p_icmp rfl (fun k1 => ?_) (fun k1 => ?_)
  · simp only [px_cmp] at k1
    refine p_s rfl rfl ?_
    refine p_get rfl f_TM_164 hcc.1 rfl ?_
    refine p_s rfl rfl ?_
    refine p_icmp rfl (fun k2 => ?_) (fun k2 => ?_)
    · simp only [px_cmp] at k2
      refine p_vret rfl rfl ⟨rfl, ad, AdW.rf, ?_, px_kp.rf⟩
      rw [judgeM, if_neg k1, if_neg k2]
      exact h
    · simp only [px_ncmp] at k2
      refine p_s rfl rfl ?_
      refine p_get rfl f_TM_79 hcc.1 rfl ?_
      refine p_s rfl rfl ?_
      refine p_callV rfl c_TM_173 rfl hcc.2.1 g_Sg_has rfl rfl rfl (c_has hcc.2.1) (fun v w hq => ?_)
      obtain ⟨rfl, rfl⟩ := hq
      refine p_s rfl rfl ?_
      refine p_s rfl rfl ?_
      refine p_get rfl f_TM_79 hcc.1 rfl ?_
      refine p_s rfl rfl ?_
      refine p_get rfl f_TM_161 hcc.1 rfl ?_
      refine p_s rfl rfl ?_
      refine p_icmp rfl (fun k3 => ?_) (fun k3 => ?_)
      · simp only [px_cmp] at k3
        refine p_s rfl rfl ?_
        rw [judgeM, if_neg k1, if_pos k2, if_pos k3]
        exact c_judge_tail h hwf hc 0
      · simp only [px_ncmp] at k3
        refine p_s rfl rfl ?_
        refine p_goto rfl ?_
        rw [judgeM, if_neg k1, if_pos k2, if_neg k3]
        exact c_judge_tail h hwf hc 1
  · simp only [px_ncmp] at k1
    refine p_s rfl rfl ?_
    refine p_get rfl f_TM_79 hcc.1 rfl ?_
    refine p_callV rfl c_TM_176 rfl hcc.2.1 g_Sg_pass rfl rfl rfl (c_pass hcc.2.1) (fun v w hq => ?_)
    obtain ⟨rfl, rfl⟩ := hq
    refine p_goto rfl ?_
    refine p_vret rfl rfl ⟨rfl, ad, AdW.rf, ?_, px_kp.up hcc.2.1 rfl⟩
    rw [judgeM, if_pos k1]
    exact h.st (b := 3) (Or.inl rfl) hc
