/-! THE CLASS: cycle -/
abbrev g_S (σ : Md) (i : Nat) : Int32 := sGoodS (d_A σ 3 i) (d_A σ 6 i)
abbrev g_T (σ : Md) (i : Nat) : Int32 := sGoodT (d_A σ 3 i) (d_A σ 4 i)
abbrev g_G (σ : Md) (i : Nat) : Int32 := mn255 (d_A σ 6 i + 1)
def endM (t : Int32) (σ : Md) (i : Nat) : Md :=
  if sHas (d_A σ 3 i) 2 = 0 ∧ sHas (d_A σ 3 i) 64 = 0 then
    if t = 0 then stA σ 3 i (g_S σ i) (g_T σ i) (d_A σ 5 i) (g_G σ i)
    else if ¬ sHas (g_S σ i) 8 = 0 ∧ sHas (g_S σ i) 1 = 0 then
      if d_A σ 5 i + 1 < 40 then stA σ 3 i (g_S σ i) (g_T σ i) (d_A σ 5 i + 1) (g_G σ i)
      else stE (stA σ 3 i (g_S σ i &&& -9) 0 0 0) (dropE (d_e σ) i)
    else stA σ 3 i (g_S σ i) (g_T σ i) (d_A σ 5 i) (g_G σ i)
  else σ
theorem endM_n (t : Int32) (σ : Md) (i : Nat) : d_n (endM t σ i) = d_n σ := by
  unfold endM
  split
  · split
    · rfl
    · split
      · split <;> rfl
      · rfl
  · rfl
set_option maxHeartbeats 4000000 in
theorem c_endCycle {G : px_G} {ws : va_W} {d : Nat} {R : Int32} {o : Nat} {ad : Nat → Nat → Nat} {σ : Md} (h : CR G R ws o ad σ) (hnd : (e_c σ).Nodup) (hlen : (e_c σ).length ≤ 500) {i : Nat} (hi : i < d_n σ) {t : Int32} : px G m_TM_endCycle 0 (lv_args 0 [.ref o, .ref (ad 0 i), .int t]) [] ws (d + 8) 0 0 (fun v w => v = none ∧ CR G R w o ad (endM t σ i) ∧ px_kp Kr ws w) := by
  have hc := h.2.2.2.2.1 i hi
  have hcd : ∀ e, px_lk (px_up ws (ad 1 i) e) (ad 0 i) = some (c_cd ad σ i) := fun e => px_keepK hc.2.1 hc.1 (Nat.ne_of_beq_eq_false rfl)
  have ht : px_lk (px_up ws (ad 1 i) (oSg (g_S σ i) (g_T σ i) (d_A σ 5 i) (g_G σ i))) (ad 1 i) = some (oSg (g_S σ i) (g_T σ i) (d_A σ 5 i) (g_G σ i)) := px_lk_same _ _ _ _ hc.2.1
  have s1 : ∀ s t a g, CR G R (px_up ws (ad 1 i) (oSg s t a g)) o ad (stA σ 3 i s t a g) := fun s t a g => h.st (b := 3) (Or.inl rfl) hi
  have k1 : ∀ e, px_kp Kr ws (px_up ws (ad 1 i) e) := fun e => px_kp.up hc.2.1 rfl
  by_cases hg : sHas (d_A σ 3 i) 2 = 0 ∧ sHas (d_A σ 3 i) 64 = 0
  · by_cases h0 : t = 0
    · skip
      refine p_s rfl rfl ?_
      refine p_get rfl f_TM_79 hc.1 rfl ?_
      refine p_callV rfl c_TM_198 rfl hc.2.1 g_Sg_wasOnlyGood rfl rfl rfl (p_le (by omega) (Nat.le_refl _) (Nat.le_refl _) (c_wasOnlyGood (d := d) hc.2.1)) (fun v w hq => ?_)
      obtain ⟨rfl, hw9⟩ := hq
      have hw9 := hw9.symm
      subst hw9
      rw [if_pos hg]
      refine p_ifT rfl (show ¬ (1 : Int32) = 0 by decide) ?_
      refine p_s rfl rfl ?_
      refine p_get rfl f_TM_79 hc.1 rfl ?_
      refine p_callV rfl c_TM_201 rfl hc.2.1 g_Sg_addGoodCycle rfl rfl rfl (p_le (by omega) (Nat.le_refl _) (Nat.le_refl _) (c_addGoodCycle (d := d) hc.2.1)) (fun v w hq => ?_)
      obtain ⟨rfl, hw9⟩ := hq
      subst hw9
      refine p_s rfl rfl ?_
      refine p_ifT rfl h0 ?_
      refine p_vret rfl rfl ⟨rfl, ?_, k1 _⟩
      rw [endM, if_pos hg, if_pos h0]
      exact s1 _ _ _ _
    · by_cases ha : ¬ sHas (g_S σ i) 8 = 0 ∧ sHas (g_S σ i) 1 = 0
      · by_cases h4 : d_A σ 5 i + 1 < 40
        · skip
          refine p_s rfl rfl ?_
          refine p_get rfl f_TM_79 hc.1 rfl ?_
          refine p_callV rfl c_TM_198 rfl hc.2.1 g_Sg_wasOnlyGood rfl rfl rfl (p_le (by omega) (Nat.le_refl _) (Nat.le_refl _) (c_wasOnlyGood (d := d) hc.2.1)) (fun v w hq => ?_)
          obtain ⟨rfl, hw9⟩ := hq
          have hw9 := hw9.symm
          subst hw9
          rw [if_pos hg]
          refine p_ifT rfl (show ¬ (1 : Int32) = 0 by decide) ?_
          refine p_s rfl rfl ?_
          refine p_get rfl f_TM_79 hc.1 rfl ?_
          refine p_callV rfl c_TM_201 rfl hc.2.1 g_Sg_addGoodCycle rfl rfl rfl (p_le (by omega) (Nat.le_refl _) (Nat.le_refl _) (c_addGoodCycle (d := d) hc.2.1)) (fun v w hq => ?_)
          obtain ⟨rfl, hw9⟩ := hq
          subst hw9
          refine p_s rfl rfl ?_
          refine p_ifF rfl h0 ?_
          refine p_s rfl rfl ?_
          refine p_get rfl f_TM_79 (hcd _) rfl ?_
          refine p_callV rfl c_TM_204 rfl ht g_Sg_ages rfl rfl rfl (p_le (by omega) (Nat.le_refl _) (Nat.le_refl _) (c_ages (d := d) ht)) (fun v w hq => ?_)
          obtain ⟨rfl, hw9⟩ := hq
          subst hw9
          rw [if_pos ha]
          refine p_ifF rfl (show ¬ (1 : Int32) = 0 by decide) ?_
          refine p_s rfl rfl ?_
          refine p_get rfl f_TM_79 (hcd _) rfl ?_
          refine p_s rfl rfl ?_
          refine p_get2 rfl f_TM_170 hc.2.1 rfl ?_
          refine p_s rfl rfl ?_
          refine p_s rfl rfl ?_
          refine p_put2 rfl fp_TM_170 hc.2.1 rfl rfl (by exact Nat.le_of_ble_eq_true rfl) ?_
          refine p_s rfl rfl ?_
          refine p_get rfl f_TM_79 (hcd _) rfl ?_
          refine p_get2 rfl f_TM_170 hc.2.1 rfl ?_
          refine p_s rfl rfl ?_
          refine p_icmpT rfl h4 ?_
          refine p_vret rfl rfl ⟨rfl, ?_, k1 _⟩
          rw [endM, if_pos hg, if_neg h0, if_pos ha, if_pos h4]
          exact s1 _ _ _ _
        · skip
          refine p_s rfl rfl ?_
          refine p_get rfl f_TM_79 hc.1 rfl ?_
          refine p_callV rfl c_TM_198 rfl hc.2.1 g_Sg_wasOnlyGood rfl rfl rfl (p_le (by omega) (Nat.le_refl _) (Nat.le_refl _) (c_wasOnlyGood (d := d) hc.2.1)) (fun v w hq => ?_)
          obtain ⟨rfl, hw9⟩ := hq
          have hw9 := hw9.symm
          subst hw9
          rw [if_pos hg]
          refine p_ifT rfl (show ¬ (1 : Int32) = 0 by decide) ?_
          refine p_s rfl rfl ?_
          refine p_get rfl f_TM_79 hc.1 rfl ?_
          refine p_callV rfl c_TM_201 rfl hc.2.1 g_Sg_addGoodCycle rfl rfl rfl (p_le (by omega) (Nat.le_refl _) (Nat.le_refl _) (c_addGoodCycle (d := d) hc.2.1)) (fun v w hq => ?_)
          obtain ⟨rfl, hw9⟩ := hq
          subst hw9
          refine p_s rfl rfl ?_
          refine p_ifF rfl h0 ?_
          refine p_s rfl rfl ?_
          refine p_get rfl f_TM_79 (hcd _) rfl ?_
          refine p_callV rfl c_TM_204 rfl ht g_Sg_ages rfl rfl rfl (p_le (by omega) (Nat.le_refl _) (Nat.le_refl _) (c_ages (d := d) ht)) (fun v w hq => ?_)
          obtain ⟨rfl, hw9⟩ := hq
          subst hw9
          rw [if_pos ha]
          refine p_ifF rfl (show ¬ (1 : Int32) = 0 by decide) ?_
          refine p_s rfl rfl ?_
          refine p_get rfl f_TM_79 (hcd _) rfl ?_
          refine p_s rfl rfl ?_
          refine p_get2 rfl f_TM_170 hc.2.1 rfl ?_
          refine p_s rfl rfl ?_
          refine p_s rfl rfl ?_
          refine p_put2 rfl fp_TM_170 hc.2.1 rfl rfl (by exact Nat.le_of_ble_eq_true rfl) ?_
          refine p_s rfl rfl ?_
          refine p_get rfl f_TM_79 (hcd _) rfl ?_
          refine p_get2 rfl f_TM_170 hc.2.1 rfl ?_
          refine p_s rfl rfl ?_
          refine p_icmpF rfl h4 ?_
          refine p_s rfl rfl ?_
          refine p_get rfl f_TM_79 (hcd _) rfl ?_
          refine p_callV rfl c_TM_207 rfl (px_lk_same _ _ _ _ hc.2.1) g_Sg_heal rfl rfl rfl (p_le (by omega) (Nat.le_refl _) (Nat.le_refl _) (c_heal (d := d) (px_lk_same ws (ad 1 i) _ (oSg (g_S σ i) (g_T σ i) (d_A σ 5 i + 1) (g_G σ i)) hc.2.1))) (fun v w hq => ?_)
          obtain ⟨rfl, hw9⟩ := hq
          rw [px_up_up] at hw9
          subst hw9
          have h3 := s1 (g_S σ i &&& -9) 0 0 0
          refine p_s rfl rfl ?_
          refine p_get rfl f_TM_40 h3.1 rfl ?_
          refine p_s rfl rfl ?_
          refine p_callV rfl c_TM_130 rfl h3.2.1 g_Mem_drop rfl rfl rfl (p_le (by omega) (Nat.le_refl _) (Nat.le_refl _) (c_drop (d := d) h3 hnd (Nat.le_trans hlen (by decide)) hi)) (fun v w hq => ?_)
          obtain ⟨rfl, hcr, hkp⟩ := hq
          refine p_vret rfl rfl ⟨rfl, ?_, (k1 _).tr hkp⟩
          rw [endM, if_pos hg, if_neg h0, if_pos ha, if_neg h4]
          exact hcr
      · skip
        refine p_s rfl rfl ?_
        refine p_get rfl f_TM_79 hc.1 rfl ?_
        refine p_callV rfl c_TM_198 rfl hc.2.1 g_Sg_wasOnlyGood rfl rfl rfl (p_le (by omega) (Nat.le_refl _) (Nat.le_refl _) (c_wasOnlyGood (d := d) hc.2.1)) (fun v w hq => ?_)
        obtain ⟨rfl, hw9⟩ := hq
        have hw9 := hw9.symm
        subst hw9
        rw [if_pos hg]
        refine p_ifT rfl (show ¬ (1 : Int32) = 0 by decide) ?_
        refine p_s rfl rfl ?_
        refine p_get rfl f_TM_79 hc.1 rfl ?_
        refine p_callV rfl c_TM_201 rfl hc.2.1 g_Sg_addGoodCycle rfl rfl rfl (p_le (by omega) (Nat.le_refl _) (Nat.le_refl _) (c_addGoodCycle (d := d) hc.2.1)) (fun v w hq => ?_)
        obtain ⟨rfl, hw9⟩ := hq
        subst hw9
        refine p_s rfl rfl ?_
        refine p_ifF rfl h0 ?_
        refine p_s rfl rfl ?_
        refine p_get rfl f_TM_79 (hcd _) rfl ?_
        refine p_callV rfl c_TM_204 rfl ht g_Sg_ages rfl rfl rfl (p_le (by omega) (Nat.le_refl _) (Nat.le_refl _) (c_ages (d := d) ht)) (fun v w hq => ?_)
        obtain ⟨rfl, hw9⟩ := hq
        subst hw9
        rw [if_neg ha]
        refine p_ifT rfl (show (0 : Int32) = 0 from rfl) ?_
        refine p_vret rfl rfl ⟨rfl, ?_, k1 _⟩
        rw [endM, if_pos hg, if_neg h0, if_neg ha]
        exact s1 _ _ _ _
  · skip
    refine p_s rfl rfl ?_
    refine p_get rfl f_TM_79 hc.1 rfl ?_
    refine p_callV rfl c_TM_198 rfl hc.2.1 g_Sg_wasOnlyGood rfl rfl rfl (p_le (by omega) (Nat.le_refl _) (Nat.le_refl _) (c_wasOnlyGood (d := d) hc.2.1)) (fun v w hq => ?_)
    obtain ⟨rfl, hw9⟩ := hq
    have hw9 := hw9.symm
    subst hw9
    rw [if_neg hg]
    refine p_ifF rfl (show (0 : Int32) = 0 from rfl) ?_
    refine p_vret rfl rfl ⟨rfl, ?_, px_kp.rf⟩
    rw [endM, if_neg hg]
    exact h
abbrev b_S (σ : Md) (i : Nat) : Int32 := (d_A σ 3 i &&& -3) ||| 64
def begM (σ : Md) (i : Nat) : Md := stA (stA σ 3 i (b_S σ i) (d_A σ 4 i) (d_A σ 5 i) (d_A σ 6 i)) 7 i (b_S σ i) (d_A σ 4 i) (d_A σ 5 i) (d_A σ 6 i)
theorem endM_e (t : Int32) (σ : Md) (i : Nat) : e_c (endM t σ i) = e_c σ ∨ e_c (endM t σ i) = (dropE (d_e σ) i).map (fun x => x.1) := by
  unfold endM
  split
  · split
    · exact Or.inl rfl
    · split
      · split
        · exact Or.inl rfl
        · exact Or.inr rfl
      · exact Or.inl rfl
  · exact Or.inl rfl
theorem dropE_nd {es : List En4} {i : Nat} (h : (es.map (fun x => x.1)).Nodup) : ((dropE es i).map (fun x => x.1)).Nodup := List.Nodup.sublist (List.Sublist.map _ List.filter_sublist) h
theorem endM_ok (t : Int32) (σ : Md) (i : Nat) (hnd : (e_c σ).Nodup) (hlen : (e_c σ).length ≤ 500) : (e_c (endM t σ i)).Nodup ∧ (e_c (endM t σ i)).length ≤ 500 := by
  rcases endM_e t σ i with e | e
  · rw [e]; exact ⟨hnd, hlen⟩
  · rw [e]
    refine ⟨dropE_nd hnd, Nat.le_trans ?_ hlen⟩
    rw [List.length_map, List.length_map]
    exact dropE_len
set_option maxHeartbeats 4000000 in
theorem c_cyc1 {G : px_G} {d : Nat} {R : Int32} {o : Nat} {ad : Nat → Nat → Nat} {t : Int32} {bc bs : Nat} {Q : Option Value → va_W → Prop} : ∀ (k i : Nat) (ws : va_W) (σ : Md) (x1 : Int32), CR G R ws o ad σ → d_n σ ≤ 200 → (e_c σ).Nodup → (e_c σ).length ≤ 500 → i + k = d_n σ → x1 = nI i → (∀ (w : va_W) (y : Int32), CR G R w o ad (fdR (endM t) k i σ) → px_kp Kr ws w → px G m_TM_cycle 45 [(2, .int y), (0, .ref o), (1, .int t)] [] w (d + 10) bc bs Q) → px G m_TM_cycle 12 [(2, .int x1), (0, .ref o), (1, .int t)] [] ws (d + 10) bc bs Q := by
  intro k
  induction k with
  | zero =>
    intro i ws σ x1 h hn hnd hlen hik h1 hK
    subst h1
    have hin : i = d_n σ := by omega
    have hL1 := h.2.2.1.1
    obtain ⟨sz, mc, hL1c⟩ := hL1.cell
    refine p_s rfl rfl ?_
    refine p_s rfl rfl ?_
    refine p_get rfl f_TM_12 h.1 rfl ?_
    refine p_callV rfl c_TM_44 rfl hL1c g_AL_size rfl rfl rfl (p_le (by omega) (Nat.le_refl _) (Nat.le_refl _) (c_size (d := d) hL1)) (fun v w hq => ?_)
    obtain ⟨rfl, hw9⟩ := hq
    have hw9 := hw9.symm
    subst hw9
    rw [c_len]
    refine p_icmpT rfl (show nI (d_n σ) ≤ nI i by rw [hin]; exact Int32.le_refl _) ?_
    exact hK ws _ h px_kp.rf
  | succ k ih =>
    intro i ws σ x1 h hn hnd hlen hik h1 hK
    subst h1
    have hin : i < d_n σ := by omega
    have hL1 := h.2.2.1.1
    obtain ⟨sz, mc, hL1c⟩ := hL1.cell
    have hc := h.2.2.2.2.1 i hin
    refine p_s rfl rfl ?_
    refine p_s rfl rfl ?_
    refine p_get rfl f_TM_12 h.1 rfl ?_
    refine p_callV rfl c_TM_44 rfl hL1c g_AL_size rfl rfl rfl (p_le (by omega) (Nat.le_refl _) (Nat.le_refl _) (c_size (d := d) hL1)) (fun v w hq => ?_)
    obtain ⟨rfl, hw9⟩ := hq
    have hw9 := hw9.symm
    subst hw9
    rw [c_len]
    refine p_icmpF rfl (show ¬ nI (d_n σ) ≤ nI i from nI_ge hin (by omega)) ?_
    refine p_s rfl rfl ?_
    refine p_s rfl rfl ?_
    refine p_get rfl f_TM_12 h.1 rfl ?_
    refine p_s rfl rfl ?_
    refine p_callV rfl c_TM_88 rfl hL1c g_AL_get rfl rfl rfl (p_le (by omega) (Nat.le_refl _) (Nat.le_refl _) (c_get (d := d) hL1 (c_at ad hin))) (fun v w hq => ?_)
    obtain ⟨rfl, hw9⟩ := hq
    have hw9 := hw9.symm
    subst hw9
    refine p_castS rfl cs_TM_48 hc.1 ?_
    refine p_s rfl rfl ?_
    refine p_callV rfl c_TM_92 rfl h.1 g_TM_endCycle rfl rfl rfl (p_le (by omega) (Nat.le_refl _) (Nat.le_refl _) (c_endCycle (d := d) h hnd hlen hin)) (fun v w hq => ?_)
    obtain ⟨rfl, h2, k2⟩ := hq
    refine p_s rfl rfl ?_
    refine p_goto rfl ?_
    have hok := endM_ok t σ i hnd hlen
    exact ih (i + 1) _ (endM t σ i) _ h2 (by rw [endM_n]; exact hn) hok.1 hok.2 (by rw [endM_n]; omega) (nI_1 i) (fun w y a1 a2 => hK w y a1 (k2.tr a2))
set_option maxHeartbeats 4000000 in
theorem c_cyc2 {G : px_G} {d : Nat} {R : Int32} {o : Nat} {ad : Nat → Nat → Nat} {t : Int32} {bc bs : Nat} {Q : Option Value → va_W → Prop} : ∀ (k i : Nat) (ws : va_W) (σ : Md) (x1 : Int32), CR G R ws o ad σ → d_n σ ≤ 200 → i + k = d_n σ → x1 = nI i → (∀ (w : va_W) (y : Int32), CR G R w o ad (fdR begM k i σ) → px_kp Kr ws w → px G m_TM_cycle 94 [(2, .int y), (0, .ref o), (1, .int t)] [] w (d + 10) bc bs Q) → px G m_TM_cycle 47 [(2, .int x1), (0, .ref o), (1, .int t)] [] ws (d + 10) bc bs Q := by
  intro k
  induction k with
  | zero =>
    intro i ws σ x1 h hn hik h1 hK
    subst h1
    have hin : i = d_n σ := by omega
    have hL1 := h.2.2.1.1
    obtain ⟨sz, mc, hL1c⟩ := hL1.cell
    refine p_s rfl rfl ?_
    refine p_s rfl rfl ?_
    refine p_get rfl f_TM_12 h.1 rfl ?_
    refine p_callV rfl c_TM_44 rfl hL1c g_AL_size rfl rfl rfl (p_le (by omega) (Nat.le_refl _) (Nat.le_refl _) (c_size (d := d) hL1)) (fun v w hq => ?_)
    obtain ⟨rfl, hw9⟩ := hq
    have hw9 := hw9.symm
    subst hw9
    rw [c_len]
    refine p_icmpT rfl (show nI (d_n σ) ≤ nI i by rw [hin]; exact Int32.le_refl _) ?_
    exact hK ws _ h px_kp.rf
  | succ k ih =>
    intro i ws σ x1 h hn hik h1 hK
    subst h1
    have hin : i < d_n σ := by omega
    have hL1 := h.2.2.1.1
    obtain ⟨sz, mc, hL1c⟩ := hL1.cell
    have hc := h.2.2.2.2.1 i hin
    refine p_s rfl rfl ?_
    refine p_s rfl rfl ?_
    refine p_get rfl f_TM_12 h.1 rfl ?_
    refine p_callV rfl c_TM_44 rfl hL1c g_AL_size rfl rfl rfl (p_le (by omega) (Nat.le_refl _) (Nat.le_refl _) (c_size (d := d) hL1)) (fun v w hq => ?_)
    obtain ⟨rfl, hw9⟩ := hq
    have hw9 := hw9.symm
    subst hw9
    rw [c_len]
    refine p_icmpF rfl (show ¬ nI (d_n σ) ≤ nI i from nI_ge hin (by omega)) ?_
    refine p_s rfl rfl ?_
    refine p_get rfl f_TM_12 h.1 rfl ?_
    refine p_s rfl rfl ?_
    refine p_callV rfl c_TM_88 rfl hL1c g_AL_get rfl rfl rfl (p_le (by omega) (Nat.le_refl _) (Nat.le_refl _) (c_get (d := d) hL1 (c_at ad hin))) (fun v w hq => ?_)
    obtain ⟨rfl, hw9⟩ := hq
    have hw9 := hw9.symm
    subst hw9
    refine p_castS rfl cs_TM_48 hc.1 ?_
    refine p_s rfl rfl ?_
    refine p_s rfl rfl ?_
    refine p_get rfl f_TM_79 hc.1 rfl ?_
    refine p_callV rfl c_TM_96 rfl hc.2.1 g_Sg_beginCycle rfl rfl rfl (p_le (by omega) (Nat.le_refl _) (Nat.le_refl _) (c_beginCycle (d := d) hc.2.1)) (fun v w hq => ?_)
    obtain ⟨rfl, hw9⟩ := hq
    subst hw9
    have h2 : CR G R (px_up ws (ad 1 i) (oSg (b_S σ i) (d_A σ 4 i) (d_A σ 5 i) (d_A σ 6 i))) o ad (stA σ 3 i (b_S σ i) (d_A σ 4 i) (d_A σ 5 i) (d_A σ 6 i)) := h.st (b := 3) (Or.inl rfl) hin
    have k2 := px_kp.up (K := Kr) (e := oSg (b_S σ i) (d_A σ 4 i) (d_A σ 5 i) (d_A σ 6 i)) hc.2.1 rfl
    have hc2 := h2.2.2.2.2.1 i hin
    have hn2 := px_lk_same ws (ad 1 i) _ (oSg (b_S σ i) (d_A σ 4 i) (d_A σ 5 i) (d_A σ 6 i)) hc.2.1
    refine p_s rfl rfl ?_
    refine p_get rfl f_TM_99 hc2.1 rfl ?_
    refine p_s rfl rfl ?_
    refine p_get rfl f_TM_79 hc2.1 rfl ?_
    refine p_callV rfl c_TM_102 rfl hc2.2.2 g_Sg_copyFrom rfl rfl rfl (p_le (by omega) (Nat.le_refl _) (Nat.le_refl _) (c_copyFrom (d := d) hc2.2.2 hn2 (h.2.2.2.1.2.2.2.2.2.1 i i hin hin))) (fun v w hq => ?_)
    obtain ⟨rfl, hw9⟩ := hq
    subst hw9
    have h3 : CR G R (px_up (px_up ws (ad 1 i) (oSg (b_S σ i) (d_A σ 4 i) (d_A σ 5 i) (d_A σ 6 i))) (ad 2 i) (oSg (b_S σ i) (d_A σ 4 i) (d_A σ 5 i) (d_A σ 6 i))) o ad (begM σ i) := h2.st (b := 7) (Or.inr rfl) hin
    have k3 := px_kp.up (K := Kr) (e := oSg (b_S σ i) (d_A σ 4 i) (d_A σ 5 i) (d_A σ 6 i)) hc2.2.2 rfl
    refine p_s rfl rfl ?_
    refine p_goto rfl ?_
    refine p_lv (lv2 := [(2, .int (nI i + 1)), (0, .ref o), (1, .int t)]) (ks := [0, 2, 3]) rfl ?_
    exact ih (i + 1) _ (begM σ i) _ h3 hn (by show i + 1 + k = d_n σ; omega) (nI_1 i) (fun w y a1 a2 => hK w y a1 ((k2.tr k3).tr a2))
theorem fdR_end_n (t : Int32) (k i : Nat) (σ : Md) : d_n (fdR (endM t) k i σ) = d_n σ := fdR_e (endM t) (fun a b => d_n b = d_n a) (fun _ => rfl) (fun _ _ _ h1 h2 => h2.trans h1) (fun σ i => endM_n t σ i) k i σ
/-- a cycle's end -/
abbrev cycA (t : Int32) (σ : Md) : Md := fdR (endM t) (d_n σ) 0 σ
abbrev cycB (t : Int32) (σ : Md) : Md := fdR begM (d_n σ) 0 (cycA t σ)
abbrev cycF (t : Int32) (σ : Md) : Md := stG (cycB t σ) (upG (d_g (cycB t σ)) 2 (d_g (cycB t σ) 2 + 1))
set_option maxHeartbeats 4000000 in
theorem o_cycleC {G : px_G} {ws : va_W} {d : Nat} {R : Int32} {o : Nat} {ad : Nat → Nat → Nat} {σ : Md} (h : CR G R ws o ad σ) {t : Int32} (hp : d_g σ 1 = 0) : px G m_TM_cycle 0 (lv_args 0 [.ref o, .int t]) [] ws (d + 10) 4 2008 (OPc G R o ws (-3) (σ)) := by
  refine p_s rfl rfl ?_
  refine p_get rfl f_TM_20 h.1 rfl ?_
  refine p_ifF rfl hp ?_
  refine p_s rfl rfl ?_
  exact p_iret rfl rfl rfl ⟨rfl, ad, h, px_kp.rf⟩
set_option maxHeartbeats 4000000 in
theorem o_cycle {G : px_G} {ws : va_W} {d : Nat} {R : Int32} {o : Nat} {ad : Nat → Nat → Nat} {σ : Md} (h : CR G R ws o ad σ) {t : Int32} (hn : d_n σ ≤ 200) (hnd : (e_c σ).Nodup) (hlen : (e_c σ).length ≤ 500) (hp : ¬ d_g σ 1 = 0) : px G m_TM_cycle 0 (lv_args 0 [.ref o, .int t]) [] ws (d + 10) 4 2008 (OPc G R o ws (d_g (cycF t σ) 2) (cycF t σ)) := by
  refine p_s rfl rfl ?_
  refine p_get rfl f_TM_20 h.1 rfl ?_
  refine p_ifT rfl hp ?_
  refine p_s rfl rfl ?_
  refine p_s rfl rfl ?_
  refine c_cyc1 (d_n σ) 0 ws σ _ h hn hnd hlen (by omega) rfl (fun w y h1 k1 => ?_)
  refine p_s rfl rfl ?_
  refine p_s rfl rfl ?_
  refine c_cyc2 (d_n σ) 0 w (cycA t σ) _ h1 (by rw [fdR_end_n]; exact hn) (by rw [fdR_end_n]; omega) rfl (fun w2 y2 h2 k2 => ?_)
  refine p_s rfl rfl ?_
  refine p_s rfl rfl ?_
  refine p_get rfl f_TM_24 h2.1 rfl ?_
  refine p_s rfl rfl ?_
  refine p_s rfl rfl ?_
  refine p_put rfl fp_TM_24 h2.1 rfl rfl (by exact Nat.le_of_ble_eq_true rfl) ?_
  have h3 := h2.tm (upG (d_g (cycB t σ)) 2 (d_g (cycB t σ) 2 + 1))
  have k3 := px_kp.up (K := Kr) (e := oTM (ad 6 1) (ad 6 0) (d_g (cycB t σ) 0) (d_g (cycB t σ) 1) (d_g (cycB t σ) 2 + 1) (d_g (cycB t σ) 3)) h2.1 rfl
  refine p_s rfl rfl ?_
  refine p_get rfl f_TM_24 h3.1 rfl ?_
  exact p_iret rfl rfl rfl ⟨rfl, ad, h3, (k1.tr k2).tr k3⟩
