/-! THE CLASS: clear -/
abbrev frsM (σ : Md) (i : Nat) : Md := stX (stA (stA σ 3 i 80 0 0 0) 7 i 80 0 0 0) 11 i 0
abbrev inG (A : Nat → Nat → Int32) (g : Int32) (i : Nat) : Prop := g = 0 ∨ 1 + (A 0 i - 1) / 32 = g
def clrM (g : Int32) (σ : Md) (i : Nat) : Md := if inG (d_A σ) g i then stE (frsM σ i) (dropE (d_e σ) i) else σ
def clrN (A : Nat → Nat → Int32) (g : Int32) : Nat → Nat
  | 0 => 0
  | k + 1 => clrN A g k + (if inG A g k then 1 else 0)
theorem clrM_n (g : Int32) (σ : Md) (i : Nat) : d_n (clrM g σ i) = d_n σ := by
  unfold clrM
  split <;> rfl
theorem frs_pr (σ : Md) (i j : Nat) : d_A (frsM σ i) 0 j = d_A σ 0 j := by
  show up1 (up4 (up4 (d_A σ) 3 i 80 0 0 0) 7 i 80 0 0 0) 11 i 0 0 j = _
  rw [up1_ne (Or.inl (by decide)), up4_out (by omega), up4_out (by omega)]
theorem clrM_pr (g : Int32) (σ : Md) (i j : Nat) : d_A (clrM g σ i) 0 j = d_A σ 0 j := by
  unfold clrM
  split
  · exact frs_pr σ i j
  · rfl
theorem clrM_e (g : Int32) (σ : Md) (i : Nat) : e_c (clrM g σ i) = e_c σ ∨ e_c (clrM g σ i) = (dropE (d_e σ) i).map (fun x => x.1) := by
  unfold clrM
  split
  · exact Or.inr rfl
  · exact Or.inl rfl
theorem clrM_ok (g : Int32) (σ : Md) (i : Nat) (hnd : (e_c σ).Nodup) (hlen : (e_c σ).length ≤ 500) : (e_c (clrM g σ i)).Nodup ∧ (e_c (clrM g σ i)).length ≤ 500 := by
  rcases clrM_e g σ i with e | e
  · rw [e]; exact ⟨hnd, hlen⟩
  · rw [e]
    refine ⟨dropE_nd hnd, Nat.le_trans ?_ hlen⟩
    rw [List.length_map, List.length_map]
    exact dropE_len
theorem CR.frs {G : px_G} {R : Int32} {ws : va_W} {o : Nat} {ad : Nat → Nat → Nat} {σ : Md} (h : CR G R ws o ad σ) {i : Nat} (hi : i < d_n σ) : CR G R (px_up (px_up (px_up ws (ad 1 i) (oSg 80 0 0 0)) (ad 2 i) (oSg 80 0 0 0)) (ad 0 i) (oCd (nI (i + 1)) (d_A σ 0 i) (d_A σ 1 i) (d_A σ 2 i) (ad 1 i) (ad 2 i) 0 (c_pa ad (d_p σ i)) (c_en ad (e_c σ) i))) o ad (frsM σ i) := by
  have h1 : CR G R (px_up ws (ad 1 i) (oSg 80 0 0 0)) o ad (stA σ 3 i 80 0 0 0) := h.st (b := 3) (Or.inl rfl) hi
  have h2 : CR G R (px_up (px_up ws (ad 1 i) (oSg 80 0 0 0)) (ad 2 i) (oSg 80 0 0 0)) o ad (stA (stA σ 3 i 80 0 0 0) 7 i 80 0 0 0) := h1.st (b := 7) (Or.inr rfl) hi
  have h3 := h2.cnt hi 0
  have e : ∀ k, k < 3 → d_A (stA (stA σ 3 i 80 0 0 0) 7 i 80 0 0 0) k i = d_A σ k i := fun k hk => (up4_out (by omega)).trans (up4_out (by omega))
  rw [e 0 (by omega), e 1 (by omega), e 2 (by omega)] at h3
  exact h3
set_option maxHeartbeats 4000000 in
theorem c_clr_loop {G : px_G} {d : Nat} {R : Int32} {o : Nat} {ad : Nat → Nat → Nat} {g : Int32} {A : Nat → Nat → Int32} {bc bs n : Nat} {Q : Option Value → va_W → Prop} : ∀ (k i : Nat) (ws : va_W) (σ : Md) (x2 x3 : Int32), CR G R ws o ad σ → d_n σ = n → n ≤ 200 → (e_c σ).Nodup → (e_c σ).length ≤ 500 → (∀ j, d_A σ 0 j = A 0 j) → i + k = n → x3 = nI i → x2 = nI (clrN A g i) → (∀ (w : va_W), CR G R w o ad (fdR (clrM g) k i σ) → px_kp Kr ws w → Q (some (.int (nI (clrN A g n)))) w) → px G m_TM_clear 36 [(3, .int x3), (2, .int x2), (0, .ref o), (1, .int g)] [] ws (d + 10) bc bs Q := by
  intro k
  induction k with
  | zero =>
    intro i ws σ x2 x3 h hnn hn hnd hlen hA hik h3 h2 hK
    subst h3
    subst h2
    subst hnn
    have hin : i = d_n σ := by omega
    have hL1 := h.2.2.1.1
    obtain ⟨sz, mc, hL1c⟩ := hL1.cell
    refine p_s rfl rfl ?_
    refine p_s rfl rfl ?_
    refine p_get rfl f_TM_12 h.1 rfl ?_
    refine p_callV rfl c_TM_44 rfl hL1c g_AL_size rfl rfl rfl (p_le (by omega) (Nat.le_refl _) (Nat.le_refl _) (c_size (d := d) hL1)) (fun v w hq => ?_)
    obtain ⟨rfl, hw9⟩ := hq
    have hw9 := hw9.symm
    subst hw9
    rw [c_len]
    refine p_icmpT rfl (show nI (d_n σ) ≤ nI i by rw [hin]; exact Int32.le_refl _) ?_
    refine p_s rfl rfl ?_
    refine p_iret rfl rfl rfl ?_
    rw [hin]
    exact hK ws h px_kp.rf
  | succ k ih =>
    intro i ws σ x2 x3 h hnn hn hnd hlen hA hik h3 h2 hK
    subst h3
    subst h2
    subst hnn
    have hin : i < d_n σ := by omega
    have hL1 := h.2.2.1.1
    obtain ⟨sz, mc, hL1c⟩ := hL1.cell
    have hc := h.2.2.2.2.1 i hin
    have hok := clrM_ok g σ i hnd hlen
    have hA2 : ∀ j, d_A (clrM g σ i) 0 j = A 0 j := fun j => (clrM_pr g σ i j).trans (hA j)
    have hAi := hA i
    by_cases hg0 : g = 0
    · skip
      refine p_s rfl rfl ?_
      refine p_s rfl rfl ?_
      refine p_get rfl f_TM_12 h.1 rfl ?_
      refine p_callV rfl c_TM_44 rfl hL1c g_AL_size rfl rfl rfl (p_le (by omega) (Nat.le_refl _) (Nat.le_refl _) (c_size (d := d) hL1)) (fun v w hq => ?_)
      obtain ⟨rfl, hw9⟩ := hq
      have hw9 := hw9.symm
      subst hw9
      rw [c_len]
      refine p_icmpF rfl (show ¬ nI (d_n σ) ≤ nI i from nI_ge hin (by omega)) ?_
      refine p_s rfl rfl ?_
      refine p_get rfl f_TM_12 h.1 rfl ?_
      refine p_s rfl rfl ?_
      refine p_callV rfl c_TM_88 rfl hL1c g_AL_get rfl rfl rfl (p_le (by omega) (Nat.le_refl _) (Nat.le_refl _) (c_get (d := d) hL1 (c_at ad hin))) (fun v w hq => ?_)
      obtain ⟨rfl, hw9⟩ := hq
      have hw9 := hw9.symm
      subst hw9
      refine p_castS rfl cs_TM_48 hc.1 ?_
      refine p_s rfl rfl ?_
      refine p_s rfl rfl ?_
      refine p_ifT rfl hg0 ?_
      refine p_s rfl rfl ?_
      refine p_callV rfl c_TM_127 rfl hc.1 g_Cd_forget rfl rfl rfl (p_le (by omega) (Nat.le_refl _) (Nat.le_refl _) (c_forget (d := d) hc.1 hc.2.1 hc.2.2 (fun z => h.2.2.2.1.2.2.2.2.2.1 i i hin hin z.symm))) (fun v w hq => ?_)
      obtain ⟨rfl, hw9⟩ := hq
      subst hw9
      have h2 := h.frs hin
      have k2 : px_kp Kr ws (px_up (px_up (px_up ws (ad 1 i) (oSg 80 0 0 0)) (ad 2 i) (oSg 80 0 0 0)) (ad 0 i) (oCd (nI (i + 1)) (d_A σ 0 i) (d_A σ 1 i) (d_A σ 2 i) (ad 1 i) (ad 2 i) 0 (c_pa ad (d_p σ i)) (c_en ad (e_c σ) i))) := ((px_kp.up hc.2.1 rfl).tr (px_kp.up (px_keep hc.2.2 (fun z => h.2.2.2.1.2.2.2.2.2.1 i i hin hin z.symm)) rfl)).tr (px_kp.up (px_keepK (px_keep hc.2.2 (fun z => h.2.2.2.1.2.2.2.2.2.1 i i hin hin z.symm)) (px_keepK hc.2.1 hc.1 (Nat.ne_of_beq_eq_false rfl)) (Nat.ne_of_beq_eq_false rfl)) rfl)
      refine p_s rfl rfl ?_
      refine p_get rfl f_TM_40 h2.1 rfl ?_
      refine p_s rfl rfl ?_
      refine p_callV rfl c_TM_130 rfl h2.2.1 g_Mem_drop rfl rfl rfl (p_le (by omega) (Nat.le_refl _) (Nat.le_refl _) (c_drop (d := d) h2 hnd (Nat.le_trans hlen (by decide)) hin)) (fun v w hq => ?_)
      obtain ⟨rfl, h3, k3⟩ := hq
      have hg : inG (d_A σ) g i := Or.inl hg0
      have h4 : CR G R w o ad (clrM g σ i) := by rw [clrM, if_pos hg]; exact h3
      have hgA : inG A g i := by rw [inG, ← hAi]; exact hg
      refine p_s rfl rfl ?_
      refine p_s rfl rfl ?_
      refine p_goto rfl ?_
      refine p_lv (lv2 := [(3, .int (nI i + 1)), (2, .int (nI (clrN A g i) + 1)), (0, .ref o), (1, .int g)]) (ks := [0, 1, 3, 4]) rfl ?_
      exact ih (i + 1) _ (clrM g σ i) _ _ h4 (clrM_n g σ i) hn hok.1 hok.2 hA2 (by omega) (nI_1 i) (by rw [clrN, if_pos hgA]; exact nI_1 _) (fun w a1 a2 => hK w a1 ((k2.tr k3).tr a2))
    · by_cases hg1 : 1 + (d_A σ 0 i - 1) / 32 = g
      · skip
        refine p_s rfl rfl ?_
        refine p_s rfl rfl ?_
        refine p_get rfl f_TM_12 h.1 rfl ?_
        refine p_callV rfl c_TM_44 rfl hL1c g_AL_size rfl rfl rfl (p_le (by omega) (Nat.le_refl _) (Nat.le_refl _) (c_size (d := d) hL1)) (fun v w hq => ?_)
        obtain ⟨rfl, hw9⟩ := hq
        have hw9 := hw9.symm
        subst hw9
        rw [c_len]
        refine p_icmpF rfl (show ¬ nI (d_n σ) ≤ nI i from nI_ge hin (by omega)) ?_
        refine p_s rfl rfl ?_
        refine p_get rfl f_TM_12 h.1 rfl ?_
        refine p_s rfl rfl ?_
        refine p_callV rfl c_TM_88 rfl hL1c g_AL_get rfl rfl rfl (p_le (by omega) (Nat.le_refl _) (Nat.le_refl _) (c_get (d := d) hL1 (c_at ad hin))) (fun v w hq => ?_)
        obtain ⟨rfl, hw9⟩ := hq
        have hw9 := hw9.symm
        subst hw9
        refine p_castS rfl cs_TM_48 hc.1 ?_
        refine p_s rfl rfl ?_
        refine p_s rfl rfl ?_
        refine p_ifF rfl hg0 ?_
        refine p_s rfl rfl ?_
        refine p_callV rfl c_TM_124 rfl hc.1 g_Cd_group rfl rfl rfl (p_le (by omega) (Nat.le_refl _) (Nat.le_refl _) (c_group (d := d) hc.1)) (fun v w hq => ?_)
        obtain ⟨rfl, hw9⟩ := hq
        have hw9 := hw9.symm
        subst hw9
        refine p_s rfl rfl ?_
        refine p_icmpF rfl hg1 ?_
        refine p_s rfl rfl ?_
        refine p_callV rfl c_TM_127 rfl hc.1 g_Cd_forget rfl rfl rfl (p_le (by omega) (Nat.le_refl _) (Nat.le_refl _) (c_forget (d := d) hc.1 hc.2.1 hc.2.2 (fun z => h.2.2.2.1.2.2.2.2.2.1 i i hin hin z.symm))) (fun v w hq => ?_)
        obtain ⟨rfl, hw9⟩ := hq
        subst hw9
        have h2 := h.frs hin
        have k2 : px_kp Kr ws (px_up (px_up (px_up ws (ad 1 i) (oSg 80 0 0 0)) (ad 2 i) (oSg 80 0 0 0)) (ad 0 i) (oCd (nI (i + 1)) (d_A σ 0 i) (d_A σ 1 i) (d_A σ 2 i) (ad 1 i) (ad 2 i) 0 (c_pa ad (d_p σ i)) (c_en ad (e_c σ) i))) := ((px_kp.up hc.2.1 rfl).tr (px_kp.up (px_keep hc.2.2 (fun z => h.2.2.2.1.2.2.2.2.2.1 i i hin hin z.symm)) rfl)).tr (px_kp.up (px_keepK (px_keep hc.2.2 (fun z => h.2.2.2.1.2.2.2.2.2.1 i i hin hin z.symm)) (px_keepK hc.2.1 hc.1 (Nat.ne_of_beq_eq_false rfl)) (Nat.ne_of_beq_eq_false rfl)) rfl)
        refine p_s rfl rfl ?_
        refine p_get rfl f_TM_40 h2.1 rfl ?_
        refine p_s rfl rfl ?_
        refine p_callV rfl c_TM_130 rfl h2.2.1 g_Mem_drop rfl rfl rfl (p_le (by omega) (Nat.le_refl _) (Nat.le_refl _) (c_drop (d := d) h2 hnd (Nat.le_trans hlen (by decide)) hin)) (fun v w hq => ?_)
        obtain ⟨rfl, h3, k3⟩ := hq
        have hg : inG (d_A σ) g i := Or.inr hg1
        have h4 : CR G R w o ad (clrM g σ i) := by rw [clrM, if_pos hg]; exact h3
        have hgA : inG A g i := by rw [inG, ← hAi]; exact hg
        refine p_s rfl rfl ?_
        refine p_s rfl rfl ?_
        refine p_goto rfl ?_
        refine p_lv (lv2 := [(3, .int (nI i + 1)), (2, .int (nI (clrN A g i) + 1)), (0, .ref o), (1, .int g)]) (ks := [0, 1, 3, 4]) rfl ?_
        exact ih (i + 1) _ (clrM g σ i) _ _ h4 (clrM_n g σ i) hn hok.1 hok.2 hA2 (by omega) (nI_1 i) (by rw [clrN, if_pos hgA]; exact nI_1 _) (fun w a1 a2 => hK w a1 ((k2.tr k3).tr a2))
      · skip
        refine p_s rfl rfl ?_
        refine p_s rfl rfl ?_
        refine p_get rfl f_TM_12 h.1 rfl ?_
        refine p_callV rfl c_TM_44 rfl hL1c g_AL_size rfl rfl rfl (p_le (by omega) (Nat.le_refl _) (Nat.le_refl _) (c_size (d := d) hL1)) (fun v w hq => ?_)
        obtain ⟨rfl, hw9⟩ := hq
        have hw9 := hw9.symm
        subst hw9
        rw [c_len]
        refine p_icmpF rfl (show ¬ nI (d_n σ) ≤ nI i from nI_ge hin (by omega)) ?_
        refine p_s rfl rfl ?_
        refine p_get rfl f_TM_12 h.1 rfl ?_
        refine p_s rfl rfl ?_
        refine p_callV rfl c_TM_88 rfl hL1c g_AL_get rfl rfl rfl (p_le (by omega) (Nat.le_refl _) (Nat.le_refl _) (c_get (d := d) hL1 (c_at ad hin))) (fun v w hq => ?_)
        obtain ⟨rfl, hw9⟩ := hq
        have hw9 := hw9.symm
        subst hw9
        refine p_castS rfl cs_TM_48 hc.1 ?_
        refine p_s rfl rfl ?_
        refine p_s rfl rfl ?_
        refine p_ifF rfl hg0 ?_
        refine p_s rfl rfl ?_
        refine p_callV rfl c_TM_124 rfl hc.1 g_Cd_group rfl rfl rfl (p_le (by omega) (Nat.le_refl _) (Nat.le_refl _) (c_group (d := d) hc.1)) (fun v w hq => ?_)
        obtain ⟨rfl, hw9⟩ := hq
        have hw9 := hw9.symm
        subst hw9
        refine p_s rfl rfl ?_
        refine p_icmpT rfl hg1 ?_
        refine p_s rfl rfl ?_
        have hg : ¬ inG (d_A σ) g i := fun z => z.elim hg0 hg1
        have h4 : CR G R ws o ad (clrM g σ i) := by rw [clrM, if_neg hg]; exact h
        have hgA : ¬ inG A g i := by rw [inG, ← hAi]; exact hg
        refine p_goto rfl ?_
        refine p_lv (lv2 := [(3, .int (nI i + 1)), (2, .int (nI (clrN A g i))), (0, .ref o), (1, .int g)]) (ks := [0, 2, 3, 4]) rfl ?_
        exact ih (i + 1) _ (clrM g σ i) _ _ h4 (clrM_n g σ i) hn hok.1 hok.2 hA2 (by omega) (nI_1 i) (by rw [clrN, if_neg hgA]; rfl) (fun w a1 a2 => hK w a1 a2)
set_option maxHeartbeats 4000000 in
theorem o_clearN {G : px_G} {ws : va_W} {d : Nat} {R : Int32} {o : Nat} {ad : Nat → Nat → Nat} {σ : Md} (h : CR G R ws o ad σ) {g : Int32} (hx : isw g 0 8 = 0) : px G m_TM_clear 0 (lv_args 0 [.ref o, .int g]) [] ws (d + 10) 4 2008 (OPc G R o ws (-2) (σ)) := by
  refine p_s rfl rfl ?_
  refine p_s rfl rfl ?_
  refine p_s rfl rfl ?_
  refine p_callS rfl c_TM_33 g_TM_isWithin rfl rfl rfl (p_le (by omega) (Nat.le_refl _) (Nat.le_refl _) (c_isWithin (d := d))) (fun v w hq => ?_)
  obtain ⟨rfl, hw9⟩ := hq
  have hw9 := hw9.symm
  subst hw9
  refine p_ifF rfl hx ?_
  refine p_s rfl rfl ?_
  exact p_iret rfl rfl rfl ⟨rfl, ad, h, px_kp.rf⟩
set_option maxHeartbeats 4000000 in
theorem o_clearC {G : px_G} {ws : va_W} {d : Nat} {R : Int32} {o : Nat} {ad : Nat → Nat → Nat} {σ : Md} (h : CR G R ws o ad σ) {g : Int32} (hx : ¬ isw g 0 8 = 0) (hp : d_g σ 1 = 0) : px G m_TM_clear 0 (lv_args 0 [.ref o, .int g]) [] ws (d + 10) 4 2008 (OPc G R o ws (-3) (σ)) := by
  refine p_s rfl rfl ?_
  refine p_s rfl rfl ?_
  refine p_s rfl rfl ?_
  refine p_callS rfl c_TM_33 g_TM_isWithin rfl rfl rfl (p_le (by omega) (Nat.le_refl _) (Nat.le_refl _) (c_isWithin (d := d))) (fun v w hq => ?_)
  obtain ⟨rfl, hw9⟩ := hq
  have hw9 := hw9.symm
  subst hw9
  refine p_ifT rfl hx ?_
  refine p_s rfl rfl ?_
  refine p_get rfl f_TM_20 h.1 rfl ?_
  refine p_ifT rfl hp ?_
  refine p_s rfl rfl ?_
  exact p_iret rfl rfl rfl ⟨rfl, ad, h, px_kp.rf⟩
set_option maxHeartbeats 4000000 in
theorem o_clearO {G : px_G} {ws : va_W} {d : Nat} {R : Int32} {o : Nat} {ad : Nat → Nat → Nat} {σ : Md} (h : CR G R ws o ad σ) {g : Int32} (hx : ¬ isw g 0 8 = 0) (hp : ¬ d_g σ 1 = 0) (ho : sHas (d_g σ 0) (1 <<< ((31 : Int32) &&& 31)) = 0) : px G m_TM_clear 0 (lv_args 0 [.ref o, .int g]) [] ws (d + 10) 4 2008 (OPc G R o ws (-3) (σ)) := by
  refine p_s rfl rfl ?_
  refine p_s rfl rfl ?_
  refine p_s rfl rfl ?_
  refine p_callS rfl c_TM_33 g_TM_isWithin rfl rfl rfl (p_le (by omega) (Nat.le_refl _) (Nat.le_refl _) (c_isWithin (d := d))) (fun v w hq => ?_)
  obtain ⟨rfl, hw9⟩ := hq
  have hw9 := hw9.symm
  subst hw9
  refine p_ifT rfl hx ?_
  refine p_s rfl rfl ?_
  refine p_get rfl f_TM_20 h.1 rfl ?_
  refine p_ifF rfl hp ?_
  refine p_s rfl rfl ?_
  refine p_s rfl rfl ?_
  refine p_callV rfl c_TM_67 rfl h.1 g_TM_isOn rfl rfl rfl (p_le (by omega) (Nat.le_refl _) (Nat.le_refl _) (c_isOn (d := d) h.1)) (fun v w hq => ?_)
  obtain ⟨rfl, hw9⟩ := hq
  have hw9 := hw9.symm
  subst hw9
  refine p_ifF rfl ho ?_
  refine p_s rfl rfl ?_
  exact p_iret rfl rfl rfl ⟨rfl, ad, h, px_kp.rf⟩
set_option maxHeartbeats 4000000 in
theorem o_clear {G : px_G} {ws : va_W} {d : Nat} {R : Int32} {o : Nat} {ad : Nat → Nat → Nat} {σ : Md} (h : CR G R ws o ad σ) {g : Int32} (hn : d_n σ ≤ 200) (hnd : (e_c σ).Nodup) (hlen : (e_c σ).length ≤ 500) (hx : ¬ isw g 0 8 = 0) (hp : ¬ d_g σ 1 = 0) (ho : ¬ sHas (d_g σ 0) (1 <<< ((31 : Int32) &&& 31)) = 0) : px G m_TM_clear 0 (lv_args 0 [.ref o, .int g]) [] ws (d + 10) 4 2008 (OPc G R o ws (nI (clrN (d_A σ) g (d_n σ))) (fdR (clrM g) (d_n σ) 0 σ)) := by
  refine p_s rfl rfl ?_
  refine p_s rfl rfl ?_
  refine p_s rfl rfl ?_
  refine p_callS rfl c_TM_33 g_TM_isWithin rfl rfl rfl (p_le (by omega) (Nat.le_refl _) (Nat.le_refl _) (c_isWithin (d := d))) (fun v w hq => ?_)
  obtain ⟨rfl, hw9⟩ := hq
  have hw9 := hw9.symm
  subst hw9
  refine p_ifT rfl hx ?_
  refine p_s rfl rfl ?_
  refine p_get rfl f_TM_20 h.1 rfl ?_
  refine p_ifF rfl hp ?_
  refine p_s rfl rfl ?_
  refine p_s rfl rfl ?_
  refine p_callV rfl c_TM_67 rfl h.1 g_TM_isOn rfl rfl rfl (p_le (by omega) (Nat.le_refl _) (Nat.le_refl _) (c_isOn (d := d) h.1)) (fun v w hq => ?_)
  obtain ⟨rfl, hw9⟩ := hq
  have hw9 := hw9.symm
  subst hw9
  refine p_ifT rfl ho ?_
  refine p_s rfl rfl ?_
  refine p_s rfl rfl ?_
  refine p_s rfl rfl ?_
  refine p_s rfl rfl ?_
  exact c_clr_loop (d_n σ) 0 ws σ _ _ h rfl hn hnd hlen (fun _ => rfl) (by omega) rfl rfl (fun w a1 a2 => ⟨rfl, ad, a1, a2⟩)
