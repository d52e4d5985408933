/-! THE CLASS: what only tells; cut -/
theorem gt3 {x : Int32} (z : 3 < x) : (3 : Int) < x.toInt := by
  have e : (3 : Int32).toInt = 3 := by decide
  rw [← e]
  exact Int32.lt_iff_toInt_lt.mp z
theorem gt2 {x : Int32} (z : 2 < x) : (2 : Int) < x.toInt := by
  have e : (2 : Int32).toInt = 2 := by decide
  rw [← e]
  exact Int32.lt_iff_toInt_lt.mp z
set_option maxHeartbeats 4000000 in
theorem o_statusN {G : px_G} {ws : va_W} {d : Nat} {R : Int32} {o : Nat} {ad : Nat → Nat → Nat} {σ : Md} (h : CR G R ws o ad σ) {x : Int32} (hx : x < 1 ∨ nI (d_n σ) < x) : px G m_TM_status 0 (lv_args 0 [.ref o, .int x]) [] ws (d + 10) 4 2008 (OPc G R o ws (-1) (σ)) := by
  refine p_s rfl rfl ?_
  refine p_s rfl rfl ?_
  refine p_callV rfl c_TM_60 rfl h.1 g_TM_find rfl rfl rfl (p_le (by omega) (Nat.le_refl _) (Nat.le_refl _) (c_findN (d := d) h hx)) (fun v w hq => ?_)
  obtain ⟨rfl, hw9⟩ := hq
  have hw9 := hw9.symm
  subst hw9
  refine p_s rfl rfl ?_
  refine p_s rfl rfl ?_
  refine p_ifnonnull (r := none) rfl (fun c => absurd rfl c) (fun _ => ?_)
  refine p_s rfl rfl ?_
  refine p_goto rfl ?_
  exact p_iret rfl rfl rfl ⟨rfl, ad, h, px_kp.rf⟩
set_option maxHeartbeats 4000000 in
theorem o_status {G : px_G} {ws : va_W} {d : Nat} {R : Int32} {o : Nat} {ad : Nat → Nat → Nat} {σ : Md} (h : CR G R ws o ad σ) (hn : d_n σ ≤ 200) {i : Nat} (hi : i < d_n σ) : px G m_TM_status 0 (lv_args 0 [.ref o, .int (nI (i + 1))]) [] ws (d + 10) 4 2008 (OPc G R o ws (d_A σ 3 i) (σ)) := by
  refine p_s rfl rfl ?_
  refine p_s rfl rfl ?_
  refine p_callV rfl c_TM_60 rfl h.1 g_TM_find rfl rfl rfl (p_le (by omega) (Nat.le_refl _) (Nat.le_refl _) (c_findS (d := d) h hn hi)) (fun v w hq => ?_)
  obtain ⟨rfl, hw9⟩ := hq
  have hw9 := hw9.symm
  subst hw9
  refine p_s rfl rfl ?_
  refine p_s rfl rfl ?_
  refine p_ifnonnull (r := some (ad 0 i)) rfl (fun _ => ?_) (fun c => by cases c)
  refine p_s rfl rfl ?_
  refine p_get rfl f_TM_79 (h.2.2.2.2.1 i hi).1 rfl ?_
  refine p_get rfl f_TM_83 (h.2.2.2.2.1 i hi).2.1 rfl ?_
  exact p_iret rfl rfl rfl ⟨rfl, ad, h, px_kp.rf⟩
set_option maxHeartbeats 4000000 in
theorem o_ageN {G : px_G} {ws : va_W} {d : Nat} {R : Int32} {o : Nat} {ad : Nat → Nat → Nat} {σ : Md} (h : CR G R ws o ad σ) {x : Int32} (hx : x < 1 ∨ nI (d_n σ) < x) : px G m_TM_age 0 (lv_args 0 [.ref o, .int x]) [] ws (d + 10) 4 2008 (OPc G R o ws (-1) (σ)) := by
  refine p_s rfl rfl ?_
  refine p_s rfl rfl ?_
  refine p_callV rfl c_TM_60 rfl h.1 g_TM_find rfl rfl rfl (p_le (by omega) (Nat.le_refl _) (Nat.le_refl _) (c_findN (d := d) h hx)) (fun v w hq => ?_)
  obtain ⟨rfl, hw9⟩ := hq
  have hw9 := hw9.symm
  subst hw9
  refine p_s rfl rfl ?_
  refine p_s rfl rfl ?_
  refine p_ifnonnull (r := none) rfl (fun c => absurd rfl c) (fun _ => ?_)
  refine p_s rfl rfl ?_
  refine p_goto rfl ?_
  exact p_iret rfl rfl rfl ⟨rfl, ad, h, px_kp.rf⟩
set_option maxHeartbeats 4000000 in
theorem o_age {G : px_G} {ws : va_W} {d : Nat} {R : Int32} {o : Nat} {ad : Nat → Nat → Nat} {σ : Md} (h : CR G R ws o ad σ) (hn : d_n σ ≤ 200) {i : Nat} (hi : i < d_n σ) : px G m_TM_age 0 (lv_args 0 [.ref o, .int (nI (i + 1))]) [] ws (d + 10) 4 2008 (OPc G R o ws (d_A σ 5 i) (σ)) := by
  refine p_s rfl rfl ?_
  refine p_s rfl rfl ?_
  refine p_callV rfl c_TM_60 rfl h.1 g_TM_find rfl rfl rfl (p_le (by omega) (Nat.le_refl _) (Nat.le_refl _) (c_findS (d := d) h hn hi)) (fun v w hq => ?_)
  obtain ⟨rfl, hw9⟩ := hq
  have hw9 := hw9.symm
  subst hw9
  refine p_s rfl rfl ?_
  refine p_s rfl rfl ?_
  refine p_ifnonnull (r := some (ad 0 i)) rfl (fun _ => ?_) (fun c => by cases c)
  refine p_s rfl rfl ?_
  refine p_get rfl f_TM_79 (h.2.2.2.2.1 i hi).1 rfl ?_
  refine p_get rfl f_TM_170 (h.2.2.2.2.1 i hi).2.1 rfl ?_
  exact p_iret rfl rfl rfl ⟨rfl, ad, h, px_kp.rf⟩
set_option maxHeartbeats 4000000 in
theorem o_lampO {G : px_G} {ws : va_W} {d : Nat} {R : Int32} {o : Nat} {ad : Nat → Nat → Nat} {σ : Md} (h : CR G R ws o ad σ) {x : Int32} (hx : x < 0 ∨ 3 < x) : px G m_TM_lamp 0 (lv_args 0 [.ref o, .int x]) [] ws (d + 10) 4 2008 (OPc G R o ws (-2) (σ)) := by
  refine p_s rfl rfl ?_
  refine p_tabO (t := 67) rfl (hx.imp (fun z => Int32.lt_iff_toInt_lt.mp z) gt3) (by decide) ?_
  refine p_s rfl rfl ?_
  exact p_iret rfl rfl rfl ⟨rfl, ad, h, px_kp.rf⟩
set_option maxHeartbeats 4000000 in
theorem o_lamp0 {G : px_G} {ws : va_W} {d : Nat} {R : Int32} {o : Nat} {ad : Nat → Nat → Nat} {σ : Md} (h : CR G R ws o ad σ) (hn : d_n σ ≤ 200) : px G m_TM_lamp 0 (lv_args 0 [.ref o, .int 0]) [] ws (d + 10) 4 2008 (OPc G R o ws (if 0 < cntB (d_A σ) 128 (d_n σ) then 1 else 0) (σ)) := by
  refine p_s rfl rfl ?_
  refine p_tabI (of := 31) (t := 32) rfl (by decide) (by decide) (by decide) (by decide) ?_
  refine p_s rfl rfl ?_
  refine p_s rfl rfl ?_
  refine p_callV rfl c_TM_149 rfl h.1 g_TM_countCodesWith rfl rfl rfl (p_le (by omega) (Nat.le_refl _) (Nat.le_refl _) (c_countCodesWith (d := d) h hn)) (fun v w hq => ?_)
  obtain ⟨rfl, hw9⟩ := hq
  have hw9 := hw9.symm
  subst hw9
  refine p_if rfl (fun c => ?_) (fun c => ?_)
  · simp only [px_cmp] at c
    refine p_s rfl rfl ?_
    exact p_iret rfl rfl rfl ⟨by rw [if_neg (fun z => absurd c (nI_nle z (by have := cntB_le (d_A σ) 128 (d_n σ); omega)))], ad, h, px_kp.rf⟩
  · simp only [px_ncmp] at c
    refine p_s rfl rfl ?_
    refine p_goto rfl ?_
    exact p_iret rfl rfl rfl ⟨by rw [if_pos (Nat.pos_of_ne_zero (fun z => c (by rw [z]; decide)))], ad, h, px_kp.rf⟩
set_option maxHeartbeats 4000000 in
theorem o_lamp1 {G : px_G} {ws : va_W} {d : Nat} {R : Int32} {o : Nat} {ad : Nat → Nat → Nat} {σ : Md} (h : CR G R ws o ad σ) (hn : d_n σ ≤ 200) : px G m_TM_lamp 0 (lv_args 0 [.ref o, .int 1]) [] ws (d + 10) 4 2008 (OPc G R o ws (nI (cntB (d_A σ) 8 (d_n σ))) (σ)) := by
  refine p_s rfl rfl ?_
  refine p_tabI (of := 47) (t := 48) rfl (by decide) (by decide) (by decide) (by decide) ?_
  refine p_s rfl rfl ?_
  refine p_s rfl rfl ?_
  refine p_callV rfl c_TM_149 rfl h.1 g_TM_countCodesWith rfl rfl rfl (p_le (by omega) (Nat.le_refl _) (Nat.le_refl _) (c_countCodesWith (d := d) h hn)) (fun v w hq => ?_)
  obtain ⟨rfl, hw9⟩ := hq
  have hw9 := hw9.symm
  subst hw9
  exact p_iret rfl rfl rfl ⟨rfl, ad, h, px_kp.rf⟩
set_option maxHeartbeats 4000000 in
theorem o_lamp2 {G : px_G} {ws : va_W} {d : Nat} {R : Int32} {o : Nat} {ad : Nat → Nat → Nat} {σ : Md} (h : CR G R ws o ad σ) (hn : d_n σ ≤ 200) : px G m_TM_lamp 0 (lv_args 0 [.ref o, .int 2]) [] ws (d + 10) 4 2008 (OPc G R o ws (nI (cntB (d_A σ) 4 (d_n σ))) (σ)) := by
  refine p_s rfl rfl ?_
  refine p_tabI (of := 54) (t := 55) rfl (by decide) (by decide) (by decide) (by decide) ?_
  refine p_s rfl rfl ?_
  refine p_s rfl rfl ?_
  refine p_callV rfl c_TM_149 rfl h.1 g_TM_countCodesWith rfl rfl rfl (p_le (by omega) (Nat.le_refl _) (Nat.le_refl _) (c_countCodesWith (d := d) h hn)) (fun v w hq => ?_)
  obtain ⟨rfl, hw9⟩ := hq
  have hw9 := hw9.symm
  subst hw9
  exact p_iret rfl rfl rfl ⟨rfl, ad, h, px_kp.rf⟩
set_option maxHeartbeats 4000000 in
theorem o_lamp3 {G : px_G} {ws : va_W} {d : Nat} {R : Int32} {o : Nat} {ad : Nat → Nat → Nat} {σ : Md} (h : CR G R ws o ad σ) (hn : d_n σ ≤ 200) : px G m_TM_lamp 0 (lv_args 0 [.ref o, .int 3]) [] ws (d + 10) 4 2008 (OPc G R o ws (nI (cntB (d_A σ) 1 (d_n σ))) (σ)) := by
  refine p_s rfl rfl ?_
  refine p_tabI (of := 60) (t := 61) rfl (by decide) (by decide) (by decide) (by decide) ?_
  refine p_s rfl rfl ?_
  refine p_s rfl rfl ?_
  refine p_callV rfl c_TM_149 rfl h.1 g_TM_countCodesWith rfl rfl rfl (p_le (by omega) (Nat.le_refl _) (Nat.le_refl _) (c_countCodesWith (d := d) h hn)) (fun v w hq => ?_)
  obtain ⟨rfl, hw9⟩ := hq
  have hw9 := hw9.symm
  subst hw9
  exact p_iret rfl rfl rfl ⟨rfl, ad, h, px_kp.rf⟩
set_option maxHeartbeats 4000000 in
theorem o_cutC {G : px_G} {ws : va_W} {d : Nat} {R : Int32} {o : Nat} {ad : Nat → Nat → Nat} {σ : Md} (h : CR G R ws o ad σ) (hp : d_g σ 1 = 0) : px G m_TM_cut 0 (lv_args 0 [.ref o]) [] ws (d + 10) 4 2008 (OPc G R o ws (-3) (σ)) := by
  refine p_s rfl rfl ?_
  refine p_get rfl f_TM_20 h.1 rfl ?_
  refine p_ifF rfl hp ?_
  refine p_s rfl rfl ?_
  exact p_iret rfl rfl rfl ⟨rfl, ad, h, px_kp.rf⟩
set_option maxHeartbeats 4000000 in
theorem o_cut {G : px_G} {ws : va_W} {d : Nat} {R : Int32} {o : Nat} {ad : Nat → Nat → Nat} {σ : Md} (h : CR G R ws o ad σ) (hp : ¬ d_g σ 1 = 0) : px G m_TM_cut 0 (lv_args 0 [.ref o]) [] ws (d + 10) 4 2008 (OPc G R o ws (nI (e_c σ).length) (stG σ (upG (d_g σ) 1 0))) := by
  refine p_s rfl rfl ?_
  refine p_get rfl f_TM_20 h.1 rfl ?_
  refine p_ifT rfl hp ?_
  refine p_s rfl rfl ?_
  refine p_s rfl rfl ?_
  refine p_put rfl fp_TM_20 h.1 rfl rfl (by exact Nat.le_of_ble_eq_true rfl) ?_
  have h1 : CR G R (px_up ws o (oTM (ad 6 1) (ad 6 0) (d_g σ 0) 0 (d_g σ 2) (d_g σ 3))) o ad (stG σ (upG (d_g σ) 1 0)) := h.tm (upG (d_g σ) 1 0)
  have k1 : px_kp Kr ws (px_up ws o (oTM (ad 6 1) (ad 6 0) (d_g σ 0) 0 (d_g σ 2) (d_g σ 3))) := px_kp.up h.1 rfl
  have hL2 := h1.2.2.1.2.1
  obtain ⟨sz, mc, hL2c⟩ := hL2.cell
  refine p_s rfl rfl ?_
  refine p_get rfl f_TM_40 h1.1 rfl ?_
  refine p_get rfl f_TM_152 h1.2.1 rfl ?_
  refine p_callV rfl c_TM_44 rfl hL2c g_AL_size rfl rfl rfl (c_size hL2) (fun v w hq => ?_)
  obtain ⟨rfl, hw9⟩ := hq
  subst hw9
  rw [List.length_map]
  exact p_iret rfl rfl rfl ⟨rfl, ad, h1, k1⟩
theorem isw_out {x : Int32} {n : Nat} (hn : n ≤ 1000) (hx : x < 0 ∨ nI n ≤ x) : isw x 0 (nI n - 1) = 0 := by
  rw [isw, if_pos]
  rcases hx with hx | hx
  · exact Or.inl hx
  · right
    rw [Int32.lt_iff_toInt_lt]
    have h1 := Int32.le_iff_toInt_le.mp hx
    rw [nI_toInt (by omega)] at h1
    have h2 : (nI n - 1).toInt = (n : Int) - 1 := by
      rw [show (1 : Int32) = nI 1 from rfl]
      exact pk_sub_toInt (by omega) (by decide)
    omega
theorem isw_at {k n : Nat} (hn : n ≤ 1000) (hk : k < n) : ¬ isw (nI k) 0 (nI n - 1) = 0 := by
  rw [isw, if_neg]
  · decide
  · rintro (z | z)
    · exact nI_pos (by omega) z
    · rw [Int32.lt_iff_toInt_lt, nI_toInt (by omega), show (nI n - 1).toInt = (n : Int) - 1 by rw [show (1 : Int32) = nI 1 from rfl]; exact pk_sub_toInt (by omega) (by decide)] at z
      omega
set_option maxHeartbeats 4000000 in
theorem o_displacedN {G : px_G} {ws : va_W} {d : Nat} {R : Int32} {o : Nat} {ad : Nat → Nat → Nat} {σ : Md} (h : CR G R ws o ad σ) {x : Int32} (hd : (d_d σ).length ≤ 500) (hx : x < 0 ∨ nI (d_d σ).length ≤ x) : px G m_TM_displaced 0 (lv_args 0 [.ref o, .int x]) [] ws (d + 10) 4 2008 (OPc G R o ws (-1) (σ)) := by
  have hL3 := h.2.2.1.2.2
  obtain ⟨sz, mc, hL3c⟩ := hL3.cell
  refine p_s rfl rfl ?_
  refine p_s rfl rfl ?_
  refine p_s rfl rfl ?_
  refine p_get rfl f_TM_40 h.1 rfl ?_
  refine p_get rfl f_TM_167 h.2.1 rfl ?_
  refine p_callV rfl c_TM_44 rfl hL3c g_AL_size rfl rfl rfl (c_size hL3) (fun v w hq => ?_)
  obtain ⟨rfl, hw9⟩ := hq
  have hw9 := hw9.symm
  subst hw9
  rw [List.length_map]
  refine p_s rfl rfl ?_
  refine p_s rfl rfl ?_
  refine p_callS rfl c_TM_33 g_TM_isWithin rfl rfl rfl (c_isWithin) (fun v w hq => ?_)
  obtain ⟨rfl, hw9⟩ := hq
  have hw9 := hw9.symm
  subst hw9
  refine p_ifF rfl (isw_out (by omega) hx) ?_
  refine p_s rfl rfl ?_
  exact p_iret rfl rfl rfl ⟨rfl, ad, h, px_kp.rf⟩
set_option maxHeartbeats 4000000 in
theorem o_displaced {G : px_G} {ws : va_W} {d : Nat} {R : Int32} {o : Nat} {ad : Nat → Nat → Nat} {σ : Md} (h : CR G R ws o ad σ) {k c : Nat} (hd : (d_d σ).length ≤ 500) (hk : (d_d σ)[k]? = some c) (hc : c < d_n σ) : px G m_TM_displaced 0 (lv_args 0 [.ref o, .int (nI k)]) [] ws (d + 10) 4 2008 (OPc G R o ws (nI (c + 1)) (σ)) := by
  have hL3 := h.2.2.1.2.2
  obtain ⟨sz, mc, hL3c⟩ := hL3.cell
  have hkl : k < (d_d σ).length := (List.getElem?_eq_some_iff.mp hk).1
  refine p_s rfl rfl ?_
  refine p_s rfl rfl ?_
  refine p_s rfl rfl ?_
  refine p_get rfl f_TM_40 h.1 rfl ?_
  refine p_get rfl f_TM_167 h.2.1 rfl ?_
  refine p_callV rfl c_TM_44 rfl hL3c g_AL_size rfl rfl rfl (c_size hL3) (fun v w hq => ?_)
  obtain ⟨rfl, hw9⟩ := hq
  have hw9 := hw9.symm
  subst hw9
  rw [List.length_map]
  refine p_s rfl rfl ?_
  refine p_s rfl rfl ?_
  refine p_callS rfl c_TM_33 g_TM_isWithin rfl rfl rfl (c_isWithin) (fun v w hq => ?_)
  obtain ⟨rfl, hw9⟩ := hq
  have hw9 := hw9.symm
  subst hw9
  refine p_ifT rfl (isw_at (by omega) hkl) ?_
  refine p_s rfl rfl ?_
  refine p_get rfl f_TM_40 h.1 rfl ?_
  refine p_get rfl f_TM_167 h.2.1 rfl ?_
  refine p_s rfl rfl ?_
  refine p_callV rfl c_TM_88 rfl hL3c g_AL_get rfl rfl rfl (p_le (by omega) (Nat.le_refl _) (Nat.le_refl _) (c_get (d := d) (i := k) (y := ad 0 c) hL3 (by rw [List.getElem?_map, hk]; rfl))) (fun v w hq => ?_)
  obtain ⟨rfl, hw9⟩ := hq
  have hw9 := hw9.symm
  subst hw9
  refine p_castS rfl cs_TM_48 (h.2.2.2.2.1 c hc).1 ?_
  refine p_get rfl f_TM_57 (h.2.2.2.2.1 c hc).1 rfl ?_
  exact p_iret rfl rfl rfl ⟨rfl, ad, h, px_kp.rf⟩
set_option maxHeartbeats 4000000 in
theorem o_storedA {G : px_G} {ws : va_W} {d : Nat} {R : Int32} {o : Nat} {ad : Nat → Nat → Nat} {σ : Md} (h : CR G R ws o ad σ) : px G m_TM_stored 0 (lv_args 0 [.ref o, .int (-1), .int 0]) [] ws (d + 10) 4 2008 (OPc G R o ws (nI (e_c σ).length) (σ)) := by
  have hL2 := h.2.2.1.2.1
  obtain ⟨sz, mc, hL2c⟩ := hL2.cell
  refine p_s rfl rfl ?_
  refine p_s rfl rfl ?_
  refine p_icmpF rfl (show (-1 : Int32) = -1 from rfl) ?_
  refine p_s rfl rfl ?_
  refine p_ifF rfl (show (0 : Int32) = 0 from rfl) ?_
  refine p_s rfl rfl ?_
  refine p_get rfl f_TM_40 h.1 rfl ?_
  refine p_get rfl f_TM_152 h.2.1 rfl ?_
  refine p_callV rfl c_TM_44 rfl hL2c g_AL_size rfl rfl rfl (c_size hL2) (fun v w hq => ?_)
  obtain ⟨rfl, hw9⟩ := hq
  have hw9 := hw9.symm
  subst hw9
  rw [List.length_map]
  exact p_iret rfl rfl rfl ⟨rfl, ad, h, px_kp.rf⟩
set_option maxHeartbeats 4000000 in
theorem o_storedN {G : px_G} {ws : va_W} {d : Nat} {R : Int32} {o : Nat} {ad : Nat → Nat → Nat} {σ : Md} (h : CR G R ws o ad σ) {x y : Int32} (hl : (e_c σ).length ≤ 200) (hxy : ¬ (x = -1 ∧ y = 0)) (hx : x < 0 ∨ nI (e_c σ).length ≤ x) : px G m_TM_stored 0 (lv_args 0 [.ref o, .int x, .int y]) [] ws (d + 10) 4 2008 (OPc G R o ws (-1) (σ)) := by
  have hL2 := h.2.2.1.2.1
  obtain ⟨sz, mc, hL2c⟩ := hL2.cell
  have go : px G m_TM_stored 20 (lv_args 0 [.ref o, .int x, .int y]) [] ws (d + 10) 4 2008 (OPc G R o ws (-1) σ) := by
    refine p_s rfl rfl ?_
    refine p_s rfl rfl ?_
    refine p_s rfl rfl ?_
    refine p_get rfl f_TM_40 h.1 rfl ?_
    refine p_get rfl f_TM_152 h.2.1 rfl ?_
    refine p_callV rfl c_TM_44 rfl hL2c g_AL_size rfl rfl rfl (c_size hL2) (fun v w hq => ?_)
    obtain ⟨rfl, hw9⟩ := hq
    have hw9 := hw9.symm
    subst hw9
    rw [List.length_map]
    refine p_s rfl rfl ?_
    refine p_s rfl rfl ?_
    refine p_callS rfl c_TM_33 g_TM_isWithin rfl rfl rfl (c_isWithin) (fun v w hq => ?_)
    obtain ⟨rfl, hw9⟩ := hq
    have hw9 := hw9.symm
    subst hw9
    refine p_ifF rfl (isw_out (by omega) hx) ?_
    refine p_s rfl rfl ?_
    exact p_iret rfl rfl rfl ⟨rfl, ad, h, px_kp.rf⟩
  by_cases h1 : x = -1
  · refine p_s rfl rfl ?_
    refine p_s rfl rfl ?_
    refine p_icmpF rfl h1 ?_
    refine p_s rfl rfl ?_
    refine p_ifT rfl (fun z => hxy ⟨h1, z⟩) ?_
    exact go
  · refine p_s rfl rfl ?_
    refine p_s rfl rfl ?_
    refine p_icmpT rfl h1 ?_
    exact go
set_option maxHeartbeats 4000000 in
theorem o_stored0 {G : px_G} {ws : va_W} {d : Nat} {R : Int32} {o : Nat} {ad : Nat → Nat → Nat} {σ : Md} (h : CR G R ws o ad σ) {k : Nat} {q : En4} (hl : (e_c σ).length ≤ 200) (hen : ∀ x ∈ e_c σ, x < d_n σ) (hk : (d_e σ)[k]? = some q) : px G m_TM_stored 0 (lv_args 0 [.ref o, .int (nI k), .int 0]) [] ws (d + 10) 4 2008 (OPc G R o ws (nI (q.1 + 1)) (σ)) := by
  have hL2 := h.2.2.1.2.1
  obtain ⟨sz, mc, hL2c⟩ := hL2.cell
  have hkl : k < (d_e σ).length := (List.getElem?_eq_some_iff.mp hk).1
  have hlm : (e_c σ).length = (d_e σ).length := List.length_map ..
  have hent := h.2.2.2.2.2 q (List.mem_of_getElem? hk)
  have hq1 : q.1 < d_n σ := hen q.1 (List.mem_map.mpr ⟨q, List.mem_of_getElem? hk, rfl⟩)
  refine p_s rfl rfl ?_
  refine p_s rfl rfl ?_
  refine p_icmpT rfl (show ¬ nI k = -1 from fun z => absurd (by rw [z]; decide : nI k < 0) (nI_pos (by omega))) ?_
  refine p_s rfl rfl ?_
  refine p_s rfl rfl ?_
  refine p_s rfl rfl ?_
  refine p_get rfl f_TM_40 h.1 rfl ?_
  refine p_get rfl f_TM_152 h.2.1 rfl ?_
  refine p_callV rfl c_TM_44 rfl hL2c g_AL_size rfl rfl rfl (c_size hL2) (fun v w hq => ?_)
  obtain ⟨rfl, hw9⟩ := hq
  have hw9 := hw9.symm
  subst hw9
  rw [List.length_map]
  refine p_s rfl rfl ?_
  refine p_s rfl rfl ?_
  refine p_callS rfl c_TM_33 g_TM_isWithin rfl rfl rfl (c_isWithin) (fun v w hq => ?_)
  obtain ⟨rfl, hw9⟩ := hq
  have hw9 := hw9.symm
  subst hw9
  refine p_ifT rfl (isw_at (by omega) (by rw [List.length_map]; exact hkl)) ?_
  refine p_s rfl rfl ?_
  refine p_get rfl f_TM_40 h.1 rfl ?_
  refine p_get rfl f_TM_152 h.2.1 rfl ?_
  refine p_s rfl rfl ?_
  refine p_callV rfl c_TM_88 rfl hL2c g_AL_get rfl rfl rfl (p_le (by omega) (Nat.le_refl _) (Nat.le_refl _) (c_get (d := d) (i := k) (y := ad 3 q.1) hL2 (by rw [List.getElem?_map, List.getElem?_map, hk]; rfl))) (fun v w hq => ?_)
  obtain ⟨rfl, hw9⟩ := hq
  have hw9 := hw9.symm
  subst hw9
  refine p_castS rfl cs_TM_111 hent.1 ?_
  refine p_s rfl rfl ?_
  refine p_s rfl rfl ?_
  refine p_tabI (of := 26) (t := 84) rfl (by decide) (by decide) (by decide) (by decide) ?_
  refine p_s rfl rfl ?_
  refine p_get rfl f_TM_155 hent.1 rfl ?_
  refine p_get rfl f_TM_57 (h.2.2.2.2.1 q.1 hq1).1 rfl ?_
  exact p_iret rfl rfl rfl ⟨rfl, ad, h, px_kp.rf⟩
set_option maxHeartbeats 4000000 in
theorem o_stored1 {G : px_G} {ws : va_W} {d : Nat} {R : Int32} {o : Nat} {ad : Nat → Nat → Nat} {σ : Md} (h : CR G R ws o ad σ) {k : Nat} {q : En4} (hl : (e_c σ).length ≤ 200) (hen : ∀ x ∈ e_c σ, x < d_n σ) (hk : (d_e σ)[k]? = some q) : px G m_TM_stored 0 (lv_args 0 [.ref o, .int (nI k), .int 1]) [] ws (d + 10) 4 2008 (OPc G R o ws (q.2.1) (σ)) := by
  have hL2 := h.2.2.1.2.1
  obtain ⟨sz, mc, hL2c⟩ := hL2.cell
  have hkl : k < (d_e σ).length := (List.getElem?_eq_some_iff.mp hk).1
  have hlm : (e_c σ).length = (d_e σ).length := List.length_map ..
  have hent := h.2.2.2.2.2 q (List.mem_of_getElem? hk)
  have hq1 : q.1 < d_n σ := hen q.1 (List.mem_map.mpr ⟨q, List.mem_of_getElem? hk, rfl⟩)
  refine p_s rfl rfl ?_
  refine p_s rfl rfl ?_
  refine p_icmpT rfl (show ¬ nI k = -1 from fun z => absurd (by rw [z]; decide : nI k < 0) (nI_pos (by omega))) ?_
  refine p_s rfl rfl ?_
  refine p_s rfl rfl ?_
  refine p_s rfl rfl ?_
  refine p_get rfl f_TM_40 h.1 rfl ?_
  refine p_get rfl f_TM_152 h.2.1 rfl ?_
  refine p_callV rfl c_TM_44 rfl hL2c g_AL_size rfl rfl rfl (c_size hL2) (fun v w hq => ?_)
  obtain ⟨rfl, hw9⟩ := hq
  have hw9 := hw9.symm
  subst hw9
  rw [List.length_map]
  refine p_s rfl rfl ?_
  refine p_s rfl rfl ?_
  refine p_callS rfl c_TM_33 g_TM_isWithin rfl rfl rfl (c_isWithin) (fun v w hq => ?_)
  obtain ⟨rfl, hw9⟩ := hq
  have hw9 := hw9.symm
  subst hw9
  refine p_ifT rfl (isw_at (by omega) (by rw [List.length_map]; exact hkl)) ?_
  refine p_s rfl rfl ?_
  refine p_get rfl f_TM_40 h.1 rfl ?_
  refine p_get rfl f_TM_152 h.2.1 rfl ?_
  refine p_s rfl rfl ?_
  refine p_callV rfl c_TM_88 rfl hL2c g_AL_get rfl rfl rfl (p_le (by omega) (Nat.le_refl _) (Nat.le_refl _) (c_get (d := d) (i := k) (y := ad 3 q.1) hL2 (by rw [List.getElem?_map, List.getElem?_map, hk]; rfl))) (fun v w hq => ?_)
  obtain ⟨rfl, hw9⟩ := hq
  have hw9 := hw9.symm
  subst hw9
  refine p_castS rfl cs_TM_111 hent.1 ?_
  refine p_s rfl rfl ?_
  refine p_s rfl rfl ?_
  refine p_tabI (of := 34) (t := 92) rfl (by decide) (by decide) (by decide) (by decide) ?_
  refine p_s rfl rfl ?_
  refine p_get rfl f_TM_158 hent.1 rfl ?_
  exact p_iret rfl rfl rfl ⟨rfl, ad, h, px_kp.rf⟩
set_option maxHeartbeats 4000000 in
theorem o_stored2 {G : px_G} {ws : va_W} {d : Nat} {R : Int32} {o : Nat} {ad : Nat → Nat → Nat} {σ : Md} (h : CR G R ws o ad σ) {k : Nat} {q : En4} (hl : (e_c σ).length ≤ 200) (hen : ∀ x ∈ e_c σ, x < d_n σ) (hk : (d_e σ)[k]? = some q) : px G m_TM_stored 0 (lv_args 0 [.ref o, .int (nI k), .int 2]) [] ws (d + 10) 4 2008 (OPc G R o ws (d_A σ 0 q.1) (σ)) := by
  have hL2 := h.2.2.1.2.1
  obtain ⟨sz, mc, hL2c⟩ := hL2.cell
  have hkl : k < (d_e σ).length := (List.getElem?_eq_some_iff.mp hk).1
  have hlm : (e_c σ).length = (d_e σ).length := List.length_map ..
  have hent := h.2.2.2.2.2 q (List.mem_of_getElem? hk)
  have hq1 : q.1 < d_n σ := hen q.1 (List.mem_map.mpr ⟨q, List.mem_of_getElem? hk, rfl⟩)
  refine p_s rfl rfl ?_
  refine p_s rfl rfl ?_
  refine p_icmpT rfl (show ¬ nI k = -1 from fun z => absurd (by rw [z]; decide : nI k < 0) (nI_pos (by omega))) ?_
  refine p_s rfl rfl ?_
  refine p_s rfl rfl ?_
  refine p_s rfl rfl ?_
  refine p_get rfl f_TM_40 h.1 rfl ?_
  refine p_get rfl f_TM_152 h.2.1 rfl ?_
  refine p_callV rfl c_TM_44 rfl hL2c g_AL_size rfl rfl rfl (c_size hL2) (fun v w hq => ?_)
  obtain ⟨rfl, hw9⟩ := hq
  have hw9 := hw9.symm
  subst hw9
  rw [List.length_map]
  refine p_s rfl rfl ?_
  refine p_s rfl rfl ?_
  refine p_callS rfl c_TM_33 g_TM_isWithin rfl rfl rfl (c_isWithin) (fun v w hq => ?_)
  obtain ⟨rfl, hw9⟩ := hq
  have hw9 := hw9.symm
  subst hw9
  refine p_ifT rfl (isw_at (by omega) (by rw [List.length_map]; exact hkl)) ?_
  refine p_s rfl rfl ?_
  refine p_get rfl f_TM_40 h.1 rfl ?_
  refine p_get rfl f_TM_152 h.2.1 rfl ?_
  refine p_s rfl rfl ?_
  refine p_callV rfl c_TM_88 rfl hL2c g_AL_get rfl rfl rfl (p_le (by omega) (Nat.le_refl _) (Nat.le_refl _) (c_get (d := d) (i := k) (y := ad 3 q.1) hL2 (by rw [List.getElem?_map, List.getElem?_map, hk]; rfl))) (fun v w hq => ?_)
  obtain ⟨rfl, hw9⟩ := hq
  have hw9 := hw9.symm
  subst hw9
  refine p_castS rfl cs_TM_111 hent.1 ?_
  refine p_s rfl rfl ?_
  refine p_s rfl rfl ?_
  refine p_tabI (of := 39) (t := 97) rfl (by decide) (by decide) (by decide) (by decide) ?_
  refine p_s rfl rfl ?_
  refine p_get rfl f_TM_155 hent.1 rfl ?_
  refine p_get rfl f_TM_161 (h.2.2.2.2.1 q.1 hq1).1 rfl ?_
  exact p_iret rfl rfl rfl ⟨rfl, ad, h, px_kp.rf⟩
set_option maxHeartbeats 4000000 in
theorem o_storedX {G : px_G} {ws : va_W} {d : Nat} {R : Int32} {o : Nat} {ad : Nat → Nat → Nat} {σ : Md} (h : CR G R ws o ad σ) {k : Nat} {q : En4} {y : Int32} (hl : (e_c σ).length ≤ 200) (hk : (d_e σ)[k]? = some q) (hy : y < 0 ∨ 2 < y) : px G m_TM_stored 0 (lv_args 0 [.ref o, .int (nI k), .int y]) [] ws (d + 10) 4 2008 (OPc G R o ws (-2) (σ)) := by
  have hL2 := h.2.2.1.2.1
  obtain ⟨sz, mc, hL2c⟩ := hL2.cell
  have hkl : k < (d_e σ).length := (List.getElem?_eq_some_iff.mp hk).1
  have hlm : (e_c σ).length = (d_e σ).length := List.length_map ..
  have hent := h.2.2.2.2.2 q (List.mem_of_getElem? hk)
  refine p_s rfl rfl ?_
  refine p_s rfl rfl ?_
  refine p_icmpT rfl (show ¬ nI k = -1 from fun z => absurd (by rw [z]; decide : nI k < 0) (nI_pos (by omega))) ?_
  refine p_s rfl rfl ?_
  refine p_s rfl rfl ?_
  refine p_s rfl rfl ?_
  refine p_get rfl f_TM_40 h.1 rfl ?_
  refine p_get rfl f_TM_152 h.2.1 rfl ?_
  refine p_callV rfl c_TM_44 rfl hL2c g_AL_size rfl rfl rfl (c_size hL2) (fun v w hq => ?_)
  obtain ⟨rfl, hw9⟩ := hq
  have hw9 := hw9.symm
  subst hw9
  rw [List.length_map]
  refine p_s rfl rfl ?_
  refine p_s rfl rfl ?_
  refine p_callS rfl c_TM_33 g_TM_isWithin rfl rfl rfl (c_isWithin) (fun v w hq => ?_)
  obtain ⟨rfl, hw9⟩ := hq
  have hw9 := hw9.symm
  subst hw9
  refine p_ifT rfl (isw_at (by omega) (by rw [List.length_map]; exact hkl)) ?_
  refine p_s rfl rfl ?_
  refine p_get rfl f_TM_40 h.1 rfl ?_
  refine p_get rfl f_TM_152 h.2.1 rfl ?_
  refine p_s rfl rfl ?_
  refine p_callV rfl c_TM_88 rfl hL2c g_AL_get rfl rfl rfl (p_le (by omega) (Nat.le_refl _) (Nat.le_refl _) (c_get (d := d) (i := k) (y := ad 3 q.1) hL2 (by rw [List.getElem?_map, List.getElem?_map, hk]; rfl))) (fun v w hq => ?_)
  obtain ⟨rfl, hw9⟩ := hq
  have hw9 := hw9.symm
  subst hw9
  refine p_castS rfl cs_TM_111 hent.1 ?_
  refine p_s rfl rfl ?_
  refine p_s rfl rfl ?_
  refine p_tabO (t := 105) rfl (hy.imp (fun z => Int32.lt_iff_toInt_lt.mp z) gt2) (by decide) ?_
  refine p_s rfl rfl ?_
  exact p_iret rfl rfl rfl ⟨rfl, ad, h, px_kp.rf⟩
