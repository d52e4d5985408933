/-! THE REFERENCE: status, age, snapshot, lamp, stored, cut, displaced -/
theorem isw0 {x a b : Int32} (h : isw x a b = 0) : x < a ∨ b < x := Classical.byContradiction (fun z => by rw [isw, if_neg z] at h; exact absurd h (by decide))
theorem isw1 {x a b : Int32} (h : ¬ isw x a b = 0) : ¬ x < a ∧ x ≤ b := by
  by_cases z : x < a ∨ b < x
  · exact absurd (by rw [isw, if_pos z]) h
  · exact ⟨fun w => z (Or.inl w), Int32.not_lt.mp (fun w => z (Or.inr w))⟩
theorem RS.cutd {R : Int32} {q : Nat} {fa : Nat → Nat → Int32} {s : Nat → Int32} {σ : Md} (h : RS R q fa s σ) : RS R q fa (upS s 5 1) (stG σ (upG (d_g σ) 1 0)) := by
  obtain ⟨h0, ha, hb, hr, hp, he, hd, ho, h1, h2, h3, h4, h5, h6⟩ := h
  exact ⟨h0, ha, hb, hr, hp, he, hd, ho, h1, h2, rfl, h4, h5, Or.inl rfl⟩
set_option maxHeartbeats 4000000 in
theorem r_statusN {G : px_G} {d m : Nat} {R : Int32} {q : Nat} {aa : Nat → Nat} {ws : va_W} {fa : Nat → Nat → Int32} {s : Nat → Int32} {σ : Md} (hr : RH G ws m aa fa s) (hs : RS R q fa s σ) {x : Int32} (hx : x < 1 ∨ nI (d_n σ) < x) : px G m_Rf_status 0 (lv_args 0 [.ref m, .int x]) [] ws (d + 10) 0 0 (OPr G R q m aa ws (-1) (σ)) := by
  have hk : px_kp Kc ws ws := px_kp.rf
  refine p_s rfl rfl ?_
  refine p_s rfl rfl ?_
  refine p_callV rfl c_Rf_129 rfl hr.1 g_Rf_none rfl rfl rfl (p_le (by omega) (Nat.le_refl _) (Nat.le_refl _) (r_noneX1 (d := d) hr hs hk hx)) (fun v w hq => ?_)
  obtain ⟨rfl, fa, s, hr, hs, hk⟩ := hq
  refine p_ifF rfl (show ¬ (1 : Int32) = 0 by decide) ?_
  refine p_s rfl rfl ?_
  refine p_goto rfl ?_
  exact p_iret rfl rfl rfl ⟨rfl, fa, s, hr, hs, hk⟩
set_option maxHeartbeats 4000000 in
theorem r_status {G : px_G} {d m : Nat} {R : Int32} {q : Nat} {aa : Nat → Nat} {ws : va_W} {fa : Nat → Nat → Int32} {s : Nat → Int32} {σ : Md} (hr : RH G ws m aa fa s) (hs : RS R q fa s σ) {i : Nat} (hi : i < d_n σ) : px G m_Rf_status 0 (lv_args 0 [.ref m, .int (nI (i + 1))]) [] ws (d + 10) 0 0 (OPr G R q m aa ws (d_A σ 3 i) (σ)) := by
  have hk : px_kp Kc ws ws := px_kp.rf
  refine p_s rfl rfl ?_
  refine p_s rfl rfl ?_
  refine p_callV rfl c_Rf_129 rfl hr.1 g_Rf_none rfl rfl rfl (p_le (by omega) (Nat.le_refl _) (Nat.le_refl _) (r_noneX0 (d := d) hr hs hk hi)) (fun v w hq => ?_)
  obtain ⟨rfl, fa, s, hr, hs, hk⟩ := hq
  refine p_ifT rfl (show (0 : Int32) = 0 from rfl) ?_
  refine p_s rfl rfl ?_
  refine p_s rfl rfl ?_
  refine p_callV rfl c_Rf_132 rfl hr.1 g_Rf_statusOf rfl rfl rfl (p_le (by omega) (Nat.le_refl _) (Nat.le_refl _) (r_statusX (d := d) hr hs hi rfl)) (fun v w hq => ?_)
  obtain ⟨rfl, hw9⟩ := hq
  have hw9 := hw9.symm
  subst hw9
  exact p_iret rfl rfl rfl ⟨rfl, fa, s, hr, hs, hk⟩
set_option maxHeartbeats 4000000 in
theorem r_ageN {G : px_G} {d m : Nat} {R : Int32} {q : Nat} {aa : Nat → Nat} {ws : va_W} {fa : Nat → Nat → Int32} {s : Nat → Int32} {σ : Md} (hr : RH G ws m aa fa s) (hs : RS R q fa s σ) {x : Int32} (hx : x < 1 ∨ nI (d_n σ) < x) : px G m_Rf_age 0 (lv_args 0 [.ref m, .int x]) [] ws (d + 10) 0 0 (OPr G R q m aa ws (-1) (σ)) := by
  have hk : px_kp Kc ws ws := px_kp.rf
  refine p_s rfl rfl ?_
  refine p_s rfl rfl ?_
  refine p_callV rfl c_Rf_129 rfl hr.1 g_Rf_none rfl rfl rfl (p_le (by omega) (Nat.le_refl _) (Nat.le_refl _) (r_noneX1 (d := d) hr hs hk hx)) (fun v w hq => ?_)
  obtain ⟨rfl, fa, s, hr, hs, hk⟩ := hq
  refine p_ifF rfl (show ¬ (1 : Int32) = 0 by decide) ?_
  refine p_s rfl rfl ?_
  refine p_goto rfl ?_
  exact p_iret rfl rfl rfl ⟨rfl, fa, s, hr, hs, hk⟩
set_option maxHeartbeats 4000000 in
theorem r_age {G : px_G} {d m : Nat} {R : Int32} {q : Nat} {aa : Nat → Nat} {ws : va_W} {fa : Nat → Nat → Int32} {s : Nat → Int32} {σ : Md} (hr : RH G ws m aa fa s) (hs : RS R q fa s σ) {i : Nat} (hi : i < d_n σ) : px G m_Rf_age 0 (lv_args 0 [.ref m, .int (nI (i + 1))]) [] ws (d + 10) 0 0 (OPr G R q m aa ws (d_A σ 5 i) (σ)) := by
  have hk : px_kp Kc ws ws := px_kp.rf
  refine p_s rfl rfl ?_
  refine p_s rfl rfl ?_
  refine p_callV rfl c_Rf_129 rfl hr.1 g_Rf_none rfl rfl rfl (p_le (by omega) (Nat.le_refl _) (Nat.le_refl _) (r_noneX0 (d := d) hr hs hk hi)) (fun v w hq => ?_)
  obtain ⟨rfl, fa, s, hr, hs, hk⟩ := hq
  refine p_ifT rfl (show (0 : Int32) = 0 from rfl) ?_
  refine p_s rfl rfl ?_
  refine p_get rfl f_Rf_32 hr.1 rfl ?_
  refine p_s rfl rfl ?_
  refine p_rld rfl hr hs (k := 7) (a := 5) (i := i) (by decide) rfl rfl hi rfl ?_
  exact p_iret rfl rfl rfl ⟨rfl, fa, s, hr, hs, hk⟩
set_option maxHeartbeats 4000000 in
theorem r_snapshotN {G : px_G} {d m : Nat} {R : Int32} {q : Nat} {aa : Nat → Nat} {ws : va_W} {fa : Nat → Nat → Int32} {s : Nat → Int32} {σ : Md} (hr : RH G ws m aa fa s) (hs : RS R q fa s σ) {y z : Int32} {x : Int32} (hx : x < 1 ∨ nI (d_n σ) < x) : px G m_Rf_snapshot 0 (lv_args 0 [.ref m, .int x, .int y, .int z]) [] ws (d + 10) 0 0 (OPr G R q m aa ws (-1) (σ)) := by
  have hk : px_kp Kc ws ws := px_kp.rf
  refine p_s rfl rfl ?_
  refine p_s rfl rfl ?_
  refine p_callV rfl c_Rf_129 rfl hr.1 g_Rf_none rfl rfl rfl (p_le (by omega) (Nat.le_refl _) (Nat.le_refl _) (r_noneX1 (d := d) hr hs hk hx)) (fun v w hq => ?_)
  obtain ⟨rfl, fa, s, hr, hs, hk⟩ := hq
  refine p_ifT rfl (show ¬ (1 : Int32) = 0 by decide) ?_
  refine p_s rfl rfl ?_
  exact p_iret rfl rfl rfl ⟨rfl, fa, s, hr, hs, hk⟩
set_option maxHeartbeats 4000000 in
theorem r_snapshotM {G : px_G} {d m : Nat} {R : Int32} {q : Nat} {aa : Nat → Nat} {ws : va_W} {fa : Nat → Nat → Int32} {s : Nat → Int32} {σ : Md} (hr : RH G ws m aa fa s) (hs : RS R q fa s σ) {y z : Int32} {i : Nat} (hi : i < d_n σ) (hm : i ∉ e_c σ) : px G m_Rf_snapshot 0 (lv_args 0 [.ref m, .int (nI (i + 1)), .int y, .int z]) [] ws (d + 10) 0 0 (OPr G R q m aa ws (-1) (σ)) := by
  have hk : px_kp Kc ws ws := px_kp.rf
  have hn := hs.1
  refine p_s rfl rfl ?_
  refine p_s rfl rfl ?_
  refine p_callV rfl c_Rf_129 rfl hr.1 g_Rf_none rfl rfl rfl (p_le (by omega) (Nat.le_refl _) (Nat.le_refl _) (r_noneX0 (d := d) hr hs hk hi)) (fun v w hq => ?_)
  obtain ⟨rfl, fa, s, hr, hs, hk⟩ := hq
  refine p_ifF rfl (show (0 : Int32) = 0 from rfl) ?_
  refine p_s rfl rfl ?_
  refine p_get rfl f_Rf_50 hr.1 rfl ?_
  refine p_s rfl rfl ?_
  refine p_ialdS rfl (hr.2.1 13 (by decide)) rfl (show i + 1 < 201 by omega) (by decide) ?_
  obtain ⟨N, la, a1, a2, a3, a4, a5⟩ := hs.st
  rw [(a3 i (by omega)).1, (a3 i (by omega)).2.2.mpr hm]
  refine p_ifF rfl (show nI 0 = 0 from rfl) ?_
  refine p_s rfl rfl ?_
  exact p_iret rfl rfl rfl ⟨rfl, fa, s, hr, hs, hk⟩
set_option maxHeartbeats 4000000 in
theorem r_snapshotY {G : px_G} {d m : Nat} {R : Int32} {q : Nat} {aa : Nat → Nat} {ws : va_W} {fa : Nat → Nat → Int32} {s : Nat → Int32} {σ : Md} (hr : RH G ws m aa fa s) (hs : RS R q fa s σ) {y z : Int32} (hq : q < 100000) {i : Nat} (hi : i < d_n σ) (hm : i ∈ e_c σ) (hy : isw y 0 1 = 0) : px G m_Rf_snapshot 0 (lv_args 0 [.ref m, .int (nI (i + 1)), .int y, .int z]) [] ws (d + 10) 0 0 (OPr G R q m aa ws (-2) (σ)) := by
  have hk : px_kp Kc ws ws := px_kp.rf
  have hn := hs.1
  refine p_s rfl rfl ?_
  refine p_s rfl rfl ?_
  refine p_callV rfl c_Rf_129 rfl hr.1 g_Rf_none rfl rfl rfl (p_le (by omega) (Nat.le_refl _) (Nat.le_refl _) (r_noneX0 (d := d) hr hs hk hi)) (fun v w hq => ?_)
  obtain ⟨rfl, fa, s, hr, hs, hk⟩ := hq
  refine p_ifF rfl (show (0 : Int32) = 0 from rfl) ?_
  refine p_s rfl rfl ?_
  refine p_get rfl f_Rf_50 hr.1 rfl ?_
  refine p_s rfl rfl ?_
  refine p_ialdS rfl (hr.2.1 13 (by decide)) rfl (show i + 1 < 201 by omega) (by decide) ?_
  obtain ⟨N, la, a1, a2, a3, a4, a5⟩ := hs.st
  rw [(a3 i (by omega)).1]
  refine p_ifT rfl (nI_ne0 (Nat.pos_of_ne_zero (fun z => (a3 i (by omega)).2.2.mp z hm)) (by have := (a3 i (by omega)).2.1; omega)) ?_
  refine p_s rfl rfl ?_
  refine p_if rfl (fun c => ?_) (fun c => ?_)
  · simp only [px_cmp] at c
    refine p_s rfl rfl ?_
    exact p_iret rfl rfl rfl ⟨rfl, fa, s, hr, hs, hk⟩
  · simp only [px_ncmp] at c
    refine p_s rfl rfl ?_
    refine p_s rfl rfl ?_
    refine p_icmpT rfl ((isw0 hy).resolve_left c) ?_
    refine p_s rfl rfl ?_
    exact p_iret rfl rfl rfl ⟨rfl, fa, s, hr, hs, hk⟩
set_option maxHeartbeats 4000000 in
theorem r_snapshotZ {G : px_G} {d m : Nat} {R : Int32} {q : Nat} {aa : Nat → Nat} {ws : va_W} {fa : Nat → Nat → Int32} {s : Nat → Int32} {σ : Md} (hr : RH G ws m aa fa s) (hs : RS R q fa s σ) {y z : Int32} (hq : q < 100000) {i : Nat} (hi : i < d_n σ) (hm : i ∈ e_c σ) (hy : ¬ isw y 0 1 = 0) (hz : isw z 0 3 = 0) : px G m_Rf_snapshot 0 (lv_args 0 [.ref m, .int (nI (i + 1)), .int y, .int z]) [] ws (d + 10) 0 0 (OPr G R q m aa ws (-2) (σ)) := by
  have hk : px_kp Kc ws ws := px_kp.rf
  have hn := hs.1
  refine p_s rfl rfl ?_
  refine p_s rfl rfl ?_
  refine p_callV rfl c_Rf_129 rfl hr.1 g_Rf_none rfl rfl rfl (p_le (by omega) (Nat.le_refl _) (Nat.le_refl _) (r_noneX0 (d := d) hr hs hk hi)) (fun v w hq => ?_)
  obtain ⟨rfl, fa, s, hr, hs, hk⟩ := hq
  refine p_ifF rfl (show (0 : Int32) = 0 from rfl) ?_
  refine p_s rfl rfl ?_
  refine p_get rfl f_Rf_50 hr.1 rfl ?_
  refine p_s rfl rfl ?_
  refine p_ialdS rfl (hr.2.1 13 (by decide)) rfl (show i + 1 < 201 by omega) (by decide) ?_
  obtain ⟨N, la, a1, a2, a3, a4, a5⟩ := hs.st
  rw [(a3 i (by omega)).1]
  refine p_ifT rfl (nI_ne0 (Nat.pos_of_ne_zero (fun z => (a3 i (by omega)).2.2.mp z hm)) (by have := (a3 i (by omega)).2.1; omega)) ?_
  refine p_s rfl rfl ?_
  refine p_ifF rfl (isw1 hy).1 ?_
  refine p_s rfl rfl ?_
  refine p_s rfl rfl ?_
  refine p_icmpF rfl (Int32.not_lt.mpr (isw1 hy).2) ?_
  refine p_s rfl rfl ?_
  refine p_if rfl (fun c => ?_) (fun c => ?_)
  · simp only [px_cmp] at c
    refine p_s rfl rfl ?_
    exact p_iret rfl rfl rfl ⟨rfl, fa, s, hr, hs, hk⟩
  · simp only [px_ncmp] at c
    refine p_s rfl rfl ?_
    refine p_s rfl rfl ?_
    refine p_icmpF rfl (Int32.not_le.mpr ((isw0 hz).resolve_left c)) ?_
    refine p_s rfl rfl ?_
    exact p_iret rfl rfl rfl ⟨rfl, fa, s, hr, hs, hk⟩
set_option maxHeartbeats 4000000 in
theorem r_snapshot0 {G : px_G} {d m : Nat} {R : Int32} {q : Nat} {aa : Nat → Nat} {ws : va_W} {fa : Nat → Nat → Int32} {s : Nat → Int32} {σ : Md} (hr : RH G ws m aa fa s) (hs : RS R q fa s σ) (hq : q < 100000) {i : Nat} (hi : i < d_n σ) {k : Nat} (hk4 : k < 4) {en : En4} (hen : en ∈ d_e σ) (hei : en.1 = i) : px G m_Rf_snapshot 0 (lv_args 0 [.ref m, .int (nI (i + 1)), .int 0, .int (nI k)]) [] ws (d + 10) 0 0 (OPr G R q m aa ws (snK en.2.2.1 k) (σ)) := by
  have hk : px_kp Kc ws ws := px_kp.rf
  have hn := hs.1
  have hm : i ∈ e_c σ := List.mem_map.mpr ⟨en, hen, hei⟩
  refine p_s rfl rfl ?_
  refine p_s rfl rfl ?_
  refine p_callV rfl c_Rf_129 rfl hr.1 g_Rf_none rfl rfl rfl (p_le (by omega) (Nat.le_refl _) (Nat.le_refl _) (r_noneX0 (d := d) hr hs hk hi)) (fun v w hq => ?_)
  obtain ⟨rfl, fa, s, hr, hs, hk⟩ := hq
  refine p_ifF rfl (show (0 : Int32) = 0 from rfl) ?_
  refine p_s rfl rfl ?_
  refine p_get rfl f_Rf_50 hr.1 rfl ?_
  refine p_s rfl rfl ?_
  refine p_ialdS rfl (hr.2.1 13 (by decide)) rfl (show i + 1 < 201 by omega) (by decide) ?_
  obtain ⟨N, la, a1, a2, a3, a4, a5⟩ := hs.st
  rw [(a3 i (by omega)).1]
  refine p_ifT rfl (nI_ne0 (Nat.pos_of_ne_zero (fun z => (a3 i (by omega)).2.2.mp z hm)) (by have := (a3 i (by omega)).2.1; omega)) ?_
  refine p_s rfl rfl ?_
  refine p_ifF rfl (show ¬ (0 : Int32) < 0 by decide) ?_
  refine p_s rfl rfl ?_
  refine p_s rfl rfl ?_
  refine p_icmpF rfl (show ¬ (1 : Int32) < 0 by decide) ?_
  refine p_s rfl rfl ?_
  refine p_ifF rfl (nI_pos (by omega)) ?_
  refine p_s rfl rfl ?_
  refine p_s rfl rfl ?_
  refine p_icmpT rfl (show nI k ≤ 3 from nI_le (b := 3) (by omega) (by omega)) ?_
  refine p_s rfl rfl ?_
  refine p_get rfl f_Rf_56 hr.1 rfl ?_
  refine p_s rfl rfl ?_
  refine p_s rfl rfl ?_
  refine p_s rfl rfl ?_
  refine p_s rfl rfl ?_
  refine p_s rfl rfl ?_
  refine p_s rfl rfl ?_
  refine p_s rfl rfl ?_
  refine p_s rfl rfl ?_
  refine p_s rfl rfl ?_
  refine p_ialdS (i := 8 * (i + 1) + k) rfl (hr.2.1 15 (by decide)) (by show (8 : Int32) * nI (i + 1) + 4 * 0 + nI k = _; rw [show (8 : Int32) = nI 8 from rfl, show (4 : Int32) * 0 = nI 0 from rfl, pk_mul, nI_add, nI_add, Nat.add_zero]) (by omega) (by decide) ?_
  subst hei
  rw [((a5 en hen).2 k hk4).1]
  exact p_iret rfl rfl rfl ⟨rfl, fa, s, hr, hs, hk⟩
set_option maxHeartbeats 4000000 in
theorem r_snapshot1 {G : px_G} {d m : Nat} {R : Int32} {q : Nat} {aa : Nat → Nat} {ws : va_W} {fa : Nat → Nat → Int32} {s : Nat → Int32} {σ : Md} (hr : RH G ws m aa fa s) (hs : RS R q fa s σ) (hq : q < 100000) {i : Nat} (hi : i < d_n σ) {k : Nat} (hk4 : k < 4) {en : En4} (hen : en ∈ d_e σ) (hei : en.1 = i) : px G m_Rf_snapshot 0 (lv_args 0 [.ref m, .int (nI (i + 1)), .int 1, .int (nI k)]) [] ws (d + 10) 0 0 (OPr G R q m aa ws (snK en.2.2.2 k) (σ)) := by
  have hk : px_kp Kc ws ws := px_kp.rf
  have hn := hs.1
  have hm : i ∈ e_c σ := List.mem_map.mpr ⟨en, hen, hei⟩
  refine p_s rfl rfl ?_
  refine p_s rfl rfl ?_
  refine p_callV rfl c_Rf_129 rfl hr.1 g_Rf_none rfl rfl rfl (p_le (by omega) (Nat.le_refl _) (Nat.le_refl _) (r_noneX0 (d := d) hr hs hk hi)) (fun v w hq => ?_)
  obtain ⟨rfl, fa, s, hr, hs, hk⟩ := hq
  refine p_ifF rfl (show (0 : Int32) = 0 from rfl) ?_
  refine p_s rfl rfl ?_
  refine p_get rfl f_Rf_50 hr.1 rfl ?_
  refine p_s rfl rfl ?_
  refine p_ialdS rfl (hr.2.1 13 (by decide)) rfl (show i + 1 < 201 by omega) (by decide) ?_
  obtain ⟨N, la, a1, a2, a3, a4, a5⟩ := hs.st
  rw [(a3 i (by omega)).1]
  refine p_ifT rfl (nI_ne0 (Nat.pos_of_ne_zero (fun z => (a3 i (by omega)).2.2.mp z hm)) (by have := (a3 i (by omega)).2.1; omega)) ?_
  refine p_s rfl rfl ?_
  refine p_ifF rfl (show ¬ (1 : Int32) < 0 by decide) ?_
  refine p_s rfl rfl ?_
  refine p_s rfl rfl ?_
  refine p_icmpF rfl (show ¬ (1 : Int32) < 1 by decide) ?_
  refine p_s rfl rfl ?_
  refine p_ifF rfl (nI_pos (by omega)) ?_
  refine p_s rfl rfl ?_
  refine p_s rfl rfl ?_
  refine p_icmpT rfl (show nI k ≤ 3 from nI_le (b := 3) (by omega) (by omega)) ?_
  refine p_s rfl rfl ?_
  refine p_get rfl f_Rf_56 hr.1 rfl ?_
  refine p_s rfl rfl ?_
  refine p_s rfl rfl ?_
  refine p_s rfl rfl ?_
  refine p_s rfl rfl ?_
  refine p_s rfl rfl ?_
  refine p_s rfl rfl ?_
  refine p_s rfl rfl ?_
  refine p_s rfl rfl ?_
  refine p_s rfl rfl ?_
  refine p_ialdS (i := 8 * (i + 1) + 4 + k) rfl (hr.2.1 15 (by decide)) (by show (8 : Int32) * nI (i + 1) + 4 * 1 + nI k = _; rw [show (8 : Int32) = nI 8 from rfl, show (4 : Int32) * 1 = nI 4 from rfl, pk_mul, nI_add, nI_add]) (by omega) (by decide) ?_
  subst hei
  rw [((a5 en hen).2 k hk4).2]
  exact p_iret rfl rfl rfl ⟨rfl, fa, s, hr, hs, hk⟩
set_option maxHeartbeats 4000000 in
theorem r_lampO {G : px_G} {d m : Nat} {R : Int32} {q : Nat} {aa : Nat → Nat} {ws : va_W} {fa : Nat → Nat → Int32} {s : Nat → Int32} {σ : Md} (hr : RH G ws m aa fa s) (hs : RS R q fa s σ) {x : Int32} (hx : x < 0 ∨ 3 < x) : px G m_Rf_lamp 0 (lv_args 0 [.ref m, .int x]) [] ws (d + 10) 0 0 (OPr G R q m aa ws (-2) (σ)) := by
  have hk : px_kp Kc ws ws := px_kp.rf
  refine p_s rfl rfl ?_
  refine p_s rfl rfl ?_
  refine p_rput (k := 0) rfl fp_Rf_70 hr hk rfl rfl (by decide) rfl hs.cod (fun ws s hr hs hk => ?_)
  refine p_s rfl rfl ?_
  refine p_if rfl (fun c => ?_) (fun c => ?_)
  · simp only [px_cmp] at c
    refine p_s rfl rfl ?_
    exact p_iret rfl rfl rfl ⟨rfl, fa, s, hr, hs, hk⟩
  · simp only [px_ncmp] at c
    refine p_s rfl rfl ?_
    refine p_s rfl rfl ?_
    refine p_icmpF rfl (Int32.not_le.mpr (hx.resolve_left c)) ?_
    refine p_s rfl rfl ?_
    exact p_iret rfl rfl rfl ⟨rfl, fa, s, hr, hs, hk⟩
set_option maxHeartbeats 4000000 in
theorem r_lamp0 {G : px_G} {d m : Nat} {R : Int32} {q : Nat} {aa : Nat → Nat} {ws : va_W} {fa : Nat → Nat → Int32} {s : Nat → Int32} {σ : Md} (hr : RH G ws m aa fa s) (hs : RS R q fa s σ)  : px G m_Rf_lamp 0 (lv_args 0 [.ref m, .int 0]) [] ws (d + 10) 0 0 (OPr G R q m aa ws (if 0 < cntB (d_A σ) 128 (d_n σ) then 1 else 0) (σ)) := by
  have hk : px_kp Kc ws ws := px_kp.rf
  have hn := hs.1
  have hcl := cntB_le (d_A σ) 128 (d_n σ)
  refine p_s rfl rfl ?_
  refine p_s rfl rfl ?_
  refine p_rput (k := 0) rfl fp_Rf_70 hr hk rfl rfl (by decide) rfl hs.cod (fun ws s hr hs hk => ?_)
  refine p_s rfl rfl ?_
  refine p_ifF rfl (show ¬ (0 : Int32) < 0 by decide) ?_
  refine p_s rfl rfl ?_
  refine p_s rfl rfl ?_
  refine p_icmpT rfl (show (0 : Int32) ≤ 3 by decide) ?_
  refine p_s rfl rfl ?_
  refine p_ifF rfl rfl ?_
  refine p_s rfl rfl ?_
  refine p_s rfl rfl ?_
  refine p_callV rfl c_Rf_101 rfl hr.1 g_Rf_many rfl rfl rfl (p_le (by omega) (Nat.le_refl _) (Nat.le_refl _) (r_manyX (d := d) (b := 7) hr hs (by decide))) (fun v w hq => ?_)
  obtain ⟨rfl, hw9⟩ := hq
  have hw9 := hw9.symm
  subst hw9
  refine p_if rfl (fun c => ?_) (fun c => ?_)
  · simp only [px_cmp] at c
    refine p_s rfl rfl ?_
    exact p_iret rfl rfl rfl ⟨by rw [if_neg (show ¬ 0 < cntB (d_A σ) 128 (d_n σ) from fun z => nI_nle z (by omega) c)], fa, s, hr, hs, hk⟩
  · simp only [px_ncmp] at c
    refine p_s rfl rfl ?_
    refine p_goto rfl ?_
    exact p_iret rfl rfl rfl ⟨by rw [if_pos (Nat.pos_of_ne_zero (fun z => c (by rw [show cntB (d_A σ) (pw 7) (d_n σ) = 0 from z]; decide)))], fa, s, hr, hs, hk⟩
set_option maxHeartbeats 4000000 in
theorem r_lamp1 {G : px_G} {d m : Nat} {R : Int32} {q : Nat} {aa : Nat → Nat} {ws : va_W} {fa : Nat → Nat → Int32} {s : Nat → Int32} {σ : Md} (hr : RH G ws m aa fa s) (hs : RS R q fa s σ)  : px G m_Rf_lamp 0 (lv_args 0 [.ref m, .int 1]) [] ws (d + 10) 0 0 (OPr G R q m aa ws (nI (cntB (d_A σ) 8 (d_n σ))) (σ)) := by
  have hk : px_kp Kc ws ws := px_kp.rf
  have hn := hs.1
  refine p_s rfl rfl ?_
  refine p_s rfl rfl ?_
  refine p_rput (k := 0) rfl fp_Rf_70 hr hk rfl rfl (by decide) rfl hs.cod (fun ws s hr hs hk => ?_)
  refine p_s rfl rfl ?_
  refine p_ifF rfl (show ¬ (1 : Int32) < 0 by decide) ?_
  refine p_s rfl rfl ?_
  refine p_s rfl rfl ?_
  refine p_icmpT rfl (show (1 : Int32) ≤ 3 by decide) ?_
  refine p_s rfl rfl ?_
  refine p_ifT rfl (show ¬ (1 : Int32) = 0 by decide) ?_
  refine p_s rfl rfl ?_
  refine p_s rfl rfl ?_
  refine p_s rfl rfl ?_
  refine p_icmpF rfl rfl ?_
  refine p_s rfl rfl ?_
  refine p_goto rfl ?_
  refine p_callV rfl c_Rf_101 rfl hr.1 g_Rf_many rfl rfl rfl (p_le (by omega) (Nat.le_refl _) (Nat.le_refl _) (r_manyX (d := d) (b := 3) hr hs (by decide))) (fun v w hq => ?_)
  obtain ⟨rfl, hw9⟩ := hq
  have hw9 := hw9.symm
  subst hw9
  exact p_iret rfl rfl rfl ⟨rfl, fa, s, hr, hs, hk⟩
set_option maxHeartbeats 4000000 in
theorem r_lamp2 {G : px_G} {d m : Nat} {R : Int32} {q : Nat} {aa : Nat → Nat} {ws : va_W} {fa : Nat → Nat → Int32} {s : Nat → Int32} {σ : Md} (hr : RH G ws m aa fa s) (hs : RS R q fa s σ)  : px G m_Rf_lamp 0 (lv_args 0 [.ref m, .int 2]) [] ws (d + 10) 0 0 (OPr G R q m aa ws (nI (cntB (d_A σ) 4 (d_n σ))) (σ)) := by
  have hk : px_kp Kc ws ws := px_kp.rf
  have hn := hs.1
  refine p_s rfl rfl ?_
  refine p_s rfl rfl ?_
  refine p_rput (k := 0) rfl fp_Rf_70 hr hk rfl rfl (by decide) rfl hs.cod (fun ws s hr hs hk => ?_)
  refine p_s rfl rfl ?_
  refine p_ifF rfl (show ¬ (2 : Int32) < 0 by decide) ?_
  refine p_s rfl rfl ?_
  refine p_s rfl rfl ?_
  refine p_icmpT rfl (show (2 : Int32) ≤ 3 by decide) ?_
  refine p_s rfl rfl ?_
  refine p_ifT rfl (show ¬ (2 : Int32) = 0 by decide) ?_
  refine p_s rfl rfl ?_
  refine p_s rfl rfl ?_
  refine p_s rfl rfl ?_
  refine p_icmpT rfl (show ¬ (2 : Int32) = 1 by decide) ?_
  refine p_s rfl rfl ?_
  refine p_s rfl rfl ?_
  refine p_icmpF rfl rfl ?_
  refine p_s rfl rfl ?_
  refine p_goto rfl ?_
  refine p_callV rfl c_Rf_101 rfl hr.1 g_Rf_many rfl rfl rfl (p_le (by omega) (Nat.le_refl _) (Nat.le_refl _) (r_manyX (d := d) (b := 2) hr hs (by decide))) (fun v w hq => ?_)
  obtain ⟨rfl, hw9⟩ := hq
  have hw9 := hw9.symm
  subst hw9
  exact p_iret rfl rfl rfl ⟨rfl, fa, s, hr, hs, hk⟩
set_option maxHeartbeats 4000000 in
theorem r_lamp3 {G : px_G} {d m : Nat} {R : Int32} {q : Nat} {aa : Nat → Nat} {ws : va_W} {fa : Nat → Nat → Int32} {s : Nat → Int32} {σ : Md} (hr : RH G ws m aa fa s) (hs : RS R q fa s σ)  : px G m_Rf_lamp 0 (lv_args 0 [.ref m, .int 3]) [] ws (d + 10) 0 0 (OPr G R q m aa ws (nI (cntB (d_A σ) 1 (d_n σ))) (σ)) := by
  have hk : px_kp Kc ws ws := px_kp.rf
  have hn := hs.1
  refine p_s rfl rfl ?_
  refine p_s rfl rfl ?_
  refine p_rput (k := 0) rfl fp_Rf_70 hr hk rfl rfl (by decide) rfl hs.cod (fun ws s hr hs hk => ?_)
  refine p_s rfl rfl ?_
  refine p_ifF rfl (show ¬ (3 : Int32) < 0 by decide) ?_
  refine p_s rfl rfl ?_
  refine p_s rfl rfl ?_
  refine p_icmpT rfl (show (3 : Int32) ≤ 3 by decide) ?_
  refine p_s rfl rfl ?_
  refine p_ifT rfl (show ¬ (3 : Int32) = 0 by decide) ?_
  refine p_s rfl rfl ?_
  refine p_s rfl rfl ?_
  refine p_s rfl rfl ?_
  refine p_icmpT rfl (show ¬ (3 : Int32) = 1 by decide) ?_
  refine p_s rfl rfl ?_
  refine p_s rfl rfl ?_
  refine p_icmpT rfl (show ¬ (3 : Int32) = 2 by decide) ?_
  refine p_s rfl rfl ?_
  refine p_callV rfl c_Rf_101 rfl hr.1 g_Rf_many rfl rfl rfl (p_le (by omega) (Nat.le_refl _) (Nat.le_refl _) (r_manyX (d := d) (b := 0) hr hs (by decide))) (fun v w hq => ?_)
  obtain ⟨rfl, hw9⟩ := hq
  have hw9 := hw9.symm
  subst hw9
  exact p_iret rfl rfl rfl ⟨rfl, fa, s, hr, hs, hk⟩
set_option maxHeartbeats 4000000 in
theorem r_cutC {G : px_G} {d m : Nat} {R : Int32} {q : Nat} {aa : Nat → Nat} {ws : va_W} {fa : Nat → Nat → Int32} {s : Nat → Int32} {σ : Md} (hr : RH G ws m aa fa s) (hs : RS R q fa s σ) (hp : d_g σ 1 = 0) : px G m_Rf_cut 0 (lv_args 0 [.ref m]) [] ws (d + 10) 0 0 (OPr G R q m aa ws (-3) (σ)) := by
  have hk : px_kp Kc ws ws := px_kp.rf
  refine p_s rfl rfl ?_
  refine p_s rfl rfl ?_
  refine p_rput (k := 0) rfl fp_Rf_70 hr hk rfl rfl (by decide) rfl hs.cod (fun ws s hr hs hk => ?_)
  refine p_s rfl rfl ?_
  refine p_get rfl f_Rf_84 hr.1 rfl ?_
  rw [hs.cutT hp]
  refine p_ifF rfl (show ¬ (1 : Int32) = 0 by decide) ?_
  refine p_s rfl rfl ?_
  exact p_iret rfl rfl rfl ⟨rfl, fa, s, hr, hs, hk⟩
set_option maxHeartbeats 4000000 in
theorem r_cut {G : px_G} {d m : Nat} {R : Int32} {q : Nat} {aa : Nat → Nat} {ws : va_W} {fa : Nat → Nat → Int32} {s : Nat → Int32} {σ : Md} (hr : RH G ws m aa fa s) (hs : RS R q fa s σ) (hq : q < 100000) (hd : (e_c σ).Nodup) (hl : ∀ x ∈ e_c σ, x < d_n σ) (hp : ¬ d_g σ 1 = 0) : px G m_Rf_cut 0 (lv_args 0 [.ref m]) [] ws (d + 10) 0 0 (OPr G R q m aa ws (nI (e_c σ).length) (stG σ (upG (d_g σ) 1 0))) := by
  have hk : px_kp Kc ws ws := px_kp.rf
  refine p_s rfl rfl ?_
  refine p_s rfl rfl ?_
  refine p_rput (k := 0) rfl fp_Rf_70 hr hk rfl rfl (by decide) rfl hs.cod (fun ws s hr hs hk => ?_)
  refine p_s rfl rfl ?_
  refine p_get rfl f_Rf_84 hr.1 rfl ?_
  rw [hs.cutF hp]
  refine p_ifT rfl (show (0 : Int32) = 0 from rfl) ?_
  refine p_s rfl rfl ?_
  refine p_s rfl rfl ?_
  refine p_rput (k := 5) rfl fp_Rf_84 hr hk rfl rfl (by decide) rfl hs.cutd (fun ws s hr hs hk => ?_)
  refine p_s rfl rfl ?_
  refine p_callV rfl c_Rf_109 rfl hr.1 g_Rf_entries rfl rfl rfl (p_le (by omega) (Nat.le_refl _) (Nat.le_refl _) (r_entriesX (d := d) hr hs hq hd hl)) (fun v w hq => ?_)
  obtain ⟨rfl, hw9⟩ := hq
  have hw9 := hw9.symm
  subst hw9
  exact p_iret rfl rfl rfl ⟨rfl, fa, s, hr, hs, hk⟩
set_option maxHeartbeats 4000000 in
theorem r_displacedN {G : px_G} {d m : Nat} {R : Int32} {q : Nat} {aa : Nat → Nat} {ws : va_W} {fa : Nat → Nat → Int32} {s : Nat → Int32} {σ : Md} (hr : RH G ws m aa fa s) (hs : RS R q fa s σ) {x : Int32} (hx : x < 0 ∨ nI (d_d σ).length ≤ x) : px G m_Rf_displaced 0 (lv_args 0 [.ref m, .int x]) [] ws (d + 10) 0 0 (OPr G R q m aa ws (-1) (σ)) := by
  have hk : px_kp Kc ws ws := px_kp.rf
  refine p_s rfl rfl ?_
  refine p_s rfl rfl ?_
  refine p_rput (k := 0) rfl fp_Rf_70 hr hk rfl rfl (by decide) rfl hs.cod (fun ws s hr hs hk => ?_)
  refine p_s rfl rfl ?_
  refine p_if rfl (fun c => ?_) (fun c => ?_)
  · simp only [px_cmp] at c
    refine p_s rfl rfl ?_
    refine p_goto rfl ?_
    exact p_iret rfl rfl rfl ⟨rfl, fa, s, hr, hs, hk⟩
  · simp only [px_ncmp] at c
    refine p_s rfl rfl ?_
    refine p_s rfl rfl ?_
    refine p_get rfl f_Rf_116 hr.1 rfl ?_
    rw [hs.dd.1]
    refine p_icmpF rfl (Int32.not_lt.mpr (hx.resolve_left c)) ?_
    refine p_s rfl rfl ?_
    refine p_goto rfl ?_
    exact p_iret rfl rfl rfl ⟨rfl, fa, s, hr, hs, hk⟩
set_option maxHeartbeats 4000000 in
theorem r_displaced {G : px_G} {d m : Nat} {R : Int32} {q : Nat} {aa : Nat → Nat} {ws : va_W} {fa : Nat → Nat → Int32} {s : Nat → Int32} {σ : Md} (hr : RH G ws m aa fa s) (hs : RS R q fa s σ) {k c : Nat} (hdl : (d_d σ).length ≤ 500) (hkc : (d_d σ)[k]? = some c) : px G m_Rf_displaced 0 (lv_args 0 [.ref m, .int (nI k)]) [] ws (d + 10) 0 0 (OPr G R q m aa ws (nI (c + 1)) (σ)) := by
  have hk : px_kp Kc ws ws := px_kp.rf
  have hkl : k < (d_d σ).length := (List.getElem?_eq_some_iff.mp hkc).1
  refine p_s rfl rfl ?_
  refine p_s rfl rfl ?_
  refine p_rput (k := 0) rfl fp_Rf_70 hr hk rfl rfl (by decide) rfl hs.cod (fun ws s hr hs hk => ?_)
  refine p_s rfl rfl ?_
  refine p_ifF rfl (nI_pos (by omega)) ?_
  refine p_s rfl rfl ?_
  refine p_s rfl rfl ?_
  refine p_get rfl f_Rf_116 hr.1 rfl ?_
  rw [hs.dd.1]
  refine p_icmpT rfl (nI_lt hkl (by omega)) ?_
  refine p_s rfl rfl ?_
  refine p_get rfl f_Rf_59 hr.1 rfl ?_
  refine p_s rfl rfl ?_
  refine p_ialdS rfl (hr.2.1 16 (by decide)) rfl (show k < 500 by omega) (by decide) ?_
  rw [hs.dd.2 k c hkc]
  exact p_iret rfl rfl rfl ⟨rfl, fa, s, hr, hs, hk⟩
def befF (N : Nat → Nat) (c : Nat) : Nat → Nat
  | 0 => 0
  | k + 1 => befF N c k + (if 0 < N k ∧ N k < N c then 1 else 0)
theorem befF_le {N : Nat → Nat} {c : Nat} : ∀ n, befF N c n ≤ n
  | 0 => Nat.le_refl _
  | n + 1 => by
    have := befF_le (N := N) (c := c) n
    rw [befF]
    split <;> omega
theorem flt_len {N : Nat → Nat} {c : Nat} : ∀ (es : List Nat) (j : Nat), es.Pairwise (fun a b => N a < N b) → es[j]? = some c → (es.filter (fun e => decide (N e < N c))).length = j
  | [], j, _, h => by simp at h
  | a :: t, 0, hp, h => by
    have hac : a = c := Option.some.inj h
    subst hac
    obtain ⟨h1, -⟩ := List.pairwise_cons.mp hp
    rw [List.filter_cons, if_neg (by simp), List.filter_eq_nil_iff.mpr (fun e he => by have := h1 e he; simp; omega)]
    rfl
  | a :: t, j + 1, hp, h => by
    obtain ⟨h1, h2⟩ := List.pairwise_cons.mp hp
    rw [List.getElem?_cons_succ] at h
    have hac := h1 c (List.mem_of_getElem? h)
    rw [List.filter_cons, if_pos (by simpa using hac), List.length_cons, flt_len t j h2 h]
theorem befF_cnI {N : Nat → Nat} {c : Nat} {es : List Nat} : ∀ n, n ≤ 200 → (∀ i, i < 200 → (N i = 0 ↔ i ∉ es)) → befF N c n = cnI (es.filter (fun e => decide (N e < N c))) n
  | 0, _, _ => rfl
  | n + 1, hn, h => by
    rw [befF, cnI, befF_cnI n (by omega) h]
    congr 1
    have hz := h n (by omega)
    by_cases hm : n ∈ es
    · have h0 : 0 < N n := Nat.pos_of_ne_zero (fun z => hz.mp z hm)
      by_cases hc : N n < N c
      · rw [if_pos ⟨h0, hc⟩, if_pos (List.mem_filter.mpr ⟨hm, by simpa using hc⟩)]
      · rw [if_neg (fun z => hc z.2), if_neg (fun z => hc (by simpa using (List.mem_filter.mp z).2))]
    · rw [if_neg (fun z => by have := hz.mpr hm; omega), if_neg (fun z => hm (List.mem_filter.mp z).1)]
theorem befF_rank {N : Nat → Nat} {c n j : Nat} {es : List Nat} (hn : n ≤ 200) (hz : ∀ i, i < 200 → (N i = 0 ↔ i ∉ es)) (hd : es.Nodup) (hl : ∀ x ∈ es, x < n) (hp : es.Pairwise (fun a b => N a < N b)) (hj : es[j]? = some c) : befF N c n = j := by
  rw [befF_cnI n hn hz, cnI_len _ (hd.filter _) (fun x hx => hl x (List.mem_filter.mp hx).1), flt_len es j hp hj]
set_option maxHeartbeats 4000000 in
theorem r_bef_loop {G : px_G} {d m : Nat} {R : Int32} {q : Nat} {aa : Nat → Nat} {ws : va_W} {fa : Nat → Nat → Int32} {s : Nat → Int32} {σ : Md} (hr : RH G ws m aa fa s) (hs : RS R q fa s σ) {N : Nat → Nat} (hN : ∀ i, i < 200 → fa 13 (i + 1) = nI (N i) ∧ N i < 2 ^ 31) {c : Nat} (hc : c < d_n σ) {y1 y2 : Int32} {bc bs : Nat} {Q : Option Value → va_W → Prop} : ∀ (k e : Nat) (x4 x5 : Int32), e + k = d_n σ → x5 = nI (e + 1) → x4 = nI (befF N c e) → (∀ x4 x5, x4 = nI (befF N c (d_n σ)) → px G m_Rf_stored 113 [(5, .int x5), (4, .int x4), (3, .int (nI (c + 1))), (0, .ref m), (1, .int y1), (2, .int y2)] [] ws d bc bs Q) → px G m_Rf_stored 61 [(5, .int x5), (4, .int x4), (3, .int (nI (c + 1))), (0, .ref m), (1, .int y1), (2, .int y2)] [] ws d bc bs Q := by
  have hn := hs.1
  intro k
  induction k with
  | zero =>
    intro e x4 x5 hek h5 h4 hK
    subst h5
    have hen : e = d_n σ := by omega
    rw [hen] at h4
    refine p_s rfl rfl ?_
    refine p_s rfl rfl ?_
    refine p_get rfl f_Rf_73 hr.1 rfl ?_
    rw [hs.s2]
    refine p_icmpT rfl (show nI (d_n σ) < nI (e + 1) from nI_lt (by omega) (by omega)) ?_
    exact hK _ _ h4
  | succ k ih =>
    intro e x4 x5 hek h5 h4 hK
    subst h5
    subst h4
    have he : e < d_n σ := by omega
    refine p_s rfl rfl ?_
    refine p_s rfl rfl ?_
    refine p_get rfl f_Rf_73 hr.1 rfl ?_
    rw [hs.s2]
    refine p_icmpF rfl (show ¬ nI (d_n σ) < nI (e + 1) from nI_nlt (by omega) (by omega)) ?_
    refine p_s rfl rfl ?_
    refine p_get rfl f_Rf_50 hr.1 rfl ?_
    refine p_s rfl rfl ?_
    refine p_ialdS rfl (hr.2.1 13 (by decide)) rfl (show e + 1 < 201 by omega) (by decide) ?_
    rw [(hN e (by omega)).1]
    refine p_if rfl (fun c1 => ?_) (fun c1 => ?_)
    · simp only [px_cmp] at c1
      refine p_s rfl rfl ?_
      refine p_s rfl rfl ?_
      refine p_s rfl rfl ?_
      refine p_goto rfl ?_
      exact ih (e + 1) _ _ (by omega) (nI_1 (e + 1)) (by rw [befF, if_neg (fun z => nI_nle z.1 (hN e (by omega)).2 c1), Nat.add_zero]) hK
    · simp only [px_ncmp] at c1
      refine p_s rfl rfl ?_
      refine p_get rfl f_Rf_50 hr.1 rfl ?_
      refine p_s rfl rfl ?_
      refine p_ialdS rfl (hr.2.1 13 (by decide)) rfl (show e + 1 < 201 by omega) (by decide) ?_
      rw [(hN e (by omega)).1]
      refine p_s rfl rfl ?_
      refine p_get rfl f_Rf_50 hr.1 rfl ?_
      refine p_s rfl rfl ?_
      refine p_ialdS rfl (hr.2.1 13 (by decide)) rfl (show c + 1 < 201 by omega) (by decide) ?_
      rw [(hN c (by omega)).1]
      refine p_icmp rfl (fun c2 => ?_) (fun c2 => ?_)
      · simp only [px_cmp] at c2
        refine p_s rfl rfl ?_
        refine p_s rfl rfl ?_
        refine p_s rfl rfl ?_
        refine p_goto rfl ?_
        exact ih (e + 1) _ _ (by omega) (nI_1 (e + 1)) (by rw [befF, if_neg (fun z => by rw [nI_leI (hN c (by omega)).2 (hN e (by omega)).2] at c2; omega), Nat.add_zero]) hK
      · simp only [px_ncmp] at c2
        refine p_s rfl rfl ?_
        refine p_s rfl rfl ?_
        refine p_s rfl rfl ?_
        refine p_goto rfl ?_
        refine p_s rfl rfl ?_
        refine p_s rfl rfl ?_
        refine p_goto rfl ?_
        exact ih (e + 1) _ _ (by omega) (nI_1 (e + 1)) (by rw [befF, if_pos ⟨Nat.pos_of_ne_zero (fun z => c1 (by rw [z]; decide)), by rw [nI_leI (hN c (by omega)).2 (hN e (by omega)).2] at c2; omega⟩]; exact nI_1 _) hK
set_option maxHeartbeats 4000000 in
theorem r_sto_loop {G : px_G} {d m : Nat} {R : Int32} {q : Nat} {aa : Nat → Nat} {ws : va_W} {fa : Nat → Nat → Int32} {s : Nat → Int32} {σ : Md} (hr : RH G ws m aa fa s) (hs : RS R q fa s σ) {N : Nat → Nat} (hN : ∀ i, i < 200 → fa 13 (i + 1) = nI (N i) ∧ N i < 2 ^ 31) (hz : ∀ i, i < 200 → (N i = 0 ↔ i ∉ e_c σ)) (hd : (e_c σ).Nodup) (hl : ∀ x ∈ e_c σ, x < d_n σ) (hp : (e_c σ).Pairwise (fun a b => N a < N b)) {t r : Nat} (ht : (e_c σ)[r]? = some t) {y2 : Int32} {bc bs : Nat} {Q : Option Value → va_W → Prop} (hK : px G m_Rf_stored 128 [(3, .int (nI (t + 1))), (0, .ref m), (1, .int (nI r)), (2, .int y2)] [] ws d bc bs Q) : ∀ (k c : Nat) (x3 : Int32), c + k = t → x3 = nI (c + 1) → px G m_Rf_stored 47 [(3, .int x3), (0, .ref m), (1, .int (nI r)), (2, .int y2)] [] ws d bc bs Q := by
  have hn := hs.1
  have htm : t ∈ e_c σ := List.mem_of_getElem? ht
  have htn := hl t htm
  have hrl : r < (e_c σ).length := (List.getElem?_eq_some_iff.mp ht).1
  have hlen : (e_c σ).length ≤ d_n σ := nodup_le _ _ hd hl
  intro k
  induction k with
  | zero =>
    intro c x3 hck h3
    subst h3
    have hct : c = t := by omega
    subst hct
    refine p_s rfl rfl ?_
    refine p_s rfl rfl ?_
    refine p_get rfl f_Rf_73 hr.1 rfl ?_
    rw [hs.s2]
    refine p_icmpF rfl (show ¬ nI (d_n σ) < nI (c + 1) from nI_nlt (by omega) (by omega)) ?_
    refine p_s rfl rfl ?_
    refine p_s rfl rfl ?_
    refine p_s rfl rfl ?_
    refine p_s rfl rfl ?_
    refine r_bef_loop hr hs hN htn (d_n σ) 0 _ _ (by omega) rfl rfl (fun x4 x5 h4 => ?_)
    subst h4
    refine p_s rfl rfl ?_
    refine p_get rfl f_Rf_50 hr.1 rfl ?_
    refine p_s rfl rfl ?_
    refine p_ialdS rfl (hr.2.1 13 (by decide)) rfl (show c + 1 < 201 by omega) (by decide) ?_
    rw [(hN c (by omega)).1]
    refine p_ifF rfl (nI_nle (Nat.pos_of_ne_zero (fun z => (hz c (by omega)).mp z htm)) (hN c (by omega)).2) ?_
    refine p_s rfl rfl ?_
    refine p_s rfl rfl ?_
    refine p_icmpF rfl (congrArg nI (befF_rank hn hz hd hl hp ht)) ?_
    refine p_lv (lv2 := [(3, .int (nI (c + 1))), (0, .ref m), (1, .int (nI r)), (2, .int y2)]) (ks := [2, 3, 4, 5]) rfl ?_
    exact hK
  | succ k ih =>
    intro c x3 hck h3
    subst h3
    have hc : c < d_n σ := by omega
    refine p_s rfl rfl ?_
    refine p_s rfl rfl ?_
    refine p_get rfl f_Rf_73 hr.1 rfl ?_
    rw [hs.s2]
    refine p_icmpF rfl (show ¬ nI (d_n σ) < nI (c + 1) from nI_nlt (by omega) (by omega)) ?_
    refine p_s rfl rfl ?_
    refine p_s rfl rfl ?_
    refine p_s rfl rfl ?_
    refine p_s rfl rfl ?_
    refine r_bef_loop hr hs hN hc (d_n σ) 0 _ _ (by omega) rfl rfl (fun x4 x5 h4 => ?_)
    subst h4
    refine p_s rfl rfl ?_
    refine p_get rfl f_Rf_50 hr.1 rfl ?_
    refine p_s rfl rfl ?_
    refine p_ialdS rfl (hr.2.1 13 (by decide)) rfl (show c + 1 < 201 by omega) (by decide) ?_
    rw [(hN c (by omega)).1]
    refine p_if rfl (fun c1 => ?_) (fun c1 => ?_)
    · simp only [px_cmp] at c1
      refine p_s rfl rfl ?_
      refine p_goto rfl ?_
      refine p_lv (lv2 := [(3, .int (nI (c + 1) + 1)), (0, .ref m), (1, .int (nI r)), (2, .int y2)]) (ks := [0, 3, 4, 5]) rfl ?_
      exact ih (c + 1) _ (by omega) (nI_1 (c + 1))
    · simp only [px_ncmp] at c1
      refine p_s rfl rfl ?_
      refine p_s rfl rfl ?_
      refine p_icmpT rfl (show ¬ nI (befF N c (d_n σ)) = nI r from fun z => by
        have hcm : c ∈ e_c σ := Classical.byContradiction (fun w => c1 (by rw [(hz c (by omega)).mpr w]; decide))
        obtain ⟨j, hj⟩ := List.getElem?_of_mem hcm
        rw [befF_rank hn hz hd hl hp hj] at z
        have hjl := (List.getElem?_eq_some_iff.mp hj).1
        rw [nI_eq (by omega) (by omega)] at z
        rw [z, ht] at hj
        have := Option.some.inj hj
        omega) ?_
      refine p_s rfl rfl ?_
      refine p_goto rfl ?_
      refine p_lv (lv2 := [(3, .int (nI (c + 1) + 1)), (0, .ref m), (1, .int (nI r)), (2, .int y2)]) (ks := [0, 3, 4, 5]) rfl ?_
      exact ih (c + 1) _ (by omega) (nI_1 (c + 1))
set_option maxHeartbeats 4000000 in
theorem r_storedA {G : px_G} {d m : Nat} {R : Int32} {q : Nat} {aa : Nat → Nat} {ws : va_W} {fa : Nat → Nat → Int32} {s : Nat → Int32} {σ : Md} (hr : RH G ws m aa fa s) (hs : RS R q fa s σ) (hq : q < 100000) (hd : (e_c σ).Nodup) (hl : ∀ x ∈ e_c σ, x < d_n σ) : px G m_Rf_stored 0 (lv_args 0 [.ref m, .int (-1), .int 0]) [] ws (d + 10) 0 0 (OPr G R q m aa ws (nI (e_c σ).length) (σ)) := by
  have hk : px_kp Kc ws ws := px_kp.rf
  refine p_s rfl rfl ?_
  refine p_s rfl rfl ?_
  refine p_rput (k := 0) rfl fp_Rf_70 hr hk rfl rfl (by decide) rfl hs.cod (fun ws s hr hs hk => ?_)
  refine p_s rfl rfl ?_
  refine p_s rfl rfl ?_
  refine p_icmpF rfl rfl ?_
  refine p_s rfl rfl ?_
  refine p_ifF rfl rfl ?_
  refine p_s rfl rfl ?_
  refine p_callV rfl c_Rf_109 rfl hr.1 g_Rf_entries rfl rfl rfl (p_le (by omega) (Nat.le_refl _) (Nat.le_refl _) (r_entriesX (d := d) hr hs hq hd hl)) (fun v w hq => ?_)
  obtain ⟨rfl, hw9⟩ := hq
  have hw9 := hw9.symm
  subst hw9
  exact p_iret rfl rfl rfl ⟨rfl, fa, s, hr, hs, hk⟩
set_option maxHeartbeats 4000000 in
theorem r_storedN {G : px_G} {d m : Nat} {R : Int32} {q : Nat} {aa : Nat → Nat} {ws : va_W} {fa : Nat → Nat → Int32} {s : Nat → Int32} {σ : Md} (hr : RH G ws m aa fa s) (hs : RS R q fa s σ) {x y : Int32} (hq : q < 100000) (hd : (e_c σ).Nodup) (hl : ∀ x ∈ e_c σ, x < d_n σ) (hxy : ¬ (x = -1 ∧ y = 0)) (hx : x < 0 ∨ nI (e_c σ).length ≤ x) : px G m_Rf_stored 0 (lv_args 0 [.ref m, .int x, .int y]) [] ws (d + 10) 0 0 (OPr G R q m aa ws (-1) (σ)) := by
  have hk : px_kp Kc ws ws := px_kp.rf
  refine p_s rfl rfl ?_
  refine p_s rfl rfl ?_
  refine p_rput (k := 0) rfl fp_Rf_70 hr hk rfl rfl (by decide) rfl hs.cod (fun ws s hr hs hk => ?_)
  refine p_s rfl rfl ?_
  refine p_s rfl rfl ?_
  refine p_icmp rfl (fun c1 => ?_) (fun c1 => ?_)
  · simp only [px_cmp] at c1
    refine p_s rfl rfl ?_
    refine p_if rfl (fun c => ?_) (fun c => ?_)
    · simp only [px_cmp] at c
      refine p_s rfl rfl ?_
      exact p_iret rfl rfl rfl ⟨rfl, fa, s, hr, hs, hk⟩
    · simp only [px_ncmp] at c
      refine p_s rfl rfl ?_
      refine p_s rfl rfl ?_
      refine p_callV rfl c_Rf_109 rfl hr.1 g_Rf_entries rfl rfl rfl (p_le (by omega) (Nat.le_refl _) (Nat.le_refl _) (r_entriesX (d := d) hr hs hq hd hl)) (fun v w hq => ?_)
      obtain ⟨rfl, hw9⟩ := hq
      have hw9 := hw9.symm
      subst hw9
      refine p_icmpF rfl (Int32.not_lt.mpr (hx.resolve_left c)) ?_
      refine p_s rfl rfl ?_
      exact p_iret rfl rfl rfl ⟨rfl, fa, s, hr, hs, hk⟩
  · simp only [px_ncmp] at c1
    refine p_s rfl rfl ?_
    refine p_ifT rfl (fun z => hxy ⟨c1, z⟩) ?_
    refine p_s rfl rfl ?_
    refine p_if rfl (fun c => ?_) (fun c => ?_)
    · simp only [px_cmp] at c
      refine p_s rfl rfl ?_
      exact p_iret rfl rfl rfl ⟨rfl, fa, s, hr, hs, hk⟩
    · simp only [px_ncmp] at c
      refine p_s rfl rfl ?_
      refine p_s rfl rfl ?_
      refine p_callV rfl c_Rf_109 rfl hr.1 g_Rf_entries rfl rfl rfl (p_le (by omega) (Nat.le_refl _) (Nat.le_refl _) (r_entriesX (d := d) hr hs hq hd hl)) (fun v w hq => ?_)
      obtain ⟨rfl, hw9⟩ := hq
      have hw9 := hw9.symm
      subst hw9
      refine p_icmpF rfl (Int32.not_lt.mpr (hx.resolve_left c)) ?_
      refine p_s rfl rfl ?_
      exact p_iret rfl rfl rfl ⟨rfl, fa, s, hr, hs, hk⟩
set_option maxHeartbeats 4000000 in
theorem r_storedX {G : px_G} {d m : Nat} {R : Int32} {q : Nat} {aa : Nat → Nat} {ws : va_W} {fa : Nat → Nat → Int32} {s : Nat → Int32} {σ : Md} (hr : RH G ws m aa fa s) (hs : RS R q fa s σ) {k : Nat} {en : En4} (hq : q < 100000) (hd : (e_c σ).Nodup) (hl : ∀ x ∈ e_c σ, x < d_n σ) (hke : (d_e σ)[k]? = some en) {y : Int32} (hy : y < 0 ∨ 2 < y) : px G m_Rf_stored 0 (lv_args 0 [.ref m, .int (nI k), .int y]) [] ws (d + 10) 0 0 (OPr G R q m aa ws (-2) (σ)) := by
  have hk : px_kp Kc ws ws := px_kp.rf
  have hn := hs.1
  have hkl : k < (e_c σ).length := by
    rw [List.length_map]
    exact (List.getElem?_eq_some_iff.mp hke).1
  have hlen : (e_c σ).length ≤ d_n σ := nodup_le _ _ hd hl
  have hke2 : (e_c σ)[k]? = some en.1 := by rw [List.getElem?_map, hke]; rfl
  have hem : en ∈ d_e σ := List.mem_of_getElem? hke
  have hel : en.1 < d_n σ := hl en.1 (List.mem_of_getElem? hke2)
  refine p_s rfl rfl ?_
  refine p_s rfl rfl ?_
  refine p_rput (k := 0) rfl fp_Rf_70 hr hk rfl rfl (by decide) rfl hs.cod (fun ws s hr hs hk => ?_)
  refine p_s rfl rfl ?_
  refine p_s rfl rfl ?_
  refine p_icmpT rfl (fun z => nI_pos (show k < 2 ^ 31 by omega) (by rw [z]; decide)) ?_
  refine p_s rfl rfl ?_
  refine p_ifF rfl (nI_pos (by omega)) ?_
  refine p_s rfl rfl ?_
  refine p_s rfl rfl ?_
  refine p_callV rfl c_Rf_109 rfl hr.1 g_Rf_entries rfl rfl rfl (p_le (by omega) (Nat.le_refl _) (Nat.le_refl _) (r_entriesX (d := d) hr hs hq hd hl)) (fun v w hq => ?_)
  obtain ⟨rfl, hw9⟩ := hq
  have hw9 := hw9.symm
  subst hw9
  refine p_icmpT rfl (nI_lt hkl (by omega)) ?_
  refine p_s rfl rfl ?_
  refine p_if rfl (fun c => ?_) (fun c => ?_)
  · simp only [px_cmp] at c
    refine p_s rfl rfl ?_
    exact p_iret rfl rfl rfl ⟨rfl, fa, s, hr, hs, hk⟩
  · simp only [px_ncmp] at c
    refine p_s rfl rfl ?_
    refine p_s rfl rfl ?_
    refine p_icmpF rfl (Int32.not_le.mpr (hy.resolve_left c)) ?_
    refine p_s rfl rfl ?_
    exact p_iret rfl rfl rfl ⟨rfl, fa, s, hr, hs, hk⟩
set_option maxHeartbeats 4000000 in
theorem r_stored0 {G : px_G} {d m : Nat} {R : Int32} {q : Nat} {aa : Nat → Nat} {ws : va_W} {fa : Nat → Nat → Int32} {s : Nat → Int32} {σ : Md} (hr : RH G ws m aa fa s) (hs : RS R q fa s σ) {k : Nat} {en : En4} (hq : q < 100000) (hd : (e_c σ).Nodup) (hl : ∀ x ∈ e_c σ, x < d_n σ) (hke : (d_e σ)[k]? = some en) : px G m_Rf_stored 0 (lv_args 0 [.ref m, .int (nI k), .int 0]) [] ws (d + 10) 0 0 (OPr G R q m aa ws (nI (en.1 + 1)) (σ)) := by
  have hk : px_kp Kc ws ws := px_kp.rf
  have hn := hs.1
  have hkl : k < (e_c σ).length := by
    rw [List.length_map]
    exact (List.getElem?_eq_some_iff.mp hke).1
  have hlen : (e_c σ).length ≤ d_n σ := nodup_le _ _ hd hl
  have hke2 : (e_c σ)[k]? = some en.1 := by rw [List.getElem?_map, hke]; rfl
  have hem : en ∈ d_e σ := List.mem_of_getElem? hke
  have hel : en.1 < d_n σ := hl en.1 (List.mem_of_getElem? hke2)
  refine p_s rfl rfl ?_
  refine p_s rfl rfl ?_
  refine p_rput (k := 0) rfl fp_Rf_70 hr hk rfl rfl (by decide) rfl hs.cod (fun ws s hr hs hk => ?_)
  refine p_s rfl rfl ?_
  refine p_s rfl rfl ?_
  refine p_icmpT rfl (fun z => nI_pos (show k < 2 ^ 31 by omega) (by rw [z]; decide)) ?_
  refine p_s rfl rfl ?_
  refine p_ifF rfl (nI_pos (by omega)) ?_
  refine p_s rfl rfl ?_
  refine p_s rfl rfl ?_
  refine p_callV rfl c_Rf_109 rfl hr.1 g_Rf_entries rfl rfl rfl (p_le (by omega) (Nat.le_refl _) (Nat.le_refl _) (r_entriesX (d := d) hr hs hq hd hl)) (fun v w hq => ?_)
  obtain ⟨rfl, hw9⟩ := hq
  have hw9 := hw9.symm
  subst hw9
  refine p_icmpT rfl (nI_lt hkl (by omega)) ?_
  refine p_s rfl rfl ?_
  refine p_ifF rfl (show ¬ (0 : Int32) < 0 by decide) ?_
  refine p_s rfl rfl ?_
  refine p_s rfl rfl ?_
  refine p_icmpT rfl (show (0 : Int32) ≤ 2 by decide) ?_
  refine p_s rfl rfl ?_
  refine p_s rfl rfl ?_
  obtain ⟨N, la, a1, a2, a3, a4, a5⟩ := hs.st
  refine r_sto_loop hr hs (N := N) (fun i hi => ⟨(a3 i hi).1, by have := (a3 i hi).2.1; omega⟩) (fun i hi => (a3 i hi).2.2) hd hl a4 hke2 ?_ en.1 0 _ (by omega) rfl
  refine p_s rfl rfl ?_
  refine p_ifF rfl rfl ?_
  refine p_s rfl rfl ?_
  refine p_goto rfl ?_
  exact p_iret rfl rfl rfl ⟨rfl, fa, s, hr, hs, hk⟩
set_option maxHeartbeats 4000000 in
theorem r_stored1 {G : px_G} {d m : Nat} {R : Int32} {q : Nat} {aa : Nat → Nat} {ws : va_W} {fa : Nat → Nat → Int32} {s : Nat → Int32} {σ : Md} (hr : RH G ws m aa fa s) (hs : RS R q fa s σ) {k : Nat} {en : En4} (hq : q < 100000) (hd : (e_c σ).Nodup) (hl : ∀ x ∈ e_c σ, x < d_n σ) (hke : (d_e σ)[k]? = some en) : px G m_Rf_stored 0 (lv_args 0 [.ref m, .int (nI k), .int 1]) [] ws (d + 10) 0 0 (OPr G R q m aa ws (en.2.1) (σ)) := by
  have hk : px_kp Kc ws ws := px_kp.rf
  have hn := hs.1
  have hkl : k < (e_c σ).length := by
    rw [List.length_map]
    exact (List.getElem?_eq_some_iff.mp hke).1
  have hlen : (e_c σ).length ≤ d_n σ := nodup_le _ _ hd hl
  have hke2 : (e_c σ)[k]? = some en.1 := by rw [List.getElem?_map, hke]; rfl
  have hem : en ∈ d_e σ := List.mem_of_getElem? hke
  have hel : en.1 < d_n σ := hl en.1 (List.mem_of_getElem? hke2)
  refine p_s rfl rfl ?_
  refine p_s rfl rfl ?_
  refine p_rput (k := 0) rfl fp_Rf_70 hr hk rfl rfl (by decide) rfl hs.cod (fun ws s hr hs hk => ?_)
  refine p_s rfl rfl ?_
  refine p_s rfl rfl ?_
  refine p_icmpT rfl (fun z => nI_pos (show k < 2 ^ 31 by omega) (by rw [z]; decide)) ?_
  refine p_s rfl rfl ?_
  refine p_ifF rfl (nI_pos (by omega)) ?_
  refine p_s rfl rfl ?_
  refine p_s rfl rfl ?_
  refine p_callV rfl c_Rf_109 rfl hr.1 g_Rf_entries rfl rfl rfl (p_le (by omega) (Nat.le_refl _) (Nat.le_refl _) (r_entriesX (d := d) hr hs hq hd hl)) (fun v w hq => ?_)
  obtain ⟨rfl, hw9⟩ := hq
  have hw9 := hw9.symm
  subst hw9
  refine p_icmpT rfl (nI_lt hkl (by omega)) ?_
  refine p_s rfl rfl ?_
  refine p_ifF rfl (show ¬ (1 : Int32) < 0 by decide) ?_
  refine p_s rfl rfl ?_
  refine p_s rfl rfl ?_
  refine p_icmpT rfl (show (1 : Int32) ≤ 2 by decide) ?_
  refine p_s rfl rfl ?_
  refine p_s rfl rfl ?_
  obtain ⟨N, la, a1, a2, a3, a4, a5⟩ := hs.st
  refine r_sto_loop hr hs (N := N) (fun i hi => ⟨(a3 i hi).1, by have := (a3 i hi).2.1; omega⟩) (fun i hi => (a3 i hi).2.2) hd hl a4 hke2 ?_ en.1 0 _ (by omega) rfl
  refine p_s rfl rfl ?_
  refine p_ifT rfl (show ¬ (1 : Int32) = 0 by decide) ?_
  refine p_s rfl rfl ?_
  refine p_s rfl rfl ?_
  refine p_icmpF rfl rfl ?_
  refine p_s rfl rfl ?_
  refine p_get rfl f_Rf_53 hr.1 rfl ?_
  refine p_s rfl rfl ?_
  refine p_ialdS rfl (hr.2.1 14 (by decide)) rfl (show en.1 + 1 < 201 by omega) (by decide) ?_
  rw [(a5 en hem).1]
  refine p_goto rfl ?_
  exact p_iret rfl rfl rfl ⟨rfl, fa, s, hr, hs, hk⟩
set_option maxHeartbeats 4000000 in
theorem r_stored2 {G : px_G} {d m : Nat} {R : Int32} {q : Nat} {aa : Nat → Nat} {ws : va_W} {fa : Nat → Nat → Int32} {s : Nat → Int32} {σ : Md} (hr : RH G ws m aa fa s) (hs : RS R q fa s σ) {k : Nat} {en : En4} (hq : q < 100000) (hd : (e_c σ).Nodup) (hl : ∀ x ∈ e_c σ, x < d_n σ) (hke : (d_e σ)[k]? = some en) : px G m_Rf_stored 0 (lv_args 0 [.ref m, .int (nI k), .int 2]) [] ws (d + 10) 0 0 (OPr G R q m aa ws (d_A σ 0 en.1) (σ)) := by
  have hk : px_kp Kc ws ws := px_kp.rf
  have hn := hs.1
  have hkl : k < (e_c σ).length := by
    rw [List.length_map]
    exact (List.getElem?_eq_some_iff.mp hke).1
  have hlen : (e_c σ).length ≤ d_n σ := nodup_le _ _ hd hl
  have hke2 : (e_c σ)[k]? = some en.1 := by rw [List.getElem?_map, hke]; rfl
  have hem : en ∈ d_e σ := List.mem_of_getElem? hke
  have hel : en.1 < d_n σ := hl en.1 (List.mem_of_getElem? hke2)
  refine p_s rfl rfl ?_
  refine p_s rfl rfl ?_
  refine p_rput (k := 0) rfl fp_Rf_70 hr hk rfl rfl (by decide) rfl hs.cod (fun ws s hr hs hk => ?_)
  refine p_s rfl rfl ?_
  refine p_s rfl rfl ?_
  refine p_icmpT rfl (fun z => nI_pos (show k < 2 ^ 31 by omega) (by rw [z]; decide)) ?_
  refine p_s rfl rfl ?_
  refine p_ifF rfl (nI_pos (by omega)) ?_
  refine p_s rfl rfl ?_
  refine p_s rfl rfl ?_
  refine p_callV rfl c_Rf_109 rfl hr.1 g_Rf_entries rfl rfl rfl (p_le (by omega) (Nat.le_refl _) (Nat.le_refl _) (r_entriesX (d := d) hr hs hq hd hl)) (fun v w hq => ?_)
  obtain ⟨rfl, hw9⟩ := hq
  have hw9 := hw9.symm
  subst hw9
  refine p_icmpT rfl (nI_lt hkl (by omega)) ?_
  refine p_s rfl rfl ?_
  refine p_ifF rfl (show ¬ (2 : Int32) < 0 by decide) ?_
  refine p_s rfl rfl ?_
  refine p_s rfl rfl ?_
  refine p_icmpT rfl (show (2 : Int32) ≤ 2 by decide) ?_
  refine p_s rfl rfl ?_
  refine p_s rfl rfl ?_
  obtain ⟨N, la, a1, a2, a3, a4, a5⟩ := hs.st
  refine r_sto_loop hr hs (N := N) (fun i hi => ⟨(a3 i hi).1, by have := (a3 i hi).2.1; omega⟩) (fun i hi => (a3 i hi).2.2) hd hl a4 hke2 ?_ en.1 0 _ (by omega) rfl
  refine p_s rfl rfl ?_
  refine p_ifT rfl (show ¬ (2 : Int32) = 0 by decide) ?_
  refine p_s rfl rfl ?_
  refine p_s rfl rfl ?_
  refine p_icmpT rfl (show ¬ (2 : Int32) = 1 by decide) ?_
  refine p_s rfl rfl ?_
  refine p_get rfl f_Rf_7 hr.1 rfl ?_
  refine p_s rfl rfl ?_
  refine p_rld rfl hr hs (k := 0) (a := 0) (i := en.1) (by decide) rfl rfl hel rfl ?_
  exact p_iret rfl rfl rfl ⟨rfl, fa, s, hr, hs, hk⟩
