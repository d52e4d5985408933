/-! THE CLASS: snapshot, parent, enable -/
def snK (F : Sn4) (k : Nat) : Int32 := match k with
  | 0 => F.1
  | 1 => F.2.1
  | 2 => F.2.2.1
  | _ => F.2.2.2
theorem isw4 : ∀ k, k < 4 → ¬ isw (nI k) 0 3 = 0 := by decide +kernel
set_option maxHeartbeats 4000000 in
theorem c_number0 {G : px_G} {ws : va_W} {d : Nat} {a : Nat} {F : Sn4} (h : px_lk ws a = some (oSn4 F)) : px G m_Sn_number 0 (lv_args 0 [.ref a, .int 0]) [] ws d 0 0 (fun v w => v = some (.int (snK F 0)) ∧ w = ws) := by
  refine p_s rfl rfl ?_
  refine p_tabI (of := 27) (t := 28) rfl (by decide) (by decide) (by decide) (by decide) ?_
  refine p_s rfl rfl ?_
  refine p_get rfl f_Sn_7 h rfl ?_
  exact p_iret rfl rfl rfl ⟨rfl, rfl⟩
set_option maxHeartbeats 4000000 in
theorem c_number1 {G : px_G} {ws : va_W} {d : Nat} {a : Nat} {F : Sn4} (h : px_lk ws a = some (oSn4 F)) : px G m_Sn_number 0 (lv_args 0 [.ref a, .int 1]) [] ws d 0 0 (fun v w => v = some (.int (snK F 1)) ∧ w = ws) := by
  refine p_s rfl rfl ?_
  refine p_tabI (of := 32) (t := 33) rfl (by decide) (by decide) (by decide) (by decide) ?_
  refine p_s rfl rfl ?_
  refine p_get rfl f_Sn_13 h rfl ?_
  exact p_iret rfl rfl rfl ⟨rfl, rfl⟩
set_option maxHeartbeats 4000000 in
theorem c_number2 {G : px_G} {ws : va_W} {d : Nat} {a : Nat} {F : Sn4} (h : px_lk ws a = some (oSn4 F)) : px G m_Sn_number 0 (lv_args 0 [.ref a, .int 2]) [] ws d 0 0 (fun v w => v = some (.int (snK F 2)) ∧ w = ws) := by
  refine p_s rfl rfl ?_
  refine p_tabI (of := 37) (t := 38) rfl (by decide) (by decide) (by decide) (by decide) ?_
  refine p_s rfl rfl ?_
  refine p_get rfl f_Sn_16 h rfl ?_
  exact p_iret rfl rfl rfl ⟨rfl, rfl⟩
set_option maxHeartbeats 4000000 in
theorem c_number3 {G : px_G} {ws : va_W} {d : Nat} {a : Nat} {F : Sn4} (h : px_lk ws a = some (oSn4 F)) : px G m_Sn_number 0 (lv_args 0 [.ref a, .int 3]) [] ws d 0 0 (fun v w => v = some (.int (snK F 3)) ∧ w = ws) := by
  refine p_s rfl rfl ?_
  refine p_tabO (t := 43) rfl (Or.inr (by decide)) (by decide) ?_
  refine p_s rfl rfl ?_
  refine p_get rfl f_Sn_19 h rfl ?_
  exact p_iret rfl rfl rfl ⟨rfl, rfl⟩
theorem c_number {G : px_G} {ws : va_W} {d a : Nat} {F : Sn4} (h : px_lk ws a = some (oSn4 F)) : ∀ k, k < 4 → px G m_Sn_number 0 (lv_args 0 [.ref a, .int (nI k)]) [] ws d 0 0 (fun v w => v = some (.int (snK F k)) ∧ w = ws)
  | 0, _ => c_number0 h
  | 1, _ => c_number1 h
  | 2, _ => c_number2 h
  | 3, _ => c_number3 h
  | k + 4, hk => absurd hk (by omega)
set_option maxHeartbeats 4000000 in
theorem o_snapshotN {G : px_G} {ws : va_W} {d : Nat} {R : Int32} {o : Nat} {ad : Nat → Nat → Nat} {σ : Md} (h : CR G R ws o ad σ) {y z : Int32} {x : Int32} (hx : x < 1 ∨ nI (d_n σ) < x) : px G m_TM_snapshot 0 (lv_args 0 [.ref o, .int x, .int y, .int z]) [] ws (d + 10) 4 2008 (OPc G R o ws (-1) (σ)) := by
  refine p_s rfl rfl ?_
  refine p_s rfl rfl ?_
  refine p_callV rfl c_TM_60 rfl h.1 g_TM_find rfl rfl rfl (p_le (by omega) (Nat.le_refl _) (Nat.le_refl _) (c_findN (d := d) h hx)) (fun v w hq => ?_)
  obtain ⟨rfl, hw9⟩ := hq
  have hw9 := hw9.symm
  subst hw9
  refine p_s rfl rfl ?_
  refine p_s rfl rfl ?_
  refine p_ifnull (r := none) rfl (fun _ => ?_) (fun c => absurd rfl c)
  refine p_s rfl rfl ?_
  exact p_iret rfl rfl rfl ⟨rfl, ad, h, px_kp.rf⟩
set_option maxHeartbeats 4000000 in
theorem o_snapshotM {G : px_G} {ws : va_W} {d : Nat} {R : Int32} {o : Nat} {ad : Nat → Nat → Nat} {σ : Md} (h : CR G R ws o ad σ) {y z : Int32} (hn : d_n σ ≤ 200) {i : Nat} (hi : i < d_n σ) (hm : i ∉ e_c σ) : px G m_TM_snapshot 0 (lv_args 0 [.ref o, .int (nI (i + 1)), .int y, .int z]) [] ws (d + 10) 4 2008 (OPc G R o ws (-1) (σ)) := by
  refine p_s rfl rfl ?_
  refine p_s rfl rfl ?_
  refine p_callV rfl c_TM_60 rfl h.1 g_TM_find rfl rfl rfl (p_le (by omega) (Nat.le_refl _) (Nat.le_refl _) (c_findS (d := d) h hn hi)) (fun v w hq => ?_)
  obtain ⟨rfl, hw9⟩ := hq
  have hw9 := hw9.symm
  subst hw9
  refine p_s rfl rfl ?_
  refine p_s rfl rfl ?_
  refine p_ifnull (r := some (ad 0 i)) rfl (fun c => by cases c) (fun _ => ?_)
  refine p_s rfl rfl ?_
  refine p_get rfl f_TM_106 (h.2.2.2.2.1 i hi).1 rfl ?_
  rw [c_en_out hm]
  refine p_ifnonnull (r := none) rfl (fun c => absurd rfl c) (fun _ => ?_)
  refine p_s rfl rfl ?_
  exact p_iret rfl rfl rfl ⟨rfl, ad, h, px_kp.rf⟩
set_option maxHeartbeats 4000000 in
theorem o_snapshotY {G : px_G} {ws : va_W} {d : Nat} {R : Int32} {o : Nat} {ad : Nat → Nat → Nat} {σ : Md} (h : CR G R ws o ad σ) {y z : Int32} (hn : d_n σ ≤ 200) {i : Nat} (hi : i < d_n σ) (hm : i ∈ e_c σ) (hy : isw y 0 1 = 0) : px G m_TM_snapshot 0 (lv_args 0 [.ref o, .int (nI (i + 1)), .int y, .int z]) [] ws (d + 10) 4 2008 (OPc G R o ws (-2) (σ)) := by
  refine p_s rfl rfl ?_
  refine p_s rfl rfl ?_
  refine p_callV rfl c_TM_60 rfl h.1 g_TM_find rfl rfl rfl (p_le (by omega) (Nat.le_refl _) (Nat.le_refl _) (c_findS (d := d) h hn hi)) (fun v w hq => ?_)
  obtain ⟨rfl, hw9⟩ := hq
  have hw9 := hw9.symm
  subst hw9
  refine p_s rfl rfl ?_
  refine p_s rfl rfl ?_
  refine p_ifnull (r := some (ad 0 i)) rfl (fun c => by cases c) (fun _ => ?_)
  refine p_s rfl rfl ?_
  refine p_get rfl f_TM_106 (h.2.2.2.2.1 i hi).1 rfl ?_
  rw [c_en_in hm]
  refine p_ifnonnull (r := some (ad 3 i)) rfl (fun _ => ?_) (fun c => by cases c)
  refine p_s rfl rfl ?_
  refine p_s rfl rfl ?_
  refine p_s rfl rfl ?_
  refine p_callS rfl c_TM_33 g_TM_isWithin rfl rfl rfl (c_isWithin) (fun v w hq => ?_)
  obtain ⟨rfl, hw9⟩ := hq
  have hw9 := hw9.symm
  subst hw9
  refine p_ifT rfl hy ?_
  refine p_s rfl rfl ?_
  exact p_iret rfl rfl rfl ⟨rfl, ad, h, px_kp.rf⟩
set_option maxHeartbeats 4000000 in
theorem o_snapshotZ {G : px_G} {ws : va_W} {d : Nat} {R : Int32} {o : Nat} {ad : Nat → Nat → Nat} {σ : Md} (h : CR G R ws o ad σ) {y z : Int32} (hn : d_n σ ≤ 200) {i : Nat} (hi : i < d_n σ) (hm : i ∈ e_c σ) (hy : ¬ isw y 0 1 = 0) (hz : isw z 0 3 = 0) : px G m_TM_snapshot 0 (lv_args 0 [.ref o, .int (nI (i + 1)), .int y, .int z]) [] ws (d + 10) 4 2008 (OPc G R o ws (-2) (σ)) := by
  refine p_s rfl rfl ?_
  refine p_s rfl rfl ?_
  refine p_callV rfl c_TM_60 rfl h.1 g_TM_find rfl rfl rfl (p_le (by omega) (Nat.le_refl _) (Nat.le_refl _) (c_findS (d := d) h hn hi)) (fun v w hq => ?_)
  obtain ⟨rfl, hw9⟩ := hq
  have hw9 := hw9.symm
  subst hw9
  refine p_s rfl rfl ?_
  refine p_s rfl rfl ?_
  refine p_ifnull (r := some (ad 0 i)) rfl (fun c => by cases c) (fun _ => ?_)
  refine p_s rfl rfl ?_
  refine p_get rfl f_TM_106 (h.2.2.2.2.1 i hi).1 rfl ?_
  rw [c_en_in hm]
  refine p_ifnonnull (r := some (ad 3 i)) rfl (fun _ => ?_) (fun c => by cases c)
  refine p_s rfl rfl ?_
  refine p_s rfl rfl ?_
  refine p_s rfl rfl ?_
  refine p_callS rfl c_TM_33 g_TM_isWithin rfl rfl rfl (c_isWithin) (fun v w hq => ?_)
  obtain ⟨rfl, hw9⟩ := hq
  have hw9 := hw9.symm
  subst hw9
  refine p_ifF rfl hy ?_
  refine p_s rfl rfl ?_
  refine p_s rfl rfl ?_
  refine p_s rfl rfl ?_
  refine p_callS rfl c_TM_33 g_TM_isWithin rfl rfl rfl (c_isWithin) (fun v w hq => ?_)
  obtain ⟨rfl, hw9⟩ := hq
  have hw9 := hw9.symm
  subst hw9
  refine p_ifF rfl hz ?_
  refine p_s rfl rfl ?_
  exact p_iret rfl rfl rfl ⟨rfl, ad, h, px_kp.rf⟩
set_option maxHeartbeats 4000000 in
theorem o_snapshot0 {G : px_G} {ws : va_W} {d : Nat} {R : Int32} {o : Nat} {ad : Nat → Nat → Nat} {σ : Md} (h : CR G R ws o ad σ) (hn : d_n σ ≤ 200) {i : Nat} (hi : i < d_n σ) {k : Nat} (hk : k < 4) {q : En4} (hq : q ∈ d_e σ) (hqi : q.1 = i) : px G m_TM_snapshot 0 (lv_args 0 [.ref o, .int (nI (i + 1)), .int 0, .int (nI k)]) [] ws (d + 10) 4 2008 (OPc G R o ws (snK q.2.2.1 k) (σ)) := by
  have hm : i ∈ e_c σ := List.mem_map.mpr ⟨q, hq, hqi⟩
  have hent := h.2.2.2.2.2 q hq
  rw [hqi] at hent
  refine p_s rfl rfl ?_
  refine p_s rfl rfl ?_
  refine p_callV rfl c_TM_60 rfl h.1 g_TM_find rfl rfl rfl (p_le (by omega) (Nat.le_refl _) (Nat.le_refl _) (c_findS (d := d) h hn hi)) (fun v w hq9 => ?_)
  obtain ⟨rfl, hw9⟩ := hq9
  have hw9 := hw9.symm
  subst hw9
  refine p_s rfl rfl ?_
  refine p_s rfl rfl ?_
  refine p_ifnull (r := some (ad 0 i)) rfl (fun c => by cases c) (fun _ => ?_)
  refine p_s rfl rfl ?_
  refine p_get rfl f_TM_106 (h.2.2.2.2.1 i hi).1 rfl ?_
  rw [c_en_in hm]
  refine p_ifnonnull (r := some (ad 3 i)) rfl (fun _ => ?_) (fun c => by cases c)
  refine p_s rfl rfl ?_
  refine p_s rfl rfl ?_
  refine p_s rfl rfl ?_
  refine p_callS rfl c_TM_33 g_TM_isWithin rfl rfl rfl (c_isWithin) (fun v w hq9 => ?_)
  obtain ⟨rfl, hw9⟩ := hq9
  have hw9 := hw9.symm
  subst hw9
  refine p_ifF rfl (show ¬ isw 0 0 1 = 0 by decide) ?_
  refine p_s rfl rfl ?_
  refine p_s rfl rfl ?_
  refine p_s rfl rfl ?_
  refine p_callS rfl c_TM_33 g_TM_isWithin rfl rfl rfl (c_isWithin) (fun v w hq9 => ?_)
  obtain ⟨rfl, hw9⟩ := hq9
  have hw9 := hw9.symm
  subst hw9
  refine p_ifT rfl (isw4 k hk) ?_
  refine p_s rfl rfl ?_
  refine p_ifF rfl (show (0 : Int32) = 0 from rfl) ?_
  refine p_s rfl rfl ?_
  refine p_get rfl f_TM_106 (h.2.2.2.2.1 i hi).1 rfl ?_
  rw [c_en_in hm]
  refine p_get rfl f_TM_110 hent.1 rfl ?_
  refine p_goto rfl ?_
  refine p_s rfl rfl ?_
  refine p_s rfl rfl ?_
  refine p_s rfl rfl ?_
  refine p_callV rfl c_TM_119 rfl hent.2.1 g_Sn_number rfl rfl rfl (p_le (by omega) (Nat.le_refl _) (Nat.le_refl _) (c_number (d := d) hent.2.1 k hk)) (fun v w hq9 => ?_)
  obtain ⟨rfl, hw9⟩ := hq9
  have hw9 := hw9.symm
  subst hw9
  exact p_iret rfl rfl rfl ⟨rfl, ad, h, px_kp.rf⟩
set_option maxHeartbeats 4000000 in
theorem o_snapshot1 {G : px_G} {ws : va_W} {d : Nat} {R : Int32} {o : Nat} {ad : Nat → Nat → Nat} {σ : Md} (h : CR G R ws o ad σ) (hn : d_n σ ≤ 200) {i : Nat} (hi : i < d_n σ) {k : Nat} (hk : k < 4) {q : En4} (hq : q ∈ d_e σ) (hqi : q.1 = i) : px G m_TM_snapshot 0 (lv_args 0 [.ref o, .int (nI (i + 1)), .int 1, .int (nI k)]) [] ws (d + 10) 4 2008 (OPc G R o ws (snK q.2.2.2 k) (σ)) := by
  have hm : i ∈ e_c σ := List.mem_map.mpr ⟨q, hq, hqi⟩
  have hent := h.2.2.2.2.2 q hq
  rw [hqi] at hent
  refine p_s rfl rfl ?_
  refine p_s rfl rfl ?_
  refine p_callV rfl c_TM_60 rfl h.1 g_TM_find rfl rfl rfl (p_le (by omega) (Nat.le_refl _) (Nat.le_refl _) (c_findS (d := d) h hn hi)) (fun v w hq9 => ?_)
  obtain ⟨rfl, hw9⟩ := hq9
  have hw9 := hw9.symm
  subst hw9
  refine p_s rfl rfl ?_
  refine p_s rfl rfl ?_
  refine p_ifnull (r := some (ad 0 i)) rfl (fun c => by cases c) (fun _ => ?_)
  refine p_s rfl rfl ?_
  refine p_get rfl f_TM_106 (h.2.2.2.2.1 i hi).1 rfl ?_
  rw [c_en_in hm]
  refine p_ifnonnull (r := some (ad 3 i)) rfl (fun _ => ?_) (fun c => by cases c)
  refine p_s rfl rfl ?_
  refine p_s rfl rfl ?_
  refine p_s rfl rfl ?_
  refine p_callS rfl c_TM_33 g_TM_isWithin rfl rfl rfl (c_isWithin) (fun v w hq9 => ?_)
  obtain ⟨rfl, hw9⟩ := hq9
  have hw9 := hw9.symm
  subst hw9
  refine p_ifF rfl (show ¬ isw 1 0 1 = 0 by decide) ?_
  refine p_s rfl rfl ?_
  refine p_s rfl rfl ?_
  refine p_s rfl rfl ?_
  refine p_callS rfl c_TM_33 g_TM_isWithin rfl rfl rfl (c_isWithin) (fun v w hq9 => ?_)
  obtain ⟨rfl, hw9⟩ := hq9
  have hw9 := hw9.symm
  subst hw9
  refine p_ifT rfl (isw4 k hk) ?_
  refine p_s rfl rfl ?_
  refine p_ifT rfl (show ¬ (1 : Int32) = 0 by decide) ?_
  refine p_s rfl rfl ?_
  refine p_get rfl f_TM_106 (h.2.2.2.2.1 i hi).1 rfl ?_
  rw [c_en_in hm]
  refine p_get rfl f_TM_116 hent.1 rfl ?_
  refine p_s rfl rfl ?_
  refine p_s rfl rfl ?_
  refine p_s rfl rfl ?_
  refine p_callV rfl c_TM_119 rfl hent.2.2 g_Sn_number rfl rfl rfl (p_le (by omega) (Nat.le_refl _) (Nat.le_refl _) (c_number (d := d) hent.2.2 k hk)) (fun v w hq9 => ?_)
  obtain ⟨rfl, hw9⟩ := hq9
  have hw9 := hw9.symm
  subst hw9
  exact p_iret rfl rfl rfl ⟨rfl, ad, h, px_kp.rf⟩
theorem c_cd_par {ad : Nat → Nat → Nat} {σ : Md} {i p : Nat} : c_cd ad (stP σ i p) i = oCd (nI (i + 1)) (d_A σ 0 i) (d_A σ 1 i) (d_A σ 2 i) (ad 1 i) (ad 2 i) (d_A σ 11 i) (c_pa ad p) (c_en ad (e_c σ) i) := by
  show oCd _ _ _ _ _ _ _ (c_pa ad (if i = i then p else d_p σ i)) _ = _
  rw [if_pos rfl]
theorem CR.par {G : px_G} {R : Int32} {ws : va_W} {o : Nat} {ad : Nat → Nat → Nat} {σ : Md} (h : CR G R ws o ad σ) {i : Nat} (hi : i < d_n σ) (p : Nat) : CR G R (px_up ws (ad 0 i) (oCd (nI (i + 1)) (d_A σ 0 i) (d_A σ 1 i) (d_A σ 2 i) (ad 1 i) (ad 2 i) (d_A σ 11 i) (c_pa ad p) (c_en ad (e_c σ) i))) o ad (stP σ i p) := by
  rw [← c_cd_par]
  refine h.cd (σ' := stP σ i p) hi rfl rfl rfl rfl (fun j hj => ?_) (fun j => rfl) (fun j => rfl)
  show oCd _ _ _ _ _ _ _ (c_pa ad (if j = i then p else d_p σ j)) _ = _
  rw [if_neg hj]
set_option maxHeartbeats 4000000 in
theorem o_parentNN {G : px_G} {ws : va_W} {d : Nat} {R : Int32} {o : Nat} {ad : Nat → Nat → Nat} {σ : Md} (h : CR G R ws o ad σ) {x : Int32} (hx : x < 1 ∨ nI (d_n σ) < x) {y : Int32} (hy : y < 1 ∨ nI (d_n σ) < y) : px G m_TM_parent 0 (lv_args 0 [.ref o, .int x, .int y]) [] ws (d + 10) 4 2008 (OPc G R o ws (-1) (σ)) := by
  refine p_s rfl rfl ?_
  refine p_s rfl rfl ?_
  refine p_callV rfl c_TM_60 rfl h.1 g_TM_find rfl rfl rfl (p_le (by omega) (Nat.le_refl _) (Nat.le_refl _) (c_findN (d := d) h hx)) (fun v w hq => ?_)
  obtain ⟨rfl, hw9⟩ := hq
  have hw9 := hw9.symm
  subst hw9
  refine p_s rfl rfl ?_
  refine p_s rfl rfl ?_
  refine p_s rfl rfl ?_
  refine p_callV rfl c_TM_60 rfl h.1 g_TM_find rfl rfl rfl (p_le (by omega) (Nat.le_refl _) (Nat.le_refl _) (c_findN (d := d) h hy)) (fun v w hq => ?_)
  obtain ⟨rfl, hw9⟩ := hq
  have hw9 := hw9.symm
  subst hw9
  refine p_s rfl rfl ?_
  refine p_s rfl rfl ?_
  refine p_ifnull (r := none) rfl (fun _ => ?_) (fun c => absurd rfl c)
  refine p_s rfl rfl ?_
  exact p_iret rfl rfl rfl ⟨rfl, ad, h, px_kp.rf⟩
set_option maxHeartbeats 4000000 in
theorem o_parentNS {G : px_G} {ws : va_W} {d : Nat} {R : Int32} {o : Nat} {ad : Nat → Nat → Nat} {σ : Md} (h : CR G R ws o ad σ) {x : Int32} (hx : x < 1 ∨ nI (d_n σ) < x) (hn : d_n σ ≤ 200) {j : Nat} (hj : j < d_n σ) : px G m_TM_parent 0 (lv_args 0 [.ref o, .int x, .int (nI (j + 1))]) [] ws (d + 10) 4 2008 (OPc G R o ws (-1) (σ)) := by
  refine p_s rfl rfl ?_
  refine p_s rfl rfl ?_
  refine p_callV rfl c_TM_60 rfl h.1 g_TM_find rfl rfl rfl (p_le (by omega) (Nat.le_refl _) (Nat.le_refl _) (c_findN (d := d) h hx)) (fun v w hq => ?_)
  obtain ⟨rfl, hw9⟩ := hq
  have hw9 := hw9.symm
  subst hw9
  refine p_s rfl rfl ?_
  refine p_s rfl rfl ?_
  refine p_s rfl rfl ?_
  refine p_callV rfl c_TM_60 rfl h.1 g_TM_find rfl rfl rfl (p_le (by omega) (Nat.le_refl _) (Nat.le_refl _) (c_findS (d := d) h hn hj)) (fun v w hq => ?_)
  obtain ⟨rfl, hw9⟩ := hq
  have hw9 := hw9.symm
  subst hw9
  refine p_s rfl rfl ?_
  refine p_s rfl rfl ?_
  refine p_ifnull (r := none) rfl (fun _ => ?_) (fun c => absurd rfl c)
  refine p_s rfl rfl ?_
  exact p_iret rfl rfl rfl ⟨rfl, ad, h, px_kp.rf⟩
set_option maxHeartbeats 4000000 in
theorem o_parentSN {G : px_G} {ws : va_W} {d : Nat} {R : Int32} {o : Nat} {ad : Nat → Nat → Nat} {σ : Md} (h : CR G R ws o ad σ) (hn : d_n σ ≤ 200) {i : Nat} (hi : i < d_n σ) {y : Int32} (hy : y < 1 ∨ nI (d_n σ) < y) (h0 : ¬ y = 0) : px G m_TM_parent 0 (lv_args 0 [.ref o, .int (nI (i + 1)), .int y]) [] ws (d + 10) 4 2008 (OPc G R o ws (-1) (σ)) := by
  refine p_s rfl rfl ?_
  refine p_s rfl rfl ?_
  refine p_callV rfl c_TM_60 rfl h.1 g_TM_find rfl rfl rfl (p_le (by omega) (Nat.le_refl _) (Nat.le_refl _) (c_findS (d := d) h hn hi)) (fun v w hq => ?_)
  obtain ⟨rfl, hw9⟩ := hq
  have hw9 := hw9.symm
  subst hw9
  refine p_s rfl rfl ?_
  refine p_s rfl rfl ?_
  refine p_s rfl rfl ?_
  refine p_callV rfl c_TM_60 rfl h.1 g_TM_find rfl rfl rfl (p_le (by omega) (Nat.le_refl _) (Nat.le_refl _) (c_findN (d := d) h hy)) (fun v w hq => ?_)
  obtain ⟨rfl, hw9⟩ := hq
  have hw9 := hw9.symm
  subst hw9
  refine p_s rfl rfl ?_
  refine p_s rfl rfl ?_
  refine p_ifnull (r := some (ad 0 i)) rfl (fun c => by cases c) (fun _ => ?_)
  refine p_s rfl rfl ?_
  refine p_ifnonnull (r := none) rfl (fun c => absurd rfl c) (fun _ => ?_)
  refine p_s rfl rfl ?_
  refine p_ifF rfl h0 ?_
  refine p_s rfl rfl ?_
  exact p_iret rfl rfl rfl ⟨rfl, ad, h, px_kp.rf⟩
set_option maxHeartbeats 4000000 in
theorem o_parent0C {G : px_G} {ws : va_W} {d : Nat} {R : Int32} {o : Nat} {ad : Nat → Nat → Nat} {σ : Md} (h : CR G R ws o ad σ) (hn : d_n σ ≤ 200) {i : Nat} (hi : i < d_n σ) (hp : d_g σ 1 = 0) : px G m_TM_parent 0 (lv_args 0 [.ref o, .int (nI (i + 1)), .int 0]) [] ws (d + 10) 4 2008 (OPc G R o ws (-3) (σ)) := by
  refine p_s rfl rfl ?_
  refine p_s rfl rfl ?_
  refine p_callV rfl c_TM_60 rfl h.1 g_TM_find rfl rfl rfl (p_le (by omega) (Nat.le_refl _) (Nat.le_refl _) (c_findS (d := d) h hn hi)) (fun v w hq => ?_)
  obtain ⟨rfl, hw9⟩ := hq
  have hw9 := hw9.symm
  subst hw9
  refine p_s rfl rfl ?_
  refine p_s rfl rfl ?_
  refine p_s rfl rfl ?_
  refine p_callV rfl c_TM_60 rfl h.1 g_TM_find rfl rfl rfl (p_le (by omega) (Nat.le_refl _) (Nat.le_refl _) (c_findN (d := d) h (x := 0) (Or.inl (by decide)))) (fun v w hq => ?_)
  obtain ⟨rfl, hw9⟩ := hq
  have hw9 := hw9.symm
  subst hw9
  refine p_s rfl rfl ?_
  refine p_s rfl rfl ?_
  refine p_ifnull (r := some (ad 0 i)) rfl (fun c => by cases c) (fun _ => ?_)
  refine p_s rfl rfl ?_
  refine p_ifnonnull (r := none) rfl (fun c => absurd rfl c) (fun _ => ?_)
  refine p_s rfl rfl ?_
  refine p_ifT rfl (show (0 : Int32) = 0 from rfl) ?_
  refine p_s rfl rfl ?_
  refine p_s rfl rfl ?_
  refine p_acmpne (rx := some (ad 0 i)) (ry := none) rfl (fun _ => ?_) (fun c => by cases c)
  refine p_s rfl rfl ?_
  refine p_get rfl f_TM_20 h.1 rfl ?_
  refine p_ifT rfl hp ?_
  refine p_s rfl rfl ?_
  exact p_iret rfl rfl rfl ⟨rfl, ad, h, px_kp.rf⟩
set_option maxHeartbeats 4000000 in
theorem o_parent0 {G : px_G} {ws : va_W} {d : Nat} {R : Int32} {o : Nat} {ad : Nat → Nat → Nat} {σ : Md} (h : CR G R ws o ad σ) (hn : d_n σ ≤ 200) {i : Nat} (hi : i < d_n σ) (hpp : ∀ q, q < d_n σ → d_p σ q ≤ d_n σ) (hp : ¬ d_g σ 1 = 0) : px G m_TM_parent 0 (lv_args 0 [.ref o, .int (nI (i + 1)), .int 0]) [] ws (d + 10) 4 2008 (OPc G R o ws (nI (cntF (d_p (stP σ i 0)) 200 0)) (stP σ i 0)) := by
  refine p_s rfl rfl ?_
  refine p_s rfl rfl ?_
  refine p_callV rfl c_TM_60 rfl h.1 g_TM_find rfl rfl rfl (p_le (by omega) (Nat.le_refl _) (Nat.le_refl _) (c_findS (d := d) h hn hi)) (fun v w hq => ?_)
  obtain ⟨rfl, hw9⟩ := hq
  have hw9 := hw9.symm
  subst hw9
  refine p_s rfl rfl ?_
  refine p_s rfl rfl ?_
  refine p_s rfl rfl ?_
  refine p_callV rfl c_TM_60 rfl h.1 g_TM_find rfl rfl rfl (p_le (by omega) (Nat.le_refl _) (Nat.le_refl _) (c_findN (d := d) h (x := 0) (Or.inl (by decide)))) (fun v w hq => ?_)
  obtain ⟨rfl, hw9⟩ := hq
  have hw9 := hw9.symm
  subst hw9
  refine p_s rfl rfl ?_
  refine p_s rfl rfl ?_
  refine p_ifnull (r := some (ad 0 i)) rfl (fun c => by cases c) (fun _ => ?_)
  refine p_s rfl rfl ?_
  refine p_ifnonnull (r := none) rfl (fun c => absurd rfl c) (fun _ => ?_)
  refine p_s rfl rfl ?_
  refine p_ifT rfl (show (0 : Int32) = 0 from rfl) ?_
  refine p_s rfl rfl ?_
  refine p_s rfl rfl ?_
  refine p_acmpne (rx := some (ad 0 i)) (ry := none) rfl (fun _ => ?_) (fun c => by cases c)
  refine p_s rfl rfl ?_
  refine p_get rfl f_TM_20 h.1 rfl ?_
  refine p_ifF rfl hp ?_
  refine p_s rfl rfl ?_
  refine p_ifnull (r := none) rfl (fun _ => ?_) (fun c => absurd rfl c)
  refine p_s rfl rfl ?_
  refine p_s rfl rfl ?_
  refine p_put rfl fp_TM_137 (h.2.2.2.2.1 i hi).1 rfl rfl (by exact Nat.le_of_ble_eq_true rfl) ?_
  have h1 := h.par hi 0
  have k1 := px_kp.up (K := Kr) (e := oCd (nI (i + 1)) (d_A σ 0 i) (d_A σ 1 i) (d_A σ 2 i) (ad 1 i) (ad 2 i) (d_A σ 11 i) (c_pa ad 0) (c_en ad (e_c σ) i)) (h.2.2.2.2.1 i hi).1 rfl
  have hpw : ∀ q, q < d_n σ → d_p (stP σ i 0) q ≤ d_n σ := by
    intro q hq
    show (if q = i then 0 else d_p σ q) ≤ _
    split
    · exact Nat.zero_le _
    · exact hpp q hq
  refine p_s rfl rfl ?_
  refine p_callV rfl c_TM_141 rfl (h1.2.2.2.2.1 i hi).1 g_Cd_countAbove rfl rfl rfl (p_le (by omega) (Nat.le_refl _) (Nat.le_refl _) (c_countAbove (d := d) h1.2.2.2.2.1 hpw hi)) (fun v w hq => ?_)
  obtain ⟨rfl, hw9⟩ := hq
  subst hw9
  exact p_iret rfl rfl rfl ⟨by rw [show d_p (stP σ i 0) i = 0 from if_pos rfl], ad, h1, k1⟩
set_option maxHeartbeats 4000000 in
theorem o_parentE {G : px_G} {ws : va_W} {d : Nat} {R : Int32} {o : Nat} {ad : Nat → Nat → Nat} {σ : Md} (h : CR G R ws o ad σ) (hn : d_n σ ≤ 200) {i : Nat} (hi : i < d_n σ) : px G m_TM_parent 0 (lv_args 0 [.ref o, .int (nI (i + 1)), .int (nI (i + 1))]) [] ws (d + 10) 4 2008 (OPc G R o ws (-2) (σ)) := by
  refine p_s rfl rfl ?_
  refine p_s rfl rfl ?_
  refine p_callV rfl c_TM_60 rfl h.1 g_TM_find rfl rfl rfl (p_le (by omega) (Nat.le_refl _) (Nat.le_refl _) (c_findS (d := d) h hn hi)) (fun v w hq => ?_)
  obtain ⟨rfl, hw9⟩ := hq
  have hw9 := hw9.symm
  subst hw9
  refine p_s rfl rfl ?_
  refine p_s rfl rfl ?_
  refine p_s rfl rfl ?_
  refine p_callV rfl c_TM_60 rfl h.1 g_TM_find rfl rfl rfl (p_le (by omega) (Nat.le_refl _) (Nat.le_refl _) (c_findS (d := d) h hn hi)) (fun v w hq => ?_)
  obtain ⟨rfl, hw9⟩ := hq
  have hw9 := hw9.symm
  subst hw9
  refine p_s rfl rfl ?_
  refine p_s rfl rfl ?_
  refine p_ifnull (r := some (ad 0 i)) rfl (fun c => by cases c) (fun _ => ?_)
  refine p_s rfl rfl ?_
  refine p_ifnonnull (r := some (ad 0 i)) rfl (fun _ => ?_) (fun c => by cases c)
  refine p_s rfl rfl ?_
  refine p_s rfl rfl ?_
  refine p_acmpneR rfl (fun c => absurd rfl c) (fun _ => ?_)
  refine p_s rfl rfl ?_
  exact p_iret rfl rfl rfl ⟨rfl, ad, h, px_kp.rf⟩
set_option maxHeartbeats 4000000 in
theorem o_parentC {G : px_G} {ws : va_W} {d : Nat} {R : Int32} {o : Nat} {ad : Nat → Nat → Nat} {σ : Md} (h : CR G R ws o ad σ) (hn : d_n σ ≤ 200) {i : Nat} (hi : i < d_n σ) {j : Nat} (hj : j < d_n σ) (hij : ¬ i = j) (hp : d_g σ 1 = 0) : px G m_TM_parent 0 (lv_args 0 [.ref o, .int (nI (i + 1)), .int (nI (j + 1))]) [] ws (d + 10) 4 2008 (OPc G R o ws (-3) (σ)) := by
  refine p_s rfl rfl ?_
  refine p_s rfl rfl ?_
  refine p_callV rfl c_TM_60 rfl h.1 g_TM_find rfl rfl rfl (p_le (by omega) (Nat.le_refl _) (Nat.le_refl _) (c_findS (d := d) h hn hi)) (fun v w hq => ?_)
  obtain ⟨rfl, hw9⟩ := hq
  have hw9 := hw9.symm
  subst hw9
  refine p_s rfl rfl ?_
  refine p_s rfl rfl ?_
  refine p_s rfl rfl ?_
  refine p_callV rfl c_TM_60 rfl h.1 g_TM_find rfl rfl rfl (p_le (by omega) (Nat.le_refl _) (Nat.le_refl _) (c_findS (d := d) h hn hj)) (fun v w hq => ?_)
  obtain ⟨rfl, hw9⟩ := hq
  have hw9 := hw9.symm
  subst hw9
  refine p_s rfl rfl ?_
  refine p_s rfl rfl ?_
  refine p_ifnull (r := some (ad 0 i)) rfl (fun c => by cases c) (fun _ => ?_)
  refine p_s rfl rfl ?_
  refine p_ifnonnull (r := some (ad 0 j)) rfl (fun _ => ?_) (fun c => by cases c)
  refine p_s rfl rfl ?_
  refine p_s rfl rfl ?_
  refine p_acmpneR rfl (fun _ => ?_) (fun c => absurd (h.2.2.2.1.2.2.1 i j hi hj c) hij)
  refine p_s rfl rfl ?_
  refine p_get rfl f_TM_20 h.1 rfl ?_
  refine p_ifT rfl hp ?_
  refine p_s rfl rfl ?_
  exact p_iret rfl rfl rfl ⟨rfl, ad, h, px_kp.rf⟩
set_option maxHeartbeats 4000000 in
theorem o_parentB {G : px_G} {ws : va_W} {d : Nat} {R : Int32} {o : Nat} {ad : Nat → Nat → Nat} {σ : Md} (h : CR G R ws o ad σ) (hn : d_n σ ≤ 200) {i : Nat} (hi : i < d_n σ) {j : Nat} (hj : j < d_n σ) (hpp : ∀ q, q < d_n σ → d_p σ q ≤ d_n σ) (hij : ¬ i = j) (hp : ¬ d_g σ 1 = 0) (hb : ¬ belF (d_p σ) i 200 (d_p σ j) = 0) : px G m_TM_parent 0 (lv_args 0 [.ref o, .int (nI (i + 1)), .int (nI (j + 1))]) [] ws (d + 10) 4 2008 (OPc G R o ws (-3) (σ)) := by
  refine p_s rfl rfl ?_
  refine p_s rfl rfl ?_
  refine p_callV rfl c_TM_60 rfl h.1 g_TM_find rfl rfl rfl (p_le (by omega) (Nat.le_refl _) (Nat.le_refl _) (c_findS (d := d) h hn hi)) (fun v w hq => ?_)
  obtain ⟨rfl, hw9⟩ := hq
  have hw9 := hw9.symm
  subst hw9
  refine p_s rfl rfl ?_
  refine p_s rfl rfl ?_
  refine p_s rfl rfl ?_
  refine p_callV rfl c_TM_60 rfl h.1 g_TM_find rfl rfl rfl (p_le (by omega) (Nat.le_refl _) (Nat.le_refl _) (c_findS (d := d) h hn hj)) (fun v w hq => ?_)
  obtain ⟨rfl, hw9⟩ := hq
  have hw9 := hw9.symm
  subst hw9
  refine p_s rfl rfl ?_
  refine p_s rfl rfl ?_
  refine p_ifnull (r := some (ad 0 i)) rfl (fun c => by cases c) (fun _ => ?_)
  refine p_s rfl rfl ?_
  refine p_ifnonnull (r := some (ad 0 j)) rfl (fun _ => ?_) (fun c => by cases c)
  refine p_s rfl rfl ?_
  refine p_s rfl rfl ?_
  refine p_acmpneR rfl (fun _ => ?_) (fun c => absurd (h.2.2.2.1.2.2.1 i j hi hj c) hij)
  refine p_s rfl rfl ?_
  refine p_get rfl f_TM_20 h.1 rfl ?_
  refine p_ifF rfl hp ?_
  refine p_s rfl rfl ?_
  refine p_ifnull (r := some (ad 0 j)) rfl (fun c => by cases c) (fun _ => ?_)
  refine p_s rfl rfl ?_
  refine p_s rfl rfl ?_
  refine p_callV rfl c_TM_133 rfl (h.2.2.2.2.1 j hj).1 g_Cd_isBelow rfl rfl rfl (p_le (by omega) (Nat.le_refl _) (Nat.le_refl _) (c_isBelow (d := d) h.2.2.2.2.1 hpp hi h.2.2.2.1.2.2.1 hj)) (fun v w hq => ?_)
  obtain ⟨rfl, hw9⟩ := hq
  have hw9 := hw9.symm
  subst hw9
  refine p_ifF rfl hb ?_
  refine p_s rfl rfl ?_
  exact p_iret rfl rfl rfl ⟨rfl, ad, h, px_kp.rf⟩
set_option maxHeartbeats 4000000 in
theorem o_parent {G : px_G} {ws : va_W} {d : Nat} {R : Int32} {o : Nat} {ad : Nat → Nat → Nat} {σ : Md} (h : CR G R ws o ad σ) (hn : d_n σ ≤ 200) {i : Nat} (hi : i < d_n σ) {j : Nat} (hj : j < d_n σ) (hpp : ∀ q, q < d_n σ → d_p σ q ≤ d_n σ) (hij : ¬ i = j) (hp : ¬ d_g σ 1 = 0) (hb : belF (d_p σ) i 200 (d_p σ j) = 0) : px G m_TM_parent 0 (lv_args 0 [.ref o, .int (nI (i + 1)), .int (nI (j + 1))]) [] ws (d + 10) 4 2008 (OPc G R o ws (nI (cntF (d_p (stP σ i (j + 1))) 200 (j + 1))) (stP σ i (j + 1))) := by
  refine p_s rfl rfl ?_
  refine p_s rfl rfl ?_
  refine p_callV rfl c_TM_60 rfl h.1 g_TM_find rfl rfl rfl (p_le (by omega) (Nat.le_refl _) (Nat.le_refl _) (c_findS (d := d) h hn hi)) (fun v w hq => ?_)
  obtain ⟨rfl, hw9⟩ := hq
  have hw9 := hw9.symm
  subst hw9
  refine p_s rfl rfl ?_
  refine p_s rfl rfl ?_
  refine p_s rfl rfl ?_
  refine p_callV rfl c_TM_60 rfl h.1 g_TM_find rfl rfl rfl (p_le (by omega) (Nat.le_refl _) (Nat.le_refl _) (c_findS (d := d) h hn hj)) (fun v w hq => ?_)
  obtain ⟨rfl, hw9⟩ := hq
  have hw9 := hw9.symm
  subst hw9
  refine p_s rfl rfl ?_
  refine p_s rfl rfl ?_
  refine p_ifnull (r := some (ad 0 i)) rfl (fun c => by cases c) (fun _ => ?_)
  refine p_s rfl rfl ?_
  refine p_ifnonnull (r := some (ad 0 j)) rfl (fun _ => ?_) (fun c => by cases c)
  refine p_s rfl rfl ?_
  refine p_s rfl rfl ?_
  refine p_acmpneR rfl (fun _ => ?_) (fun c => absurd (h.2.2.2.1.2.2.1 i j hi hj c) hij)
  refine p_s rfl rfl ?_
  refine p_get rfl f_TM_20 h.1 rfl ?_
  refine p_ifF rfl hp ?_
  refine p_s rfl rfl ?_
  refine p_ifnull (r := some (ad 0 j)) rfl (fun c => by cases c) (fun _ => ?_)
  refine p_s rfl rfl ?_
  refine p_s rfl rfl ?_
  refine p_callV rfl c_TM_133 rfl (h.2.2.2.2.1 j hj).1 g_Cd_isBelow rfl rfl rfl (p_le (by omega) (Nat.le_refl _) (Nat.le_refl _) (c_isBelow (d := d) h.2.2.2.2.1 hpp hi h.2.2.2.1.2.2.1 hj)) (fun v w hq => ?_)
  obtain ⟨rfl, hw9⟩ := hq
  have hw9 := hw9.symm
  subst hw9
  refine p_ifT rfl hb ?_
  refine p_s rfl rfl ?_
  refine p_s rfl rfl ?_
  refine p_put rfl fp_TM_137 (h.2.2.2.2.1 i hi).1 rfl rfl (by exact Nat.le_of_ble_eq_true rfl) ?_
  have h1 := h.par hi (j + 1)
  have k1 := px_kp.up (K := Kr) (e := oCd (nI (i + 1)) (d_A σ 0 i) (d_A σ 1 i) (d_A σ 2 i) (ad 1 i) (ad 2 i) (d_A σ 11 i) (c_pa ad (j + 1)) (c_en ad (e_c σ) i)) (h.2.2.2.2.1 i hi).1 rfl
  have hpw : ∀ q, q < d_n σ → d_p (stP σ i (j + 1)) q ≤ d_n σ := by
    intro q hq
    show (if q = i then (j + 1) else d_p σ q) ≤ _
    split
    · exact hj
    · exact hpp q hq
  refine p_s rfl rfl ?_
  refine p_callV rfl c_TM_141 rfl (h1.2.2.2.2.1 i hi).1 g_Cd_countAbove rfl rfl rfl (p_le (by omega) (Nat.le_refl _) (Nat.le_refl _) (c_countAbove (d := d) h1.2.2.2.2.1 hpw hi)) (fun v w hq => ?_)
  obtain ⟨rfl, hw9⟩ := hq
  subst hw9
  exact p_iret rfl rfl rfl ⟨by rw [show d_p (stP σ i (j + 1)) i = (j + 1) from if_pos rfl], ad, h1, k1⟩
