/-! CLASS AND REFERENCE ANSWER ALIKE, CALL BY CALL -/
def RZ (G : px_G) (R : Int32) (q : Nat) (w : va_W) (m : Nat) (aa : Nat → Nat) (σ : Md) : Prop := ∃ fa s, RH G w m aa fa s ∧ RS R q fa s σ
def Bo (G : px_G) (d : Nat) (R : Int32) (q : Nat) (ws : va_W) (o m : Nat) (aa : Nat → Nat) (σ : Md) (MC MR : px_M) (as : List Value) : Prop :=
  ∃ (ans : Int32) (σ' : Md), Iv σ' ∧ px G MC 0 (lv_args 0 (.ref o :: as)) [] ws (d + 10) 4 2008 (OPc G R o ws ans σ') ∧ ∀ w, RZ G R q w m aa σ → px G MR 0 (lv_args 0 (.ref m :: as)) [] w (d + 10) 0 0 (OPr G R (q + 1) m aa w ans σ')
section BOTH
variable {G : px_G} {d : Nat} {R : Int32} {q : Nat} {ws : va_W} {o m : Nat} {aa : Nat → Nat} {ad : Nat → Nat → Nat} {σ : Md}
theorem Bo.mk1 {MC MR : px_M} {as : List Value} {ans : Int32} {σ' : Md} (hI : Iv σ') (hc : px G MC 0 (lv_args 0 (.ref o :: as)) [] ws (d + 10) 4 2008 (OPc G R o ws ans σ')) (hr : ∀ (w : va_W) (fa : Nat → Nat → Int32) (s : Nat → Int32), RH G w m aa fa s → RS R q fa s σ → px G MR 0 (lv_args 0 (.ref m :: as)) [] w (d + 10) 0 0 (OPr G R (q + 1) m aa w ans σ')) : Bo G d R q ws o m aa σ MC MR as :=
  ⟨ans, σ', hI, hc, fun w hz => by
    obtain ⟨fa, s, a, b⟩ := hz
    exact hr w fa s a b⟩
theorem Bo.mk0 {MC MR : px_M} {as : List Value} {ans : Int32} {σ' : Md} (hI : Iv σ') (hc : px G MC 0 (lv_args 0 (.ref o :: as)) [] ws (d + 10) 4 2008 (OPc G R o ws ans σ')) (hr : ∀ (w : va_W) (fa : Nat → Nat → Int32) (s : Nat → Int32), RH G w m aa fa s → RS R q fa s σ → px G MR 0 (lv_args 0 (.ref m :: as)) [] w (d + 10) 0 0 (OPr G R q m aa w ans σ')) : Bo G d R q ws o m aa σ MC MR as :=
  Bo.mk1 hI hc (fun w fa s a b => p_post (fun v w2 hq => by
    obtain ⟨h1, fa, s, h2, h3, h4⟩ := hq
    exact ⟨h1, fa, s, h2, h3.mono (Nat.le_succ q), h4⟩) (hr w fa s a b))
theorem b_code (h : CR G R ws o ad σ) (hI : Iv σ) (p u v : Int32) : Bo G d R q ws o m aa σ m_TM_code m_Rf_code [.int p, .int u, .int v] := by
  obtain ⟨w1, w2, w3, w4, w5, w6, w7⟩ := id hI.1
  by_cases hx : isw p 1 255 = 0
  · exact Bo.mk0 hI (o_codeP h hx) (fun w fa s hr hs => r_codeP hr hs hx)
  by_cases hu : isw u 1 127 = 0
  · exact Bo.mk0 hI (o_codeU h hx hu) (fun w fa s hr hs => r_codeU hr hs hx hu)
  by_cases hv : isw v 1 127 = 0
  · exact Bo.mk0 hI (o_codeV h hx hu hv) (fun w fa s hr hs => r_codeV hr hs hx hu hv)
  by_cases hp : d_g σ 1 = 0
  · exact Bo.mk0 hI (o_codeC h hx hu hv hp) (fun w fa s hr hs => r_codeC hr hs hx hu hv hp)
  by_cases hn : d_n σ = 200
  · exact Bo.mk0 hI (o_codeF h hx hu hv hp hn) (fun w fa s hr hs => r_codeF hr hs hx hu hv hp hn)
  have hn2 : d_n σ < 200 := by omega
  exact Bo.mk0 (hI.code hn2 hx hu hv) (o_code h hx hu hv hp hn2 w3 w6 w2) (fun w fa s hr hs => r_code hr hs hx hu hv hp hn2)
theorem b_event (h : CR G R ws o ad σ) (hI : Iv σ) (hq : q < 100000) (x f : Int32) : Bo G d R q ws o m aa σ m_TM_event m_Rf_event [.int x, .int f] := by
  rcases c_num x hI.1.1 with ⟨i, hi, rfl⟩ | hx
  · by_cases hp : d_g σ 1 = 0
    · exact Bo.mk0 hI (o_eventC h hI.1.1 hi hp) (fun w fa s hr hs => r_eventC hr hs hi hp)
    · exact Bo.mk1 (hI.event hi) (o_event h hI.1 hi hp) (fun w fa s hr hs => r_event hr hs hI hq hi hp)
  · exact Bo.mk0 hI (o_eventN h hx) (fun w fa s hr hs => r_eventN hr hs hx)
theorem b_cycle (h : CR G R ws o ad σ) (hI : Iv σ) (t : Int32) : Bo G d R q ws o m aa σ m_TM_cycle m_Rf_cycle [.int t] := by
  obtain ⟨w1, w2, w3, w4, w5, w6, w7⟩ := id hI.1
  by_cases hp : d_g σ 1 = 0
  · exact Bo.mk0 hI (o_cycleC h hp) (fun w fa s hr hs => r_cycleC hr hs hp)
  · exact Bo.mk0 hI.cyc (o_cycle h w1 w5 (by omega) hp) (fun w fa s hr hs => r_cycle hr hs hI hp)
theorem b_status (h : CR G R ws o ad σ) (hI : Iv σ) (x : Int32) : Bo G d R q ws o m aa σ m_TM_status m_Rf_status [.int x] := by
  rcases c_num x hI.1.1 with ⟨i, hi, rfl⟩ | hx
  · exact Bo.mk0 hI (o_status h hI.1.1 hi) (fun w fa s hr hs => r_status hr hs hi)
  · exact Bo.mk0 hI (o_statusN h hx) (fun w fa s hr hs => r_statusN hr hs hx)
theorem b_age (h : CR G R ws o ad σ) (hI : Iv σ) (x : Int32) : Bo G d R q ws o m aa σ m_TM_age m_Rf_age [.int x] := by
  rcases c_num x hI.1.1 with ⟨i, hi, rfl⟩ | hx
  · exact Bo.mk0 hI (o_age h hI.1.1 hi) (fun w fa s hr hs => r_age hr hs hi)
  · exact Bo.mk0 hI (o_ageN h hx) (fun w fa s hr hs => r_ageN hr hs hx)
theorem b_snapshot (h : CR G R ws o ad σ) (hI : Iv σ) (hq : q < 100000) (x y z : Int32) : Bo G d R q ws o m aa σ m_TM_snapshot m_Rf_snapshot [.int x, .int y, .int z] := by
  have hn := hI.1.1
  rcases c_num x hn with ⟨i, hi, rfl⟩ | hx
  · by_cases hm : i ∈ e_c σ
    · by_cases hy : isw y 0 1 = 0
      · exact Bo.mk0 hI (o_snapshotY h hn hi hm hy) (fun w fa s hr hs => r_snapshotY hr hs hq hi hm hy)
      by_cases hz : isw z 0 3 = 0
      · exact Bo.mk0 hI (o_snapshotZ h hn hi hm hy hz) (fun w fa s hr hs => r_snapshotZ hr hs hq hi hm hy hz)
      obtain ⟨a, ha, rfl⟩ := isw_nat (n := 1) (by decide) hy
      obtain ⟨k, hk, rfl⟩ := isw_nat (n := 3) (by decide) hz
      obtain ⟨en, hen, hei⟩ := List.mem_map.mp hm
      rcases (show a = 0 ∨ a = 1 by omega) with rfl | rfl
      · exact Bo.mk0 hI (o_snapshot0 h hn hi (show k < 4 by omega) hen hei) (fun w fa s hr hs => r_snapshot0 hr hs hq hi (show k < 4 by omega) hen hei)
      · exact Bo.mk0 hI (o_snapshot1 h hn hi (show k < 4 by omega) hen hei) (fun w fa s hr hs => r_snapshot1 hr hs hq hi (show k < 4 by omega) hen hei)
    · exact Bo.mk0 hI (o_snapshotM h hn hi hm) (fun w fa s hr hs => r_snapshotM hr hs hi hm)
  · exact Bo.mk0 hI (o_snapshotN h hx) (fun w fa s hr hs => r_snapshotN hr hs hx)
theorem b_clear (h : CR G R ws o ad σ) (hI : Iv σ) (g : Int32) : Bo G d R q ws o m aa σ m_TM_clear m_Rf_clear [.int g] := by
  obtain ⟨w1, w2, w3, w4, w5, w6, w7⟩ := id hI.1
  by_cases hx : isw g 0 8 = 0
  · exact Bo.mk0 hI (o_clearN h hx) (fun w fa s hr hs => r_clearN hr hs hx)
  by_cases hp : d_g σ 1 = 0
  · exact Bo.mk0 hI (o_clearC h hx hp) (fun w fa s hr hs => r_clearC hr hs hx hp)
  by_cases ho : sHas (d_g σ 0) (1 <<< ((31 : Int32) &&& 31)) = 0
  · exact Bo.mk0 hI (o_clearO h hx hp ho) (fun w fa s hr hs => r_clearO hr hs hx hp ho)
  exact Bo.mk0 hI.clrs (o_clear h w1 w5 (by omega) hx hp ho) (fun w fa s hr hs => r_clear hr hs hI hx hp ho)
theorem b_parent (h : CR G R ws o ad σ) (hI : Iv σ) (x y : Int32) : Bo G d R q ws o m aa σ m_TM_parent m_Rf_parent [.int x, .int y] := by
  obtain ⟨w1, w2, w3, w4, w5, w6, w7⟩ := id hI.1
  rcases c_num x w1 with ⟨i, hi, rfl⟩ | hx
  · rcases c_num y w1 with ⟨j, hj, rfl⟩ | hy
    · by_cases hij : i = j
      · subst hij
        exact Bo.mk0 hI (o_parentE h w1 hi) (fun w fa s hr hs => r_parentE hr hs hi)
      by_cases hp : d_g σ 1 = 0
      · exact Bo.mk0 hI (o_parentC h w1 hi hj hij hp) (fun w fa s hr hs => r_parentC hr hs hi hj hij hp)
      by_cases hb : belF (d_p σ) i 200 (d_p σ j) = 0
      · exact Bo.mk0 (hI.par hj hij hb) (o_parent h w1 hi hj w2 hij hp hb) (fun w fa s hr hs => r_parent hr hs hI.2.1 hi hj hij hp hb)
      · exact Bo.mk0 hI (o_parentB h w1 hi hj w2 hij hp hb) (fun w fa s hr hs => r_parentB hr hs hI.2.1 hi hj hij hp hb)
    · by_cases h0 : y = 0
      · subst h0
        by_cases hp : d_g σ 1 = 0
        · exact Bo.mk0 hI (o_parent0C h w1 hi hp) (fun w fa s hr hs => r_parent0C hr hs hi hp)
        · exact Bo.mk0 hI.par0 (o_parent0 h w1 hi w2 hp) (fun w fa s hr hs => r_parent0 hr hs hi hp)
      · exact Bo.mk0 hI (o_parentSN h w1 hi hy h0) (fun w fa s hr hs => r_parentSN hr hs hi hy h0)
  · rcases c_num y w1 with ⟨j, hj, rfl⟩ | hy
    · exact Bo.mk0 hI (o_parentNS h hx w1 hj) (fun w fa s hr hs => r_parentN hr hs hx)
    · exact Bo.mk0 hI (o_parentNN h hx hy) (fun w fa s hr hs => r_parentN hr hs hx)
theorem b_enable (h : CR G R ws o ad σ) (hI : Iv σ) (x y : Int32) : Bo G d R q ws o m aa σ m_TM_enable m_Rf_enable [.int x, .int y] := by
  by_cases hx : isw x 0 31 = 0
  · exact Bo.mk0 hI (o_enableN h hx) (fun w fa s hr hs => r_enableN hr hs hx)
  by_cases hp : d_g σ 1 = 0
  · exact Bo.mk0 hI (o_enableC h hx hp) (fun w fa s hr hs => r_enableC hr hs hx hp)
  by_cases hy : y = 0
  · exact Bo.mk0 (hI.G _) (o_enable0 h hx hp hy) (fun w fa s hr hs => r_enable0 hr hs hx hp hy)
  · exact Bo.mk0 (hI.G _) (o_enable1 h hx hp hy) (fun w fa s hr hs => r_enable1 hr hs hx hp hy)
theorem b_lamp (h : CR G R ws o ad σ) (hI : Iv σ) (x : Int32) : Bo G d R q ws o m aa σ m_TM_lamp m_Rf_lamp [.int x] := by
  have hn := hI.1.1
  by_cases hx : isw x 0 3 = 0
  · exact Bo.mk0 hI (o_lampO h (isw0 hx)) (fun w fa s hr hs => r_lampO hr hs (isw0 hx))
  obtain ⟨k, hk, rfl⟩ := isw_nat (n := 3) (by decide) hx
  rcases (show k = 0 ∨ k = 1 ∨ k = 2 ∨ k = 3 by omega) with rfl | rfl | rfl | rfl
  · exact Bo.mk0 hI (o_lamp0 h hn) (fun w fa s hr hs => r_lamp0 hr hs)
  · exact Bo.mk0 hI (o_lamp1 h hn) (fun w fa s hr hs => r_lamp1 hr hs)
  · exact Bo.mk0 hI (o_lamp2 h hn) (fun w fa s hr hs => r_lamp2 hr hs)
  · exact Bo.mk0 hI (o_lamp3 h hn) (fun w fa s hr hs => r_lamp3 hr hs)
theorem b_stored (h : CR G R ws o ad σ) (hI : Iv σ) (hq : q < 100000) (x y : Int32) : Bo G d R q ws o m aa σ m_TM_stored m_Rf_stored [.int x, .int y] := by
  obtain ⟨w1, w2, w3, w4, w5, w6, w7⟩ := id hI.1
  by_cases hxy : x = -1 ∧ y = 0
  · obtain ⟨rfl, rfl⟩ := hxy
    exact Bo.mk0 hI (o_storedA h) (fun w fa s hr hs => r_storedA hr hs hq w5 w3)
  by_cases hx : x < 0 ∨ nI (e_c σ).length ≤ x
  · exact Bo.mk0 hI (o_storedN h w4 hxy hx) (fun w fa s hr hs => r_storedN hr hs hq w5 w3 hxy hx)
  obtain ⟨k, hk, rfl⟩ := z_nat (x := x) (fun z => hx (Or.inl z))
  have hkl : k < (e_c σ).length := Nat.lt_of_not_le (fun z => hx (Or.inr (by rw [nI_leI (by omega) hk]; exact z)))
  have hkd : k < (d_e σ).length := by rw [List.length_map] at hkl; exact hkl
  have hke : (d_e σ)[k]? = some ((d_e σ)[k]'hkd) := List.getElem?_eq_getElem hkd
  by_cases hy : isw y 0 2 = 0
  · exact Bo.mk0 hI (o_storedX h w4 hke (isw0 hy)) (fun w fa s hr hs => r_storedX hr hs hq w5 w3 hke (isw0 hy))
  obtain ⟨a, ha, rfl⟩ := isw_nat (n := 2) (by decide) hy
  rcases (show a = 0 ∨ a = 1 ∨ a = 2 by omega) with rfl | rfl | rfl
  · exact Bo.mk0 hI (o_stored0 h w4 w3 hke) (fun w fa s hr hs => r_stored0 hr hs hq w5 w3 hke)
  · exact Bo.mk0 hI (o_stored1 h w4 w3 hke) (fun w fa s hr hs => r_stored1 hr hs hq w5 w3 hke)
  · exact Bo.mk0 hI (o_stored2 h w4 w3 hke) (fun w fa s hr hs => r_stored2 hr hs hq w5 w3 hke)
theorem b_cut (h : CR G R ws o ad σ) (hI : Iv σ) (hq : q < 100000) : Bo G d R q ws o m aa σ m_TM_cut m_Rf_cut [] := by
  obtain ⟨w1, w2, w3, w4, w5, w6, w7⟩ := id hI.1
  by_cases hp : d_g σ 1 = 0
  · exact Bo.mk0 hI (o_cutC h hp) (fun w fa s hr hs => r_cutC hr hs hp)
  · exact Bo.mk0 (hI.G _) (o_cut h hp) (fun w fa s hr hs => r_cut hr hs hq w5 w3 hp)
theorem b_start (h : CR G R ws o ad σ) (hI : Iv σ) (hq : q < 100000) : Bo G d R q ws o m aa σ m_TM_start m_Rf_start [] := by
  obtain ⟨w1, w2, w3, w4, w5, w6, w7⟩ := id hI.1
  by_cases hp : d_g σ 1 = 0
  · exact Bo.mk0 hI.start (o_start h w1 hp) (fun w fa s hr hs => r_start hr hs hq w5 w3 hp)
  · exact Bo.mk0 hI (o_startC h hp) (fun w fa s hr hs => r_startC hr hs hp)
theorem b_displaced (h : CR G R ws o ad σ) (hI : Iv σ) (x : Int32) : Bo G d R q ws o m aa σ m_TM_displaced m_Rf_displaced [.int x] := by
  obtain ⟨w1, w2, w3, w4, w5, w6, w7⟩ := id hI.1
  by_cases hx : x < 0 ∨ nI (d_d σ).length ≤ x
  · exact Bo.mk0 hI (o_displacedN h w7 hx) (fun w fa s hr hs => r_displacedN hr hs hx)
  obtain ⟨k, hk, rfl⟩ := z_nat (x := x) (fun z => hx (Or.inl z))
  have hkl : k < (d_d σ).length := Nat.lt_of_not_le (fun z => hx (Or.inr (by rw [nI_leI (by omega) hk]; exact z)))
  have hke : (d_d σ)[k]? = some ((d_d σ)[k]'hkl) := List.getElem?_eq_getElem hkl
  exact Bo.mk0 hI (o_displaced h w7 hke (w6 _ (List.mem_of_getElem? hke))) (fun w fa s hr hs => r_displaced hr hs w7 hke)
end BOTH
