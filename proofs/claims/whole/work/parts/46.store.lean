/-! THE REFERENCE: shoot, store -/
section RHW
variable {G : px_G} {M : px_M} {pc nx d bc bs : Nat} {tg : List Nat} {z : Int32} {lv : List (Nat × Value)} {st : List Value} {ws ws0 : va_W} {Q : Option Value → va_W → Prop}
variable {R : Int32} {q m : Nat} {aa : Nat → Nat} {fa : Nat → Nat → Int32} {s : Nat → Int32}
theorem p_hst {k n i : Nat} {j x y : Int32} (ha : px_at M pc = some (.iastore, nx, tg, z)) (hr : RH G ws m aa fa s) (h0 : px_kp Kc ws0 ws) (hk : k < 18) (hc : ∀ f, rcell G k f = oIA G n f) (hz : ¬ (k = 5 ∨ k = 9 ∨ k = 17)) (hx : x = y) (hj : j = nI i) (hi : i < n) (hn : n < 2 ^ 31) (kk : ∀ ws, RH G ws m aa (upF fa k i y) s → px_kp Kc ws0 ws → px G M nx lv st ws d bc bs Q) : px G M pc lv (.int x :: .int j :: .ref (aa k) :: st) ws d bc bs Q := by
  have hcl := hr.2.1 k hk
  have hp := hr.put (k := k) (i := i) (v := y) hk (fun w => absurd w hz)
  have hkp := hr.kp (k := k) (e := rcell G k (upd (fa k) i y)) hk
  rw [hc] at hcl hp hkp
  subst hx
  exact p_iastS ha hcl hj hi hn (kk _ hp (h0.tr hkp))
theorem p_hld {k n i : Nat} {j x : Int32} (ha : px_at M pc = some (.iaload, nx, tg, z)) (hr : RH G ws m aa fa s) (hk : k < 18) (hc : ∀ f, rcell G k f = oIA G n f) (hx : fa k i = x) (hj : j = nI i) (hi : i < n) (hn : n < 2 ^ 31) (kk : px G M nx lv (.int x :: st) ws d bc bs Q) : px G M pc lv (.int j :: .ref (aa k) :: st) ws d bc bs Q := by
  have hcl := hr.2.1 k hk
  rw [hc] at hcl
  subst hx
  exact p_ialdS ha hcl hj hi hn kk
theorem p_hput {idx kf k : Nat} {x y : Int32} {ty : FieldType} (ha : px_at M pc = some (.putfield idx, nx, tg, z)) (hF : px_Fp (px_y M).cls idx 7 kf ty) (hr : RH G ws m aa fa s) (h0 : px_kp Kc ws0 ws) (hx : x = y) (hn : narrow ty (.int y) = .int y) (hf : fits ty (.int y) = true) (hkl : kf < 26) (hset : (oRl aa s).set kf (.int y) = oRl aa (upS s k y)) (kk : ∀ ws, RH G ws m aa fa (upS s k y) → px_kp Kc ws0 ws → px G M nx lv st ws d bc bs Q) : px G M pc lv (.int x :: .ref m :: st) ws d bc bs Q := by
  subst hx
  refine p_put (fs := oRl aa s) ha hF hr.1 hn hf hkl ?_
  rw [hset]
  exact kk _ (hr.sc (upS s k x)) (h0.tr hr.kps)
theorem r_manyV (hr : RH G ws m aa fa s) {n : Nat} (hn : n ≤ 200) (hs : s 2 = nI n) {v : Int32} (hv : nI (cnR (fun c => fa 5 (8 * c + 0)) n) = v) : px G m_Rf_many 0 (lv_args 0 [.ref m, .int (nI 0)]) [] ws (d + 1) 0 0 (fun v2 w => v2 = some (.int v) ∧ w = ws) := by
  subst hv
  exact r_many hr (b := 0) (by decide) hn hs
end RHW
def shF (fa : Nat → Nat → Int32) (p : Nat) (F : Sn4) : Nat → Nat → Int32 := upF (upF (upF (upF fa 15 p F.1) 15 (p + 1) F.2.1) 15 (p + 2) F.2.2.1) 15 (p + 3) F.2.2.2
theorem shF_ne {fa : Nat → Nat → Int32} {p : Nat} {F : Sn4} {k : Nat} (h : k ≠ 15) : shF fa p F k = fa k := by
  unfold shF
  rw [upF_ne h, upF_ne h, upF_ne h, upF_ne h]
theorem shF_in {fa : Nat → Nat → Int32} {p : Nat} {F : Sn4} {j : Nat} (h : j < 4) : shF fa p F 15 (p + j) = snK F j := by
  unfold shF
  rw [upF_at, upF_at, upF_at, upF_at]
  rcases (show j = 0 ∨ j = 1 ∨ j = 2 ∨ j = 3 by omega) with rfl | rfl | rfl | rfl
  · rw [if_neg (by omega), if_neg (by omega), if_neg (by omega), if_pos (by omega)]; rfl
  · rw [if_neg (by omega), if_neg (by omega), if_pos (by omega)]; rfl
  · rw [if_neg (by omega), if_pos (by omega)]; rfl
  · rw [if_pos (by omega)]; rfl
theorem shF_out {fa : Nat → Nat → Int32} {p : Nat} {F : Sn4} {j : Nat} (h : j < p ∨ p + 4 ≤ j) : shF fa p F 15 j = fa 15 j := by
  unfold shF
  rw [upF_at, upF_at, upF_at, upF_at, if_neg (by omega), if_neg (by omega), if_neg (by omega), if_neg (by omega)]
set_option maxHeartbeats 4000000 in
theorem r_shoot {G : px_G} {ws0 : va_W} {d m : Nat} {aa : Nat → Nat} {ws : va_W} {fa : Nat → Nat → Int32} {s : Nat → Int32} (hr : RH G ws m aa fa s) (hk : px_kp Kc ws0 ws) {c w n : Nat} (hc : c ≤ 200) (hw : w ≤ 1) (hn : n ≤ 200) (hs2 : s 2 = nI n) {F : Sn4} (h6 : s 6 = F.1) (h7 : s 7 = F.2.1) (h2 : nI (cnR (fun c => fa 5 (8 * c + 0)) n) = F.2.2.1) (h3 : fa 1 c = F.2.2.2) : px G m_Rf_shoot 0 (lv_args 0 [.ref m, .int (nI c), .int (nI w)]) [] ws (d + 2) 0 0 (fun v w2 => v = none ∧ RH G w2 m aa (shF fa (8 * c + 4 * w) F) s ∧ px_kp Kc ws0 w2) := by
  have hat : (8 : Int32) * nI c + 4 * nI w = nI (8 * c + 4 * w) := by rw [show (8 : Int32) = nI 8 from rfl, show (4 : Int32) = nI 4 from rfl, pk_mul, pk_mul, nI_add]
  refine p_s rfl rfl ?_
  refine p_s rfl rfl ?_
  refine p_s rfl rfl ?_
  refine p_s rfl rfl ?_
  refine p_s rfl rfl ?_
  refine p_s rfl rfl ?_
  refine p_s rfl rfl ?_
  refine p_s rfl rfl ?_
  refine p_s rfl rfl ?_
  refine p_get rfl f_Rf_56 hr.1 rfl ?_
  refine p_s rfl rfl ?_
  refine p_s rfl rfl ?_
  refine p_get rfl f_Rf_95 hr.1 rfl ?_
  refine p_hst (k := 15) (n := 1608) rfl hr hk (by decide) (fun _ => rfl) (by decide) h6 hat (show 8 * c + 4 * w < 1608 by omega) (by decide) (fun ws hr hk => ?_)
  refine p_s rfl rfl ?_
  refine p_get rfl f_Rf_56 hr.1 rfl ?_
  refine p_s rfl rfl ?_
  refine p_s rfl rfl ?_
  refine p_s rfl rfl ?_
  refine p_s rfl rfl ?_
  refine p_get rfl f_Rf_98 hr.1 rfl ?_
  refine p_hst (k := 15) (n := 1608) rfl hr hk (by decide) (fun _ => rfl) (by decide) h7 ((congrArg (· + 1) hat).trans (nI_1 _)) (show 8 * c + 4 * w + 1 < 1608 by omega) (by decide) (fun ws hr hk => ?_)
  refine p_s rfl rfl ?_
  refine p_get rfl f_Rf_56 hr.1 rfl ?_
  refine p_s rfl rfl ?_
  refine p_s rfl rfl ?_
  refine p_s rfl rfl ?_
  refine p_s rfl rfl ?_
  refine p_s rfl rfl ?_
  refine p_callV rfl c_Rf_101 rfl hr.1 g_Rf_many rfl rfl rfl (p_le (by omega) (Nat.le_refl _) (Nat.le_refl _) (r_manyV (d := d) (v := F.2.2.1) hr hn hs2 h2)) (fun v w hq => ?_)
  obtain ⟨rfl, hw9⟩ := hq
  have hw9 := hw9.symm
  subst hw9
  refine p_hst (k := 15) (n := 1608) rfl hr hk (by decide) (fun _ => rfl) (by decide) rfl ((congrArg (· + 2) hat).trans (nI_add _ 2)) (show 8 * c + 4 * w + 2 < 1608 by omega) (by decide) (fun ws hr hk => ?_)
  refine p_s rfl rfl ?_
  refine p_get rfl f_Rf_56 hr.1 rfl ?_
  refine p_s rfl rfl ?_
  refine p_s rfl rfl ?_
  refine p_s rfl rfl ?_
  refine p_s rfl rfl ?_
  refine p_get rfl f_Rf_13 hr.1 rfl ?_
  refine p_s rfl rfl ?_
  refine p_hld (k := 1) (n := 201) rfl hr (by decide) (fun _ => rfl) h3 rfl (by omega) (by decide) ?_
  refine p_hst (k := 15) (n := 1608) rfl hr hk (by decide) (fun _ => rfl) (by decide) rfl ((congrArg (· + 3) hat).trans (nI_add _ 3)) (show 8 * c + 4 * w + 3 < 1608 by omega) (by decide) (fun ws hr hk => ?_)
  exact p_vret rfl rfl ⟨rfl, hr, hk⟩
def upN (N : Nat → Nat) (x v : Nat) : Nat → Nat := fun i => if i = x then v else N i
theorem upN_s {N : Nat → Nat} {x v i : Nat} (h : i = x) : upN N x v i = v := if_pos h
theorem upN_n {N : Nat → Nat} {x v i : Nat} (h : ¬ i = x) : upN N x v i = N i := if_neg h
section RSM
variable {R : Int32} {q q2 : Nat} {fa fa2 : Nat → Nat → Int32} {s s2 : Nat → Int32} {σ : Md}
/-- only the memory has changed -/
theorem RS.mem (h : RS R q fa s σ) {es : List En4} {ds : List Nat} (hf : ∀ k, k ≠ 13 → k ≠ 14 → k ≠ 15 → k ≠ 16 → fa2 k = fa k) (hs : ∀ k, k ≠ 3 → k ≠ 4 → s2 k = s k) (he : RSe q2 fa2 s2 es) (hd : RSd fa2 s2 ds) : RS R q2 fa2 s2 (d_n σ, d_A σ, d_p σ, es, ds, d_g σ) := by
  obtain ⟨h0, ha, hb, hr, hp, -, -, ho, hsc⟩ := h
  refine ⟨h0, fun c hc j hj => ?_, fun j hj b hb2 => ?_, hr, ?_, he, hd, ?_, ?_⟩
  · rw [hf c (by omega) (by omega) (by omega) (by omega)]
    exact ha c hc j hj
  · rw [hf 5 (by omega) (by omega) (by omega) (by omega), hf 9 (by omega) (by omega) (by omega) (by omega)]
    exact hb j hj b hb2
  · unfold RSp
    rw [hf 3 (by omega) (by omega) (by omega) (by omega)]
    exact hp
  · unfold RSo
    rw [hf 17 (by omega) (by omega) (by omega) (by omega)]
    exact ho
  · unfold RSs
    rw [hs 1 (by omega) (by omega), hs 2 (by omega) (by omega), hs 5 (by omega) (by omega), hs 6 (by omega) (by omega), hs 7 (by omega) (by omega)]
    exact hsc
theorem RS.dd (h : RS R q fa s σ) : RSd fa s (d_d σ) := h.2.2.2.2.2.2.1
theorem RS.mono (h : RS R q fa s σ) (hq : q ≤ q2) : RS R q2 fa s σ := by
  obtain ⟨N, la, a1, a2, a3⟩ := h.st
  exact h.mem (fun _ _ _ _ _ => rfl) (fun _ _ _ => rfl) ⟨N, la, a1, by omega, a3⟩ h.dd
theorem pw_cong {N N2 : Nat → Nat} : ∀ l : List Nat, (∀ x ∈ l, N2 x = N x) → l.Pairwise (fun a b => N a < N b) → l.Pairwise (fun a b => N2 a < N2 b)
  | [], _, _ => List.Pairwise.nil
  | x :: t, h, hp => by
    obtain ⟨h1, h2⟩ := List.pairwise_cons.mp hp
    refine List.pairwise_cons.mpr ⟨fun b hb => ?_, pw_cong t (fun y hy => h y (List.mem_cons_of_mem _ hy)) h2⟩
    rw [h x List.mem_cons_self, h b (List.mem_cons_of_mem _ hb)]
    exact h1 b hb
theorem RS.drp (h : RS R q fa s σ) {x : Nat} (hx : x < 200) : RS R q (upF fa 13 (x + 1) 0) s (stE σ (dropE (d_e σ) x)) := by
  obtain ⟨N, la, a1, a2, a3, a4, a5⟩ := h.st
  refine h.mem (fun k h1 _ _ _ => upF_ne h1) (fun _ _ _ => rfl) ⟨upN N x 0, la, a1, a2, fun i hi => ?_, ?_, fun y hy => ?_⟩ ?_
  · obtain ⟨b1, b2, b3⟩ := a3 i hi
    rw [upF_at]
    by_cases hix : i = x
    · rw [if_pos (by omega), upN_s hix]
      exact ⟨rfl, Nat.zero_le _, fun _ z => (dropE_codes.mp z).2 hix, fun _ => rfl⟩
    · rw [if_neg (by omega), upN_n hix]
      refine ⟨b1, b2, fun z w => b3.mp z (dropE_codes.mp w).1, fun z => b3.mpr (fun w => z (dropE_codes.mpr ⟨w, hix⟩))⟩
  · refine pw_cong _ (fun y hy => upN_n (dropE_codes.mp hy).2) ?_
    unfold dropE
    exact List.Pairwise.sublist (List.Sublist.map _ List.filter_sublist) a4
  · have hy2 := dropE_mem.mp hy
    rw [upF_ne (c := 14) (by omega), upF_ne (c := 15) (by omega)]
    exact a5 y hy2.1
  · unfold RSd
    rw [upF_ne (c := 16) (by omega)]
    exact h.dd
theorem RS.dsp (h : RS R q fa s σ) {x : Nat} : RS R q (upF fa 16 (d_d σ).length (nI (x + 1))) (upS s 4 (nI ((d_d σ).length + 1))) (stD σ (d_d σ ++ [x])) := by
  obtain ⟨N, la, a1, a2, a3, a4, a5⟩ := h.st
  refine h.mem (fun k _ _ _ h1 => upF_ne h1) (fun k _ h1 => if_neg h1) ⟨N, la, a1, a2, ?_, a4, ?_⟩ ⟨?_, fun k c hk => ?_⟩
  · rw [upF_ne (c := 13) (by omega)]
    exact a3
  · rw [upF_ne (c := 14) (by omega), upF_ne (c := 15) (by omega)]
    exact a5
  · rw [List.length_append]
    rfl
  · rw [upF_at]
    by_cases hl : k = (d_d σ).length
    · rw [if_pos hl]
      rw [hl, List.getElem?_append_right (Nat.le_refl _), Nat.sub_self] at hk
      cases hk
      rfl
    · rw [if_neg hl]
      have hkl : k < (d_d σ).length := by
        have := (List.getElem?_eq_some_iff.mp hk).1
        rw [List.length_append, List.length_singleton] at this
        omega
      rw [List.getElem?_append_left hkl] at hk
      exact h.dd.2 k c hk
theorem RS.new (h : RS R q fa s σ) {i la : Nat} {F : Sn4} (hi : i < 200) (hm : i ∉ e_c σ) (hen : ∀ x ∈ e_c σ, x < d_n σ) (hla : s 3 = nI la) (hq : q < 100000) : RS R (q + 1) (shF (shF (upF (upF fa 13 (i + 1) (nI (la + 1))) 14 (i + 1) 1) (8 * (i + 1) + 4 * 0) F) (8 * (i + 1) + 4 * 1) F) (upS s 3 (nI (la + 1))) (stE σ (d_e σ ++ [(i, 1, F, F)])) := by
  obtain ⟨N, l2, a1, a2, a3, a4, a5⟩ := h.st
  have hlb : la < 2 ^ 31 → l2 = la := fun hl => by
    rw [hla, nI_eq hl (by omega)] at a1
    exact a1.symm
  have e13 : ∀ j, shF (shF (upF (upF fa 13 (i + 1) (nI (la + 1))) 14 (i + 1) 1) (8 * (i + 1) + 4 * 0) F) (8 * (i + 1) + 4 * 1) F 13 j = if j = i + 1 then nI (la + 1) else fa 13 j := fun j => by rw [shF_ne (by omega), shF_ne (by omega), upF_ne (c := 13) (k := 14) (by omega), upF_at]
  have e14 : ∀ j, shF (shF (upF (upF fa 13 (i + 1) (nI (la + 1))) 14 (i + 1) 1) (8 * (i + 1) + 4 * 0) F) (8 * (i + 1) + 4 * 1) F 14 j = if j = i + 1 then 1 else fa 14 j := fun j => by rw [shF_ne (by omega), shF_ne (by omega), upF_at, upF_ne (c := 14) (k := 13) (by omega)]
  have hnl : nI (la + 1) = nI (l2 + 1) := by rw [← nI_1, ← nI_1, ← hla, a1]
  refine h.mem (fun k h1 h2 h3 h4 => by rw [shF_ne h3, shF_ne h3, upF_ne h2, upF_ne h1]) (fun k h1 _ => if_neg h1) ⟨upN N i (l2 + 1), l2 + 1, hnl, by omega, fun j hj => ?_, ?_, fun x hx => ?_⟩ ?_
  · obtain ⟨b1, b2, b3⟩ := a3 j hj
    rw [e13, List.map_append]
    by_cases hji : j = i
    · rw [if_pos (by omega), upN_s hji]
      exact ⟨hnl, Nat.le_refl _, fun z => by omega, fun z => absurd (List.mem_append_right _ (by rw [hji]; exact List.mem_cons_self)) z⟩
    · rw [if_neg (by omega), upN_n hji]
      refine ⟨b1, by omega, fun z w => ?_, fun z => b3.mpr (fun w => z (List.mem_append_left _ w))⟩
      rcases List.mem_append.mp w with w | w
      · exact b3.mp z w
      · exact hji (List.mem_singleton.mp w)
  · rw [List.map_append]
    refine List.pairwise_append.mpr ⟨pw_cong _ (fun x hx => upN_n (fun z => hm (z ▸ hx))) a4, List.pairwise_singleton _ _, fun a ha b hb => ?_⟩
    rw [List.mem_singleton.mp hb, upN_s rfl, upN_n (fun z : a = i => hm (z ▸ ha))]
    have h200 := hen a ha
    have h201 := h.1
    have := (a3 a (by omega)).2.1
    omega
  · rw [e14]
    rcases List.mem_append.mp hx with hx | hx
    · have hxi : x.1 ≠ i := fun z => hm (List.mem_map.mpr ⟨x, hx, z⟩)
      rw [if_neg (by omega)]
      obtain ⟨b1, b2⟩ := a5 x hx
      refine ⟨b1, fun j hj => ?_⟩
      rw [shF_out (by omega), shF_out (by omega), shF_out (by omega), shF_out (by omega), upF_ne (c := 15) (by omega), upF_ne (c := 15) (by omega)]
      exact b2 j hj
    · rw [List.mem_singleton.mp hx, if_pos rfl]
      refine ⟨rfl, fun j hj => ⟨?_, ?_⟩⟩
      · rw [shF_out (by omega), show 8 * (i + 1) + j = 8 * (i + 1) + 4 * 0 + j by omega, shF_in hj]
      · rw [show 8 * (i + 1) + 4 + j = 8 * (i + 1) + 4 * 1 + j by omega, shF_in hj]
  · unfold RSd
    rw [shF_ne (by omega), shF_ne (by omega), upF_ne (c := 16) (by omega), upF_ne (c := 16) (by omega)]
    exact h.dd
theorem RS.hap (h : RS R q fa s σ) {i : Nat} {F : Sn4} : RS R q (shF (upF fa 14 (i + 1) (mn255 (fa 14 (i + 1) + 1))) (8 * (i + 1) + 4 * 1) F) s (stE σ (hapE (d_e σ) i F)) := by
  obtain ⟨N, la, a1, a2, a3, a4, a5⟩ := h.st
  refine h.mem (fun k h1 h2 h3 h4 => by rw [shF_ne h3, upF_ne h2]) (fun k _ _ => rfl) ⟨N, la, a1, a2, fun j hj => ?_, ?_, fun x hx => ?_⟩ ?_
  · rw [shF_ne (by omega), upF_ne (c := 13) (by omega), hapE_codes]
    exact a3 j hj
  · rw [hapE_codes]
    exact a4
  · obtain ⟨y, hy, rfl⟩ := List.mem_map.mp hx
    obtain ⟨b1, b2⟩ := a5 y hy
    rw [shF_ne (k := 14) (by omega), upF_at]
    by_cases hyi : y.1 = i
    · rw [if_pos hyi]
      refine ⟨?_, fun j hj => ⟨?_, ?_⟩⟩
      · show (if y.1 + 1 = i + 1 then _ else _) = _
        rw [if_pos (by omega), ← hyi, b1]
      · show shF _ _ _ 15 (8 * (y.1 + 1) + j) = _
        rw [shF_out (by omega), upF_ne (c := 15) (by omega)]
        exact (b2 j hj).1
      · show shF _ _ _ 15 (8 * (y.1 + 1) + 4 + j) = _
        rw [show 8 * (y.1 + 1) + 4 + j = 8 * (i + 1) + 4 * 1 + j by omega, shF_in hj]
    · rw [if_neg hyi, if_neg (by omega)]
      refine ⟨b1, fun j hj => ?_⟩
      rw [shF_out (by omega), shF_out (by omega), upF_ne (c := 15) (by omega)]
      exact b2 j hj
  · unfold RSd
    rw [shF_ne (by omega), upF_ne (c := 16) (by omega)]
    exact h.dd
theorem RS.scn (h : RS R q fa s σ) {i : Nat} : nI (cnR (fun c => fa 5 (8 * c + 0)) (d_n σ)) = (snapOf σ i).2.2.1 := by
  rw [cnR_cntB (A := d_A σ) (b := 0) (d_n σ) (fun i hi => h.b hi (by decide))]
  rfl
theorem RS.up (h : RS R q fa s σ) {i : Nat} (hi : i < d_n σ) : fa 1 (i + 1) = (snapOf σ i).2.2.2 := h.2.1 1 (by decide) i hi
end RSM
theorem hap1 : ∀ k, k ≤ 255 → nI k < 255 → nI k + 1 = mn255 (nI k + 1) := by decide +kernel
theorem hap2 : ∀ k, k ≤ 255 → ¬ nI k < 255 → 255 = mn255 (nI k + 1) := by decide +kernel
set_option maxHeartbeats 4000000 in
theorem r_store_new {G : px_G} {ws0 : va_W} {d m : Nat} {R : Int32} {q : Nat} {aa : Nat → Nat} {ws : va_W} {fa : Nat → Nat → Int32} {s : Nat → Int32} {σ : Md} (hr : RH G ws m aa fa s) (hs : RS R q fa s σ) (hk : px_kp Kc ws0 ws) (hq : q < 100000) {i : Nat} (hi : i < d_n σ) (hm : i ∉ e_c σ) (hen : ∀ x ∈ e_c σ, x < d_n σ) : px G m_Rf_store 107 [(0, .ref m), (1, .int (nI (i + 1)))] [] ws (d + 3) 0 0 (fun v w => v = none ∧ RX G R (q + 1) ws0 w m aa (stE σ (d_e σ ++ [(i, 1, snapOf σ i, snapOf σ i)]))) := by
  have hn := hs.1
  obtain ⟨N, la, hla, -⟩ := hs.st
  refine p_s rfl rfl ?_
  refine p_s rfl rfl ?_
  refine p_get rfl f_Rf_119 hr.1 rfl ?_
  rw [hla]
  refine p_s rfl rfl ?_
  refine p_s rfl rfl ?_
  refine p_hput (k := 3) (y := nI (la + 1)) rfl fp_Rf_119 hr hk (nI_1 la) rfl rfl (by decide) rfl (fun ws hr hk => ?_)
  refine p_s rfl rfl ?_
  refine p_get rfl f_Rf_50 hr.1 rfl ?_
  refine p_s rfl rfl ?_
  refine p_s rfl rfl ?_
  refine p_get rfl f_Rf_119 hr.1 rfl ?_
  refine p_hst (k := 13) (n := 201) rfl hr hk (by decide) (fun _ => rfl) (by decide) rfl rfl (show i + 1 < 201 by omega) (by decide) (fun ws hr hk => ?_)
  refine p_s rfl rfl ?_
  refine p_get rfl f_Rf_53 hr.1 rfl ?_
  refine p_s rfl rfl ?_
  refine p_s rfl rfl ?_
  refine p_hst (k := 14) (n := 201) rfl hr hk (by decide) (fun _ => rfl) (by decide) rfl rfl (show i + 1 < 201 by omega) (by decide) (fun ws hr hk => ?_)
  refine p_s rfl rfl ?_
  refine p_s rfl rfl ?_
  refine p_s rfl rfl ?_
  refine p_callV rfl c_Rf_105 rfl hr.1 g_Rf_shoot rfl rfl rfl (p_le (by omega) (Nat.le_refl _) (Nat.le_refl _) (r_shoot (d := d) (c := i + 1) (w := 0) (n := d_n σ) (F := snapOf σ i) hr hk (by omega) (by decide) hn hs.s2 hs.s6 hs.s7 (hs.scn (i := i)) (hs.up hi))) (fun v w hq => ?_)
  obtain ⟨rfl, hr, hk⟩ := hq
  refine p_s rfl rfl ?_
  refine p_s rfl rfl ?_
  refine p_s rfl rfl ?_
  refine p_callV rfl c_Rf_105 rfl hr.1 g_Rf_shoot rfl rfl rfl (p_le (by omega) (Nat.le_refl _) (Nat.le_refl _) (r_shoot (d := d) (c := i + 1) (w := 1) (n := d_n σ) (F := snapOf σ i) hr hk (by omega) (by decide) hn hs.s2 hs.s6 hs.s7 (hs.scn (i := i)) (hs.up hi))) (fun v w hq => ?_)
  obtain ⟨rfl, hr, hk⟩ := hq
  exact p_vret rfl rfl ⟨rfl, _, _, hr, hs.new (by omega) hm hen hla hq, hk⟩
set_option maxHeartbeats 4000000 in
theorem r_store {G : px_G} {ws0 : va_W} {d m : Nat} {R : Int32} {q : Nat} {aa : Nat → Nat} {ws : va_W} {fa : Nat → Nat → Int32} {s : Nat → Int32} {σ : Md} (hr : RH G ws m aa fa s) (hs : RS R q fa s σ) (hk : px_kp Kc ws0 ws) {pr : Nat → Nat} (hpr : PrOk (d_A σ) pr (d_n σ)) (hW : Wf σ) (hhp : ∀ x ∈ d_e σ, ∃ k, k ≤ 255 ∧ x.2.1 = nI k) (hq : q < 100000) {i : Nat} (hi : i < d_n σ) : px G m_Rf_store 0 (lv_args 0 [.ref m, .int (nI (i + 1))]) [] ws (d + 3) 0 0 (fun v w => v = none ∧ RX G R (q + 1) ws0 w m aa (storeM R σ i (snapOf σ i))) := by
  have hn := hs.1
  obtain ⟨w1, w2, w3, w4, w5, w6, w7⟩ := id hW
  obtain ⟨N, la, a1, a2, a3, a4, a5⟩ := hs.st
  have hNl : ∀ j, j < 200 → N j < 2 ^ 31 := fun j hj => by have := (a3 j hj).2.1; omega
  have hN : ∀ j, j < 200 → fa 13 (j + 1) = nI (N j) ∧ N j < 2 ^ 31 := fun j hj => ⟨(a3 j hj).1, hNl j hj⟩
  by_cases hm : i ∈ e_c σ
  · obtain ⟨x, hx, hxi⟩ := List.mem_map.mp hm
    obtain ⟨k, hk1, hk2⟩ := hhp x hx
    have hx14 : fa 14 (i + 1) = nI k := by rw [← hxi, (a5 x hx).1, hk2]
    have hN0 : 0 < N i := Nat.pos_of_ne_zero (fun z => (a3 i (by omega)).2.2.mp z hm)
    have hs2 := hs.hap (i := i) (F := snapOf σ i)
    rw [hx14] at hs2
    refine p_s rfl rfl ?_
    refine p_get rfl f_Rf_50 hr.1 rfl ?_
    refine p_s rfl rfl ?_
    refine p_ialdS rfl (hr.2.1 13 (by decide)) rfl (show i + 1 < 201 by omega) (by decide) ?_
    rw [(a3 i (by omega)).1]
    refine p_ifF rfl (nI_nle hN0 (hNl i (by omega))) ?_
    refine p_s rfl rfl ?_
    refine p_get rfl f_Rf_53 hr.1 rfl ?_
    refine p_s rfl rfl ?_
    refine p_s rfl rfl ?_
    refine p_get rfl f_Rf_53 hr.1 rfl ?_
    refine p_s rfl rfl ?_
    refine p_hld (k := 14) (n := 201) rfl hr (by decide) (fun _ => rfl) hx14 rfl (show i + 1 < 201 by omega) (by decide) ?_
    refine p_s rfl rfl ?_
    refine p_icmp rfl (fun c => ?_) (fun c => ?_)
    · simp only [px_cmp] at c
      refine p_s rfl rfl ?_
      refine p_hst (k := 14) (n := 201) (y := mn255 (nI k + 1)) rfl hr hk (by decide) (fun _ => rfl) (by decide) (hap2 k hk1 (Int32.not_lt.mpr c)) rfl (show i + 1 < 201 by omega) (by decide) (fun ws hr hk => ?_)
      refine p_s rfl rfl ?_
      refine p_s rfl rfl ?_
      refine p_s rfl rfl ?_
      refine p_callV rfl c_Rf_105 rfl hr.1 g_Rf_shoot rfl rfl rfl (p_le (by omega) (Nat.le_refl _) (Nat.le_refl _) (r_shoot (d := d) (c := i + 1) (w := 1) (n := d_n σ) (F := snapOf σ i) hr hk (by omega) (by decide) hn hs.s2 hs.s6 hs.s7 (hs.scn (i := i)) (hs.up hi))) (fun v w hq => ?_)
      obtain ⟨rfl, hr, hk⟩ := hq
      exact p_vret rfl rfl ⟨rfl, _, _, hr, by rw [storeM, if_pos hm]; exact hs2.mono (by omega), hk⟩
    · simp only [px_ncmp] at c
      refine p_s rfl rfl ?_
      refine p_get rfl f_Rf_53 hr.1 rfl ?_
      refine p_s rfl rfl ?_
      refine p_hld (k := 14) (n := 201) rfl hr (by decide) (fun _ => rfl) hx14 rfl (show i + 1 < 201 by omega) (by decide) ?_
      refine p_s rfl rfl ?_
      refine p_s rfl rfl ?_
      refine p_goto rfl ?_
      refine p_hst (k := 14) (n := 201) (y := mn255 (nI k + 1)) rfl hr hk (by decide) (fun _ => rfl) (by decide) (hap1 k hk1 (Int32.not_le.mp c)) rfl (show i + 1 < 201 by omega) (by decide) (fun ws hr hk => ?_)
      refine p_s rfl rfl ?_
      refine p_s rfl rfl ?_
      refine p_s rfl rfl ?_
      refine p_callV rfl c_Rf_105 rfl hr.1 g_Rf_shoot rfl rfl rfl (p_le (by omega) (Nat.le_refl _) (Nat.le_refl _) (r_shoot (d := d) (c := i + 1) (w := 1) (n := d_n σ) (F := snapOf σ i) hr hk (by omega) (by decide) hn hs.s2 hs.s6 hs.s7 (hs.scn (i := i)) (hs.up hi))) (fun v w hq => ?_)
      obtain ⟨rfl, hr, hk⟩ := hq
      exact p_vret rfl rfl ⟨rfl, _, _, hr, by rw [storeM, if_pos hm]; exact hs2.mono (by omega), hk⟩
  · have hN0 : N i = 0 := (a3 i (by omega)).2.2.mpr hm
    by_cases hroom : nI (e_c σ).length < R
    · skip
      refine p_s rfl rfl ?_
      refine p_get rfl f_Rf_50 hr.1 rfl ?_
      refine p_s rfl rfl ?_
      refine p_ialdS rfl (hr.2.1 13 (by decide)) rfl (show i + 1 < 201 by omega) (by decide) ?_
      rw [(a3 i (by omega)).1]
      refine p_ifT rfl (show nI (N i) ≤ 0 by rw [hN0]; decide) ?_
      refine p_s rfl rfl ?_
      refine p_callV rfl c_Rf_109 rfl hr.1 g_Rf_entries rfl rfl rfl (p_le (by omega) (Nat.le_refl _) (Nat.le_refl _) (r_entriesX (d := d) hr hs hq w5 w3)) (fun v w hq => ?_)
      obtain ⟨rfl, hw9⟩ := hq
      have hw9 := hw9.symm
      subst hw9
      refine p_s rfl rfl ?_
      refine p_get rfl f_Rf_66 hr.1 rfl ?_
      rw [hs.s1]
      refine p_icmpT rfl hroom ?_
      refine p_post (fun v w hq2 => ⟨hq2.1, ?_⟩) (r_store_new hr hs hk hq hi hm w3)
      rw [storeM, if_neg hm, if_pos hroom]
      exact hq2.2
    · have hgo := goR_vic (A := d_A σ) (pr := pr) (N := N) hpr hi a4 w3 (fun j hj => (a3 j (by omega)).2.2)
      rcases hgo with ⟨v1, v2⟩ | ⟨x, v1, v2⟩
      · skip
        refine p_s rfl rfl ?_
        refine p_get rfl f_Rf_50 hr.1 rfl ?_
        refine p_s rfl rfl ?_
        refine p_ialdS rfl (hr.2.1 13 (by decide)) rfl (show i + 1 < 201 by omega) (by decide) ?_
        rw [(a3 i (by omega)).1]
        refine p_ifT rfl (show nI (N i) ≤ 0 by rw [hN0]; decide) ?_
        refine p_s rfl rfl ?_
        refine p_callV rfl c_Rf_109 rfl hr.1 g_Rf_entries rfl rfl rfl (p_le (by omega) (Nat.le_refl _) (Nat.le_refl _) (r_entriesX (d := d) hr hs hq w5 w3)) (fun v w hq => ?_)
        obtain ⟨rfl, hw9⟩ := hq
        have hw9 := hw9.symm
        subst hw9
        refine p_s rfl rfl ?_
        refine p_get rfl f_Rf_66 hr.1 rfl ?_
        rw [hs.s1]
        refine p_icmpF rfl hroom ?_
        refine p_s rfl rfl ?_
        refine p_s rfl rfl ?_
        refine p_callV rfl c_Rf_113 rfl hr.1 g_Rf_goes rfl rfl rfl (p_le (by omega) (Nat.le_refl _) (Nat.le_refl _) (r_goes (d := d) hr hs hN hpr hi)) (fun v w hq => ?_)
        obtain ⟨rfl, hw9⟩ := hq
        have hw9 := hw9.symm
        subst hw9
        rw [v2]
        refine p_s rfl rfl ?_
        refine p_s rfl rfl ?_
        refine p_ifF rfl (show nI 0 = 0 from rfl) ?_
        exact p_vret rfl rfl ⟨rfl, _, _, hr, by rw [storeM, if_neg hm, if_neg hroom, v1]; exact hs.mono (by omega), hk⟩
      · have hxm : x ∈ e_c σ := by
          rcases vicF_mem _ _ _ v1 with z | z
          · cases z
          · exact z
        have hxn := w3 x hxm
        have hm2 : i ∉ (dropE (d_e σ) x).map (fun y => y.1) := fun z => hm (dropE_codes.mp z).1
        have hen2 : ∀ y ∈ (dropE (d_e σ) x).map (fun y => y.1), y < d_n σ := fun y hy => w3 y (dropE_codes.mp hy).1
        have hd4 : s 4 = nI (d_d σ).length := hs.dd.1
        have hs2 := hs.drp (x := x) (by omega)
        have hs3 : RS R q _ _ _ := hs2.dsp (x := x)
        by_cases hl : (d_d σ).length < 500
        · skip
          refine p_s rfl rfl ?_
          refine p_get rfl f_Rf_50 hr.1 rfl ?_
          refine p_s rfl rfl ?_
          refine p_ialdS rfl (hr.2.1 13 (by decide)) rfl (show i + 1 < 201 by omega) (by decide) ?_
          rw [(a3 i (by omega)).1]
          refine p_ifT rfl (show nI (N i) ≤ 0 by rw [hN0]; decide) ?_
          refine p_s rfl rfl ?_
          refine p_callV rfl c_Rf_109 rfl hr.1 g_Rf_entries rfl rfl rfl (p_le (by omega) (Nat.le_refl _) (Nat.le_refl _) (r_entriesX (d := d) hr hs hq w5 w3)) (fun v w hq => ?_)
          obtain ⟨rfl, hw9⟩ := hq
          have hw9 := hw9.symm
          subst hw9
          refine p_s rfl rfl ?_
          refine p_get rfl f_Rf_66 hr.1 rfl ?_
          rw [hs.s1]
          refine p_icmpF rfl hroom ?_
          refine p_s rfl rfl ?_
          refine p_s rfl rfl ?_
          refine p_callV rfl c_Rf_113 rfl hr.1 g_Rf_goes rfl rfl rfl (p_le (by omega) (Nat.le_refl _) (Nat.le_refl _) (r_goes (d := d) hr hs hN hpr hi)) (fun v w hq => ?_)
          obtain ⟨rfl, hw9⟩ := hq
          have hw9 := hw9.symm
          subst hw9
          rw [v2]
          refine p_s rfl rfl ?_
          refine p_s rfl rfl ?_
          refine p_ifT rfl (nI_ne0 (Nat.succ_pos x) (by omega)) ?_
          refine p_s rfl rfl ?_
          refine p_get rfl f_Rf_50 hr.1 rfl ?_
          refine p_s rfl rfl ?_
          refine p_s rfl rfl ?_
          refine p_hst (k := 13) (n := 201) rfl hr hk (by decide) (fun _ => rfl) (by decide) rfl rfl (show x + 1 < 201 by omega) (by decide) (fun ws hr hk => ?_)
          refine p_s rfl rfl ?_
          refine p_get rfl f_Rf_116 hr.1 rfl ?_
          rw [hd4]
          refine p_s rfl rfl ?_
          refine p_icmpF rfl (show ¬ (500 : Int32) ≤ nI (d_d σ).length from nI_ge (b := 500) hl (by decide)) ?_
          refine p_s rfl rfl ?_
          refine p_get rfl f_Rf_59 hr.1 rfl ?_
          refine p_s rfl rfl ?_
          refine p_get rfl f_Rf_116 hr.1 rfl ?_
          rw [hd4]
          refine p_s rfl rfl ?_
          refine p_hst (k := 16) (n := 500) rfl hr hk (by decide) (fun _ => rfl) (by decide) rfl rfl hl (by decide) (fun ws hr hk => ?_)
          refine p_s rfl rfl ?_
          refine p_s rfl rfl ?_
          refine p_get rfl f_Rf_116 hr.1 rfl ?_
          rw [hd4]
          refine p_s rfl rfl ?_
          refine p_s rfl rfl ?_
          refine p_hput (k := 4) (y := nI ((d_d σ).length + 1)) rfl fp_Rf_116 hr hk (nI_1 _) rfl rfl (by decide) rfl (fun ws hr hk => ?_)
          refine p_lv (lv2 := [(0, .ref m), (1, .int (nI (i + 1)))]) (ks := [1, 2]) rfl ?_
          refine p_post (fun v w hq2 => ⟨hq2.1, ?_⟩) (r_store_new (σ := stE (stD σ (dspA (d_d σ) x)) (dropE (d_e σ) x)) hr (by rw [show dspA (d_d σ) x = d_d σ ++ [x] from if_pos hl]; exact hs3) hk hq hi hm2 hen2)
          rw [storeM, if_neg hm, if_neg hroom, v1]
          exact hq2.2
        · skip
          refine p_s rfl rfl ?_
          refine p_get rfl f_Rf_50 hr.1 rfl ?_
          refine p_s rfl rfl ?_
          refine p_ialdS rfl (hr.2.1 13 (by decide)) rfl (show i + 1 < 201 by omega) (by decide) ?_
          rw [(a3 i (by omega)).1]
          refine p_ifT rfl (show nI (N i) ≤ 0 by rw [hN0]; decide) ?_
          refine p_s rfl rfl ?_
          refine p_callV rfl c_Rf_109 rfl hr.1 g_Rf_entries rfl rfl rfl (p_le (by omega) (Nat.le_refl _) (Nat.le_refl _) (r_entriesX (d := d) hr hs hq w5 w3)) (fun v w hq => ?_)
          obtain ⟨rfl, hw9⟩ := hq
          have hw9 := hw9.symm
          subst hw9
          refine p_s rfl rfl ?_
          refine p_get rfl f_Rf_66 hr.1 rfl ?_
          rw [hs.s1]
          refine p_icmpF rfl hroom ?_
          refine p_s rfl rfl ?_
          refine p_s rfl rfl ?_
          refine p_callV rfl c_Rf_113 rfl hr.1 g_Rf_goes rfl rfl rfl (p_le (by omega) (Nat.le_refl _) (Nat.le_refl _) (r_goes (d := d) hr hs hN hpr hi)) (fun v w hq => ?_)
          obtain ⟨rfl, hw9⟩ := hq
          have hw9 := hw9.symm
          subst hw9
          rw [v2]
          refine p_s rfl rfl ?_
          refine p_s rfl rfl ?_
          refine p_ifT rfl (nI_ne0 (Nat.succ_pos x) (by omega)) ?_
          refine p_s rfl rfl ?_
          refine p_get rfl f_Rf_50 hr.1 rfl ?_
          refine p_s rfl rfl ?_
          refine p_s rfl rfl ?_
          refine p_hst (k := 13) (n := 201) rfl hr hk (by decide) (fun _ => rfl) (by decide) rfl rfl (show x + 1 < 201 by omega) (by decide) (fun ws hr hk => ?_)
          refine p_s rfl rfl ?_
          refine p_get rfl f_Rf_116 hr.1 rfl ?_
          rw [hd4]
          refine p_s rfl rfl ?_
          refine p_icmpT rfl (show (500 : Int32) ≤ nI (d_d σ).length from nI_le (a := 500) (by omega) (by omega)) ?_
          refine p_lv (lv2 := [(0, .ref m), (1, .int (nI (i + 1)))]) (ks := [1, 2]) rfl ?_
          refine p_post (fun v w hq2 => ⟨hq2.1, ?_⟩) (r_store_new (σ := stE (stD σ (dspA (d_d σ) x)) (dropE (d_e σ) x)) hr (by rw [show dspA (d_d σ) x = d_d σ from if_neg hl]; exact hs2) hk hq hi hm2 hen2)
          rw [storeM, if_neg hm, if_neg hroom, v1]
          exact hq2.2
