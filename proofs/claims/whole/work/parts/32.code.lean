/-! THE CLASS: code, the constructor -/
def newA (A : Nat → Nat → Int32) (n : Nat) (p u v : Int32) : Nat → Nat → Int32 := fun k j => if j = n then (if k = 0 then p else if k = 1 then u else if k = 2 then v else if k = 3 then 80 else if k = 7 then 80 else 0) else A k j
abbrev codeM (σ : Md) (p u v : Int32) : Md := (d_n σ + 1, newA (d_A σ) (d_n σ) p u v, (fun j => if j = d_n σ then 0 else d_p σ j), d_e σ, d_d σ, d_g σ)
abbrev adC (ad : Nat → Nat → Nat) (n a na ka a1 : Nat) : Nat → Nat → Nat := up6 (upA (upA (upA ad 0 n a) 1 n na) 2 n ka) 2 a1
theorem newA_ne {A : Nat → Nat → Int32} {n k j : Nat} {p u v : Int32} (h : j ≠ n) : newA A n p u v k j = A k j := if_neg h
/-- a code more: its cells stand, and the list of codes has taken it in -/
theorem CR.newCode {G : px_G} {R : Int32} {ws w w2 : va_W} {o : Nat} {ad : Nat → Nat → Nat} {σ : Md} (h : CR G R ws o ad σ) (hen : ∀ x ∈ e_c σ, x < d_n σ) (hdn : ∀ x ∈ d_d σ, x < d_n σ) (hpp : ∀ q, q < d_n σ → d_p σ q ≤ d_n σ) {a na ka a1 : Nat} {p u v : Int32} (hf : px_fr (fun _ => False) ws w) (hfa : px_lk ws a = none) (hfn : px_lk ws na = none) (hfk : px_lk ws ka = none) (hnk : ka ≠ na)
    (ha : px_lk w a = some (oCd (nI (d_n σ + 1)) p u v na ka 0 none none)) (hna : px_lk w na = some (oSg 80 0 0 0)) (hka : px_lk w ka = some (oSg 80 0 0 0)) (hw : WFs G w) (hl : LSA G w2 (ad 6 1) a1 ((List.range (d_n σ)).map (ad 0) ++ [a])) (ha1 : a1 = ad 6 2 ∨ px_lk w a1 = none) (hf2 : px_fr (lsS (ad 6 1) (ad 6 2)) w w2) : CR G R w2 o (adC ad (d_n σ) a na ka a1) (codeM σ p u v) := by
  have K0 : ∀ {b : Nat} {x : va_E}, px_lk ws b = some x → px_lk w b = some x := fun hb => hf _ _ (fun z => z) hb
  obtain ⟨h1, h2, ⟨l1, l2, l3⟩, ⟨⟨s1, s2, s3⟩, ⟨p1, p2, p3⟩, j0, j1, j2, j12, s7⟩, h5, h6⟩ := h
  have l1w := l1.fr hf (fun z => z) (fun z => z)
  have l2w := l2.fr hf (fun z => z) (fun z => z)
  have l3w := l3.fr hf (fun z => z) (fun z => z)
  have hS : ∀ b x, px_lk w b = some x → ¬ px_kd x = 6 → ¬ px_kd x = 1001 → px_lk w2 b = some x := fun b x hb h6 h7 => hf2 b x (lsS_nk hw l1w hb h6 h7) hb
  have K : ∀ {b : Nat} {x : va_E}, px_lk ws b = some x → ¬ px_kd x = 6 → ¬ px_kd x = 1001 → px_lk w2 b = some x := fun hb h6 h7 => hS _ _ (K0 hb) h6 h7
  have hap : ∀ {L ar : Nat} {xs : List Nat}, LSA G w L ar xs → (ar = ad 6 2 → ar = g_sv G 0) → (ar = a1 → ar = g_sv G 0) := by
    intro L ar xs hls hh z
    rcases ha1 with hx | hx
    · exact hh (z.trans hx)
    · obtain ⟨mc, -, hmode⟩ := hls
      rcases hmode with ⟨q, -⟩ | ⟨cap, f, q, -⟩
      · exact q
      · rw [z, hx] at q
        cases q
  have a0 : ∀ i, i < d_n σ → adC ad (d_n σ) a na ka a1 0 i = ad 0 i := fun i hi => show (if i = d_n σ then a else ad 0 i) = ad 0 i from if_neg (by omega)
  have a1' : ∀ i, i < d_n σ → adC ad (d_n σ) a na ka a1 1 i = ad 1 i := fun i hi => show (if i = d_n σ then na else ad 1 i) = ad 1 i from if_neg (by omega)
  have a2' : ∀ i, i < d_n σ → adC ad (d_n σ) a na ka a1 2 i = ad 2 i := fun i hi => show (if i = d_n σ then ka else ad 2 i) = ad 2 i from if_neg (by omega)
  have b0 : adC ad (d_n σ) a na ka a1 0 (d_n σ) = a := if_pos rfl
  have b1 : adC ad (d_n σ) a na ka a1 1 (d_n σ) = na := if_pos rfl
  have b2 : adC ad (d_n σ) a na ka a1 2 (d_n σ) = ka := if_pos rfl
  have r0 : (List.range (d_n σ + 1)).map (adC ad (d_n σ) a na ka a1 0) = (List.range (d_n σ)).map (ad 0) ++ [a] := by
    rw [List.range_succ, List.map_append]
    congr 1
    · apply List.map_congr_left
      intro i hi
      exact a0 i (List.mem_range.mp hi)
    · show [adC ad (d_n σ) a na ka a1 0 (d_n σ)] = [a]
      rw [b0]
  have r3 : (d_d σ).map (adC ad (d_n σ) a na ka a1 0) = (d_d σ).map (ad 0) := by
    apply List.map_congr_left
    intro i hi
    exact a0 i (hdn i hi)
  have fo : ∀ {b c : Nat} {x : va_E}, px_lk ws b = some x → px_lk ws c = none → b ≠ c := fun hb hc => px_nn hb hc
  refine ⟨K h1 (Nat.ne_of_beq_eq_false rfl) (Nat.ne_of_beq_eq_false rfl), K h2 (Nat.ne_of_beq_eq_false rfl) (Nat.ne_of_beq_eq_false rfl), ⟨?_, l2w.other hw l1w hf2 (fun z => s1 z.symm) (fun z => z.trans (p1 z.symm)), ?_⟩, ⟨⟨s1, s2, s3⟩, ⟨fun z => ?_, fun z => ?_, p3⟩, ?_, ?_, ?_, ?_, s7⟩, fun i hi => ?_, fun x hx => ?_⟩
  · show LSA G w2 (ad 6 1) a1 ((List.range (d_n σ + 1)).map (adC ad (d_n σ) a na ka a1 0))
    rw [r0]
    exact hl
  · show LSA G w2 (ad 6 5) (ad 6 6) ((d_d σ).map (adC ad (d_n σ) a na ka a1 0))
    rw [r3]
    exact l3w.other hw l1w hf2 (fun z => s2 z.symm) (fun z => z.trans (p2 z.symm))
  · exact z.trans (hap l2w (fun q => q.trans (p1 q.symm)) z.symm)
  · exact z.trans (hap l3w (fun q => q.trans (p2 q.symm)) z.symm)
  · intro i j hi hj hij
    have hi : i < d_n σ + 1 := hi
    have hj : j < d_n σ + 1 := hj
    rcases Nat.lt_or_ge i (d_n σ) with hi2 | hi2 <;> rcases Nat.lt_or_ge j (d_n σ) with hj2 | hj2
    · rw [a0 i hi2, a0 j hj2] at hij
      exact j0 i j hi2 hj2 hij
    · rw [a0 i hi2, show j = d_n σ by omega, b0] at hij
      exact absurd hij (fo (h5 i hi2).1 hfa)
    · rw [a0 j hj2, show i = d_n σ by omega, b0] at hij
      exact absurd hij.symm (fo (h5 j hj2).1 hfa)
    · omega
  · intro i j hi hj hij
    have hi : i < d_n σ + 1 := hi
    have hj : j < d_n σ + 1 := hj
    rcases Nat.lt_or_ge i (d_n σ) with hi2 | hi2 <;> rcases Nat.lt_or_ge j (d_n σ) with hj2 | hj2
    · rw [a1' i hi2, a1' j hj2] at hij
      exact j1 i j hi2 hj2 hij
    · rw [a1' i hi2, show j = d_n σ by omega, b1] at hij
      exact absurd hij (fo (h5 i hi2).2.1 hfn)
    · rw [a1' j hj2, show i = d_n σ by omega, b1] at hij
      exact absurd hij.symm (fo (h5 j hj2).2.1 hfn)
    · omega
  · intro i j hi hj hij
    have hi : i < d_n σ + 1 := hi
    have hj : j < d_n σ + 1 := hj
    rcases Nat.lt_or_ge i (d_n σ) with hi2 | hi2 <;> rcases Nat.lt_or_ge j (d_n σ) with hj2 | hj2
    · rw [a2' i hi2, a2' j hj2] at hij
      exact j2 i j hi2 hj2 hij
    · rw [a2' i hi2, show j = d_n σ by omega, b2] at hij
      exact absurd hij (fo (h5 i hi2).2.2 hfk)
    · rw [a2' j hj2, show i = d_n σ by omega, b2] at hij
      exact absurd hij.symm (fo (h5 j hj2).2.2 hfk)
    · omega
  · intro i j hi hj hij
    have hi : i < d_n σ + 1 := hi
    have hj : j < d_n σ + 1 := hj
    rcases Nat.lt_or_ge i (d_n σ) with hi2 | hi2 <;> rcases Nat.lt_or_ge j (d_n σ) with hj2 | hj2
    · rw [a1' i hi2, a2' j hj2] at hij
      exact j12 i j hi2 hj2 hij
    · rw [a1' i hi2, show j = d_n σ by omega, b2] at hij
      exact fo (h5 i hi2).2.1 hfk hij
    · rw [a2' j hj2, show i = d_n σ by omega, b1] at hij
      exact fo (h5 j hj2).2.2 hfn hij.symm
    · rw [show i = d_n σ by omega, show j = d_n σ by omega, b1, b2] at hij
      exact hnk hij.symm
  · have hi : i < d_n σ + 1 := hi
    rcases Nat.lt_or_ge i (d_n σ) with hi2 | hi2
    · obtain ⟨e1, e2, e3⟩ := h5 i hi2
      have hne : i ≠ d_n σ := by omega
      have hp := hpp i hi2
      have ecd : c_cd (adC ad (d_n σ) a na ka a1) (codeM σ p u v) i = c_cd ad σ i := by
        show oCd _ (newA (d_A σ) (d_n σ) p u v 0 i) (newA (d_A σ) (d_n σ) p u v 1 i) (newA (d_A σ) (d_n σ) p u v 2 i) (adC ad (d_n σ) a na ka a1 1 i) (adC ad (d_n σ) a na ka a1 2 i) (newA (d_A σ) (d_n σ) p u v 11 i) (c_pa (adC ad (d_n σ) a na ka a1) (if i = d_n σ then 0 else d_p σ i)) (c_en ad (e_c σ) i) = _
        have hpa : c_pa (adC ad (d_n σ) a na ka a1) (d_p σ i) = c_pa ad (d_p σ i) := by
          by_cases hp0 : d_p σ i = 0
          · rw [c_pa0 hp0, c_pa0 hp0]
          · rw [c_pa1 hp0, c_pa1 hp0, a0 _ (by omega)]
        rw [newA_ne hne, newA_ne hne, newA_ne hne, newA_ne hne, a1' i hi2, a2' i hi2, if_neg hne, hpa]
      have est : ∀ b, c_st (codeM σ p u v) b i = c_st σ b i := by
        intro b
        show oSg (newA (d_A σ) (d_n σ) p u v b i) (newA (d_A σ) (d_n σ) p u v (b + 1) i) (newA (d_A σ) (d_n σ) p u v (b + 2) i) (newA (d_A σ) (d_n σ) p u v (b + 3) i) = _
        rw [newA_ne hne, newA_ne hne, newA_ne hne, newA_ne hne]
      rw [a0 i hi2, a1' i hi2, a2' i hi2, ecd, est 3, est 7]
      exact ⟨K e1 (Nat.ne_of_beq_eq_false rfl) (Nat.ne_of_beq_eq_false rfl), K e2 (Nat.ne_of_beq_eq_false rfl) (Nat.ne_of_beq_eq_false rfl), K e3 (Nat.ne_of_beq_eq_false rfl) (Nat.ne_of_beq_eq_false rfl)⟩
    · have hin : i = d_n σ := by omega
      subst hin
      have hno : d_n σ ∉ e_c σ := fun z => absurd (hen _ z) (Nat.lt_irrefl _)
      have ecd : c_cd (adC ad (d_n σ) a na ka a1) (codeM σ p u v) (d_n σ) = oCd (nI (d_n σ + 1)) p u v na ka 0 none none := by
        show oCd _ (newA (d_A σ) (d_n σ) p u v 0 (d_n σ)) (newA (d_A σ) (d_n σ) p u v 1 (d_n σ)) (newA (d_A σ) (d_n σ) p u v 2 (d_n σ)) (adC ad (d_n σ) a na ka a1 1 (d_n σ)) (adC ad (d_n σ) a na ka a1 2 (d_n σ)) (newA (d_A σ) (d_n σ) p u v 11 (d_n σ)) (c_pa (adC ad (d_n σ) a na ka a1) (if d_n σ = d_n σ then 0 else d_p σ (d_n σ))) (c_en ad (e_c σ) (d_n σ)) = _
        rw [c_en_out hno, b1, b2, if_pos rfl, c_pa0 rfl]
        unfold newA
        simp
      have est : ∀ b, (b = 3 ∨ b = 7) → c_st (codeM σ p u v) b (d_n σ) = oSg 80 0 0 0 := by
        intro b hb
        show oSg (newA (d_A σ) (d_n σ) p u v b (d_n σ)) (newA (d_A σ) (d_n σ) p u v (b + 1) (d_n σ)) (newA (d_A σ) (d_n σ) p u v (b + 2) (d_n σ)) (newA (d_A σ) (d_n σ) p u v (b + 3) (d_n σ)) = _
        unfold newA
        rcases hb with rfl | rfl <;> simp
      rw [b0, b1, b2, ecd, est 3 (Or.inl rfl), est 7 (Or.inr rfl)]
      exact ⟨hS _ _ ha (Nat.ne_of_beq_eq_false rfl) (Nat.ne_of_beq_eq_false rfl), hS _ _ hna (Nat.ne_of_beq_eq_false rfl) (Nat.ne_of_beq_eq_false rfl), hS _ _ hka (Nat.ne_of_beq_eq_false rfl) (Nat.ne_of_beq_eq_false rfl)⟩
  · obtain ⟨e1, e2, e3⟩ := h6 x hx
    have hx1 : x.1 < d_n σ := hen x.1 (List.mem_map.mpr ⟨x, hx, rfl⟩)
    refine ⟨?_, K e2 (Nat.ne_of_beq_eq_false rfl) (Nat.ne_of_beq_eq_false rfl), K e3 (Nat.ne_of_beq_eq_false rfl) (Nat.ne_of_beq_eq_false rfl)⟩
    show px_lk w2 (ad 3 x.1) = some (oEn (adC ad (d_n σ) a na ka a1 0 x.1) (ad 4 x.1) (ad 5 x.1) x.2.1)
    rw [a0 x.1 hx1]
    exact K e1 (Nat.ne_of_beq_eq_false rfl) (Nat.ne_of_beq_eq_false rfl)
set_option maxHeartbeats 4000000 in
theorem o_codeP {G : px_G} {ws : va_W} {d : Nat} {R : Int32} {o : Nat} {ad : Nat → Nat → Nat} {σ : Md} (h : CR G R ws o ad σ) {p u v : Int32} (hx : isw p 1 255 = 0) : px G m_TM_code 0 (lv_args 0 [.ref o, .int p, .int u, .int v]) [] ws (d + 10) 4 2008 (OPc G R o ws (-2) (σ)) := by
  refine p_s rfl rfl ?_
  refine p_s rfl rfl ?_
  refine p_s rfl rfl ?_
  refine p_callS rfl c_TM_33 g_TM_isWithin rfl rfl rfl (p_le (by omega) (Nat.le_refl _) (Nat.le_refl _) (c_isWithin (d := d))) (fun v w hq => ?_)
  obtain ⟨rfl, hw9⟩ := hq
  have hw9 := hw9.symm
  subst hw9
  refine p_ifT rfl hx ?_
  refine p_s rfl rfl ?_
  exact p_iret rfl rfl rfl ⟨rfl, ad, h, px_kp.rf⟩
set_option maxHeartbeats 4000000 in
theorem o_codeU {G : px_G} {ws : va_W} {d : Nat} {R : Int32} {o : Nat} {ad : Nat → Nat → Nat} {σ : Md} (h : CR G R ws o ad σ) {p u v : Int32} (hx : ¬ isw p 1 255 = 0) (hu : isw u 1 127 = 0) : px G m_TM_code 0 (lv_args 0 [.ref o, .int p, .int u, .int v]) [] ws (d + 10) 4 2008 (OPc G R o ws (-2) (σ)) := by
  refine p_s rfl rfl ?_
  refine p_s rfl rfl ?_
  refine p_s rfl rfl ?_
  refine p_callS rfl c_TM_33 g_TM_isWithin rfl rfl rfl (p_le (by omega) (Nat.le_refl _) (Nat.le_refl _) (c_isWithin (d := d))) (fun v w hq => ?_)
  obtain ⟨rfl, hw9⟩ := hq
  have hw9 := hw9.symm
  subst hw9
  refine p_ifF rfl hx ?_
  refine p_s rfl rfl ?_
  refine p_s rfl rfl ?_
  refine p_s rfl rfl ?_
  refine p_callS rfl c_TM_33 g_TM_isWithin rfl rfl rfl (p_le (by omega) (Nat.le_refl _) (Nat.le_refl _) (c_isWithin (d := d))) (fun v w hq => ?_)
  obtain ⟨rfl, hw9⟩ := hq
  have hw9 := hw9.symm
  subst hw9
  refine p_ifT rfl hu ?_
  refine p_s rfl rfl ?_
  exact p_iret rfl rfl rfl ⟨rfl, ad, h, px_kp.rf⟩
set_option maxHeartbeats 4000000 in
theorem o_codeV {G : px_G} {ws : va_W} {d : Nat} {R : Int32} {o : Nat} {ad : Nat → Nat → Nat} {σ : Md} (h : CR G R ws o ad σ) {p u v : Int32} (hx : ¬ isw p 1 255 = 0) (hu : ¬ isw u 1 127 = 0) (hv : isw v 1 127 = 0) : px G m_TM_code 0 (lv_args 0 [.ref o, .int p, .int u, .int v]) [] ws (d + 10) 4 2008 (OPc G R o ws (-2) (σ)) := by
  refine p_s rfl rfl ?_
  refine p_s rfl rfl ?_
  refine p_s rfl rfl ?_
  refine p_callS rfl c_TM_33 g_TM_isWithin rfl rfl rfl (p_le (by omega) (Nat.le_refl _) (Nat.le_refl _) (c_isWithin (d := d))) (fun v w hq => ?_)
  obtain ⟨rfl, hw9⟩ := hq
  have hw9 := hw9.symm
  subst hw9
  refine p_ifF rfl hx ?_
  refine p_s rfl rfl ?_
  refine p_s rfl rfl ?_
  refine p_s rfl rfl ?_
  refine p_callS rfl c_TM_33 g_TM_isWithin rfl rfl rfl (p_le (by omega) (Nat.le_refl _) (Nat.le_refl _) (c_isWithin (d := d))) (fun v w hq => ?_)
  obtain ⟨rfl, hw9⟩ := hq
  have hw9 := hw9.symm
  subst hw9
  refine p_ifF rfl hu ?_
  refine p_s rfl rfl ?_
  refine p_s rfl rfl ?_
  refine p_s rfl rfl ?_
  refine p_callS rfl c_TM_33 g_TM_isWithin rfl rfl rfl (p_le (by omega) (Nat.le_refl _) (Nat.le_refl _) (c_isWithin (d := d))) (fun v w hq => ?_)
  obtain ⟨rfl, hw9⟩ := hq
  have hw9 := hw9.symm
  subst hw9
  refine p_ifF rfl hv ?_
  refine p_s rfl rfl ?_
  exact p_iret rfl rfl rfl ⟨rfl, ad, h, px_kp.rf⟩
set_option maxHeartbeats 4000000 in
theorem o_codeC {G : px_G} {ws : va_W} {d : Nat} {R : Int32} {o : Nat} {ad : Nat → Nat → Nat} {σ : Md} (h : CR G R ws o ad σ) {p u v : Int32} (hx : ¬ isw p 1 255 = 0) (hu : ¬ isw u 1 127 = 0) (hv : ¬ isw v 1 127 = 0) (hp : d_g σ 1 = 0) : px G m_TM_code 0 (lv_args 0 [.ref o, .int p, .int u, .int v]) [] ws (d + 10) 4 2008 (OPc G R o ws (-3) (σ)) := by
  refine p_s rfl rfl ?_
  refine p_s rfl rfl ?_
  refine p_s rfl rfl ?_
  refine p_callS rfl c_TM_33 g_TM_isWithin rfl rfl rfl (p_le (by omega) (Nat.le_refl _) (Nat.le_refl _) (c_isWithin (d := d))) (fun v w hq => ?_)
  obtain ⟨rfl, hw9⟩ := hq
  have hw9 := hw9.symm
  subst hw9
  refine p_ifF rfl hx ?_
  refine p_s rfl rfl ?_
  refine p_s rfl rfl ?_
  refine p_s rfl rfl ?_
  refine p_callS rfl c_TM_33 g_TM_isWithin rfl rfl rfl (p_le (by omega) (Nat.le_refl _) (Nat.le_refl _) (c_isWithin (d := d))) (fun v w hq => ?_)
  obtain ⟨rfl, hw9⟩ := hq
  have hw9 := hw9.symm
  subst hw9
  refine p_ifF rfl hu ?_
  refine p_s rfl rfl ?_
  refine p_s rfl rfl ?_
  refine p_s rfl rfl ?_
  refine p_callS rfl c_TM_33 g_TM_isWithin rfl rfl rfl (p_le (by omega) (Nat.le_refl _) (Nat.le_refl _) (c_isWithin (d := d))) (fun v w hq => ?_)
  obtain ⟨rfl, hw9⟩ := hq
  have hw9 := hw9.symm
  subst hw9
  refine p_ifT rfl hv ?_
  refine p_s rfl rfl ?_
  refine p_get rfl f_TM_20 h.1 rfl ?_
  refine p_ifF rfl hp ?_
  refine p_s rfl rfl ?_
  exact p_iret rfl rfl rfl ⟨rfl, ad, h, px_kp.rf⟩
set_option maxHeartbeats 4000000 in
theorem o_codeF {G : px_G} {ws : va_W} {d : Nat} {R : Int32} {o : Nat} {ad : Nat → Nat → Nat} {σ : Md} (h : CR G R ws o ad σ) {p u v : Int32} (hx : ¬ isw p 1 255 = 0) (hu : ¬ isw u 1 127 = 0) (hv : ¬ isw v 1 127 = 0) (hp : ¬ d_g σ 1 = 0) (hn : d_n σ = 200) : px G m_TM_code 0 (lv_args 0 [.ref o, .int p, .int u, .int v]) [] ws (d + 10) 4 2008 (OPc G R o ws (-4) (σ)) := by
  have hL1 := h.2.2.1.1
  obtain ⟨sz, mc, hL1c⟩ := hL1.cell
  refine p_s rfl rfl ?_
  refine p_s rfl rfl ?_
  refine p_s rfl rfl ?_
  refine p_callS rfl c_TM_33 g_TM_isWithin rfl rfl rfl (p_le (by omega) (Nat.le_refl _) (Nat.le_refl _) (c_isWithin (d := d))) (fun v w hq => ?_)
  obtain ⟨rfl, hw9⟩ := hq
  have hw9 := hw9.symm
  subst hw9
  refine p_ifF rfl hx ?_
  refine p_s rfl rfl ?_
  refine p_s rfl rfl ?_
  refine p_s rfl rfl ?_
  refine p_callS rfl c_TM_33 g_TM_isWithin rfl rfl rfl (p_le (by omega) (Nat.le_refl _) (Nat.le_refl _) (c_isWithin (d := d))) (fun v w hq => ?_)
  obtain ⟨rfl, hw9⟩ := hq
  have hw9 := hw9.symm
  subst hw9
  refine p_ifF rfl hu ?_
  refine p_s rfl rfl ?_
  refine p_s rfl rfl ?_
  refine p_s rfl rfl ?_
  refine p_callS rfl c_TM_33 g_TM_isWithin rfl rfl rfl (p_le (by omega) (Nat.le_refl _) (Nat.le_refl _) (c_isWithin (d := d))) (fun v w hq => ?_)
  obtain ⟨rfl, hw9⟩ := hq
  have hw9 := hw9.symm
  subst hw9
  refine p_ifT rfl hv ?_
  refine p_s rfl rfl ?_
  refine p_get rfl f_TM_20 h.1 rfl ?_
  refine p_ifT rfl hp ?_
  refine p_s rfl rfl ?_
  refine p_get rfl f_TM_12 h.1 rfl ?_
  refine p_callV rfl c_TM_44 rfl hL1c g_AL_size rfl rfl rfl (p_le (by omega) (Nat.le_refl _) (Nat.le_refl _) (c_size (d := d) hL1)) (fun v w hq => ?_)
  obtain ⟨rfl, hw9⟩ := hq
  have hw9 := hw9.symm
  subst hw9
  rw [c_len]
  refine p_s rfl rfl ?_
  refine p_icmpF rfl (show ¬ nI (d_n σ) < 200 by rw [hn]; decide) ?_
  refine p_s rfl rfl ?_
  exact p_iret rfl rfl rfl ⟨rfl, ad, h, px_kp.rf⟩
set_option maxHeartbeats 4000000 in
theorem o_code {G : px_G} {ws : va_W} {d : Nat} {R : Int32} {o : Nat} {ad : Nat → Nat → Nat} {σ : Md} (h : CR G R ws o ad σ) {p u v : Int32} (hx : ¬ isw p 1 255 = 0) (hu : ¬ isw u 1 127 = 0) (hv : ¬ isw v 1 127 = 0) (hp : ¬ d_g σ 1 = 0) (hn : d_n σ < 200) (hen : ∀ x ∈ e_c σ, x < d_n σ) (hdn : ∀ x ∈ d_d σ, x < d_n σ) (hpp : ∀ q, q < d_n σ → d_p σ q ≤ d_n σ) : px G m_TM_code 0 (lv_args 0 [.ref o, .int p, .int u, .int v]) [] ws (d + 10) 4 2008 (OPc G R o ws (nI (d_n σ + 1)) (codeM σ p u v)) := by
  have hL1 := h.2.2.1.1
  obtain ⟨sz, mc, hL1c⟩ := hL1.cell
  refine p_s rfl rfl ?_
  refine p_s rfl rfl ?_
  refine p_s rfl rfl ?_
  refine p_callS rfl c_TM_33 g_TM_isWithin rfl rfl rfl (p_le (by omega) (Nat.le_refl _) (Nat.le_refl _) (c_isWithin (d := d))) (fun v w hq => ?_)
  obtain ⟨rfl, hw9⟩ := hq
  have hw9 := hw9.symm
  subst hw9
  refine p_ifF rfl hx ?_
  refine p_s rfl rfl ?_
  refine p_s rfl rfl ?_
  refine p_s rfl rfl ?_
  refine p_callS rfl c_TM_33 g_TM_isWithin rfl rfl rfl (p_le (by omega) (Nat.le_refl _) (Nat.le_refl _) (c_isWithin (d := d))) (fun v w hq => ?_)
  obtain ⟨rfl, hw9⟩ := hq
  have hw9 := hw9.symm
  subst hw9
  refine p_ifF rfl hu ?_
  refine p_s rfl rfl ?_
  refine p_s rfl rfl ?_
  refine p_s rfl rfl ?_
  refine p_callS rfl c_TM_33 g_TM_isWithin rfl rfl rfl (p_le (by omega) (Nat.le_refl _) (Nat.le_refl _) (c_isWithin (d := d))) (fun v w hq => ?_)
  obtain ⟨rfl, hw9⟩ := hq
  have hw9 := hw9.symm
  subst hw9
  refine p_ifT rfl hv ?_
  refine p_s rfl rfl ?_
  refine p_get rfl f_TM_20 h.1 rfl ?_
  refine p_ifT rfl hp ?_
  refine p_s rfl rfl ?_
  refine p_get rfl f_TM_12 h.1 rfl ?_
  refine p_callV rfl c_TM_44 rfl hL1c g_AL_size rfl rfl rfl (p_le (by omega) (Nat.le_refl _) (Nat.le_refl _) (c_size (d := d) hL1)) (fun v w hq => ?_)
  obtain ⟨rfl, hw9⟩ := hq
  have hw9 := hw9.symm
  subst hw9
  rw [c_len]
  refine p_s rfl rfl ?_
  refine p_icmpT rfl (show nI (d_n σ) < 200 by rw [show (200 : Int32) = nI 200 from rfl, nI_ltI (by omega) (by decide)]; exact hn) ?_
  refine p_new (N := 9) rfl nc_TM_48 (fun a ha hal => ?_)
  have h1 : CR G R (ws ++ [(a, .inr (2, [.int 0, .int 0, .int 0, .int 0, .null, .null, .int 0, .null, .null]))]) o ad σ := h.mono px_fr.nw
  have hL1b := h1.2.2.1.1
  obtain ⟨sz2, mc2, hL1d⟩ := hL1b.cell
  refine p_s rfl rfl ?_
  refine p_s rfl rfl ?_
  refine p_get rfl f_TM_12 h1.1 rfl ?_
  refine p_callV rfl c_TM_44 rfl hL1d g_AL_size rfl rfl rfl (p_le (by omega) (Nat.le_refl _) (Nat.le_refl _) (c_size (d := d) hL1b)) (fun v w hq => ?_)
  obtain ⟨rfl, hw9⟩ := hq
  have hw9 := hw9.symm
  subst hw9
  rw [c_len]
  refine p_s rfl rfl ?_
  refine p_s rfl rfl ?_
  refine p_s rfl rfl ?_
  refine p_s rfl rfl ?_
  refine p_s rfl rfl ?_
  rw [show (fun x y : Int32 => x + y) (nI (d_n σ)) 1 = nI (d_n σ + 1) from nI_1 _]
  refine p_callI rfl c_TM_50 g_Cd_init rfl rfl rfl (p_le (by omega) (Nat.le_refl _) (Nat.le_refl _) (c_CdInit (d := d) (px_lk_new _ _ _ ha))) (fun v9 w hq => ?_)
  obtain ⟨rfl, na, ka, q1, q2, q3, q4, q5, q6, q7⟩ := hq
  have nn : ∀ b, px_lk (ws ++ [(a, .inr (2, [.int 0, .int 0, .int 0, .int 0, .null, .null, .int 0, .null, .null]))]) b = none → px_lk ws b = none := fun b hb => by
    cases hz : px_lk ws b with
    | none => rfl
    | some x => rw [px_lk_old _ _ _ _ _ hz] at hb; cases hb
  have hfr : px_fr (fun _ => False) ws w := fun b x _ hb => q7 b x (px_nn hb ha) (px_lk_old _ _ _ _ _ hb)
  have h2 : CR G R w o ad σ := h.mono hfr
  have hL1e := h2.2.2.1.1
  obtain ⟨sz3, mc3, hL1f⟩ := hL1e.cell
  refine p_wf (fun hw => ?_)
  refine p_s rfl rfl ?_
  refine p_s rfl rfl ?_
  refine p_get rfl f_TM_12 h2.1 rfl ?_
  refine p_s rfl rfl ?_
  refine p_callV rfl c_TM_53 rfl hL1f g_AL_add1 rfl rfl rfl (p_le (by omega) (Nat.le_refl _) (Nat.le_refl _) (c_add (d := d) hL1e (by rw [c_len]; omega) (fun x hx => by obtain ⟨i, hi, rfl⟩ := List.mem_map.mp hx; exact h2.obC (List.mem_range.mp hi)) ⟨_, _, _, _, _, q4, rfl, w_687⟩)) (fun v9 w2 hq => ?_)
  obtain ⟨rfl, a1, ha1, hl1, hf1⟩ := hq
  have h3 := h.newCode hen hdn hpp hfr ha (nn na q1) (nn ka q2) q3 q4 q5 q6 hw hl1 ha1 hf1
  have hkp : px_kp Kr ws w2 := (px_kp.mono hfr).tr (hL1e.kp hw hf1)
  have hcell := hf1 a _ (lsS_nk hw hL1e q4 (Nat.ne_of_beq_eq_false rfl) (Nat.ne_of_beq_eq_false rfl)) q4
  refine p_s rfl rfl ?_
  refine p_s rfl rfl ?_
  refine p_get rfl f_TM_57 hcell rfl ?_
  exact p_iret rfl rfl rfl ⟨rfl, _, h3, hkp⟩
