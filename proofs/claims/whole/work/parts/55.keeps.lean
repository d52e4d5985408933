/-! WHAT EACH CALL KEEPS -/
abbrev bd3 (t a g : Int32) : Prop := bdN t 0 255 ∧ bdN a 0 39 ∧ bdN g 0 255
theorem bd0 {b : Nat} : bdN 0 0 b := ⟨0, Nat.le_refl _, Nat.zero_le _, rfl⟩
theorem IvC.ne {A B : Nat → Nat → Int32} {j : Nat} (e : ∀ k, B k j = A k j) (h : IvC A j) : IvC B j := by
  unfold IvC at *
  rw [e 0, e 1, e 2, e 4, e 5, e 6, e 8, e 9, e 10, e 11]
  exact h
theorem Iv.st3 {σ : Md} (h : Iv σ) {i : Nat} {s t a g : Int32} (hb : i < d_n σ → bd3 t a g) : Iv (stA σ 3 i s t a g) := by
  refine ⟨h.1, h.2.1, h.2.2.1, fun j hj => ?_⟩
  have hj : j < d_n σ := hj
  by_cases hji : j = i
  · subst hji
    obtain ⟨a0, a1, a2, -, k7, c⟩ := h.2.2.2 j hj
    have e : ∀ k, k < 3 ∨ 7 ≤ k → d_A (stA σ 3 j s t a g) k j = d_A σ k j := fun k hk => stA_lo hk
    unfold IvC
    rw [e 0 (by omega), e 1 (by omega), e 2 (by omega), e 8 (by omega), e 9 (by omega), e 10 (by omega), e 11 (by omega), stA_4, stA_5, stA_6]
    exact ⟨a0, a1, a2, hb hj, k7, c⟩
  · exact IvC.ne (fun k => up4_ne hji) (h.2.2.2 j hj)
theorem st7_8 {σ : Md} {i : Nat} {s t a g : Int32} : d_A (stA σ 7 i s t a g) 8 i = t ∧ d_A (stA σ 7 i s t a g) 9 i = a ∧ d_A (stA σ 7 i s t a g) 10 i = g := by
  refine ⟨?_, ?_, ?_⟩ <;> (show up4 _ _ _ _ _ _ _ _ _ = _; simp [up4])
theorem Iv.st7 {σ : Md} (h : Iv σ) {i : Nat} {s t a g : Int32} (hb : i < d_n σ → bd3 t a g) : Iv (stA σ 7 i s t a g) := by
  refine ⟨h.1, h.2.1, h.2.2.1, fun j hj => ?_⟩
  have hj : j < d_n σ := hj
  by_cases hji : j = i
  · subst hji
    obtain ⟨a0, a1, a2, k3, -, c⟩ := h.2.2.2 j hj
    have e : ∀ k, k < 7 ∨ 11 ≤ k → d_A (stA σ 7 j s t a g) k j = d_A σ k j := fun k hk => up4_out (by omega)
    unfold IvC
    rw [e 0 (by omega), e 1 (by omega), e 2 (by omega), e 4 (by omega), e 5 (by omega), e 6 (by omega), e 11 (by omega), st7_8.1, st7_8.2.1, st7_8.2.2]
    exact ⟨a0, a1, a2, k3, hb hj, c⟩
  · exact IvC.ne (fun k => up4_ne hji) (h.2.2.2 j hj)
theorem Iv.cn {σ : Md} (h : Iv σ) {i : Nat} {x : Int32} (hb : i < d_n σ → bdZ x) : Iv (stX σ 11 i x) := by
  refine ⟨h.1, h.2.1, h.2.2.1, fun j hj => ?_⟩
  have hj : j < d_n σ := hj
  by_cases hji : j = i
  · subst hji
    obtain ⟨a0, a1, a2, k3, k7, -⟩ := h.2.2.2 j hj
    have e : ∀ k, k ≠ 11 → d_A (stX σ 11 j x) k j = d_A σ k j := fun k hk => up1_ne (Or.inl hk)
    unfold IvC
    rw [e 0 (by omega), e 1 (by omega), e 2 (by omega), e 4 (by omega), e 5 (by omega), e 6 (by omega), e 8 (by omega), e 9 (by omega), e 10 (by omega), stX_s]
    exact ⟨a0, a1, a2, k3, k7, hb hj⟩
  · exact IvC.ne (fun k => up1_ne (Or.inr hji)) (h.2.2.2 j hj)
abbrev HpE (es : List En4) : Prop := ∀ x ∈ es, ∃ k, k ≤ 255 ∧ x.2.1 = nI k
theorem Iv.E {σ : Md} (h : Iv σ) {es : List En4} {ds : List Nat} (h1 : ∀ x ∈ es.map (fun x => x.1), x < d_n σ) (h2 : (es.map (fun x => x.1)).Nodup) (h3 : HpE es) (h4 : ∀ x ∈ ds, x < d_n σ) (h5 : ds.length ≤ 500) : Iv (d_n σ, d_A σ, d_p σ, es, ds, d_g σ) := by
  obtain ⟨⟨w1, w2, -, -, -, -, -⟩, ha, -, hc⟩ := h
  exact ⟨⟨w1, w2, h1, Nat.le_trans (nodup_le _ _ h2 h1) w1, h2, h4, h5⟩, ha, h3, hc⟩
theorem Iv.G {σ : Md} (h : Iv σ) (g : Nat → Int32) : Iv (stG σ g) := h
theorem Iv.drop {σ : Md} (h : Iv σ) (i : Nat) : Iv (stE σ (dropE (d_e σ) i)) := by
  obtain ⟨w1, w2, w3, w4, w5, w6, w7⟩ := id h.1
  exact h.E (fun x hx => w3 x (dropE_codes.mp hx).1) (dropE_nd w5) (fun x hx => h.2.2.1 x (dropE_mem.mp hx).1) w6 w7
theorem mn_k : ∀ k, k ≤ 255 → mn255 (nI k + 1) = nI (if k = 255 then 255 else k + 1) := by decide +kernel
theorem bd_mn {t : Int32} (h : bdN t 0 255) : bdN (mn255 (t + 1)) 0 255 := by
  obtain ⟨k, -, hk, rfl⟩ := h
  exact ⟨if k = 255 then 255 else k + 1, Nat.zero_le _, by split <;> omega, mn_k k hk⟩
theorem HpE.app {es : List En4} (h : HpE es) {c : Nat} {F : Sn4} : HpE (es ++ [(c, 1, F, F)]) := fun x hx => by
  rcases List.mem_append.mp hx with hx | hx
  · exact h x hx
  · rw [List.mem_singleton.mp hx]
    exact ⟨1, by decide, rfl⟩
theorem app_nd {es : List En4} {c : Nat} {F : Sn4} (h : (es.map (fun x => x.1)).Nodup) (hc : c ∉ es.map (fun x => x.1)) : ((es ++ [((c, 1, F, F) : En4)]).map (fun x => x.1)).Nodup := by
  rw [List.map_append]
  exact List.nodup_append.mpr ⟨h, List.nodup_cons.mpr ⟨List.not_mem_nil, List.nodup_nil⟩, fun a ha b hb e => hc (by rw [List.map_cons, List.map_nil, List.mem_singleton] at hb; have hb : b = c := hb; rw [← hb, ← e]; exact ha)⟩
theorem app_lt {es : List En4} {c n : Nat} {F : Sn4} (h : ∀ x ∈ es.map (fun x => x.1), x < n) (hc : c < n) : ∀ x ∈ (es ++ [((c, 1, F, F) : En4)]).map (fun x => x.1), x < n := fun x hx => by
  rw [List.map_append] at hx
  rcases List.mem_append.mp hx with hx | hx
  · exact h x hx
  · rw [List.map_cons, List.map_nil, List.mem_singleton] at hx
    rw [hx]
    exact hc
theorem Iv.store {R : Int32} {σ : Md} {c : Nat} {F : Sn4} (h : Iv σ) (hc : c < d_n σ) : Iv (storeM R σ c F) := by
  obtain ⟨w1, w2, w3, w4, w5, w6, w7⟩ := id h.1
  unfold storeM
  split
  · refine h.E (by rw [hapE_codes]; exact w3) (by rw [hapE_codes]; exact w5) (fun x hx => ?_) w6 w7
    obtain ⟨y, hy, rfl⟩ := List.mem_map.mp hx
    by_cases hyc : y.1 = c
    · rw [if_pos hyc]
      obtain ⟨k, hk, e⟩ := h.2.2.1 y hy
      refine ⟨if k = 255 then 255 else k + 1, by split <;> omega, ?_⟩
      show mn255 (y.2.1 + 1) = _
      rw [e]
      exact mn_k k hk
    · rw [if_neg hyc]
      exact h.2.2.1 y hy
  · next hm =>
    split
    · exact h.E (app_lt w3 hc) (app_nd w5 hm) (HpE.app h.2.2.1) w6 w7
    · split
      · exact h
      · next x hv =>
        have hx : x ∈ e_c σ := (vicF_mem _ _ _ hv).resolve_left (by simp)
        refine h.E (app_lt (fun y hy => w3 y (dropE_codes.mp hy).1) hc) (app_nd (dropE_nd w5) (fun z => hm (dropE_codes.mp z).1)) (HpE.app (fun y hy => h.2.2.1 y (dropE_mem.mp hy).1)) ?_ ?_
        · intro y hy
          unfold dspA at hy
          split at hy
          · rcases List.mem_append.mp hy with hy | hy
            · exact w6 y hy
            · rw [List.mem_singleton.mp hy]
              exact w3 x hx
          · exact w6 y hy
        · unfold dspA
          split
          · rw [List.length_append, List.length_singleton]
            omega
          · exact w7
theorem bd_fT {s t : Int32} (h : bdN t 0 255) : bdN (sFailT s t) 0 255 := by
  unfold sFailT
  split
  · exact bd_mn h
  · exact h
theorem Iv.fail {R : Int32} {σ : Md} {c : Nat} {l : Int32} (h : Iv σ) (hc : c < d_n σ) : Iv (failM R σ c l) := by
  have h2 : Iv (stA σ 3 c (sFailS l (d_A σ 3 c) (d_A σ 4 c)) (sFailT (d_A σ 3 c) (d_A σ 4 c)) 0 0) := h.st3 (fun _ => ⟨bd_fT (h.2.2.2 c hc).2.2.2.1.1, bd0, bd0⟩)
  unfold failM
  split
  · exact h2.store hc
  · exact h2
theorem Iv.judge {R : Int32} {σ : Md} {c : Nat} (h : Iv σ) (hc : c < d_n σ) : Iv (judgeM R σ c) := by
  unfold judgeM
  split
  · exact h.st3 (fun _ => (h.2.2.2 c hc).2.2.2.1)
  · split
    · exact h.fail hc
    · exact h
theorem bd_cnt {f cn u v : Int32} (hc : bdZ cn) (hu : bdN u 1 127) (hv : bdN v 1 127) : bdZ (cCnt f cn u v) := by
  by_cases hf : f = 0
  · subst hf
    have := cCnt_dn (u := u) hc hv
    exact ⟨this.1, by omega⟩
  · have := cCnt_up (v := v) hf hc hu
    exact ⟨by omega, this.2⟩
theorem Iv.event {R : Int32} {σ : Md} {i : Nat} {f : Int32} (h : Iv σ) (hi : i < d_n σ) : Iv (eventM R σ i f) := by
  unfold eventM
  split
  · exact h.G _
  · obtain ⟨a0, a1, a2, -, -, a11⟩ := h.2.2.2 i hi
    exact Iv.judge (Iv.cn (h.G _) (fun _ => bd_cnt a11 a1 a2)) hi
theorem bd_gT {s t : Int32} (h : bdN t 0 255) : bdN (sGoodT s t) 0 255 := by
  unfold sGoodT
  split
  · exact bd0
  · exact h
theorem Iv.endC {t : Int32} {σ : Md} (i : Nat) (h : Iv σ) : Iv (endM t σ i) := by
  have hb : i < d_n σ → bd3 (g_T σ i) (d_A σ 5 i) (g_G σ i) := fun hi => by
    obtain ⟨b4, b5, b6⟩ := (h.2.2.2 i hi).2.2.2.1
    exact ⟨bd_gT b4, b5, bd_mn b6⟩
  unfold endM
  split
  · split
    · exact h.st3 hb
    · split
      · split
        · next h40 =>
          refine h.st3 (fun hi => ⟨(hb hi).1, ?_, (hb hi).2.2⟩)
          obtain ⟨k, -, hk, e⟩ := (hb hi).2.1
          rw [e, nI_1] at h40 ⊢
          rw [show (40 : Int32) = nI 40 from rfl, nI_ltI (by omega) (by omega)] at h40
          exact ⟨k + 1, Nat.zero_le _, by omega, rfl⟩
        · exact (h.st3 (fun _ => ⟨bd0, bd0, bd0⟩)).drop i
      · exact h.st3 hb
  · exact h
theorem Iv.beg {σ : Md} (i : Nat) (h : Iv σ) : Iv (begM σ i) := (h.st3 (fun hi => (h.2.2.2 i hi).2.2.2.1)).st7 (fun hi => (h.2.2.2 i hi).2.2.2.1)
theorem Iv.fd {f : Md → Nat → Md} (hf : ∀ σ i, Iv σ → Iv (f σ i)) (k i : Nat) {σ : Md} (h : Iv σ) : Iv (fdR f k i σ) := fdR_e f (fun a b => Iv a → Iv b) (fun _ h => h) (fun _ _ _ h1 h2 h => h2 (h1 h)) hf k i σ h
theorem Iv.cyc {t : Int32} {σ : Md} (h : Iv σ) : Iv (cycF t σ) := Iv.G (Iv.fd (fun _ i h => h.beg i) _ _ (Iv.fd (fun _ i h => h.endC i) _ _ h)) _
theorem Iv.frs {σ : Md} (h : Iv σ) (i : Nat) : Iv (frsM σ i) := Iv.cn ((h.st3 (fun _ => ⟨bd0, bd0, bd0⟩)).st7 (fun _ => ⟨bd0, bd0, bd0⟩)) (fun _ => by decide)
theorem Iv.clr {g : Int32} {σ : Md} (i : Nat) (h : Iv σ) : Iv (clrM g σ i) := by
  unfold clrM
  split
  · exact (h.frs i).drop i
  · exact h
theorem Iv.clrs {g : Int32} {σ : Md} (h : Iv σ) : Iv (fdR (clrM g) (d_n σ) 0 σ) := Iv.fd (fun _ i h => h.clr i) _ _ h
theorem Iv.sta {σ : Md} (i : Nat) (h : Iv σ) : Iv (startM σ i) := Iv.cn (h.st3 (fun hi => (h.2.2.2 i hi).2.2.2.2.1)) (fun _ => by decide)
theorem Iv.start {σ : Md} (h : Iv σ) : Iv (startF σ) := Iv.G (Iv.fd (fun _ i h => h.sta i) _ _ h) _
theorem isw_bd {x : Int32} {n : Nat} (hn : n < 2 ^ 31) (h : ¬ isw x 1 (nI n) = 0) : bdN x 1 n := by
  obtain ⟨h1, h2⟩ := isw1 h
  obtain ⟨k, hk, rfl⟩ := z_nat (x := x) (fun z => h1 (Int32.lt_trans z (by decide)))
  rw [show (1 : Int32) = nI 1 from rfl, nI_ltI hk (by decide)] at h1
  rw [nI_leI hk hn] at h2
  exact ⟨k, by omega, h2, rfl⟩
theorem Iv.code {σ : Md} {p u v : Int32} (h : Iv σ) (hn : d_n σ < 200) (hp : ¬ isw p 1 255 = 0) (hu : ¬ isw u 1 127 = 0) (hv : ¬ isw v 1 127 = 0) : Iv (codeM σ p u v) := by
  obtain ⟨w1, w2, w3, w4, w5, w6, w7⟩ := id h.1
  have ha : Ac (d_n σ + 1) (upP (d_p σ) (d_n σ) 0) := h.2.1.code
  refine ⟨⟨hn, ha.1, fun x hx => Nat.lt_succ_of_lt (w3 x hx), w4, w5, fun x hx => Nat.lt_succ_of_lt (w6 x hx), w7⟩, ha, h.2.2.1, fun j hj => ?_⟩
  have hj : j < d_n σ + 1 := hj
  by_cases hji : j = d_n σ
  · subst hji
    have e : ∀ k, newA (d_A σ) (d_n σ) p u v k (d_n σ) = if k = 0 then p else if k = 1 then u else if k = 2 then v else if k = 3 then 80 else if k = 7 then 80 else 0 := fun k => if_pos rfl
    show IvC (newA (d_A σ) (d_n σ) p u v) (d_n σ)
    unfold IvC
    rw [e 0, e 1, e 2, e 4, e 5, e 6, e 8, e 9, e 10, e 11]
    exact ⟨isw_bd (n := 255) (by decide) hp, isw_bd (n := 127) (by decide) hu, isw_bd (n := 127) (by decide) hv, ⟨bd0, bd0, bd0⟩, ⟨bd0, bd0, bd0⟩, by show bdZ 0; decide⟩
  · exact IvC.ne (fun k => newA_ne hji) (h.2.2.2 j (by omega))
theorem Iv.p {σ : Md} (h : Iv σ) {i r : Nat} (ha : Ac (d_n σ) (upP (d_p σ) i r)) : Iv (stP σ i r) := by
  obtain ⟨w1, w2, w3, w4, w5, w6, w7⟩ := id h.1
  exact ⟨⟨w1, ha.1, w3, w4, w5, w6, w7⟩, ha, h.2.2.1, h.2.2.2⟩
theorem Iv.par0 {σ : Md} (h : Iv σ) {i : Nat} : Iv (stP σ i 0) := h.p (h.2.1.par (Nat.zero_le _) (g := 0) rfl)
theorem Iv.first : Iv m0 := by
  refine ⟨⟨Nat.zero_le _, fun i hi => absurd hi (Nat.not_lt_zero _), fun x hx => absurd hx List.not_mem_nil, Nat.zero_le _, List.nodup_nil, fun x hx => absurd hx List.not_mem_nil, Nat.zero_le _⟩, ⟨fun i hi => absurd hi (Nat.not_lt_zero _), fun p hp => ⟨0, Nat.le_zero.mp hp⟩⟩, fun x hx => absurd hx List.not_mem_nil, fun i hi => absurd hi (Nat.not_lt_zero _)⟩
theorem Iv.par {σ : Md} (h : Iv σ) {i j : Nat} (hj : j < d_n σ) (hij : ¬ i = j) (hb : belF (d_p σ) i 200 (d_p σ j) = 0) : Iv (stP σ i (j + 1)) := by
  obtain ⟨f, hf1, hf2⟩ := h.2.1.f (h.2.1.1 j hj) h.1.1
  have hbe : belF (d_p σ) i (f + 1) (j + 1) = belF (d_p σ) i 200 (d_p σ j) := by
    rw [belF, if_neg (Nat.succ_ne_zero j), if_neg (show ¬ j + 1 = i + 1 by omega), Nat.add_sub_cancel, belF_ge f 200 _ hf2 hf1]
  exact h.p (h.2.1.par (show j + 1 ≤ d_n σ by omega) (ends_avoid (f + 1) (j + 1) ⟨Nat.succ_ne_zero j, hf2⟩ (hbe.trans hb)))
