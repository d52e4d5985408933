/-! THE CLASS: drop -/
theorem nd_inj : ∀ (l : List Nat), l.Nodup → ∀ (i j a : Nat), l[i]? = some a → l[j]? = some a → i = j
  | [], _, i, j, a, h, _ => by simp at h
  | x :: l, hn, i, j, a, h1, h2 => by
    rw [List.nodup_cons] at hn
    cases i with
    | zero =>
      cases j with
      | zero => rfl
      | succ j =>
        rw [List.getElem?_cons_zero] at h1
        rw [List.getElem?_cons_succ] at h2
        cases h1
        exact absurd (List.mem_of_getElem? h2) hn.1
    | succ i =>
      cases j with
      | zero =>
        rw [List.getElem?_cons_zero] at h2
        rw [List.getElem?_cons_succ] at h1
        cases h2
        exact absurd (List.mem_of_getElem? h1) hn.1
      | succ j =>
        rw [List.getElem?_cons_succ] at h1 h2
        rw [nd_inj l hn.2 i j a h1 h2]
theorem up6_self {ad : Nat → Nat → Nat} (j : Nat) : up6 ad j (ad 6 j) = ad := by
  funext k i
  unfold up6
  by_cases hk : k = 6
  · rw [if_pos hk]
    by_cases hi : i = j
    · rw [if_pos hi, hk, hi]
    · rw [if_neg hi, hk]
  · rw [if_neg hk]
theorem er_map {α β : Type} (f : α → β) : ∀ (l : List α) (k : Nat), (l.map f).eraseIdx k = (l.eraseIdx k).map f
  | [], _ => rfl
  | _ :: _, 0 => rfl
  | x :: l, k + 1 => by
    rw [List.map_cons, List.eraseIdx_cons_succ, List.eraseIdx_cons_succ, List.map_cons, er_map f l k]
theorem dropE_codes {es : List En4} {i j : Nat} : j ∈ (dropE es i).map (fun x => x.1) ↔ j ∈ es.map (fun x => x.1) ∧ j ≠ i := by
  constructor
  · intro h
    obtain ⟨x, hx, rfl⟩ := List.mem_map.mp h
    obtain ⟨h1, h2⟩ := dropE_mem.mp hx
    exact ⟨List.mem_map.mpr ⟨x, h1, rfl⟩, h2⟩
  · rintro ⟨h1, h2⟩
    obtain ⟨x, hx, rfl⟩ := List.mem_map.mp h1
    exact List.mem_map.mpr ⟨x, dropE_mem.mpr ⟨hx, h2⟩, rfl⟩
theorem c_en_in {ad : Nat → Nat → Nat} {es : List Nat} {i : Nat} (h : i ∈ es) : c_en ad es i = some (ad 3 i) := if_pos h
theorem c_en_out {ad : Nat → Nat → Nat} {es : List Nat} {i : Nat} (h : i ∉ es) : c_en ad es i = none := if_neg h
/-- behind the taking out of the list: the code's own cell forgets its entry -/
theorem CRg.dropped {G : px_G} {R : Int32} {ws : va_W} {o : Nat} {ad : Nat → Nat → Nat} {σ : Md} {i : Nat} {EA : List Nat} (h : CRg G R ws o ad σ EA ((d_d σ).map (ad 0))) (hi : i < d_n σ) (hE : EA = ((dropE (d_e σ) i).map (fun x => x.1)).map (ad 3)) : CR G R (px_up ws (ad 0 i) (c_cd ad (stE σ (dropE (d_e σ) i)) i)) o ad (stE σ (dropE (d_e σ) i)) := by
  subst hE
  obtain ⟨h1, h2, hl, ⟨q1, q2, s0, q4, q5, q6, s7⟩, h5, h6⟩ := h
  have hx := (h5 i hi).1
  have hl : c_lists G ws ad (d_n σ) ((dropE (d_e σ) i).map (fun x => x.1)) (d_d σ) := hl
  have h6' : c_ents ws ad (dropE (d_e σ) i) := fun x hx => h6 x (dropE_mem.mp hx).1
  refine ⟨px_keepK hx h1 (Nat.ne_of_beq_eq_false rfl), px_keepK hx h2 (Nat.ne_of_beq_eq_false rfl), hl.up hx (Nat.ne_of_beq_eq_false rfl) (Nat.ne_of_beq_eq_false rfl), ⟨q1, q2, s0, q4, q5, q6, fun a b ha hb => s7 a b (dropE_codes.mp ha).1 (dropE_codes.mp hb).1⟩, fun j hj => ⟨?_, px_keepK hx (h5 j hj).2.1 (Nat.ne_of_beq_eq_false rfl), px_keepK hx (h5 j hj).2.2 (Nat.ne_of_beq_eq_false rfl)⟩, h6'.up hx (Nat.ne_of_beq_eq_false rfl) (Nat.ne_of_beq_eq_false rfl)⟩
  by_cases hji : j = i
  · subst hji
    exact px_lk_same _ _ _ _ hx
  · have he : c_en ad (e_c (stE σ (dropE (d_e σ) i))) j = c_en ad (e_c σ) j := by
      by_cases hm : j ∈ e_c σ
      · rw [c_en_in hm]
        exact c_en_in (dropE_codes.mpr ⟨hm, hji⟩)
      · rw [c_en_out hm]
        exact c_en_out (fun z => hm (dropE_codes.mp z).1)
    show px_lk _ (ad 0 j) = some (oCd _ _ _ _ _ _ _ _ (c_en ad (e_c (stE σ (dropE (d_e σ) i))) j))
    rw [he]
    exact px_keep (h5 j hj).1 (fun z => hji (s0 j i hj hi z))
set_option maxHeartbeats 2000000 in
theorem c_drop_loop {G : px_G} {ws : va_W} {d : Nat} {R : Int32} {o : Nat} {ad : Nat → Nat → Nat} {σ : Md} (h : CR G R ws o ad σ) (hw : WFs G ws) (hnd : (e_c σ).Nodup) (hlen : (e_c σ).length ≤ 512) {i k : Nat} (hi : i < d_n σ) (hk : (e_c σ)[k]? = some i) : ∀ (f j : Nat) (x2 : Int32), j + f = k → x2 = nI j → px G m_Mem_drop 10 [(2, .int x2), (0, .ref (ad 6 0)), (1, .ref (ad 0 i))] [] ws (d + 3) 0 0 (fun v w => v = none ∧ CR G R w o ad (stE σ (dropE (d_e σ) i)) ∧ px_kp Kr ws w) := by
  have hL2 := h.2.2.1.2.1
  obtain ⟨sz, mc, hL2c⟩ := hL2.cell
  have hkl : k < (e_c σ).length := (List.getElem?_eq_some_iff.mp hk).1
  have him : i ∈ e_c σ := List.mem_of_getElem? hk
  have hen : c_en ad (e_c σ) i = some (ad 3 i) := c_en_in him
  have hci := (h.2.2.2.2.1 i hi).1
  intro f
  induction f with
  | zero =>
    intro j x2 hjf h2
    subst h2
    have hjk : j = k := by omega
    subst hjk
    refine p_s rfl rfl ?_
    refine p_s rfl rfl ?_
    refine p_get rfl f_Mem_12 h.2.1 rfl ?_
    refine p_callV rfl c_Mem_37 rfl hL2c g_AL_size rfl rfl rfl (c_size hL2) (fun v w hq => ?_)
    obtain ⟨rfl, rfl⟩ := hq
    refine p_icmpF rfl (show ¬ nI ((e_c σ).map (ad 3)).length ≤ nI j by rw [List.length_map]; exact nI_ge (by omega) (by omega)) ?_
    refine p_s rfl rfl ?_
    refine p_get rfl f_Mem_12 h.2.1 rfl ?_
    refine p_s rfl rfl ?_
    refine p_callV rfl c_Mem_52 rfl hL2c g_AL_get rfl rfl rfl (c_get (i := j) (y := ad 3 i) hL2 (by rw [List.getElem?_map, hk]; rfl)) (fun v w hq => ?_)
    obtain ⟨rfl, rfl⟩ := hq
    refine p_s rfl rfl ?_
    refine p_get rfl f_Mem_25 hci rfl ?_
    rw [hen]
    refine p_acmpneR rfl (fun c => absurd rfl c) (fun _ => ?_)
    refine p_s rfl rfl ?_
    refine p_get rfl f_Mem_12 h.2.1 rfl ?_
    refine p_s rfl rfl ?_
    refine p_callV rfl c_Mem_71 rfl hL2c g_AL_remove rfl rfl rfl (c_remove hL2 (by rw [List.length_map]; omega) h.obE) (fun v w hq => ?_)
    obtain ⟨⟨y, rfl⟩, hl2, hf2⟩ := hq
    have hg := CRg.l2 hw h.g hf2 (Or.inl rfl) hl2
    rw [up6_self] at hg
    have hkp := hL2.kp hw hf2
    have hE : ((e_c σ).map (ad 3)).eraseIdx j = ((dropE (d_e σ) i).map (fun x => x.1)).map (ad 3) := by
      rw [dropE_erase (d_e σ) i j hnd hk, er_map, er_map]
    refine p_s rfl rfl ?_
    refine p_goto rfl ?_
    refine p_s rfl rfl ?_
    refine p_s rfl rfl ?_
    refine p_put rfl fp_Mem_25 (hg.2.2.2.2.1 i hi).1 rfl rfl (by exact Nat.le_of_ble_eq_true rfl) ?_
    refine p_vret rfl rfl ⟨rfl, ?_, hkp.tr (px_kp.up (hg.2.2.2.2.1 i hi).1 rfl)⟩
    have hfin := hg.dropped hi hE
    have hno : c_en ad (e_c (stE σ (dropE (d_e σ) i))) i = none := c_en_out (fun z => (dropE_codes.mp z).2 rfl)
    rw [show c_cd ad (stE σ (dropE (d_e σ) i)) i = oCd (nI (i + 1)) (d_A σ 0 i) (d_A σ 1 i) (d_A σ 2 i) (ad 1 i) (ad 2 i) (d_A σ 11 i) (c_pa ad (d_p σ i)) none by show oCd _ _ _ _ _ _ _ _ (c_en ad (e_c (stE σ (dropE (d_e σ) i))) i) = _; rw [hno]] at hfin
    exact hfin
  | succ f ih =>
    intro j x2 hjf h2
    subst h2
    have hjl : j < (e_c σ).length := by omega
    obtain ⟨c2, hc2⟩ : ∃ c2, (e_c σ)[j]? = some c2 := ⟨_, List.getElem?_eq_getElem hjl⟩
    have hne : c2 ≠ i := by
      intro z
      rw [z] at hc2
      have := nd_inj (e_c σ) hnd j k i hc2 hk
      omega
    refine p_s rfl rfl ?_
    refine p_s rfl rfl ?_
    refine p_get rfl f_Mem_12 h.2.1 rfl ?_
    refine p_callV rfl c_Mem_37 rfl hL2c g_AL_size rfl rfl rfl (c_size hL2) (fun v w hq => ?_)
    obtain ⟨rfl, rfl⟩ := hq
    refine p_icmpF rfl (show ¬ nI ((e_c σ).map (ad 3)).length ≤ nI j by rw [List.length_map]; exact nI_ge (by omega) (by omega)) ?_
    refine p_s rfl rfl ?_
    refine p_get rfl f_Mem_12 h.2.1 rfl ?_
    refine p_s rfl rfl ?_
    refine p_callV rfl c_Mem_52 rfl hL2c g_AL_get rfl rfl rfl (c_get (i := j) (y := ad 3 c2) hL2 (by rw [List.getElem?_map, hc2]; rfl)) (fun v w hq => ?_)
    obtain ⟨rfl, rfl⟩ := hq
    refine p_s rfl rfl ?_
    refine p_get rfl f_Mem_25 hci rfl ?_
    rw [hen]
    refine p_acmpneR rfl (fun _ => ?_) (fun c => absurd (h.2.2.2.1.2.2.2.2.2.2 c2 i (List.mem_of_getElem? hc2) him c) hne)
    refine p_s rfl rfl ?_
    refine p_goto rfl ?_
    exact ih (j + 1) _ (by omega) (nI_1 j)
set_option maxHeartbeats 2000000 in
theorem c_drop {G : px_G} {ws : va_W} {d : Nat} {R : Int32} {o : Nat} {ad : Nat → Nat → Nat} {σ : Md} (h : CR G R ws o ad σ) (hnd : (e_c σ).Nodup) (hlen : (e_c σ).length ≤ 512) {i : Nat} (hi : i < d_n σ) : px G m_Mem_drop 0 (lv_args 0 [.ref (ad 6 0), .ref (ad 0 i)]) [] ws (d + 3) 0 0 (fun v w => v = none ∧ CR G R w o ad (stE σ (dropE (d_e σ) i)) ∧ px_kp Kr ws w) := by
  refine p_wf (fun hw => ?_)
  have hci := (h.2.2.2.2.1 i hi).1
  by_cases him : i ∈ e_c σ
  · obtain ⟨k, hk⟩ := List.getElem?_of_mem him
    refine p_s rfl rfl ?_
    refine p_get rfl f_Mem_25 hci rfl ?_
    rw [c_en_in him]
    refine p_ifnonnull (r := some (ad 3 i)) rfl (fun _ => ?_) (fun c => by cases c)
    refine p_s rfl rfl ?_
    refine p_s rfl rfl ?_
    exact c_drop_loop h hw hnd hlen hi hk k 0 _ (by omega) rfl
  · refine p_s rfl rfl ?_
    refine p_get rfl f_Mem_25 hci rfl ?_
    rw [c_en_out him]
    refine p_ifnonnull (r := none) rfl (fun c => absurd rfl c) (fun _ => ?_)
    exact p_vret rfl rfl ⟨rfl, by rw [dropE_none him]; exact h, px_kp.rf⟩
