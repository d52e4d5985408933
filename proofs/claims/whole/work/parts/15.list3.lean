/-! ARRAYLIST: add, remove, as lists -/
set_option maxHeartbeats 2000000 in
theorem c_add {G : px_G} {ws : va_W} {d : Nat} {L ar e : Nat} {xs : List Nat} (h : LSA G ws L ar xs) (hlen : xs.length ≤ 511) (hob : ∀ x ∈ xs, px_ob ws x) (hobe : px_ob ws e) : px G m_AL_add1 0 (lv_args 0 [.ref L, .ref e]) [] ws (d + 6) 1 1000 (fun v w => v = some (.int 1) ∧ ∃ ar2 : Nat, (ar2 = ar ∨ px_lk ws ar2 = none) ∧ LSA G w L ar2 (xs ++ [e]) ∧ px_fr (lsS L ar) ws w) := by
  obtain ⟨mc, hL, hmode⟩ := h
  refine p_own hL ?_
  refine p_s rfl rfl ?_
  refine p_s rfl rfl ?_
  refine p_get2 rfl f_AL_63 hL rfl ?_
  refine p_s rfl rfl ?_
  refine p_s rfl rfl ?_
  refine p_put2 rfl fp_AL_63 hL rfl rfl (by exact Nat.le_of_ble_eq_true rfl) ?_
  refine p_s rfl rfl ?_
  refine p_s rfl rfl ?_
  refine p_s rfl rfl ?_
  refine p_get2 rfl f_AL_9 hL rfl ?_
  refine p_s rfl rfl ?_
  refine p_get2 rfl f_AL_48 hL rfl ?_
  have e0 : px_lk (px_up ws L (oAL ar (nI xs.length) (mc + 1))) L = some (oAL ar (nI xs.length) (mc + 1)) := px_lk_same _ _ _ _ hL
  have f0 : px_fr (lsS L ar) ws (px_up ws L (oAL ar (nI xs.length) (mc + 1))) := px_fr.up (Or.inl rfl)
  have h2 : LSA G (px_up ws L (oAL ar (nI xs.length) (mc + 1))) L ar xs := ⟨mc + 1, e0, hmode.imp id (fun ⟨cap, f, a1, a2⟩ => ⟨cap, f, px_keepK hL a1 (Nat.ne_of_beq_eq_false rfl), a2⟩)⟩
  have o1 : ∀ y, px_ob ws y → px_ob (px_up ws L (oAL ar (nI xs.length) (mc + 1))) y := fun y hy => hy.up hL ⟨rfl, Or.inl (by exact Nat.le_of_ble_eq_true rfl)⟩
  have n1 : ∀ q, px_lk (px_up ws L (oAL ar (nI xs.length) (mc + 1))) q = none → px_lk ws q = none := fun q hq => by
    by_cases z : q = L
    · rw [z, e0] at hq; cases hq
    · rw [px_lk_ne _ _ _ _ z] at hq; exact hq
  refine p_callV rfl c_AL_131 rfl e0 g_AL_add3 rfl rfl rfl (c_add3 h2 hlen (fun x hx => o1 x (hob x hx)) (o1 e hobe)) (fun v w hq => ?_)
  obtain ⟨rfl, ar2, ha2, hl2, hf2⟩ := hq
  refine p_s rfl rfl ?_
  exact p_iret rfl rfl rfl ⟨rfl, ar2, ha2.imp id (n1 ar2), hl2, f0.tr hf2⟩
set_option maxHeartbeats 2000000 in
theorem c_fastRemove {G : px_G} {ws : va_W} {d : Nat} {L ar i len cap : Nat} {mc : Int32} {f : Nat → Option Nat} (hL : px_lk ws L = some (oAL ar (nI len) mc)) (ha : px_lk ws ar = some (oRA G cap f)) (hi : i < len) (hlc : len ≤ cap) (hcap : cap ≤ 800) (hel : ∀ j, j < len → ∀ y, f j = some y → px_ob ws y) : px G m_AL_fastRemove 0 (lv_args 0 [.ref L, .ref ar, .int (nI i)]) [] ws (d + 1) 0 0 (fun v w => v = none ∧ ∃ f2 : Nat → Option Nat, px_lk w L = some (oAL ar (nI (len - 1)) (mc + 1)) ∧ px_lk w ar = some (oRA G cap f2) ∧ (∀ j, j < len - 1 → f2 j = if j < i then f j else f (j + 1)) ∧ px_fr (lsS L ar) ws w) := by
  refine p_own hL ?_
  refine p_s rfl rfl ?_
  refine p_s rfl rfl ?_
  refine p_get2 rfl f_AL_63 hL rfl ?_
  refine p_s rfl rfl ?_
  refine p_s rfl rfl ?_
  refine p_put2 rfl fp_AL_63 hL rfl rfl (by exact Nat.le_of_ble_eq_true rfl) ?_
  refine p_s rfl rfl ?_
  refine p_get2 rfl f_AL_48 hL rfl ?_
  have a1 : px_lk (px_up ws L (oAL ar (nI len) (mc + 1))) ar = some (oRA G cap f) := px_keepK hL ha (Nat.ne_of_beq_eq_false rfl)
  have L1 : px_lk (px_up ws L (oAL ar (nI len) (mc + 1))) L = some (oAL ar (nI len) (mc + 1)) := px_lk_same _ _ _ _ hL
  have o1 : ∀ y, px_ob ws y → px_ob (px_up ws L (oAL ar (nI len) (mc + 1))) y := fun y hy => hy.up hL ⟨rfl, Or.inl (by exact Nat.le_of_ble_eq_true rfl)⟩
  have e1 : nI len - 1 = nI (len - 1) := by rw [show (1 : Int32) = nI 1 from rfl, pk_sub (by omega)]
  refine p_s rfl rfl ?_
  refine p_s rfl rfl ?_
  rw [show (fun x y : Int32 => x - y) (nI len) 1 = nI (len - 1) from e1]
  refine p_s rfl rfl ?_
  refine p_s rfl rfl ?_
  refine p_s rfl rfl ?_
  refine p_icmp rfl (fun c => ?_) (fun c => ?_)
  · simp only [px_cmp] at c
    have hi2 : i = len - 1 := by
      have := (nI_leI (by omega) (by omega)).mp c
      omega
    refine p_s rfl rfl ?_
    refine p_s rfl rfl ?_
    refine p_s rfl rfl ?_
    refine p_s rfl rfl ?_
    refine p_put2 rfl fp_AL_48 hL rfl rfl (by exact Nat.le_of_ble_eq_true rfl) ?_
    refine p_s rfl rfl ?_
    refine p_aastNS rfl (px_keepK hL ha (Nat.ne_of_beq_eq_false rfl)) rfl (by omega) (by omega) ?_
    refine p_vret rfl rfl ⟨rfl, _, px_keepK (px_keepK hL ha (Nat.ne_of_beq_eq_false rfl)) (px_lk_same _ _ _ _ hL) (Nat.ne_of_beq_eq_false rfl), px_lk_same _ _ _ _ (px_keepK hL ha (Nat.ne_of_beq_eq_false rfl)), fun j hj => ?_, (px_fr.up (Or.inl rfl)).tr (px_fr.up (Or.inr rfl))⟩
    rw [if_pos (by omega)]
    exact if_neg (by omega)
  · simp only [px_ncmp] at c
    have hi2 : i < len - 1 := Nat.not_le.mp (fun z => c ((nI_leI (a := len - 1) (b := i) (by omega) (by omega)).mpr z))
    have e2 : nI i + 1 = nI (i + 1) := nI_1 i
    have e3 : nI (len - 1) - nI i = nI (len - 1 - i) := pk_sub (by omega)
    refine p_s rfl rfl ?_
    refine p_s rfl rfl ?_
    refine p_s rfl rfl ?_
    refine p_s rfl rfl ?_
    refine p_s rfl rfl ?_
    refine p_s rfl rfl ?_
    refine p_s rfl rfl ?_
    refine p_s rfl rfl ?_
    refine p_s rfl rfl ?_
    rw [show (fun x y : Int32 => x + y) (nI i) 1 = nI (i + 1) from e2, show (fun x y : Int32 => x - y) (nI (len - 1)) (nI i) = nI (len - 1 - i) from e3]
    refine p_copy rfl w_348 a1 a1 (nI_pos (by omega)) (nI_pos (by omega)) (nI_pos (by omega)) (by rw [nI_clamp (by omega), nI_clamp (by omega)]; omega) (by rw [nI_clamp (by omega), nI_clamp (by omega)]; omega) (fun j hj y hy => ?_) (by exact Nat.le_of_ble_eq_true rfl) ?_
    · rw [nI_clamp (by omega)] at hj hy
      exact o1 y (hel _ (by omega) y hy)
    rw [nI_clamp (by omega), nI_clamp (by omega), nI_clamp (by omega)]
    have a2 := px_lk_same _ _ _ (oRA G cap (va_cpy f f (i + 1) i (len - 1 - i))) a1
    have L2 := px_keepK (e := oRA G cap (va_cpy f f (i + 1) i (len - 1 - i))) a1 L1 (Nat.ne_of_beq_eq_false rfl)
    refine p_s rfl rfl ?_
    refine p_s rfl rfl ?_
    refine p_s rfl rfl ?_
    refine p_s rfl rfl ?_
    refine p_put rfl fp_AL_48 L2 rfl rfl (by exact Nat.le_of_ble_eq_true rfl) ?_
    have a3 := px_keepK (e := oAL ar (nI (len - 1)) (mc + 1)) L2 a2 (Nat.ne_of_beq_eq_false rfl)
    refine p_s rfl rfl ?_
    refine p_aastNS rfl a3 rfl (by omega) (by omega) ?_
    refine p_vret rfl rfl ⟨rfl, _, px_keepK a3 (px_lk_same _ _ _ _ L2) (Nat.ne_of_beq_eq_false rfl), px_lk_same _ _ _ _ a3, fun j hj => ?_, (px_fr.up (Or.inl rfl)).tr ((px_fr.up (Or.inr rfl)).tr ((px_fr.up (Or.inl rfl)).tr (px_fr.up (Or.inr rfl))))⟩
    show va_up _ (len - 1) none j = _
    rw [show va_up (va_cpy f f (i + 1) i (len - 1 - i)) (len - 1) none j = va_cpy f f (i + 1) i (len - 1 - i) j from if_neg (by omega)]
    by_cases hji : j < i
    · rw [if_pos hji, pk_cpy_out (Or.inl hji)]
    · rw [if_neg hji, pk_cpy_in (by omega) (by omega)]
      congr 1
      omega
set_option maxHeartbeats 2000000 in
theorem c_remove {G : px_G} {ws : va_W} {d : Nat} {L ar i : Nat} {xs : List Nat} (h : LSA G ws L ar xs) (hi : i < xs.length) (hob : ∀ x ∈ xs, px_ob ws x) : px G m_AL_remove 0 (lv_args 0 [.ref L, .int (nI i)]) [] ws (d + 2) 0 0 (fun v w => (∃ y, v = some (.ref y)) ∧ LSA G w L ar (xs.eraseIdx i) ∧ px_fr (lsS L ar) ws w) := by
  obtain ⟨mc, hL, hmode⟩ := h
  rcases hmode with ⟨-, hx⟩ | ⟨cap, f, ha, hc, hlc, hcap, hf⟩
  · rw [hx] at hi; exact absurd hi (Nat.not_lt_zero _)
  refine p_s rfl rfl ?_
  refine p_s rfl rfl ?_
  refine p_get rfl f_AL_48 hL rfl ?_
  refine p_callS rfl c_AL_118 g_Obs_checkIndex rfl rfl rfl (c_obs hi (by omega)) (fun v w hq => ?_)
  obtain ⟨rfl, rfl⟩ := hq
  refine p_s rfl rfl ?_
  refine p_s rfl rfl ?_
  refine p_get rfl f_AL_9 hL rfl ?_
  refine p_s rfl rfl ?_
  refine p_s rfl rfl ?_
  refine p_s rfl rfl ?_
  refine p_aaldS rfl ha rfl (by omega) (by omega) ((hf i hi).trans (List.getElem?_eq_getElem hi)) ?_
  refine p_s rfl rfl ?_
  refine p_s rfl rfl ?_
  refine p_s rfl rfl ?_
  refine p_s rfl rfl ?_
  refine p_callV rfl c_AL_144 rfl hL g_AL_fastRemove rfl rfl rfl (c_fastRemove hL ha hi hlc hcap (px_ob_ls hob rfl hf)) (fun v w hq => ?_)
  obtain ⟨rfl, f2, L2, a2, hf2, hfr⟩ := hq
  refine p_s rfl rfl ?_
  have hle : (xs.eraseIdx i).length = xs.length - 1 := List.length_eraseIdx_of_lt hi
  refine p_aretR rfl rfl (Or.inl ⟨_, rfl⟩) ⟨⟨_, rfl⟩, ⟨mc + 1, by rw [hle]; exact L2, Or.inr ⟨cap, f2, a2, hc, by rw [hle]; omega, hcap, fun j hj => ?_⟩⟩, hfr⟩
  rw [hle] at hj
  rw [hf2 j hj, List.getElem?_eraseIdx]
  by_cases hji : j < i
  · rw [if_pos hji, if_pos hji, hf j (by omega)]
  · rw [if_neg hji, if_neg hji, hf (j + 1) (by omega)]
theorem c_get {G : px_G} {ws : va_W} {d : Nat} {L ar i : Nat} {xs : List Nat} {y : Nat} (h : LSA G ws L ar xs) (hy : xs[i]? = some y) : px G m_AL_get 0 (lv_args 0 [.ref L, .int (nI i)]) [] ws (d + 2) 0 0 (fun v w => v = some (.ref y) ∧ w = ws) := by
  have hi : i < xs.length := (List.getElem?_eq_some_iff.mp hy).1
  obtain ⟨mc, hL, hmode⟩ := h
  rcases hmode with ⟨-, hx⟩ | ⟨cap, f, ha, hc, hlc, hcap, hf⟩
  · rw [hx] at hi; exact absurd hi (Nat.not_lt_zero _)
  · exact c_alget hL ha hi hlc (by omega) ((hf i hi).trans hy)
theorem c_size {G : px_G} {ws : va_W} {d : Nat} {L ar : Nat} {xs : List Nat} (h : LSA G ws L ar xs) : px G m_AL_size 0 (lv_args 0 [.ref L]) [] ws d 0 0 (fun v w => v = some (.int (nI xs.length)) ∧ w = ws) := by
  obtain ⟨mc, hL, -⟩ := h
  exact c_alsize hL
theorem LSA.cell {G : px_G} {ws : va_W} {L ar : Nat} {xs : List Nat} (h : LSA G ws L ar xs) : ∃ sz mc, px_lk ws L = some (oAL ar sz mc) := ⟨_, h.choose, h.choose_spec.1⟩
theorem LSA.fr {S : Nat → Prop} {G : px_G} {ws w : va_W} {L ar : Nat} {xs : List Nat} (h : LSA G ws L ar xs) (hf : px_fr S ws w) (h1 : ¬ S L) (h2 : ¬ S ar) : LSA G w L ar xs := by
  obtain ⟨mc, hL, hmode⟩ := h
  exact ⟨mc, hf _ _ h1 hL, hmode.imp id (fun ⟨cap, f, a1, a2⟩ => ⟨cap, f, hf _ _ h2 a1, a2⟩)⟩
