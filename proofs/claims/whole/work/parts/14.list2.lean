/-! ARRAYLIST: adding, taking out -/
/-- a list of addresses, held by the ArrayList at L in the array at ar -/
def LSA (G : px_G) (ws : va_W) (L ar : Nat) (xs : List Nat) : Prop := ∃ mc : Int32, px_lk ws L = some (oAL ar (nI xs.length) mc) ∧ ((ar = g_sv G 0 ∧ xs = []) ∨ ∃ (cap : Nat) (f : Nat → Option Nat), px_lk ws ar = some (oRA G cap f) ∧ 0 < cap ∧ xs.length ≤ cap ∧ cap ≤ 800 ∧ ∀ i, i < xs.length → f i = xs[i]?)
/-- the list's two cells -/
abbrev lsS (L ar : Nat) : Nat → Prop := fun b => b = L ∨ b = ar
set_option maxHeartbeats 2000000 in
theorem c_grow1a {G : px_G} {ws : va_W} {d : Nat} {L : Nat} {sz mc : Int32} (h : px_lk ws L = some (oAL (g_sv G 0) sz mc)) : px G m_AL_grow1 0 (lv_args 0 [.ref L, .int (nI 1)]) [] ws (d + 1) 1 1000 (fun v w => ∃ q, v = some (.ref q) ∧ px_lk ws q = none ∧ w = px_up (ws ++ [(q, oRA G 10 (fun _ => none))]) L (oAL q sz mc)) := by
  refine p_s rfl rfl ?_
  refine p_get rfl f_AL_9 h rfl ?_
  refine p_tlen (k := 0) rfl rfl ?_
  refine p_s rfl rfl ?_
  refine p_s rfl rfl ?_
  refine p_ifF rfl (show ¬ (0 : Int32) < 0 by decide) ?_
  refine p_s rfl rfl ?_
  refine p_get rfl f_AL_9 h rfl ?_
  refine p_gets (k := 0) rfl rfl w_38 ?_
  refine p_acmpeqR rfl (fun _ => ?_) (fun c => absurd rfl c)
  refine p_s rfl rfl ?_
  refine p_s rfl rfl ?_
  refine p_s rfl rfl ?_
  refine p_max rfl w_222 w_189 w_10 w_190 (by exact Nat.le_of_ble_eq_true rfl) ?_
  rw [show (if (10 : Int32) < nI 1 then nI 1 else 10) = nI 10 by decide]
  refine p_newQS (bc := 0) (bs := 990) (N := 10) rfl w_223 rfl (by decide) rfl rfl (fun q hq hql => ?_)
  refine p_s rfl rfl ?_
  refine p_put rfl fp_AL_9 (px_lk_old _ _ _ _ _ h) rfl rfl (by exact Nat.le_of_ble_eq_true rfl) ?_
  exact p_aretR rfl rfl (Or.inr ⟨_, rfl⟩) ⟨q, rfl, hq, rfl⟩
set_option maxHeartbeats 2000000 in
theorem c_grow1b {G : px_G} {ws : va_W} {d : Nat} {L ar cap m p : Nat} {sz mc : Int32} {f : Nat → Option Nat} (h : px_lk ws L = some (oAL ar sz mc)) (ha : px_lk ws ar = some (oRA G cap f)) (hc : 0 < cap) (hp : p = cap / 2) (hm : (if 1 < p then p else 1) = m) (hb : cap + m ≤ 1000) (hel : ∀ i, i < cap → ∀ y, f i = some y → px_ob ws y) : px G m_AL_grow1 0 (lv_args 0 [.ref L, .int (nI (cap + 1))]) [] ws (d + 3) 1 1000 (fun v w => ∃ q, v = some (.ref q) ∧ px_lk ws q = none ∧ w = px_up (px_up (ws ++ [(q, oRA G (cap + m) (fun _ => none))]) q (oRA G (cap + m) (va_cpy f (fun _ => none) 0 0 cap))) L (oAL q sz mc)) := by
  refine p_s rfl rfl ?_
  refine p_get rfl f_AL_9 h rfl ?_
  refine p_alenR rfl ha ?_
  refine p_s rfl rfl ?_
  refine p_s rfl rfl ?_
  refine p_ifT rfl (show (0 : Int32) < nI cap by rw [show (0 : Int32) = nI 0 from rfl, nI_ltI (by omega) (by omega)]; exact hc) ?_
  have e1 : nI (cap + 1) - nI cap = nI 1 := by rw [pk_sub (by omega)]; congr 1; omega
  have e2 : nI cap >>> ((1 : Int32) &&& 31) = nI p := by rw [pk_shrN (by omega) _ 1 (by decide), hp]
  refine p_s rfl rfl ?_
  refine p_s rfl rfl ?_
  refine p_s rfl rfl ?_
  refine p_s rfl rfl ?_
  refine p_s rfl rfl ?_
  refine p_s rfl rfl ?_
  refine p_s rfl rfl ?_
  rw [show (fun x y : Int32 => x - y) (nI (cap + 1)) (nI cap) = nI 1 from e1, show (fun x y : Int32 => x >>> (y &&& 31)) (nI cap) 1 = nI p from e2]
  refine p_callS rfl c_AL_73 g_ArS_newLength rfl rfl rfl (c_newLength hm (by omega) (by omega)) (fun v w hq => ?_)
  obtain ⟨rfl, rfl⟩ := hq
  refine p_s rfl rfl ?_
  refine p_s rfl rfl ?_
  refine p_s rfl rfl ?_
  refine p_get rfl f_AL_9 h rfl ?_
  refine p_s rfl rfl ?_
  refine p_callS rfl c_AL_66 g_Ars_copyOf2 rfl rfl rfl (c_copyOf2 ha (by omega) hb hel) (fun v w hq => ?_)
  obtain ⟨q, rfl, hq1, rfl⟩ := hq
  refine p_s rfl rfl ?_
  refine p_put rfl fp_AL_9 (px_keep (px_lk_old _ _ _ _ _ h) (px_nn h hq1)) rfl rfl (by exact Nat.le_of_ble_eq_true rfl) ?_
  exact p_aretR rfl rfl (Or.inr ⟨_, rfl⟩) ⟨q, rfl, hq1, rfl⟩
theorem px_ob_ls {ws : va_W} {xs : List Nat} {f : Nat → Option Nat} {n : Nat} (hx : ∀ x ∈ xs, px_ob ws x) (hn : n = xs.length) (hf : ∀ i, i < xs.length → f i = xs[i]?) : ∀ i, i < n → ∀ y, f i = some y → px_ob ws y := by
  intro i hi y hy
  rw [hf i (by omega)] at hy
  exact hx y (List.mem_of_getElem? hy)
set_option maxHeartbeats 2000000 in
theorem c_grow0 {G : px_G} {ws : va_W} {d : Nat} {L ar : Nat} {xs : List Nat} (h : LSA G ws L ar xs) (hfull : ∀ cap f, px_lk ws ar = some (oRA G cap f) → cap = xs.length ∨ xs = []) (hlen : xs.length ≤ 511) (hob : ∀ x ∈ xs, px_ob ws x) (hmode : (ar = g_sv G 0 ∧ xs = []) ∨ ∃ (cap : Nat) (f : Nat → Option Nat), px_lk ws ar = some (oRA G cap f) ∧ 0 < cap ∧ cap = xs.length ∧ ∀ i, i < xs.length → f i = xs[i]?) : px G m_AL_grow0 0 (lv_args 0 [.ref L]) [] ws (d + 4) 1 1000 (fun v w => ∃ (q cap : Nat) (f : Nat → Option Nat) (mc : Int32), v = some (.ref q) ∧ px_lk ws q = none ∧ px_lk w L = some (oAL q (nI xs.length) mc) ∧ px_lk w q = some (oRA G cap f) ∧ xs.length < cap ∧ cap ≤ 800 ∧ (∀ i, i < xs.length → f i = xs[i]?) ∧ px_fr (fun b => b = L) ws w) := by
  obtain ⟨mc, hL, -⟩ := h
  rcases hmode with ⟨rfl, rfl⟩ | ⟨cap, f, ha, hc, hcl, hf⟩
  · skip
    refine p_s rfl rfl ?_
    refine p_s rfl rfl ?_
    refine p_get rfl f_AL_48 hL rfl ?_
    refine p_s rfl rfl ?_
    refine p_s rfl rfl ?_
    rw [show (fun x y : Int32 => x + y) (nI ([] : List Nat).length) 1 = nI 1 from rfl]
    refine p_callV rfl c_AL_69 rfl hL g_AL_grow1 rfl rfl rfl (p_le (by omega) (Nat.le_refl _) (Nat.le_refl _) (c_grow1a (d := d) hL)) (fun v w hq => ?_)
    obtain ⟨q, rfl, hq1, rfl⟩ := hq
    refine p_aretR rfl rfl (Or.inr ⟨_, rfl⟩) ⟨q, 10, fun _ => none, mc, rfl, hq1, px_lk_same _ _ _ _ (px_lk_old _ _ _ _ _ hL), px_keep (px_lk_new _ _ _ hq1) (fun z => px_nn hL hq1 z.symm), by decide, by decide, fun i hi => absurd hi (Nat.not_lt_zero i), ?_⟩
    exact px_fr.nw.tr (px_fr.up rfl)
  · skip
    refine p_s rfl rfl ?_
    refine p_s rfl rfl ?_
    refine p_get rfl f_AL_48 hL rfl ?_
    refine p_s rfl rfl ?_
    refine p_s rfl rfl ?_
    rw [show (fun x y : Int32 => x + y) (nI xs.length) 1 = nI (cap + 1) by rw [hcl]; exact nI_1 _]
    refine p_callV rfl c_AL_69 rfl hL g_AL_grow1 rfl rfl rfl (c_grow1b hL ha hc rfl rfl (by split <;> omega) (px_ob_ls hob hcl hf)) (fun v w hq => ?_)
    obtain ⟨q, rfl, hq1, rfl⟩ := hq
    refine p_aretR rfl rfl (Or.inr ⟨_, rfl⟩) ⟨q, _, _, mc, rfl, hq1, px_lk_same _ _ _ _ (px_keep (px_lk_old _ _ _ _ _ hL) (px_nn hL hq1)), px_keep (px_lk_same _ _ _ _ (px_lk_new _ _ _ hq1)) (fun z => px_nn hL hq1 z.symm), by split <;> omega, by split <;> omega, fun i hi => ?_, ?_⟩
    · rw [pk_cpy_in (Nat.zero_le _) (by omega)]
      show f (0 + (i - 0)) = _
      rw [Nat.zero_add, Nat.sub_zero]
      exact hf i hi
    · exact (px_fr.upn hq1).tr (px_fr.up rfl)
theorem px_ob.up {ws : va_W} {a y : Nat} {e x : va_E} (h : px_ob ws y) (ha : px_lk ws a = some x) (hk : px_kd x = px_kd e ∧ (px_kd e < 8 ∨ 1000 ≤ px_kd e)) : px_ob (px_up ws a e) y := by
  obtain ⟨ci, fs, K, T, N, h1, h2, h3⟩ := h
  by_cases hy : y = a
  · subst hy
    have hx := Option.some.inj (h1.symm.trans ha)
    subst hx
    have hci : ci < 8 := (List.getElem?_eq_some_iff.mp h2).1
    have hk1 : ci = px_kd e := hk.1
    cases e with
    | inr o =>
      obtain ⟨c2, fs2⟩ := o
      have : c2 = ci := hk1.symm
      subst this
      exact ⟨c2, fs2, K, T, N, px_lk_same _ _ _ _ h1, h2, h3⟩
    | inl q =>
      obtain ⟨x1, x2, x3⟩ := q
      exfalso
      have hk2 : ci = px_kd (.inl (x1, x2, x3)) := hk1
      rcases x3 with _ | _ | _ | _ | _ <;> simp [px_kd] at hk2 <;> omega
  · exact ⟨ci, fs, K, T, N, px_keep h1 hy, h2, h3⟩
theorem px_ob.fr {S : Nat → Prop} {ws w : va_W} {y : Nat} (h : px_ob ws y) (hf : px_fr S ws w) (hy : ¬ S y) : px_ob w y := by
  obtain ⟨ci, fs, K, T, N, h1, h2, h3⟩ := h
  exact ⟨ci, fs, K, T, N, hf y _ hy h1, h2, h3⟩
set_option maxHeartbeats 2000000 in
theorem c_add_tail {G : px_G} {ws : va_W} {d : Nat} {L q e len cap bc bs : Nat} {mc : Int32} {f : Nat → Option Nat} {lv : List (Nat × Value)} {Q : Option Value → va_W → Prop} (l0 : px_get lv 0 = some (.ref L)) (l1 : px_get lv 1 = some (.ref e)) (l2 : px_get lv 2 = some (.ref q)) (l3 : px_get lv 3 = some (.int (nI len))) (hL : px_lk ws L = some (oAL q (nI len) mc)) (hq : px_lk ws q = some (oRA G cap f)) (hlc : len < cap) (hcap : cap ≤ 800) (hob : px_ob ws e) (hQ : Q none (px_up (px_up ws q (oRA G cap (va_up f len (some e)))) L (oAL q (nI (len + 1)) mc))) : px G m_AL_add3 11 lv [] ws d bc bs Q := by
  refine p_s (lv' := lv) (st' := [.ref q]) rfl (by show px_loadA lv _ 2 = _; rw [px_loadA, l2]) ?_
  refine p_s (lv' := lv) (st' := [.int (nI len), .ref q]) rfl (by show px_loadI lv _ 3 = _; rw [px_loadI, l3]) ?_
  refine p_s (lv' := lv) (st' := [.ref e, .int (nI len), .ref q]) rfl (by show px_loadA lv _ 1 = _; rw [px_loadA, l1]) ?_
  refine p_aastS rfl hq rfl hlc (by omega) hob ?_
  have hL2 := px_keepK (e := oRA G cap (va_up f len (some e))) hq hL (Nat.ne_of_beq_eq_false rfl)
  refine p_s (lv' := lv) (st' := [.ref L]) rfl (by show px_loadA lv _ 0 = _; rw [px_loadA, l0]) ?_
  refine p_s (lv' := lv) (st' := [.int (nI len), .ref L]) rfl (by show px_loadI lv _ 3 = _; rw [px_loadI, l3]) ?_
  refine p_s rfl rfl ?_
  refine p_s rfl rfl ?_
  rw [show (fun x y : Int32 => x + y) (nI len) 1 = nI (len + 1) from nI_1 len]
  refine p_put rfl fp_AL_48 hL2 rfl rfl (by exact Nat.le_of_ble_eq_true rfl) ?_
  exact p_vret rfl rfl hQ
theorem px_app_get {xs : List Nat} {e i : Nat} (hi : i < (xs ++ [e]).length) {f g : Nat → Option Nat} (hf : ∀ j, j < xs.length → f j = xs[j]?) (hg : ∀ j, j < xs.length → g j = f j) (he : g xs.length = some e) : g i = (xs ++ [e])[i]? := by
  rw [List.length_append, List.length_singleton] at hi
  by_cases h : i < xs.length
  · rw [List.getElem?_append_left h, hg i h, hf i h]
  · have e1 : i = xs.length := by omega
    subst e1
    rw [he, List.getElem?_append_right (Nat.le_refl _)]
    simp
set_option maxHeartbeats 2000000 in
theorem c_add3 {G : px_G} {ws : va_W} {d : Nat} {L ar e : Nat} {xs : List Nat} (h : LSA G ws L ar xs) (hlen : xs.length ≤ 511) (hob : ∀ x ∈ xs, px_ob ws x) (hobe : px_ob ws e) : px G m_AL_add3 0 (lv_args 0 [.ref L, .ref e, .ref ar, .int (nI xs.length)]) [] ws (d + 5) 1 1000 (fun v w => v = none ∧ ∃ ar2 : Nat, (ar2 = ar ∨ px_lk ws ar2 = none) ∧ LSA G w L ar2 (xs ++ [e]) ∧ px_fr (lsS L ar) ws w) := by
  obtain ⟨mc, hL, hmode⟩ := id h
  have hgrow : ∀ (k : Nat), k = xs.length → ((ar = g_sv G 0 ∧ xs = []) ∨ ∃ (cap : Nat) (f : Nat → Option Nat), px_lk ws ar = some (oRA G cap f) ∧ 0 < cap ∧ cap = xs.length ∧ ∀ i, i < xs.length → f i = xs[i]?) → px G m_AL_add3 6 (lv_args 0 [.ref L, .ref e, .ref ar, .int (nI xs.length)]) [] ws (d + 5) 1 1000 (fun v w => v = none ∧ ∃ ar2 : Nat, (ar2 = ar ∨ px_lk ws ar2 = none) ∧ LSA G w L ar2 (xs ++ [e]) ∧ px_fr (lsS L ar) ws w) := by
    intro _ _ hm
    refine p_s rfl rfl ?_
    refine p_callV rfl c_AL_129 rfl hL g_AL_grow0 rfl rfl rfl (c_grow0 h ?_ hlen hob hm) (fun v w hq => ?_)
    · intro cap f hc
      rcases hm with ⟨-, hx⟩ | ⟨cap2, f2, hc2, -, hx, -⟩
      · exact Or.inr hx
      · have := Option.some.inj (hc.symm.trans hc2)
        cases this
        exact Or.inl hx
    obtain ⟨q, cap, f, mc2, rfl, hq1, hL2, hq2, hlc, hcap, hf, hfr⟩ := hq
    refine p_s rfl rfl ?_
    have hne : q ≠ L := fun z => px_nn hL hq1 z.symm
    have hLo : ¬ e = L := by
      intro z
      obtain ⟨ci, fs, K, T, N, a1, a2, a3⟩ := hobe
      rw [z] at a1
      have a4 := Option.some.inj (a1.symm.trans hL)
      cases a4
      cases a2
      exact absurd a3 (by decide +kernel)
    refine c_add_tail rfl rfl rfl rfl hL2 hq2 hlc hcap (hobe.fr hfr hLo) ⟨rfl, q, Or.inr hq1, ⟨mc2, ?_, Or.inr ⟨cap, _, px_keep (px_lk_same _ _ _ _ hq2) hne, by omega, ?_, hcap, fun i hi => px_app_get hi hf (fun j hj => if_neg (by omega)) (if_pos rfl)⟩⟩, ?_⟩
    · rw [List.length_append, List.length_singleton]
      exact px_lk_same _ _ _ _ (px_keepK hq2 hL2 (Nat.ne_of_beq_eq_false rfl))
    · rw [List.length_append, List.length_singleton]; omega
    · intro b x hb hx
      have hb1 : ¬ b = L := fun z => hb (Or.inl z)
      have h1 := hfr b x hb1 hx
      exact px_keep (px_keep h1 (px_nn hx hq1)) hb1
  rcases hmode with ⟨har, hx⟩ | ⟨cap, f, ha, hc, hle, hcap, hf⟩
  · refine p_s rfl rfl ?_
    refine p_s rfl rfl ?_
    rw [har]
    refine p_tlen (k := 0) rfl rfl ?_
    refine p_icmpF rfl (show nI xs.length = 0 by rw [hx]; rfl) ?_
    rw [← har]
    exact hgrow _ rfl (Or.inl ⟨har, hx⟩)
  · refine p_s rfl rfl ?_
    refine p_s rfl rfl ?_
    refine p_alenR rfl ha ?_
    by_cases hfl : cap = xs.length
    · refine p_icmpF rfl (show nI xs.length = nI cap by rw [hfl]) ?_
      exact hgrow _ rfl (Or.inr ⟨cap, f, ha, hc, hfl, hf⟩)
    · refine p_icmpT rfl (show ¬ nI xs.length = nI cap from fun z => hfl ((nI_eq (by omega) (by omega)).mp z).symm) ?_
      refine p_le (bc := 0) (bs := 0) (Nat.le_refl _) (Nat.zero_le _) (Nat.zero_le _) ?_
      refine c_add_tail rfl rfl rfl rfl hL ha (by omega) hcap hobe ⟨rfl, ar, Or.inl rfl, ⟨mc, ?_, Or.inr ⟨cap, _, px_keepK (px_keepK ha hL (Nat.ne_of_beq_eq_false rfl)) (px_lk_same _ _ _ _ ha) (Nat.ne_of_beq_eq_false rfl), hc, ?_, hcap, fun i hi => px_app_get hi hf (fun j hj => if_neg (by omega)) (if_pos rfl)⟩⟩, ?_⟩
      · rw [List.length_append, List.length_singleton]
        exact px_lk_same _ _ _ _ (px_keepK ha hL (Nat.ne_of_beq_eq_false rfl))
      · rw [List.length_append, List.length_singleton]; omega
      · exact (px_fr.up (Or.inr rfl)).tr (px_fr.up (Or.inl rfl))
