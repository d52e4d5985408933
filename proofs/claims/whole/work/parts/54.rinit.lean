/-! THE REFERENCE: the constructor -/
def rv (aa : Nat → Nat) (k j : Nat) : Value := bif Nat.blt j k then .ref (aa j) else .null
abbrev oRv (aa : Nat → Nat) (k : Nat) : List Value := [.int 0, .int 0, .int 0, rv aa k 0, rv aa k 1, rv aa k 2, rv aa k 3, rv aa k 4, rv aa k 5, rv aa k 6, rv aa k 7, rv aa k 8, rv aa k 9, rv aa k 10, rv aa k 11, rv aa k 12, rv aa k 13, rv aa k 14, rv aa k 15, .int 0, .int 0, rv aa k 16, rv aa k 17, .int 0, .int 0, .int 0]
def RI (G : px_G) (ws0 ws : va_W) (m : Nat) (aa : Nat → Nat) (k : Nat) : Prop := px_lk ws m = some (.inr (7, oRv aa k)) ∧ (∀ j, j < k → px_lk ws (aa j) = some (rcell G j (fun _ => 0))) ∧ (∀ i j, i < k → j < k → aa i = aa j → i = j) ∧ px_fr (fun b => b = m) ws0 ws
theorem RI.step {G : px_G} {ws0 ws : va_W} {m : Nat} {aa : Nat → Nat} {k q : Nat} {fs : List Value} (h : RI G ws0 ws m aa k) (hq : px_lk ws q = none) (hset : fs = oRv (upN aa k q) (k + 1)) : RI G ws0 (px_up (ws ++ [(q, rcell G k (fun _ => 0))]) m (.inr (7, fs))) m (upN aa k q) (k + 1) := by
  obtain ⟨h1, h2, h3, h4⟩ := h
  subst hset
  have hmq : m ≠ q := px_nn h1 hq
  have hnm : ∀ j, j < k → aa j ≠ m := fun j hj => px_nek (h2 j hj) h1 (by rw [rcell_kd]; exact Nat.ne_of_beq_eq_false rfl)
  have hnq : ∀ j, j < k → aa j ≠ q := fun j hj => px_nn (h2 j hj) hq
  refine ⟨px_lk_same _ _ _ _ (px_lk_old _ _ _ _ _ h1), fun j hj => ?_, fun i j hi hj e => ?_, h4.tr (px_fr.nw.tr (px_fr.up rfl))⟩
  · by_cases hjk : j = k
    · rw [upN_s hjk, hjk]
      exact px_keep (px_lk_new _ _ _ hq) (fun z => hmq z.symm)
    · rw [upN_n hjk]
      exact px_keep (px_lk_old _ _ _ _ _ (h2 j (by omega))) (hnm j (by omega))
  · by_cases hik : i = k
    · by_cases hjk : j = k
      · rw [hik, hjk]
      · rw [upN_s hik, upN_n hjk] at e
        exact absurd e.symm (hnq j (by omega))
    · by_cases hjk : j = k
      · rw [upN_n hik, upN_s hjk] at e
        exact absurd e (hnq i (by omega))
      · rw [upN_n hik, upN_n hjk] at e
        exact h3 i j (by omega) (by omega) e
section MKA
variable {G : px_G} {M : px_M} {pc nx nx2 d bc bs : Nat} {tg tg2 : List Nat} {z z2 : Int32} {lv : List (Nat × Value)} {st : List Value} {ws ws0 : va_W} {Q : Option Value → va_W → Prop} {aa : Nat → Nat}
theorem p_mkI {idx kf k m N B S : Nat} {n : Int32} (ha1 : px_at M pc = some (.newarray .int, nx, tg, z)) (ha2 : px_at M nx = some (.putfield idx, nx2, tg2, z2)) (hF : px_FpF (px_y M).cls idx 7 kf (.array .int)) (hi : (px_y M).name = "<init>") (hI : RI G ws0 ws m aa k) (hn : n = nI N) (hN : N ≤ 2000) (hc : rcell G k (fun _ => 0) = oIA G N (fun _ => 0)) (hset : ∀ q, (oRv aa k).set kf (.ref q) = oRv (upN aa k q) (k + 1)) (hkl : kf < 26) (hB : bc + 1 = B) (hS : bs + N = S) (kk : ∀ ws aa, RI G ws0 ws m aa (k + 1) → px G M nx2 lv st ws d bc bs Q) : px G M pc lv (.int n :: .ref m :: st) ws d B S Q := by
  subst hn
  subst hB
  subst hS
  refine p_newI (t := 0) (N := N) ha1 rfl w_569 (nI_pos (by omega)) (nI_clamp (by omega)) (by omega) (fun q hq hl => ?_)
  have hs := hI.step hq (hset q)
  rw [hc] at hs
  exact p_putF (fs := oRv aa k) ha2 hF hi (px_lk_old _ _ _ _ _ hI.1) rfl rfl hkl (kk _ _ hs)
theorem p_mkZ {idx kf k m N B S : Nat} {n : Int32} (ha1 : px_at M pc = some (.newarray .boolean, nx, tg, z)) (ha2 : px_at M nx = some (.putfield idx, nx2, tg2, z2)) (hF : px_FpF (px_y M).cls idx 7 kf (.array .boolean)) (hi : (px_y M).name = "<init>") (hI : RI G ws0 ws m aa k) (hn : n = nI N) (hN : N ≤ 2000) (hc : rcell G k (fun _ => 0) = oZA G N (fun _ => 0)) (hset : ∀ q, (oRv aa k).set kf (.ref q) = oRv (upN aa k q) (k + 1)) (hkl : kf < 26) (hB : bc + 1 = B) (hS : bs + N = S) (kk : ∀ ws aa, RI G ws0 ws m aa (k + 1) → px G M nx2 lv st ws d bc bs Q) : px G M pc lv (.int n :: .ref m :: st) ws d B S Q := by
  subst hn
  subst hB
  subst hS
  refine p_newZ (t := 1) (N := N) ha1 rfl w_570 (nI_pos (by omega)) (nI_clamp (by omega)) (by show N * 1 ≤ 536870912; omega) (fun q hq hl => ?_)
  have hs := hI.step hq (hset q)
  rw [hc] at hs
  exact p_putF (fs := oRv aa k) ha2 hF hi (px_lk_old _ _ _ _ _ hI.1) rfl rfl hkl (kk _ _ hs)
end MKA
theorem RS.first (r : Int32) : RS r 0 (fun _ _ => 0) (upS (fun _ => 0) 1 r) m0 := by
  refine ⟨Nat.zero_le _, fun k hk i hi => absurd hi (Nat.not_lt_zero _), fun i hi => absurd hi (Nat.not_lt_zero _), fun i hi => absurd hi (Nat.not_lt_zero _), ⟨fun i hi => absurd hi (Nat.not_lt_zero _), fun i _ _ => rfl⟩, ⟨fun _ => 0, 0, rfl, Nat.le_refl _, fun i hi => ⟨rfl, Nat.le_refl _, ⟨fun _ => List.not_mem_nil, fun _ => rfl⟩⟩, List.Pairwise.nil, fun x hx => absurd hx List.not_mem_nil⟩, ⟨rfl, fun k c h => by cases h⟩, fun j hj => ?_, rfl, rfl, rfl, rfl, rfl, Or.inr rfl⟩
  show (0 : Int32) = if sHas (-1) (bmk j) = 0 then 1 else 0
  rw [if_neg (bit_all j hj)]
theorem RI.last {G : px_G} {ws0 ws : va_W} {m : Nat} {aa : Nat → Nat} {r : Int32} (h : RI G ws0 ws m aa 18) : RH G (px_up ws m (.inr (7, (oRv aa 18).set 1 (.int r)))) m aa (fun _ _ => 0) (upS (fun _ => 0) 1 r) ∧ px_fr (fun b => b = m) ws0 (px_up ws m (.inr (7, (oRv aa 18).set 1 (.int r)))) := by
  obtain ⟨h1, h2, h3, h4⟩ := h
  refine ⟨⟨px_lk_same _ _ _ _ h1, fun c hcl => px_keepK h1 (h2 c hcl) ?_, h3, fun _ => Or.inl rfl, fun _ => Or.inl rfl, fun _ => Or.inl rfl⟩, h4.tr (px_fr.up rfl)⟩
  rw [rcell_kd]
  exact Nat.ne_of_beq_eq_false rfl
set_option maxHeartbeats 4000000 in
theorem r_init {G : px_G} {ws : va_W} {d m : Nat} {x : Int32} (h : px_lk ws m = some (.inr (7, oRv (fun _ => 0) 0))) : px G m_Rf_init 0 (lv_args 0 [.ref m, .int x]) [] ws (d + 10) 18 7969 (fun v w => v = none ∧ ∃ aa, (∃ fa s, RH G w m aa fa s ∧ RS (roomOf x) 0 fa s m0) ∧ px_fr (fun b => b = m) ws w) := by
  have hI : RI G ws ws m (fun _ => 0) 0 := ⟨h, fun j hj => absurd hj (Nat.not_lt_zero _), fun i j hi => absurd hi (Nat.not_lt_zero _), px_fr.rf⟩
  refine p_s rfl rfl ?_
  refine p_objI rfl w_488 w_24 w_25 (by exact Nat.le_of_ble_eq_true rfl) ?_
  refine p_s rfl rfl ?_
  refine p_s rfl rfl ?_
  refine p_mkI (k := 0) (N := 201) (bc := 17) (bs := 7768) rfl rfl fF_Rf_7 rfl hI rfl (by decide) rfl (fun q => rfl) (by decide) rfl rfl (fun ws aa hI => ?_)
  refine p_s rfl rfl ?_
  refine p_s rfl rfl ?_
  refine p_mkI (k := 1) (N := 201) (bc := 16) (bs := 7567) rfl rfl fF_Rf_13 rfl hI rfl (by decide) rfl (fun q => rfl) (by decide) rfl rfl (fun ws aa hI => ?_)
  refine p_s rfl rfl ?_
  refine p_s rfl rfl ?_
  refine p_mkI (k := 2) (N := 201) (bc := 15) (bs := 7366) rfl rfl fF_Rf_16 rfl hI rfl (by decide) rfl (fun q => rfl) (by decide) rfl rfl (fun ws aa hI => ?_)
  refine p_s rfl rfl ?_
  refine p_s rfl rfl ?_
  refine p_mkI (k := 3) (N := 201) (bc := 14) (bs := 7165) rfl rfl fF_Rf_19 rfl hI rfl (by decide) rfl (fun q => rfl) (by decide) rfl rfl (fun ws aa hI => ?_)
  refine p_s rfl rfl ?_
  refine p_s rfl rfl ?_
  refine p_mkI (k := 4) (N := 201) (bc := 13) (bs := 6964) rfl rfl fF_Rf_22 rfl hI rfl (by decide) rfl (fun q => rfl) (by decide) rfl rfl (fun ws aa hI => ?_)
  refine p_s rfl rfl ?_
  refine p_s rfl rfl ?_
  refine p_mkZ (k := 5) (N := 1608) (bc := 12) (bs := 5356) rfl rfl fF_Rf_25 rfl hI rfl (by decide) rfl (fun q => rfl) (by decide) rfl rfl (fun ws aa hI => ?_)
  refine p_s rfl rfl ?_
  refine p_s rfl rfl ?_
  refine p_mkI (k := 6) (N := 201) (bc := 11) (bs := 5155) rfl rfl fF_Rf_29 rfl hI rfl (by decide) rfl (fun q => rfl) (by decide) rfl rfl (fun ws aa hI => ?_)
  refine p_s rfl rfl ?_
  refine p_s rfl rfl ?_
  refine p_mkI (k := 7) (N := 201) (bc := 10) (bs := 4954) rfl rfl fF_Rf_32 rfl hI rfl (by decide) rfl (fun q => rfl) (by decide) rfl rfl (fun ws aa hI => ?_)
  refine p_s rfl rfl ?_
  refine p_s rfl rfl ?_
  refine p_mkI (k := 8) (N := 201) (bc := 9) (bs := 4753) rfl rfl fF_Rf_35 rfl hI rfl (by decide) rfl (fun q => rfl) (by decide) rfl rfl (fun ws aa hI => ?_)
  refine p_s rfl rfl ?_
  refine p_s rfl rfl ?_
  refine p_mkZ (k := 9) (N := 1608) (bc := 8) (bs := 3145) rfl rfl fF_Rf_38 rfl hI rfl (by decide) rfl (fun q => rfl) (by decide) rfl rfl (fun ws aa hI => ?_)
  refine p_s rfl rfl ?_
  refine p_s rfl rfl ?_
  refine p_mkI (k := 10) (N := 201) (bc := 7) (bs := 2944) rfl rfl fF_Rf_41 rfl hI rfl (by decide) rfl (fun q => rfl) (by decide) rfl rfl (fun ws aa hI => ?_)
  refine p_s rfl rfl ?_
  refine p_s rfl rfl ?_
  refine p_mkI (k := 11) (N := 201) (bc := 6) (bs := 2743) rfl rfl fF_Rf_44 rfl hI rfl (by decide) rfl (fun q => rfl) (by decide) rfl rfl (fun ws aa hI => ?_)
  refine p_s rfl rfl ?_
  refine p_s rfl rfl ?_
  refine p_mkI (k := 12) (N := 201) (bc := 5) (bs := 2542) rfl rfl fF_Rf_47 rfl hI rfl (by decide) rfl (fun q => rfl) (by decide) rfl rfl (fun ws aa hI => ?_)
  refine p_s rfl rfl ?_
  refine p_s rfl rfl ?_
  refine p_mkI (k := 13) (N := 201) (bc := 4) (bs := 2341) rfl rfl fF_Rf_50 rfl hI rfl (by decide) rfl (fun q => rfl) (by decide) rfl rfl (fun ws aa hI => ?_)
  refine p_s rfl rfl ?_
  refine p_s rfl rfl ?_
  refine p_mkI (k := 14) (N := 201) (bc := 3) (bs := 2140) rfl rfl fF_Rf_53 rfl hI rfl (by decide) rfl (fun q => rfl) (by decide) rfl rfl (fun ws aa hI => ?_)
  refine p_s rfl rfl ?_
  refine p_s rfl rfl ?_
  refine p_mkI (k := 15) (N := 1608) (bc := 2) (bs := 532) rfl rfl fF_Rf_56 rfl hI rfl (by decide) rfl (fun q => rfl) (by decide) rfl rfl (fun ws aa hI => ?_)
  refine p_s rfl rfl ?_
  refine p_s rfl rfl ?_
  refine p_mkI (k := 16) (N := 500) (bc := 1) (bs := 32) rfl rfl fF_Rf_59 rfl hI rfl (by decide) rfl (fun q => rfl) (by decide) rfl rfl (fun ws aa hI => ?_)
  refine p_s rfl rfl ?_
  refine p_s rfl rfl ?_
  refine p_mkZ (k := 17) (N := 32) (bc := 0) (bs := 0) rfl rfl fF_Rf_62 rfl hI rfl (by decide) rfl (fun q => rfl) (by decide) rfl rfl (fun ws aa hI => ?_)
  refine p_s rfl rfl ?_
  refine p_s rfl rfl ?_
  refine p_if rfl (fun c => ?_) (fun c => ?_)
  · simp only [px_cmp] at c
    refine p_s rfl rfl ?_
    have hL := hI.last (r := 8)
    refine p_putF (fs := oRv aa 18) rfl fF_Rf_66 rfl hI.1 rfl rfl (by exact Nat.le_of_ble_eq_true rfl) ?_
    exact p_vret rfl rfl ⟨rfl, aa, ⟨_, _, hL.1, by rw [roomOf, if_pos (show isw x 0 65536 = 0 by rw [isw, if_pos (Or.inl c)])]; exact RS.first _⟩, hL.2⟩
  · simp only [px_ncmp] at c
    refine p_s rfl rfl ?_
    refine p_ldc rfl w_489 ?_
    refine p_icmp rfl (fun c1 => ?_) (fun c1 => ?_)
    · simp only [px_cmp] at c1
      refine p_s rfl rfl ?_
      have hL := hI.last (r := 8)
      refine p_putF (fs := oRv aa 18) rfl fF_Rf_66 rfl hI.1 rfl rfl (by exact Nat.le_of_ble_eq_true rfl) ?_
      exact p_vret rfl rfl ⟨rfl, aa, ⟨_, _, hL.1, by rw [roomOf, if_pos (show isw x 0 65536 = 0 by rw [isw, if_pos (Or.inr c1)])]; exact RS.first _⟩, hL.2⟩
    · simp only [px_ncmp] at c1
      refine p_s rfl rfl ?_
      refine p_goto rfl ?_
      have hL := hI.last (r := x)
      refine p_putF (fs := oRv aa 18) rfl fF_Rf_66 rfl hI.1 rfl rfl (by exact Nat.le_of_ble_eq_true rfl) ?_
      exact p_vret rfl rfl ⟨rfl, aa, ⟨_, _, hL.1, by rw [roomOf, if_neg (show ¬ isw x 0 65536 = 0 by rw [isw, if_neg (fun z => z.elim c c1)]; decide)]; exact RS.first _⟩, hL.2⟩
