/-! ARRAYS BY NATURAL NUMBERS -/
abbrev oRA (G : px_G) (n : Nat) (f : Nat → Option Nat) : va_E := .inl (g_dA G 2, n, .inr (.inr (.inr (.inr f))))
abbrev oIA (G : px_G) (n : Nat) (f : Nat → Int32) : va_E := .inl (g_dA G 0, n, .inl f)
abbrev oZA (G : px_G) (n : Nat) (f : Nat → Int32) : va_E := .inl (g_dA G 1, n, .inl f)
section PXA
variable {G : px_G} {M : px_M} {pc nx d bc bs : Nat} {tg : List Nat} {z : Int32} {lv : List (Nat × Value)} {st : List Value} {ws : va_W} {Q : Option Value → va_W → Prop}
theorem p_aaldS {a n i y : Nat} {f : Nat → Option Nat} {j : Int32} (ha : px_at M pc = some (.aaload, nx, tg, z)) (hw : px_lk ws a = some (oRA G n f)) (hj : j = nI i) (hi : i < n) (hn : n < 2 ^ 31) (hf : f i = some y) (kk : px G M nx lv (.ref y :: st) ws d bc bs Q) : px G M pc lv (.int j :: .ref a :: st) ws d bc bs Q := by
  subst hj
  refine p_aald (t := 2) ha rfl hw (vp_in_nI hi hn) ?_
  rw [nI_clamp (Nat.lt_trans hi hn), hf]
  exact kk
theorem p_aastS {a n i v : Nat} {f : Nat → Option Nat} {j : Int32} (ha : px_at M pc = some (.aastore, nx, tg, z)) (hw : px_lk ws a = some (oRA G n f)) (hj : j = nI i) (hi : i < n) (hn : n < 2 ^ 31) (hv : px_ob ws v) (kk : px G M nx lv st (px_up ws a (oRA G n (va_up f i (some v)))) d bc bs Q) : px G M pc lv (.ref v :: .int j :: .ref a :: st) ws d bc bs Q := by
  subst hj
  obtain ⟨ci, fs, K, T, N, h1, h2, h3⟩ := hv
  refine p_aast (t := 2) ha rfl hw h2 h3 h1 (vp_in_nI hi hn) ?_
  rw [nI_clamp (Nat.lt_trans hi hn)]
  exact kk
theorem p_aastNS {a n i : Nat} {f : Nat → Option Nat} {j : Int32} (ha : px_at M pc = some (.aastore, nx, tg, z)) (hw : px_lk ws a = some (oRA G n f)) (hj : j = nI i) (hi : i < n) (hn : n < 2 ^ 31) (kk : px G M nx lv st (px_up ws a (oRA G n (va_up f i none))) d bc bs Q) : px G M pc lv (.null :: .int j :: .ref a :: st) ws d bc bs Q := by
  subst hj
  refine p_aastN (t := 2) ha rfl hw (vp_in_nI hi hn) ?_
  rw [nI_clamp (Nat.lt_trans hi hn)]
  exact kk
theorem p_ialdS {a n i : Nat} {f : Nat → Int32} {j : Int32} (ha : px_at M pc = some (.iaload, nx, tg, z)) (hw : px_lk ws a = some (oIA G n f)) (hj : j = nI i) (hi : i < n) (hn : n < 2 ^ 31) (kk : px G M nx lv (.int (f i) :: st) ws d bc bs Q) : px G M pc lv (.int j :: .ref a :: st) ws d bc bs Q := by
  subst hj
  refine p_iald (t := 0) ha rfl hw (vp_in_nI hi hn) ?_
  rw [nI_clamp (Nat.lt_trans hi hn)]
  exact kk
theorem p_iastS {a n i : Nat} {f : Nat → Int32} {j x : Int32} (ha : px_at M pc = some (.iastore, nx, tg, z)) (hw : px_lk ws a = some (oIA G n f)) (hj : j = nI i) (hi : i < n) (hn : n < 2 ^ 31) (kk : px G M nx lv st (px_up ws a (oIA G n (upd f i x))) d bc bs Q) : px G M pc lv (.int x :: .int j :: .ref a :: st) ws d bc bs Q := by
  subst hj
  refine p_iast (t := 0) ha rfl hw (vp_in_nI hi hn) ?_
  rw [nI_clamp (Nat.lt_trans hi hn)]
  exact kk
theorem p_zaldS {a n i : Nat} {f : Nat → Int32} {j : Int32} (ha : px_at M pc = some (.baload, nx, tg, z)) (hw : px_lk ws a = some (oZA G n f)) (hj : j = nI i) (hi : i < n) (hn : n < 2 ^ 31) (kk : px G M nx lv (.int (f i) :: st) ws d bc bs Q) : px G M pc lv (.int j :: .ref a :: st) ws d bc bs Q := by
  subst hj
  refine p_zald (t := 1) ha rfl hw (vp_in_nI hi hn) ?_
  rw [nI_clamp (Nat.lt_trans hi hn)]
  exact kk
theorem p_zastS {a n i : Nat} {f : Nat → Int32} {j x : Int32} (ha : px_at M pc = some (.bastore, nx, tg, z)) (hw : px_lk ws a = some (oZA G n f)) (hj : j = nI i) (hi : i < n) (hn : n < 2 ^ 31) (hx : x = 0 ∨ x = 1) (kk : px G M nx lv st (px_up ws a (oZA G n (upd f i x))) d bc bs Q) : px G M pc lv (.int x :: .int j :: .ref a :: st) ws d bc bs Q := by
  subst hj
  refine p_zast (t := 1) ha rfl hw (vp_in_nI hi hn) ?_
  rw [nI_clamp (Nat.lt_trans hi hn), show vp_nar .boolean x = x by rcases hx with rfl | rfl <;> decide +kernel]
  exact kk
theorem p_alenR {a n : Nat} {f : Nat → Option Nat} (ha : px_at M pc = some (.arraylength, nx, tg, z)) (hw : px_lk ws a = some (oRA G n f)) (kk : px G M nx lv (.int (nI n) :: st) ws d bc bs Q) : px G M pc lv (.ref a :: st) ws d bc bs Q := p_alen (t := 2) ha rfl hw rfl kk
theorem p_acmpeqR {off : Int} {t a b : Nat} (ha : px_at M pc = some (.if_acmp .eq off, nx, [t], z)) (kt : a = b → px G M t lv st ws d bc bs Q) (kf : ¬ a = b → px G M nx lv st ws d bc bs Q) : px G M pc lv (.ref b :: .ref a :: st) ws d bc bs Q := p_acmpeq (rx := some a) (ry := some b) ha (fun h => kt (Option.some.inj h)) (fun h => kf (fun e => h (by rw [e])))
theorem p_acmpneR {off : Int} {t a b : Nat} (ha : px_at M pc = some (.if_acmp .ne off, nx, [t], z)) (kt : ¬ a = b → px G M t lv st ws d bc bs Q) (kf : a = b → px G M nx lv st ws d bc bs Q) : px G M pc lv (.ref b :: .ref a :: st) ws d bc bs Q := p_acmpne (rx := some a) (ry := some b) ha (fun h => kt (fun e => h (by rw [e]))) (fun h => kf (Option.some.inj h))
theorem p_newQS {idx N B S : Nat} {n : Int32} (ha : px_at M pc = some (.anewarray idx, nx, tg, z)) (hcl : Cond.classLink (px_y M).cls idx "java/lang/Object" ∈ px_TB) (hn : n = nI N) (hN : N < 100000000) (hB : bc + 1 = B) (hS : bs + N = S) (kk : ∀ q : Nat, px_lk ws q = none → g_lo G ≤ q → px G M nx lv (.ref q :: st) (ws ++ [(q, oRA G N (fun _ => none))]) d bc bs Q) : px G M pc lv (.int n :: st) ws d B S Q := by
  subst hn
  subst hB
  subst hS
  exact p_newQ (t := 2) ha rfl hcl (nI_pos (by omega)) (nI_clamp (by omega)) (by omega) kk
theorem p_le {D B S : Nat} (h1 : d ≤ D) (h2 : bc ≤ B) (h3 : bs ≤ S) (kk : px G M pc lv st ws d bc bs Q) : px G M pc lv st ws D B S Q := by
  have h := p_weak (dd := D - d) (k1 := B - bc) (k2 := S - bs) kk
  rw [show D - d + d = D by omega, show B - bc + bc = B by omega, show S - bs + bs = S by omega] at h
  exact h
theorem px_ob.old {ws : va_W} {q y : Nat} {e : va_E} (h : px_ob ws y) : px_ob (ws ++ [(q, e)]) y := by
  obtain ⟨ci, fs, K, T, N, h1, h2, h3⟩ := h
  exact ⟨ci, fs, K, T, N, px_lk_old _ _ _ _ _ h1, h2, h3⟩
theorem p_aretR {a : Nat} {ty : FieldType} (ha : px_at M pc = some (.areturn, nx, tg, z)) (ht : px_t M = some ty) (hty : (∃ n, ty = .object n) ∨ ∃ t, ty = .array t) (hq : Q (some (.ref a)) ws) : px G M pc lv [.ref a] ws d bc bs Q := p_aret (r := some a) ha ht hty hq
end PXA
/-! ARRAYLIST -/
abbrev oAL (ar : Nat) (sz mc : Int32) : va_E := .inr (6, [.ref ar, .int sz, .int mc])
set_option maxHeartbeats 1000000 in
theorem c_prc {G : px_G} {ws : va_W} {d : Nat} {i n : Nat} (hi : i < n) (hn : n < 2 ^ 31) : px G m_Prc_checkIndex 0 (lv_args 0 [.int (nI i), .int (nI n), .null]) [] ws d 0 0 (fun v w => v = some (.int (nI i)) ∧ w = ws) := by
  refine p_s rfl rfl ?_
  refine p_ifF rfl (nI_pos (Nat.lt_trans hi hn)) ?_
  refine p_s rfl rfl ?_
  refine p_s rfl rfl ?_
  refine p_icmpT rfl (nI_lt hi hn) ?_
  refine p_s rfl rfl ?_
  exact p_iret rfl rfl rfl ⟨rfl, rfl⟩
set_option maxHeartbeats 1000000 in
theorem c_obs {G : px_G} {ws : va_W} {d : Nat} {i n : Nat} (hi : i < n) (hn : n < 2 ^ 31) : px G m_Obs_checkIndex 0 (lv_args 0 [.int (nI i), .int (nI n)]) [] ws (d + 1) 0 0 (fun v w => v = some (.int (nI i)) ∧ w = ws) := by
  refine p_s rfl rfl ?_
  refine p_s rfl rfl ?_
  refine p_s rfl rfl ?_
  refine p_callS rfl c_Obs_105 g_Prc_checkIndex rfl rfl rfl (c_prc hi hn) (fun v w hq => ?_)
  obtain ⟨rfl, rfl⟩ := hq
  exact p_iret rfl rfl rfl ⟨rfl, rfl⟩
set_option maxHeartbeats 1000000 in
theorem c_elem {G : px_G} {ws : va_W} {d : Nat} {a ar n i y : Nat} {sz mc : Int32} {f : Nat → Option Nat} (h : px_lk ws a = some (oAL ar sz mc)) (ha : px_lk ws ar = some (oRA G n f)) (hi : i < n) (hn : n < 2 ^ 31) (hf : f i = some y) : px G m_AL_elementData 0 (lv_args 0 [.ref a, .int (nI i)]) [] ws d 0 0 (fun v w => v = some (.ref y) ∧ w = ws) := by
  refine p_s rfl rfl ?_
  refine p_get rfl f_AL_9 h rfl ?_
  refine p_s rfl rfl ?_
  refine p_aaldS rfl ha rfl hi hn hf ?_
  exact p_aretR rfl rfl (Or.inl ⟨_, rfl⟩) ⟨rfl, rfl⟩
set_option maxHeartbeats 1000000 in
theorem c_alget {G : px_G} {ws : va_W} {d : Nat} {a ar n i y sz : Nat} {mc : Int32} {f : Nat → Option Nat} (h : px_lk ws a = some (oAL ar (nI sz) mc)) (ha : px_lk ws ar = some (oRA G n f)) (hi : i < sz) (hs : sz ≤ n) (hn : n < 2 ^ 31) (hf : f i = some y) : px G m_AL_get 0 (lv_args 0 [.ref a, .int (nI i)]) [] ws (d + 2) 0 0 (fun v w => v = some (.ref y) ∧ w = ws) := by
  refine p_s rfl rfl ?_
  refine p_s rfl rfl ?_
  refine p_get rfl f_AL_48 h rfl ?_
  refine p_callS rfl c_AL_118 g_Obs_checkIndex rfl rfl rfl (c_obs hi (Nat.lt_of_le_of_lt hs hn)) (fun v w hq => ?_)
  obtain ⟨rfl, rfl⟩ := hq
  refine p_s rfl rfl ?_
  refine p_s rfl rfl ?_
  refine p_s rfl rfl ?_
  refine p_callV rfl c_AL_123 rfl h g_AL_elementData rfl rfl rfl (c_elem h ha (Nat.lt_of_lt_of_le hi hs) hn hf) (fun v w hq => ?_)
  obtain ⟨rfl, rfl⟩ := hq
  exact p_aretR rfl rfl (Or.inl ⟨_, rfl⟩) ⟨rfl, rfl⟩
set_option maxHeartbeats 1000000 in
theorem c_alsize {G : px_G} {ws : va_W} {d : Nat} {a ar : Nat} {sz mc : Int32} (h : px_lk ws a = some (oAL ar sz mc)) : px G m_AL_size 0 (lv_args 0 [.ref a]) [] ws d 0 0 (fun v w => v = some (.int sz) ∧ w = ws) := by
  refine p_s rfl rfl ?_
  refine p_get rfl f_AL_48 h rfl ?_
  exact p_iret rfl rfl rfl ⟨rfl, rfl⟩
set_option maxHeartbeats 1000000 in
theorem c_ACnInit {G : px_G} {ws : va_W} {d : Nat} {a : Nat} : px G m_ACn_init 0 (lv_args 0 [.ref a]) [] ws (d + 1) 0 0 (fun v w => v = none ∧ w = ws) := by
  refine p_s rfl rfl ?_
  refine p_objI rfl w_37 w_24 w_25 (by exact Nat.le_of_ble_eq_true rfl) ?_
  exact p_vret rfl rfl ⟨rfl, rfl⟩
set_option maxHeartbeats 1000000 in
theorem c_ALsInit {G : px_G} {ws : va_W} {d : Nat} {a : Nat} {x : Value} {y z : Int32} (h : px_lk ws a = some (.inr (6, [x, .int y, .int z]))) : px G m_ALs_init 0 (lv_args 0 [.ref a]) [] ws (d + 2) 0 0 (fun v w => v = none ∧ w = px_up ws a (.inr (6, [x, .int y, .int 0]))) := by
  refine p_own h ?_
  refine p_s rfl rfl ?_
  refine p_callI rfl c_ALs_1 g_ACn_init rfl rfl rfl (c_ACnInit) (fun v w hq => ?_)
  obtain ⟨rfl, rfl⟩ := hq
  refine p_s rfl rfl ?_
  refine p_s rfl rfl ?_
  refine p_put2 rfl fp_ALs_7 h rfl rfl (by exact Nat.le_of_ble_eq_true rfl) ?_
  exact p_vret rfl rfl ⟨rfl, rfl⟩
set_option maxHeartbeats 1000000 in
theorem c_ALInit {G : px_G} {ws : va_W} {d : Nat} {a : Nat} {x : Value} {y z : Int32} (h : px_lk ws a = some (.inr (6, [x, .int y, .int z]))) : px G m_AL_init 0 (lv_args 0 [.ref a]) [] ws (d + 3) 0 0 (fun v w => v = none ∧ w = px_up ws a (oAL (g_sv G 0) y 0)) := by
  refine p_s rfl rfl ?_
  refine p_callI rfl c_AL_1 g_ALs_init rfl rfl rfl (c_ALsInit h) (fun v w hq => ?_)
  obtain ⟨rfl, rfl⟩ := hq
  refine p_s rfl rfl ?_
  refine p_gets (k := 0) rfl rfl w_38 ?_
  refine p_put2 rfl fp_AL_9 h rfl rfl (by exact Nat.le_of_ble_eq_true rfl) ?_
  exact p_vret rfl rfl ⟨rfl, rfl⟩
set_option maxHeartbeats 1000000 in
theorem c_newLength {G : px_G} {ws : va_W} {d : Nat} {x g p m : Nat} (hm : (if g < p then p else g) = m) (h0 : 0 < x + m) (hb : x + m < 2 ^ 30) : px G m_ArS_newLength 0 (lv_args 0 [.int (nI x), .int (nI g), .int (nI p)]) [] ws (d + 1) 0 0 (fun v w => v = some (.int (nI (x + m))) ∧ w = ws) := by
  have e1 : nI x + (if nI g < nI p then nI p else nI g) = nI (x + m) := by
    have hg : g < 2 ^ 31 := by split at hm <;> omega
    have hp : p < 2 ^ 31 := by split at hm <;> omega
    by_cases hc : g < p
    · rw [if_pos hc] at hm
      rw [if_pos ((nI_ltI hg hp).mpr hc), hm, nI_add]
    · rw [if_neg hc] at hm
      rw [if_neg (fun z => hc ((nI_ltI hg hp).mp z)), hm, nI_add]
  refine p_s rfl rfl ?_
  refine p_s rfl rfl ?_
  refine p_s rfl rfl ?_
  refine p_max rfl w_188 w_189 w_10 w_190 (by exact Nat.le_of_ble_eq_true rfl) ?_
  refine p_s rfl rfl ?_
  refine p_s rfl rfl ?_
  refine p_s rfl rfl ?_
  refine p_s rfl rfl ?_
  rw [show (fun x y : Int32 => x + y) (nI x) (if nI g < nI p then nI p else nI g) = nI (x + m) from e1]
  refine p_icmpF rfl (show ¬ nI (x + m) ≤ 0 from nI_nle h0 (by omega)) ?_
  refine p_s rfl rfl ?_
  refine p_ldc rfl w_191 ?_
  refine p_icmpF rfl (show ¬ (2147483639 : Int32) < nI (x + m) from fun z => absurd z (by rw [show (2147483639 : Int32) = nI 2147483639 from rfl, nI_ltI (by omega) (by omega)]; omega)) ?_
  refine p_s rfl rfl ?_
  exact p_iret rfl rfl rfl ⟨rfl, rfl⟩
set_option maxHeartbeats 1000000 in
theorem c_copyOf3 {G : px_G} {ws : va_W} {d : Nat} {a n m : Nat} {f : Nat → Option Nat} (h : px_lk ws a = some (oRA G n f)) (hnm : n ≤ m) (hm : m ≤ 1000) (hel : ∀ i, i < n → ∀ y, f i = some y → px_ob ws y) : px G m_Ars_copyOf3 0 (lv_args 0 [.ref a, .int (nI m), .ref (g_sv G 1)]) [] ws (d + 1) 1 1000 (fun v w => ∃ q, v = some (.ref q) ∧ px_lk ws q = none ∧ w = px_up (ws ++ [(q, oRA G m (fun _ => none))]) q (oRA G m (va_cpy f (fun _ => none) 0 0 n))) := by
  refine p_s rfl rfl ?_
  refine p_ldcM rfl w_213 ?_
  refine p_acmpneR rfl (fun c => absurd rfl c) (fun _ => ?_)
  refine p_s rfl rfl ?_
  refine p_newQS (bc := 0) (bs := 1000 - m) rfl w_215 rfl (by omega) rfl (by omega) (fun q hq hql => ?_)
  have h1 := px_lk_old ws q a (oRA G m (fun _ => none)) _ h
  have h2 := px_lk_new ws q (oRA G m (fun _ => none)) hq
  refine p_goto rfl ?_
  refine p_s rfl rfl ?_
  refine p_s rfl rfl ?_
  refine p_s rfl rfl ?_
  refine p_s rfl rfl ?_
  refine p_s rfl rfl ?_
  refine p_s rfl rfl ?_
  refine p_alenR rfl h1 ?_
  refine p_s rfl rfl ?_
  refine p_min rfl w_216 w_217 w_10 w_218 (by exact Nat.le_of_ble_eq_true rfl) ?_
  have e1 : (if nI m < nI n then nI m else nI n) = nI n := if_neg (nI_nlt hnm (by omega))
  rw [e1]
  refine p_copy rfl w_219 h1 h2 (by decide) (by decide) (nI_pos (by omega)) (by rw [nI_clamp (by omega)]; show 0 + n ≤ n; omega) (by rw [nI_clamp (by omega)]; show 0 + n ≤ m; omega) (fun i hi y hy => ?_) (by exact Nat.le_of_ble_eq_true rfl) ?_
  · rw [nI_clamp (by omega)] at hi
    have hy2 : f i = some y := by rw [← hy]; show f i = f (0 + i); rw [Nat.zero_add]
    exact px_ob.old (hel i hi y hy2)
  refine p_s rfl rfl ?_
  rw [nI_clamp (by omega)]
  exact p_aretR rfl rfl (Or.inr ⟨_, rfl⟩) ⟨q, rfl, hq, rfl⟩
set_option maxHeartbeats 1000000 in
theorem c_copyOf2 {G : px_G} {ws : va_W} {d : Nat} {a n m : Nat} {f : Nat → Option Nat} (h : px_lk ws a = some (oRA G n f)) (hnm : n ≤ m) (hm : m ≤ 1000) (hel : ∀ i, i < n → ∀ y, f i = some y → px_ob ws y) : px G m_Ars_copyOf2 0 (lv_args 0 [.ref a, .int (nI m)]) [] ws (d + 2) 1 1000 (fun v w => ∃ q, v = some (.ref q) ∧ px_lk ws q = none ∧ w = px_up (ws ++ [(q, oRA G m (fun _ => none))]) q (oRA G m (va_cpy f (fun _ => none) 0 0 n))) := by
  refine p_s rfl rfl ?_
  refine p_s rfl rfl ?_
  refine p_s rfl rfl ?_
  refine p_getC rfl w_198 h (by exact Nat.le_of_ble_eq_true rfl) ?_
  refine p_callS rfl c_Ars_300 g_Ars_copyOf3 rfl rfl rfl (c_copyOf3 h hnm hm hel) (fun v w hq => ?_)
  obtain ⟨q, rfl, hq1, rfl⟩ := hq
  exact p_aretR rfl rfl (Or.inr ⟨_, rfl⟩) ⟨q, rfl, hq1, rfl⟩
