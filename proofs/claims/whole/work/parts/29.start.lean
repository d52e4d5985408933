/-! THE CLASS: enable, start -/
def ush (x k : Int32) : Int32 := (x.toUInt32 >>> (k.toUInt32 &&& Int32.toUInt32 31)).toInt32
def bc1 (x : Int32) : Int32 := x - (ush x 1 &&& 1431655765)
def bc2 (x : Int32) : Int32 := (x &&& 858993459) + (ush x 2 &&& 858993459)
def bc3 (x : Int32) : Int32 := (x + ush x 4) &&& 252645135
def bc4 (x : Int32) : Int32 := x + ush x 8
def bc5 (x : Int32) : Int32 := x + ush x 16
def bcF (x : Int32) : Int32 := bc5 (bc4 (bc3 (bc2 (bc1 x)))) &&& 63
set_option maxHeartbeats 4000000 in
theorem c_bitCount {G : px_G} {ws : va_W} {d : Nat} {x : Int32} : px G m_Itg_bitCount 0 (lv_args 0 [.int x]) [] ws d 0 0 (fun v w => v = some (.int (bcF x)) ∧ w = ws) := by
  refine p_s rfl rfl ?_
  refine p_s rfl rfl ?_
  refine p_s rfl rfl ?_
  refine p_s rfl rfl ?_
  refine p_ldcw rfl w_452 ?_
  refine p_s rfl rfl ?_
  refine p_s rfl rfl ?_
  refine p_s rfl rfl ?_
  refine p_s rfl rfl ?_
  refine p_ldcw rfl w_453 ?_
  refine p_s rfl rfl ?_
  refine p_s rfl rfl ?_
  refine p_s rfl rfl ?_
  refine p_s rfl rfl ?_
  refine p_ldcw rfl w_453 ?_
  refine p_s rfl rfl ?_
  refine p_s rfl rfl ?_
  refine p_s rfl rfl ?_
  refine p_s rfl rfl ?_
  refine p_s rfl rfl ?_
  refine p_s rfl rfl ?_
  refine p_s rfl rfl ?_
  refine p_s rfl rfl ?_
  refine p_ldcw rfl w_454 ?_
  refine p_s rfl rfl ?_
  refine p_s rfl rfl ?_
  refine p_s rfl rfl ?_
  refine p_s rfl rfl ?_
  refine p_s rfl rfl ?_
  refine p_s rfl rfl ?_
  refine p_s rfl rfl ?_
  refine p_s rfl rfl ?_
  refine p_s rfl rfl ?_
  refine p_s rfl rfl ?_
  refine p_s rfl rfl ?_
  refine p_s rfl rfl ?_
  refine p_s rfl rfl ?_
  refine p_s rfl rfl ?_
  refine p_s rfl rfl ?_
  refine p_s rfl rfl ?_
  refine p_s rfl rfl ?_
  exact p_iret rfl rfl rfl ⟨rfl, rfl⟩
set_option maxHeartbeats 4000000 in
theorem o_enableN {G : px_G} {ws : va_W} {d : Nat} {R : Int32} {o : Nat} {ad : Nat → Nat → Nat} {σ : Md} (h : CR G R ws o ad σ) {x y : Int32} (hx : isw x 0 31 = 0) : px G m_TM_enable 0 (lv_args 0 [.ref o, .int x, .int y]) [] ws (d + 10) 4 2008 (OPc G R o ws (-1) (σ)) := by
  refine p_s rfl rfl ?_
  refine p_s rfl rfl ?_
  refine p_s rfl rfl ?_
  refine p_callS rfl c_TM_33 g_TM_isWithin rfl rfl rfl (p_le (by omega) (Nat.le_refl _) (Nat.le_refl _) (c_isWithin (d := d))) (fun v w hq => ?_)
  obtain ⟨rfl, hw9⟩ := hq
  have hw9 := hw9.symm
  subst hw9
  refine p_ifF rfl hx ?_
  refine p_s rfl rfl ?_
  exact p_iret rfl rfl rfl ⟨rfl, ad, h, px_kp.rf⟩
set_option maxHeartbeats 4000000 in
theorem o_enableC {G : px_G} {ws : va_W} {d : Nat} {R : Int32} {o : Nat} {ad : Nat → Nat → Nat} {σ : Md} (h : CR G R ws o ad σ) {x y : Int32} (hx : ¬ isw x 0 31 = 0) (hp : d_g σ 1 = 0) : px G m_TM_enable 0 (lv_args 0 [.ref o, .int x, .int y]) [] ws (d + 10) 4 2008 (OPc G R o ws (-3) (σ)) := by
  refine p_s rfl rfl ?_
  refine p_s rfl rfl ?_
  refine p_s rfl rfl ?_
  refine p_callS rfl c_TM_33 g_TM_isWithin rfl rfl rfl (p_le (by omega) (Nat.le_refl _) (Nat.le_refl _) (c_isWithin (d := d))) (fun v w hq => ?_)
  obtain ⟨rfl, hw9⟩ := hq
  have hw9 := hw9.symm
  subst hw9
  refine p_ifT rfl hx ?_
  refine p_s rfl rfl ?_
  refine p_get rfl f_TM_20 h.1 rfl ?_
  refine p_ifF rfl hp ?_
  refine p_s rfl rfl ?_
  exact p_iret rfl rfl rfl ⟨rfl, ad, h, px_kp.rf⟩
set_option maxHeartbeats 4000000 in
theorem o_enable1 {G : px_G} {ws : va_W} {d : Nat} {R : Int32} {o : Nat} {ad : Nat → Nat → Nat} {σ : Md} (h : CR G R ws o ad σ) {x y : Int32} (hx : ¬ isw x 0 31 = 0) (hp : ¬ d_g σ 1 = 0) (hy : ¬ y = 0) : px G m_TM_enable 0 (lv_args 0 [.ref o, .int x, .int y]) [] ws (d + 10) 4 2008 (OPc G R o ws (bcF (d_g σ 0 ||| (1 <<< (x &&& 31)))) (stG σ (upG (d_g σ) 0 (d_g σ 0 ||| (1 <<< (x &&& 31)))))) := by
  refine p_s rfl rfl ?_
  refine p_s rfl rfl ?_
  refine p_s rfl rfl ?_
  refine p_callS rfl c_TM_33 g_TM_isWithin rfl rfl rfl (p_le (by omega) (Nat.le_refl _) (Nat.le_refl _) (c_isWithin (d := d))) (fun v w hq => ?_)
  obtain ⟨rfl, hw9⟩ := hq
  have hw9 := hw9.symm
  subst hw9
  refine p_ifT rfl hx ?_
  refine p_s rfl rfl ?_
  refine p_get rfl f_TM_20 h.1 rfl ?_
  refine p_ifT rfl hp ?_
  refine p_s rfl rfl ?_
  refine p_s rfl rfl ?_
  refine p_s rfl rfl ?_
  refine p_s rfl rfl ?_
  refine p_s rfl rfl ?_
  refine p_s rfl rfl ?_
  refine p_ifF rfl hy ?_
  refine p_s rfl rfl ?_
  refine p_get rfl f_TM_16 h.1 rfl ?_
  refine p_s rfl rfl ?_
  refine p_s rfl rfl ?_
  refine p_goto rfl ?_
  refine p_put rfl fp_TM_16 h.1 rfl rfl (by exact Nat.le_of_ble_eq_true rfl) ?_
  have h1 : CR G R (px_up ws o (oTM (ad 6 1) (ad 6 0) (d_g σ 0 ||| (1 <<< (x &&& 31))) (d_g σ 1) (d_g σ 2) (d_g σ 3))) o ad (stG σ (upG (d_g σ) 0 (d_g σ 0 ||| (1 <<< (x &&& 31))))) := h.tm (upG (d_g σ) 0 (d_g σ 0 ||| (1 <<< (x &&& 31))))
  have k1 : px_kp Kr ws (px_up ws o (oTM (ad 6 1) (ad 6 0) (d_g σ 0 ||| (1 <<< (x &&& 31))) (d_g σ 1) (d_g σ 2) (d_g σ 3))) := px_kp.up h.1 rfl
  refine p_s rfl rfl ?_
  refine p_get rfl f_TM_16 h1.1 rfl ?_
  refine p_callS rfl c_TM_144 g_Itg_bitCount rfl rfl rfl (p_le (by omega) (Nat.le_refl _) (Nat.le_refl _) (c_bitCount (d := d))) (fun v w hq => ?_)
  obtain ⟨rfl, hw9⟩ := hq
  subst hw9
  exact p_iret rfl rfl rfl ⟨rfl, ad, h1, k1⟩
set_option maxHeartbeats 4000000 in
theorem o_enable0 {G : px_G} {ws : va_W} {d : Nat} {R : Int32} {o : Nat} {ad : Nat → Nat → Nat} {σ : Md} (h : CR G R ws o ad σ) {x y : Int32} (hx : ¬ isw x 0 31 = 0) (hp : ¬ d_g σ 1 = 0) (hy : y = 0) : px G m_TM_enable 0 (lv_args 0 [.ref o, .int x, .int y]) [] ws (d + 10) 4 2008 (OPc G R o ws (bcF (d_g σ 0 &&& ((1 <<< (x &&& 31)) ^^^ -1))) (stG σ (upG (d_g σ) 0 (d_g σ 0 &&& ((1 <<< (x &&& 31)) ^^^ -1))))) := by
  refine p_s rfl rfl ?_
  refine p_s rfl rfl ?_
  refine p_s rfl rfl ?_
  refine p_callS rfl c_TM_33 g_TM_isWithin rfl rfl rfl (p_le (by omega) (Nat.le_refl _) (Nat.le_refl _) (c_isWithin (d := d))) (fun v w hq => ?_)
  obtain ⟨rfl, hw9⟩ := hq
  have hw9 := hw9.symm
  subst hw9
  refine p_ifT rfl hx ?_
  refine p_s rfl rfl ?_
  refine p_get rfl f_TM_20 h.1 rfl ?_
  refine p_ifT rfl hp ?_
  refine p_s rfl rfl ?_
  refine p_s rfl rfl ?_
  refine p_s rfl rfl ?_
  refine p_s rfl rfl ?_
  refine p_s rfl rfl ?_
  refine p_s rfl rfl ?_
  refine p_ifT rfl hy ?_
  refine p_s rfl rfl ?_
  refine p_get rfl f_TM_16 h.1 rfl ?_
  refine p_s rfl rfl ?_
  refine p_s rfl rfl ?_
  refine p_s rfl rfl ?_
  refine p_s rfl rfl ?_
  refine p_put rfl fp_TM_16 h.1 rfl rfl (by exact Nat.le_of_ble_eq_true rfl) ?_
  have h1 : CR G R (px_up ws o (oTM (ad 6 1) (ad 6 0) (d_g σ 0 &&& ((1 <<< (x &&& 31)) ^^^ -1)) (d_g σ 1) (d_g σ 2) (d_g σ 3))) o ad (stG σ (upG (d_g σ) 0 (d_g σ 0 &&& ((1 <<< (x &&& 31)) ^^^ -1)))) := h.tm (upG (d_g σ) 0 (d_g σ 0 &&& ((1 <<< (x &&& 31)) ^^^ -1)))
  have k1 : px_kp Kr ws (px_up ws o (oTM (ad 6 1) (ad 6 0) (d_g σ 0 &&& ((1 <<< (x &&& 31)) ^^^ -1)) (d_g σ 1) (d_g σ 2) (d_g σ 3))) := px_kp.up h.1 rfl
  refine p_s rfl rfl ?_
  refine p_get rfl f_TM_16 h1.1 rfl ?_
  refine p_callS rfl c_TM_144 g_Itg_bitCount rfl rfl rfl (p_le (by omega) (Nat.le_refl _) (Nat.le_refl _) (c_bitCount (d := d))) (fun v w hq => ?_)
  obtain ⟨rfl, hw9⟩ := hq
  subst hw9
  exact p_iret rfl rfl rfl ⟨rfl, ad, h1, k1⟩
/-- f at i, i + 1, .. k times -/
def fdR (f : Md → Nat → Md) : Nat → Nat → Md → Md
  | 0, _, σ => σ
  | k + 1, i, σ => fdR f k (i + 1) (f σ i)
def startM (σ : Md) (i : Nat) : Md := stX (stA σ 3 i (d_A σ 7 i) (d_A σ 8 i) (d_A σ 9 i) (d_A σ 10 i)) 11 i 0
abbrev startF (σ : Md) : Md := stG (fdR startM (d_n σ) 0 σ) (upG (upG (d_g (fdR startM (d_n σ) 0 σ)) 0 (-1)) 1 1)
set_option maxHeartbeats 4000000 in
theorem c_start_loop {G : px_G} {d : Nat} {R : Int32} {o : Nat} {ad : Nat → Nat → Nat} {bc bs : Nat} {Q : Option Value → va_W → Prop} : ∀ (k i : Nat) (ws : va_W) (σ : Md) (x1 : Int32), CR G R ws o ad σ → d_n σ ≤ 200 → i + k = d_n σ → x1 = nI i → (∀ (w : va_W) (y : Int32), CR G R w o ad (fdR startM k i σ) → px_kp Kr ws w → px G m_TM_start 57 [(1, .int y), (0, .ref o)] [] w (d + 10) bc bs Q) → px G m_TM_start 12 [(1, .int x1), (0, .ref o)] [] ws (d + 10) bc bs Q := by
  intro k
  induction k with
  | zero =>
    intro i ws σ x1 h hn hik h1 hK
    subst h1
    have hin : i = d_n σ := by omega
    have hL1 := h.2.2.1.1
    obtain ⟨sz, mc, hL1c⟩ := hL1.cell
    refine p_s rfl rfl ?_
    refine p_s rfl rfl ?_
    refine p_get rfl f_TM_12 h.1 rfl ?_
    refine p_callV rfl c_TM_44 rfl hL1c g_AL_size rfl rfl rfl (p_le (by omega) (Nat.le_refl _) (Nat.le_refl _) (c_size (d := d) hL1)) (fun v w hq => ?_)
    obtain ⟨rfl, hw9⟩ := hq
    have hw9 := hw9.symm
    subst hw9
    rw [c_len]
    refine p_icmpT rfl (show nI (d_n σ) ≤ nI i by rw [hin]; exact Int32.le_refl _) ?_
    exact hK ws _ h px_kp.rf
  | succ k ih =>
    intro i ws σ x1 h hn hik h1 hK
    subst h1
    have hin : i < d_n σ := by omega
    have hL1 := h.2.2.1.1
    obtain ⟨sz, mc, hL1c⟩ := hL1.cell
    have hc := h.2.2.2.2.1 i hin
    refine p_s rfl rfl ?_
    refine p_s rfl rfl ?_
    refine p_get rfl f_TM_12 h.1 rfl ?_
    refine p_callV rfl c_TM_44 rfl hL1c g_AL_size rfl rfl rfl (p_le (by omega) (Nat.le_refl _) (Nat.le_refl _) (c_size (d := d) hL1)) (fun v w hq => ?_)
    obtain ⟨rfl, hw9⟩ := hq
    have hw9 := hw9.symm
    subst hw9
    rw [c_len]
    refine p_icmpF rfl (show ¬ nI (d_n σ) ≤ nI i from nI_ge hin (by omega)) ?_
    refine p_s rfl rfl ?_
    refine p_get rfl f_TM_12 h.1 rfl ?_
    refine p_s rfl rfl ?_
    refine p_callV rfl c_TM_88 rfl hL1c g_AL_get rfl rfl rfl (p_le (by omega) (Nat.le_refl _) (Nat.le_refl _) (c_get (d := d) hL1 (c_at ad hin))) (fun v w hq => ?_)
    obtain ⟨rfl, hw9⟩ := hq
    have hw9 := hw9.symm
    subst hw9
    refine p_castS rfl cs_TM_48 hc.1 ?_
    refine p_s rfl rfl ?_
    refine p_s rfl rfl ?_
    refine p_get rfl f_TM_79 hc.1 rfl ?_
    refine p_s rfl rfl ?_
    refine p_get rfl f_TM_99 hc.1 rfl ?_
    refine p_callV rfl c_TM_102 rfl hc.2.1 g_Sg_copyFrom rfl rfl rfl (p_le (by omega) (Nat.le_refl _) (Nat.le_refl _) (c_copyFrom (d := d) hc.2.1 hc.2.2 (fun z => h.2.2.2.1.2.2.2.2.2.1 i i hin hin z.symm))) (fun v w hq => ?_)
    obtain ⟨rfl, hw9⟩ := hq
    subst hw9
    have h2 : CR G R (px_up ws (ad 1 i) (c_st σ 7 i)) o ad (stA σ 3 i (d_A σ 7 i) (d_A σ 8 i) (d_A σ 9 i) (d_A σ 10 i)) := h.st (b := 3) (Or.inl rfl) hin
    have k2 := px_kp.up (K := Kr) (e := c_st σ 7 i) hc.2.1 rfl
    have hc2 := h2.2.2.2.2.1 i hin
    refine p_s rfl rfl ?_
    refine p_s rfl rfl ?_
    refine p_put rfl fp_TM_164 hc2.1 rfl rfl (by exact Nat.le_of_ble_eq_true rfl) ?_
    have h3 := h2.cnt hin 0
    have k3 := px_kp.up (K := Kr) (e := oCd (nI (i + 1)) (d_A (stA σ 3 i (d_A σ 7 i) (d_A σ 8 i) (d_A σ 9 i) (d_A σ 10 i)) 0 i) (d_A (stA σ 3 i (d_A σ 7 i) (d_A σ 8 i) (d_A σ 9 i) (d_A σ 10 i)) 1 i) (d_A (stA σ 3 i (d_A σ 7 i) (d_A σ 8 i) (d_A σ 9 i) (d_A σ 10 i)) 2 i) (ad 1 i) (ad 2 i) 0 (c_pa ad (d_p σ i)) (c_en ad (e_c σ) i)) hc2.1 rfl
    refine p_s rfl rfl ?_
    refine p_goto rfl ?_
    refine p_lv (lv2 := [(1, .int (nI i + 1)), (0, .ref o)]) (ks := [0, 2]) rfl ?_
    exact ih (i + 1) _ (startM σ i) _ h3 hn (by show i + 1 + k = d_n σ; omega) (nI_1 i) (fun w y a1 a2 => hK w y a1 ((k2.tr k3).tr a2))
set_option maxHeartbeats 4000000 in
theorem o_startC {G : px_G} {ws : va_W} {d : Nat} {R : Int32} {o : Nat} {ad : Nat → Nat → Nat} {σ : Md} (h : CR G R ws o ad σ) (hp : ¬ d_g σ 1 = 0) : px G m_TM_start 0 (lv_args 0 [.ref o]) [] ws (d + 10) 4 2008 (OPc G R o ws (-3) (σ)) := by
  refine p_s rfl rfl ?_
  refine p_get rfl f_TM_20 h.1 rfl ?_
  refine p_ifF rfl hp ?_
  refine p_s rfl rfl ?_
  exact p_iret rfl rfl rfl ⟨rfl, ad, h, px_kp.rf⟩
theorem fdR_e (f : Md → Nat → Md) (P : Md → Md → Prop) (hr : ∀ σ, P σ σ) (ht : ∀ a b c, P a b → P b c → P a c) (hf : ∀ σ i, P σ (f σ i)) : ∀ (k i : Nat) (σ : Md), P σ (fdR f k i σ)
  | 0, _, σ => hr σ
  | k + 1, i, σ => ht _ _ _ (hf σ i) (fdR_e f P hr ht hf k (i + 1) (f σ i))
theorem fdR_start_e (k i : Nat) (σ : Md) : e_c (fdR startM k i σ) = e_c σ := fdR_e startM (fun a b => e_c b = e_c a) (fun _ => rfl) (fun _ _ _ h1 h2 => h2.trans h1) (fun _ _ => rfl) k i σ
set_option maxHeartbeats 4000000 in
theorem o_start {G : px_G} {ws : va_W} {d : Nat} {R : Int32} {o : Nat} {ad : Nat → Nat → Nat} {σ : Md} (h : CR G R ws o ad σ) (hn : d_n σ ≤ 200) (hp : d_g σ 1 = 0) : px G m_TM_start 0 (lv_args 0 [.ref o]) [] ws (d + 10) 4 2008 (OPc G R o ws (nI (e_c σ).length) (startF σ)) := by
  refine p_s rfl rfl ?_
  refine p_get rfl f_TM_20 h.1 rfl ?_
  refine p_ifT rfl hp ?_
  refine p_s rfl rfl ?_
  refine p_s rfl rfl ?_
  refine c_start_loop (d_n σ) 0 ws σ _ h hn (by omega) rfl (fun w y h1 k1 => ?_)
  refine p_s rfl rfl ?_
  refine p_s rfl rfl ?_
  refine p_put rfl fp_TM_16 h1.1 rfl rfl (by exact Nat.le_of_ble_eq_true rfl) ?_
  have h2 : CR G R (px_up w o (oTM (ad 6 1) (ad 6 0) (-1) (d_g (fdR startM (d_n σ) 0 σ) 1) (d_g (fdR startM (d_n σ) 0 σ) 2) (d_g (fdR startM (d_n σ) 0 σ) 3))) o ad (stG (fdR startM (d_n σ) 0 σ) (upG (d_g (fdR startM (d_n σ) 0 σ)) 0 (-1))) := h1.tm (upG (d_g (fdR startM (d_n σ) 0 σ)) 0 (-1))
  have k2 := px_kp.up (K := Kr) (e := oTM (ad 6 1) (ad 6 0) (-1) (d_g (fdR startM (d_n σ) 0 σ) 1) (d_g (fdR startM (d_n σ) 0 σ) 2) (d_g (fdR startM (d_n σ) 0 σ) 3)) h1.1 rfl
  refine p_s rfl rfl ?_
  refine p_s rfl rfl ?_
  refine p_put rfl fp_TM_20 h2.1 rfl rfl (by exact Nat.le_of_ble_eq_true rfl) ?_
  have h3 := h2.tm (upG (upG (d_g (fdR startM (d_n σ) 0 σ)) 0 (-1)) 1 1)
  have k3 := px_kp.up (K := Kr) (e := oTM (ad 6 1) (ad 6 0) (-1) 1 (d_g (fdR startM (d_n σ) 0 σ) 2) (d_g (fdR startM (d_n σ) 0 σ) 3)) h2.1 rfl
  have hL2 := h3.2.2.1.2.1
  obtain ⟨sz, mc, hL2c⟩ := hL2.cell
  refine p_s rfl rfl ?_
  refine p_get rfl f_TM_40 h3.1 rfl ?_
  refine p_get rfl f_TM_152 h3.2.1 rfl ?_
  refine p_callV rfl c_TM_44 rfl hL2c g_AL_size rfl rfl rfl (p_le (by omega) (Nat.le_refl _) (Nat.le_refl _) (c_size (d := d) hL2)) (fun v w hq => ?_)
  obtain ⟨rfl, hw9⟩ := hq
  subst hw9
  rw [List.length_map]
  exact p_iret rfl rfl rfl ⟨by rw [show e_c (stG (stG (fdR startM (d_n σ) 0 σ) (upG (d_g (fdR startM (d_n σ) 0 σ)) 0 (-1))) (upG (upG (d_g (fdR startM (d_n σ) 0 σ)) 0 (-1)) 1 1)) = e_c σ from fdR_start_e _ _ _], ad, h3, (k1.tr k2).tr k3⟩
