/-! BITS OF THE CONDITIONS: one is set, how many are set -/
abbrev uN (x : Int32) : Nat := x.toBitVec.toNat
abbrev bmk (j : Nat) : Int32 := 1 <<< (nI j &&& 31)
theorem bmk_2 : ∀ j, j < 32 → (bmk j).toBitVec = BitVec.twoPow 32 j := by decide +kernel
theorem z_inj {x y : Int32} (h : x.toBitVec = y.toBitVec) : x = y := Int32.toBitVec_inj.mp h
theorem sHas_bit {g : Int32} {j : Nat} (hj : j < 32) : sHas g (bmk j) = if g.toBitVec.getLsbD j then 1 else 0 := by
  unfold sHas
  have e : (g &&& bmk j).toBitVec = if g.toBitVec.getLsbD j then BitVec.twoPow 32 j else 0#32 := by
    rw [Int32.toBitVec_and, bmk_2 j hj, BitVec.and_twoPow]
  by_cases hb : g.toBitVec.getLsbD j = true
  · rw [if_pos hb] at e ⊢
    rw [if_neg]
    intro z
    rw [z] at e
    have h2 : BitVec.twoPow 32 j = 0#32 := e.symm
    have h3 := congrArg (fun v => v.getLsbD j) h2
    simp [BitVec.getLsbD_twoPow, hj] at h3
  · rw [if_neg hb] at e ⊢
    rw [if_pos (z_inj e)]
theorem bit_or {g : Int32} {j k : Nat} (hj : j < 32) (hk : k < 32) : sHas (g ||| bmk k) (bmk j) = if j = k then 1 else sHas g (bmk j) := by
  rw [sHas_bit hj, sHas_bit hj, Int32.toBitVec_or, bmk_2 k hk, BitVec.getLsbD_or, BitVec.getLsbD_twoPow]
  by_cases h : j = k
  · subst h
    simp [hj]
  · have h2 : ¬ k = j := fun z => h z.symm
    simp [h, h2]
theorem bit_and {g : Int32} {j k : Nat} (hj : j < 32) (hk : k < 32) : sHas (g &&& (bmk k ^^^ -1)) (bmk j) = if j = k then 0 else sHas g (bmk j) := by
  have em : (bmk k ^^^ -1).toBitVec = ~~~ (BitVec.twoPow 32 k) := by
    rw [Int32.toBitVec_xor, bmk_2 k hk, show (-1 : Int32).toBitVec = BitVec.allOnes 32 from rfl, BitVec.xor_allOnes]
  rw [sHas_bit hj, sHas_bit hj, Int32.toBitVec_and, em, BitVec.getLsbD_and, BitVec.getLsbD_not, BitVec.getLsbD_twoPow]
  by_cases h : j = k
  · subst h
    simp [hj]
  · have h2 : ¬ k = j := fun z => h z.symm
    simp [h, h2, hj]
theorem bit_all : ∀ j, j < 32 → ¬ sHas (-1) (bmk j) = 0 := by decide +kernel
/-- how many of the first n -/
def cb (f : Nat → Bool) : Nat → Nat
  | 0 => 0
  | n + 1 => cb f n + (if f n then 1 else 0)
theorem cb_le (f : Nat → Bool) : ∀ n, cb f n ≤ n
  | 0 => Nat.le_refl _
  | n + 1 => by
    have := cb_le f n
    rw [cb]
    split <;> omega
theorem cb_cong {f g : Nat → Bool} : ∀ n, (∀ j, j < n → f j = g j) → cb f n = cb g n
  | 0, _ => rfl
  | n + 1, h => by rw [cb, cb, cb_cong n (fun j hj => h j (by omega)), h n (by omega)]
theorem cb_add {f : Nat → Bool} {m : Nat} : ∀ n, cb f (m + n) = cb f m + cb (fun j => f (m + j)) n
  | 0 => rfl
  | n + 1 => by rw [← Nat.add_assoc, cb, cb, cb_add n, Nat.add_assoc]
theorem cb_split {a b : Nat} (ha : a < 2 ^ 8) (n : Nat) : cb (fun j => (2 ^ 8 * b + a).testBit j) (8 + n) = cb (fun j => a.testBit j) 8 + cb (fun j => b.testBit j) n := by
  rw [cb_add]
  congr 1
  · refine cb_cong 8 (fun j hj => ?_)
    rw [Nat.testBit_two_pow_mul_add _ ha, if_pos hj]
  · refine cb_cong n (fun j hj => ?_)
    rw [Nat.testBit_two_pow_mul_add _ ha, if_neg (by omega)]
    congr 1
    omega
theorem land_split {a b m k : Nat} (ha : a < 2 ^ 8) (hm : m < 2 ^ 8) : (2 ^ 8 * b + a) &&& (2 ^ 8 * k + m) = 2 ^ 8 * (b &&& k) + (a &&& m) := by
  apply Nat.eq_of_testBit_eq
  intro j
  have h1 : a &&& m < 2 ^ 8 := Nat.lt_of_le_of_lt Nat.and_le_left ha
  rw [Nat.testBit_and, Nat.testBit_two_pow_mul_add _ ha, Nat.testBit_two_pow_mul_add _ hm, Nat.testBit_two_pow_mul_add _ h1]
  by_cases hj : j < 8
  · rw [if_pos hj, if_pos hj, if_pos hj, Nat.testBit_and]
  · rw [if_neg hj, if_neg hj, if_neg hj, Nat.testBit_and]
def pf1 (m y : Nat) : Nat := y - ((y / 2) &&& m)
def pf2 (m y : Nat) : Nat := (y &&& m) + ((y / 4) &&& m)
def pf3 (m y : Nat) : Nat := (y + y / 16) &&& m
theorem k1 : ∀ a, a < 256 → ((a / 2 + 128) &&& 85) = ((a / 2) &&& 85) ∧ a / 2 + 128 < 256 := by decide +kernel
theorem pf1_s {a b k : Nat} (ha : a < 2 ^ 8) : pf1 (2 ^ 8 * k + 85) (2 ^ 8 * b + a) = 2 ^ 8 * pf1 k b + pf1 85 a := by
  have h0 : ((2 ^ 8 * b + a) / 2) &&& (2 ^ 8 * k + 85) = 2 ^ 8 * ((b / 2) &&& k) + ((a / 2) &&& 85) := by
    by_cases hb : b % 2 = 0
    · rw [show (2 ^ 8 * b + a) / 2 = 2 ^ 8 * (b / 2) + a / 2 by omega, land_split (by omega) (by omega)]
    · rw [show (2 ^ 8 * b + a) / 2 = 2 ^ 8 * (b / 2) + (a / 2 + 128) by omega, land_split (k1 a ha).2 (by omega), (k1 a ha).1]
  unfold pf1
  rw [h0]
  have h1 : (b / 2) &&& k ≤ b / 2 := Nat.and_le_left
  have h2 : (a / 2) &&& 85 ≤ a / 2 := Nat.and_le_left
  omega
theorem k2 : ∀ a, a < 256 → (((a / 4 + 64) &&& 51) = ((a / 4) &&& 51) ∧ a / 4 + 64 < 256) ∧ (((a / 4 + 128) &&& 51) = ((a / 4) &&& 51) ∧ a / 4 + 128 < 256) ∧ (((a / 4 + 192) &&& 51) = ((a / 4) &&& 51) ∧ a / 4 + 192 < 256) := by decide +kernel
theorem pf2_s {a b k : Nat} (ha : a < 2 ^ 8) : pf2 (2 ^ 8 * k + 51) (2 ^ 8 * b + a) = 2 ^ 8 * pf2 k b + pf2 51 a := by
  have h0 : ((2 ^ 8 * b + a) / 4) &&& (2 ^ 8 * k + 51) = 2 ^ 8 * ((b / 4) &&& k) + ((a / 4) &&& 51) := by
    obtain ⟨q1, q2, q3⟩ := k2 a ha
    rcases (show b % 4 = 0 ∨ b % 4 = 1 ∨ b % 4 = 2 ∨ b % 4 = 3 by omega) with hb | hb | hb | hb
    · rw [show (2 ^ 8 * b + a) / 4 = 2 ^ 8 * (b / 4) + a / 4 by omega, land_split (by omega) (by omega)]
    · rw [show (2 ^ 8 * b + a) / 4 = 2 ^ 8 * (b / 4) + (a / 4 + 64) by omega, land_split q1.2 (by omega), q1.1]
    · rw [show (2 ^ 8 * b + a) / 4 = 2 ^ 8 * (b / 4) + (a / 4 + 128) by omega, land_split q2.2 (by omega), q2.1]
    · rw [show (2 ^ 8 * b + a) / 4 = 2 ^ 8 * (b / 4) + (a / 4 + 192) by omega, land_split q3.2 (by omega), q3.1]
  unfold pf2
  rw [h0, land_split ha (by omega)]
  omega
theorem k3 : ∀ a, a < 256 → pf1 85 a < 256 ∧ pf2 51 (pf1 85 a) < 256 ∧ pf2 51 (pf1 85 a) + pf2 51 (pf1 85 a) / 16 + 64 < 256 ∧ pf2 51 (pf1 85 a) % 16 ≤ 4 ∧ pf3 15 (pf2 51 (pf1 85 a)) = cb (fun j => a.testBit j) 8 := by decide +kernel
theorem land15 (y : Nat) : y &&& 15 = y % 16 := Nat.and_two_pow_sub_one_eq_mod y 4
theorem pf3_s {a b k : Nat} (ha : a + a / 16 + 64 < 256) (hb : b % 16 ≤ 4) : pf3 (2 ^ 8 * k + 15) (2 ^ 8 * b + a) = 2 ^ 8 * pf3 k b + pf3 15 a := by
  unfold pf3
  rw [show 2 ^ 8 * b + a + (2 ^ 8 * b + a) / 16 = 2 ^ 8 * (b + b / 16) + (a + a / 16 + 16 * (b % 16)) by omega, land_split (by omega) (by omega), land15, land15]
  omega
theorem pop_1 {a : Nat} (ha : a < 256) : pf3 15 (pf2 51 (pf1 85 a)) = cb (fun j => a.testBit j) 8 := (k3 a ha).2.2.2.2
theorem pop_s {a b K1 K2 K3 : Nat} (ha : a < 256) (hb : pf2 K2 (pf1 K1 b) % 16 ≤ 4) : pf3 (2 ^ 8 * K3 + 15) (pf2 (2 ^ 8 * K2 + 51) (pf1 (2 ^ 8 * K1 + 85) (2 ^ 8 * b + a))) = 2 ^ 8 * pf3 K3 (pf2 K2 (pf1 K1 b)) + cb (fun j => a.testBit j) 8 := by
  obtain ⟨h1, h2, h3, h4, h5⟩ := k3 a ha
  rw [pf1_s ha, pf2_s h1, pf3_s h3 hb, h5]
theorem pop_m {a b K1 K2 : Nat} (ha : a < 256) : pf2 (2 ^ 8 * K2 + 51) (pf1 (2 ^ 8 * K1 + 85) (2 ^ 8 * b + a)) % 16 ≤ 4 := by
  obtain ⟨h1, h2, h3, h4, h5⟩ := k3 a ha
  rw [pf1_s ha, pf2_s h1]
  omega
theorem pop_all {X : Nat} (hX : X < 2 ^ 32) : ∃ p0 p1 p2 p3 : Nat, p0 ≤ 8 ∧ p1 ≤ 8 ∧ p2 ≤ 8 ∧ p3 ≤ 8 ∧ pf3 252645135 (pf2 858993459 (pf1 1431655765 X)) = p0 + 256 * p1 + 65536 * p2 + 16777216 * p3 ∧ cb (fun j => X.testBit j) 32 = p0 + p1 + p2 + p3 := by
  obtain ⟨a0, a1, a2, a3, h0, h1, h2, h3, rfl⟩ : ∃ a0 a1 a2 a3 : Nat, a0 < 256 ∧ a1 < 256 ∧ a2 < 256 ∧ a3 < 256 ∧ X = 2 ^ 8 * (2 ^ 8 * (2 ^ 8 * a3 + a2) + a1) + a0 := ⟨X % 256, X / 256 % 256, X / 65536 % 256, X / 16777216, by omega, by omega, by omega, by omega, by omega⟩
  have m3 : pf2 51 (pf1 85 a3) % 16 ≤ 4 := (k3 a3 h3).2.2.2.1
  refine ⟨cb (fun j => a0.testBit j) 8, cb (fun j => a1.testBit j) 8, cb (fun j => a2.testBit j) 8, cb (fun j => a3.testBit j) 8, cb_le _ 8, cb_le _ 8, cb_le _ 8, cb_le _ 8, ?_, ?_⟩
  · rw [show 252645135 = 2 ^ 8 * (2 ^ 8 * (2 ^ 8 * 15 + 15) + 15) + 15 from rfl, show 858993459 = 2 ^ 8 * (2 ^ 8 * (2 ^ 8 * 51 + 51) + 51) + 51 from rfl, show 1431655765 = 2 ^ 8 * (2 ^ 8 * (2 ^ 8 * 85 + 85) + 85) + 85 from rfl, pop_s h0 (pop_m h1), pop_s h1 (pop_m h2), pop_s h2 m3, pop_1 h3]
    omega
  · rw [show 32 = 8 + (8 + (8 + 8)) from rfl, cb_split h0, cb_split h1, cb_split h2]
    omega
theorem uN_and (x y : Int32) : uN (x &&& y) = uN x &&& uN y := by
  show (x &&& y).toBitVec.toNat = _
  rw [Int32.toBitVec_and, BitVec.toNat_and]
theorem uN_add (x y : Int32) : uN (x + y) = (uN x + uN y) % 2 ^ 32 := by
  show (x + y).toBitVec.toNat = _
  rw [Int32.toBitVec_add, BitVec.toNat_add]
theorem uN_sub (x y : Int32) : uN (x - y) = (2 ^ 32 - uN y + uN x) % 2 ^ 32 := by
  show (x - y).toBitVec.toNat = _
  rw [Int32.toBitVec_sub, BitVec.toNat_sub]
theorem uN_ush (x k : Int32) : uN (ush x k) = uN x >>> ((k.toUInt32 &&& Int32.toUInt32 31).toNat % 32) := by
  show (x.toUInt32 >>> (k.toUInt32 &&& Int32.toUInt32 31)).toNat = _
  rw [UInt32.toNat_shiftRight]
  rfl
theorem uN_lt (x : Int32) : uN x < 2 ^ 32 := x.toBitVec.isLt
theorem bcF_pop (x : Int32) : bcF x = nI (cb (fun j => x.toBitVec.getLsbD j) 32) := by
  obtain ⟨p0, p1, p2, p3, q0, q1, q2, q3, e1, e2⟩ := pop_all (uN_lt x)
  have hx := uN_lt x
  have s1 : uN (bc1 x) = pf1 1431655765 (uN x) := by
    have h : uN (ush x 1 &&& 1431655765) = (uN x / 2) &&& 1431655765 := by
      rw [uN_and, uN_ush, show ((1 : Int32).toUInt32 &&& Int32.toUInt32 31).toNat % 32 = 1 from rfl, Nat.shiftRight_eq_div_pow]
      rfl
    have h2 : (uN x / 2) &&& 1431655765 ≤ uN x / 2 := Nat.and_le_left
    unfold bc1 pf1
    rw [uN_sub, h]
    omega
  have b1 : pf1 1431655765 (uN x) < 2 ^ 32 := by rw [← s1]; exact uN_lt _
  have s2 : uN (bc2 (bc1 x)) = pf2 858993459 (pf1 1431655765 (uN x)) := by
    have h : uN (ush (bc1 x) 2 &&& 858993459) = (pf1 1431655765 (uN x) / 4) &&& 858993459 := by
      rw [uN_and, uN_ush, show ((2 : Int32).toUInt32 &&& Int32.toUInt32 31).toNat % 32 = 2 from rfl, Nat.shiftRight_eq_div_pow, s1]
      rfl
    have h3 : uN (bc1 x &&& 858993459) = pf1 1431655765 (uN x) &&& 858993459 := by
      rw [uN_and, s1]
      rfl
    have h2 : (pf1 1431655765 (uN x) / 4) &&& 858993459 ≤ 858993459 := Nat.and_le_right
    have h4 : pf1 1431655765 (uN x) &&& 858993459 ≤ 858993459 := Nat.and_le_right
    show uN ((bc1 x &&& 858993459) + (ush (bc1 x) 2 &&& 858993459)) = _
    unfold pf2
    rw [uN_add, h, h3]
    omega
  have b2 : pf2 858993459 (pf1 1431655765 (uN x)) < 2000000000 := by
    have h2 : (pf1 1431655765 (uN x) / 4) &&& 858993459 ≤ 858993459 := Nat.and_le_right
    have h4 : pf1 1431655765 (uN x) &&& 858993459 ≤ 858993459 := Nat.and_le_right
    unfold pf2
    omega
  have s3 : uN (bc3 (bc2 (bc1 x))) = pf3 252645135 (pf2 858993459 (pf1 1431655765 (uN x))) := by
    unfold bc3 pf3
    rw [uN_and, uN_add, uN_ush, show ((4 : Int32).toUInt32 &&& Int32.toUInt32 31).toNat % 32 = 4 from rfl, Nat.shiftRight_eq_div_pow, s2, Nat.mod_eq_of_lt (by omega)]
    rfl
  have s4 : uN (bc4 (bc3 (bc2 (bc1 x)))) = (p0 + p1) + 256 * (p1 + p2) + 65536 * (p2 + p3) + 16777216 * p3 := by
    unfold bc4
    rw [uN_add, uN_ush, show ((8 : Int32).toUInt32 &&& Int32.toUInt32 31).toNat % 32 = 8 from rfl, Nat.shiftRight_eq_div_pow, s3, e1, show (p0 + 256 * p1 + 65536 * p2 + 16777216 * p3) / 2 ^ 8 = p1 + 256 * p2 + 65536 * p3 by omega]
    omega
  have s5 : uN (bcF x) = p0 + p1 + p2 + p3 := by
    unfold bcF bc5
    rw [uN_and, uN_add, uN_ush, show ((16 : Int32).toUInt32 &&& Int32.toUInt32 31).toNat % 32 = 16 from rfl, Nat.shiftRight_eq_div_pow, s4, show uN 63 = 2 ^ 6 - 1 from rfl, Nat.and_two_pow_sub_one_eq_mod, show (p0 + p1 + 256 * (p1 + p2) + 65536 * (p2 + p3) + 16777216 * p3) / 2 ^ 16 = p2 + p3 + 256 * p3 by omega, Nat.mod_eq_of_lt (show p0 + p1 + 256 * (p1 + p2) + 65536 * (p2 + p3) + 16777216 * p3 + (p2 + p3 + 256 * p3) < 2 ^ 32 by omega)]
    omega
  apply z_inj
  apply BitVec.eq_of_toNat_eq
  show uN (bcF x) = uN (nI _)
  have e3 : cb (fun j => x.toBitVec.getLsbD j) 32 = p0 + p1 + p2 + p3 := e2
  rw [s5, e3]
  show _ = (Int32.ofNat (p0 + p1 + p2 + p3)).toBitVec.toNat
  rw [Int32.toBitVec_ofNat', BitVec.toNat_ofNat]
  omega
