/-! THE REFERENCE'S NUMBERS AND THE MODEL -/
def pw (b : Nat) : Int32 := nI (2 ^ b)
def setB (s : Int32) (b : Nat) (x : Int32) : Int32 := if x = 0 then s &&& (pw b ^^^ -1) else s ||| pw b
theorem setB_h0 : ∀ k, k < 256 → ∀ b, b < 8 → ∀ c, c < 8 → sHas (setB (nI k) b 0) (pw c) = if c = b then 0 else sHas (nI k) (pw c) := by decide +kernel
theorem setB_h1 : ∀ k, k < 256 → ∀ b, b < 8 → ∀ c, c < 8 → sHas (setB (nI k) b 1) (pw c) = if c = b then 1 else sHas (nI k) (pw c) := by decide +kernel
theorem setB_r0 : ∀ k, k < 256 → ∀ b, b < 8 → (setB (nI k) b 0).toNatClampNeg < 256 ∧ setB (nI k) b 0 = nI (setB (nI k) b 0).toNatClampNeg := by decide +kernel
theorem setB_r1 : ∀ k, k < 256 → ∀ b, b < 8 → (setB (nI k) b 1).toNatClampNeg < 256 ∧ setB (nI k) b 1 = nI (setB (nI k) b 1).toNatClampNeg := by decide +kernel
theorem stR_s : ∀ k, k < 256 → stR (fun b => sHas (nI k) (pw b)) 8 = nI k := by decide +kernel
abbrev isB (s : Int32) : Prop := ∃ k, k < 256 ∧ s = nI k
theorem setB_has {s x : Int32} {b c : Nat} (hs : isB s) (hx : isZ x) (hb : b < 8) (hc : c < 8) : sHas (setB s b x) (pw c) = if c = b then x else sHas s (pw c) := by
  obtain ⟨k, hk, rfl⟩ := hs
  rcases hx with rfl | rfl
  · exact setB_h0 k hk b hb c hc
  · exact setB_h1 k hk b hb c hc
theorem setB_is {s x : Int32} {b : Nat} (hs : isB s) (hx : isZ x) (hb : b < 8) : isB (setB s b x) := by
  obtain ⟨k, hk, rfl⟩ := hs
  rcases hx with rfl | rfl
  · exact ⟨_, (setB_r0 k hk b hb).1, (setB_r0 k hk b hb).2⟩
  · exact ⟨_, (setB_r1 k hk b hb).1, (setB_r1 k hk b hb).2⟩
def att (k : Nat) : Nat := match k with
  | 0 => 0
  | 1 => 1
  | 2 => 2
  | 4 => 11
  | 6 => 4
  | 7 => 5
  | 8 => 6
  | 10 => 8
  | 11 => 9
  | _ => 10
abbrev isAt (k : Nat) : Prop := k = 0 ∨ k = 1 ∨ k = 2 ∨ k = 4 ∨ k = 6 ∨ k = 7 ∨ k = 8 ∨ k = 10 ∨ k = 11 ∨ k = 12
theorem att_ne {k : Nat} (h : isAt k) : att k ≠ 3 ∧ att k ≠ 7 := by
  rcases h with rfl | rfl | rfl | rfl | rfl | rfl | rfl | rfl | rfl | rfl <;> decide
theorem att_inj {k c : Nat} (h : isAt k) (h2 : isAt c) (hn : c ≠ k) : att c ≠ att k := by
  rcases h with rfl | rfl | rfl | rfl | rfl | rfl | rfl | rfl | rfl | rfl <;> rcases h2 with rfl | rfl | rfl | rfl | rfl | rfl | rfl | rfl | rfl | rfl <;> first | exact absurd rfl hn | decide
theorem upF_ne {fa : Nat → Nat → Int32} {k i c : Nat} {x : Int32} (h : c ≠ k) : upF fa k i x c = fa c := if_neg h
theorem upF_at {fa : Nat → Nat → Int32} {k i j : Nat} {x : Int32} : upF fa k i x k j = if j = i then x else fa k j := by
  unfold upF
  rw [if_pos rfl]
  rfl
def RSa (fa : Nat → Nat → Int32) (n : Nat) (A : Nat → Nat → Int32) : Prop := ∀ k, isAt k → ∀ i, i < n → fa k (i + 1) = A (att k) i
def RSb (fa : Nat → Nat → Int32) (n : Nat) (A : Nat → Nat → Int32) : Prop := ∀ i, i < n → ∀ b, b < 8 → fa 5 (8 * (i + 1) + b) = sHas (A 3 i) (pw b) ∧ fa 9 (8 * (i + 1) + b) = sHas (A 7 i) (pw b)
def RSr (n : Nat) (A : Nat → Nat → Int32) : Prop := ∀ i, i < n → isB (A 3 i) ∧ isB (A 7 i)
def RSp (fa : Nat → Nat → Int32) (n : Nat) (p : Nat → Nat) : Prop := (∀ i, i < n → fa 3 (i + 1) = nI (p i)) ∧ ∀ i, n ≤ i → i < 200 → fa 3 (i + 1) = 0
/-- stored: numbers N in the order of the entries, la the last one given, q a bound -/
def RSe (q : Nat) (fa : Nat → Nat → Int32) (s : Nat → Int32) (es : List En4) : Prop := ∃ (N : Nat → Nat) (la : Nat), s 3 = nI la ∧ la ≤ q ∧ (∀ i, i < 200 → fa 13 (i + 1) = nI (N i) ∧ N i ≤ la ∧ (N i = 0 ↔ i ∉ es.map (fun x => x.1))) ∧ (es.map (fun x => x.1)).Pairwise (fun a b => N a < N b) ∧
  ∀ x ∈ es, fa 14 (x.1 + 1) = x.2.1 ∧ ∀ j, j < 4 → fa 15 (8 * (x.1 + 1) + j) = snK x.2.2.1 j ∧ fa 15 (8 * (x.1 + 1) + 4 + j) = snK x.2.2.2 j
def RSd (fa : Nat → Nat → Int32) (s : Nat → Int32) (ds : List Nat) : Prop := s 4 = nI ds.length ∧ ∀ k c, ds[k]? = some c → fa 16 k = nI (c + 1)
def RSo (fa : Nat → Nat → Int32) (g : Nat → Int32) : Prop := ∀ j, j < 32 → fa 17 j = if sHas (g 0) (1 <<< (nI j &&& 31)) = 0 then 1 else 0
def RSs (R : Int32) (s : Nat → Int32) (n : Nat) (g : Nat → Int32) : Prop := s 1 = R ∧ s 2 = nI n ∧ s 5 = (if g 1 = 0 then 1 else 0) ∧ s 6 = g 2 ∧ s 7 = g 3 ∧ isZ (g 1)
def RS (R : Int32) (q : Nat) (fa : Nat → Nat → Int32) (s : Nat → Int32) (σ : Md) : Prop :=
  d_n σ ≤ 200 ∧ RSa fa (d_n σ) (d_A σ) ∧ RSb fa (d_n σ) (d_A σ) ∧ RSr (d_n σ) (d_A σ) ∧ RSp fa (d_n σ) (d_p σ) ∧ RSe q fa s (d_e σ) ∧ RSd fa s (d_d σ) ∧ RSo fa (d_g σ) ∧ RSs R s (d_n σ) (d_g σ)
/-- one number of a code -/
theorem RS.at {R : Int32} {q : Nat} {fa : Nat → Nat → Int32} {s : Nat → Int32} {σ : Md} (h : RS R q fa s σ) {k i : Nat} {x : Int32} (hk : isAt k) (hi : i < d_n σ) : RS R q (upF fa k (i + 1) x) s (stX σ (att k) i x) := by
  obtain ⟨h0, ha, hb, hr, hp, he, hd, ho, hs⟩ := h
  have hne := att_ne hk
  have e5 : upF fa k (i + 1) x 5 = fa 5 := upF_ne (by omega)
  have e9 : upF fa k (i + 1) x 9 = fa 9 := upF_ne (by omega)
  have e3 : upF fa k (i + 1) x 3 = fa 3 := upF_ne (by omega)
  have e13 : upF fa k (i + 1) x 13 = fa 13 := upF_ne (by omega)
  have e14 : upF fa k (i + 1) x 14 = fa 14 := upF_ne (by omega)
  have e15 : upF fa k (i + 1) x 15 = fa 15 := upF_ne (by omega)
  have e16 : upF fa k (i + 1) x 16 = fa 16 := upF_ne (by omega)
  have e17 : upF fa k (i + 1) x 17 = fa 17 := upF_ne (by omega)
  refine ⟨h0, fun c hc j hj => ?_, fun j hj b hb2 => ?_, fun j hj => ?_, ?_, ?_, ?_, ?_, hs⟩
  · show upF fa k (i + 1) x c (j + 1) = up1 (d_A σ) (att k) i x (att c) j
    by_cases hck : c = k
    · subst hck
      rw [upF_at]
      by_cases hji : j = i
      · subst hji
        rw [if_pos rfl, up1_same]
      · rw [if_neg (by omega), up1_ne (Or.inr hji)]
        exact ha c hk j hj
    · rw [upF_ne hck, up1_ne (Or.inl (att_inj hk hc hck))]
      exact ha c hc j hj
  · show upF fa k (i + 1) x 5 _ = sHas (up1 (d_A σ) (att k) i x 3 j) _ ∧ upF fa k (i + 1) x 9 _ = sHas (up1 (d_A σ) (att k) i x 7 j) _
    rw [e5, e9, up1_ne (Or.inl (fun z => hne.1 z.symm)), up1_ne (Or.inl (fun z => hne.2 z.symm))]
    exact hb j hj b hb2
  · show isB (up1 (d_A σ) (att k) i x 3 j) ∧ isB (up1 (d_A σ) (att k) i x 7 j)
    rw [up1_ne (Or.inl (fun z => hne.1 z.symm)), up1_ne (Or.inl (fun z => hne.2 z.symm))]
    exact hr j hj
  · unfold RSp
    rw [e3]
    exact hp
  · unfold RSe
    rw [e13, e14, e15]
    exact he
  · unfold RSd
    rw [e16]
    exact hd
  · unfold RSo
    rw [e17]
    exact ho
/-- one bit of a code's status (5, 3) or kept status (9, 7) -/
theorem RS.bit {R : Int32} {q : Nat} {fa : Nat → Nat → Int32} {s : Nat → Int32} {σ : Md} (h : RS R q fa s σ) {k a i b : Nat} {x : Int32} (hk : (k = 5 ∧ a = 3) ∨ (k = 9 ∧ a = 7)) (hi : i < d_n σ) (hb8 : b < 8) (hx : isZ x) : RS R q (upF fa k (8 * (i + 1) + b) x) s (stX σ a i (setB (d_A σ a i) b x)) := by
  obtain ⟨h0, ha, hb, hr, hp, he, hd, ho, hs⟩ := h
  have e3 : upF fa k (8 * (i + 1) + b) x 3 = fa 3 := upF_ne (by omega)
  have e13 : upF fa k (8 * (i + 1) + b) x 13 = fa 13 := upF_ne (by omega)
  have e14 : upF fa k (8 * (i + 1) + b) x 14 = fa 14 := upF_ne (by omega)
  have e15 : upF fa k (8 * (i + 1) + b) x 15 = fa 15 := upF_ne (by omega)
  have e16 : upF fa k (8 * (i + 1) + b) x 16 = fa 16 := upF_ne (by omega)
  have e17 : upF fa k (8 * (i + 1) + b) x 17 = fa 17 := upF_ne (by omega)
  refine ⟨h0, fun c hc j hj => ?_, fun j hj c hc => ?_, fun j hj => ?_, ?_, ?_, ?_, ?_, hs⟩
  · show upF fa k (8 * (i + 1) + b) x c (j + 1) = up1 (d_A σ) a i _ (att c) j
    have hca := att_ne hc
    rw [upF_ne (by omega), up1_ne (Or.inl (by omega))]
    exact ha c hc j hj
  · show upF fa k (8 * (i + 1) + b) x 5 _ = sHas (up1 (d_A σ) a i (setB (d_A σ a i) b x) 3 j) _ ∧ upF fa k (8 * (i + 1) + b) x 9 _ = sHas (up1 (d_A σ) a i (setB (d_A σ a i) b x) 7 j) _
    obtain ⟨b5, b9⟩ := hb j hj c hc
    rcases hk with ⟨rfl, rfl⟩ | ⟨rfl, rfl⟩
    · rw [upF_ne (c := 9) (by decide), up1_ne (k := 7) (Or.inl (by decide)), upF_at]
      refine ⟨?_, b9⟩
      by_cases hji : j = i
      · subst hji
        rw [up1_same, setB_has (hr j hj).1 hx hb8 hc]
        by_cases hcb : c = b
        · rw [if_pos (by omega), if_pos hcb]
        · rw [if_neg (by omega), if_neg hcb]
          exact b5
      · rw [if_neg (by omega), up1_ne (Or.inr hji)]
        exact b5
    · rw [upF_ne (c := 5) (by decide), up1_ne (k := 3) (Or.inl (by decide)), upF_at]
      refine ⟨b5, ?_⟩
      by_cases hji : j = i
      · subst hji
        rw [up1_same, setB_has (hr j hj).2 hx hb8 hc]
        by_cases hcb : c = b
        · rw [if_pos (by omega), if_pos hcb]
        · rw [if_neg (by omega), if_neg hcb]
          exact b9
      · rw [if_neg (by omega), up1_ne (Or.inr hji)]
        exact b9
  · show isB (up1 (d_A σ) a i (setB (d_A σ a i) b x) 3 j) ∧ isB (up1 (d_A σ) a i (setB (d_A σ a i) b x) 7 j)
    obtain ⟨r3, r7⟩ := hr j hj
    rcases hk with ⟨rfl, rfl⟩ | ⟨rfl, rfl⟩
    · rw [up1_ne (k := 7) (Or.inl (by decide))]
      refine ⟨?_, r7⟩
      by_cases hji : j = i
      · subst hji
        rw [up1_same]
        exact setB_is r3 hx hb8
      · rw [up1_ne (Or.inr hji)]
        exact r3
    · rw [up1_ne (k := 3) (Or.inl (by decide))]
      refine ⟨r3, ?_⟩
      by_cases hji : j = i
      · subst hji
        rw [up1_same]
        exact setB_is r7 hx hb8
      · rw [up1_ne (Or.inr hji)]
        exact r7
  · unfold RSp
    rw [e3]
    exact hp
  · unfold RSe
    rw [e13, e14, e15]
    exact he
  · unfold RSd
    rw [e16]
    exact hd
  · unfold RSo
    rw [e17]
    exact ho
/-- the reference's object at m stands for the state σ -/
def RR (G : px_G) (R : Int32) (q : Nat) (ws : va_W) (m : Nat) (σ : Md) : Prop := ∃ aa fa s, RH G ws m aa fa s ∧ RS R q fa s σ
