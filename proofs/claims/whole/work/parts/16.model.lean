/-! THE MODEL'S STATE AND THE CLASS'S CELLS -/
abbrev Sn4 : Type := Int32 × Int32 × Int32 × Int32
abbrev En4 : Type := Nat × Int32 × Sn4 × Sn4
/-- how many codes; attribute k of code i; parents (0: none, else the number); entries; displaced (codes' places); globals (0 conditions, 1 power, 2 cycles, 3 events) -/
abbrev Md : Type := Nat × (Nat → Nat → Int32) × (Nat → Nat) × List En4 × List Nat × (Nat → Int32)
abbrev d_n (σ : Md) : Nat := σ.1
abbrev d_A (σ : Md) : Nat → Nat → Int32 := σ.2.1
abbrev d_p (σ : Md) : Nat → Nat := σ.2.2.1
abbrev d_e (σ : Md) : List En4 := σ.2.2.2.1
abbrev d_d (σ : Md) : List Nat := σ.2.2.2.2.1
abbrev d_g (σ : Md) : Nat → Int32 := σ.2.2.2.2.2
abbrev e_c (σ : Md) : List Nat := (d_e σ).map (fun x => x.1)
def up4 (A : Nat → Nat → Int32) (b i : Nat) (s t a g : Int32) : Nat → Nat → Int32 := fun k j => if j = i then (if k = b then s else if k = b + 1 then t else if k = b + 2 then a else if k = b + 3 then g else A k j) else A k j
def up1 (A : Nat → Nat → Int32) (k0 i : Nat) (x : Int32) : Nat → Nat → Int32 := fun k j => if k = k0 ∧ j = i then x else A k j
theorem up4_out {A : Nat → Nat → Int32} {b i k j : Nat} {s t a g : Int32} (h : k < b ∨ b + 4 ≤ k) : up4 A b i s t a g k j = A k j := by
  unfold up4
  by_cases hj : j = i
  · rw [if_pos hj, if_neg (by omega), if_neg (by omega), if_neg (by omega), if_neg (by omega)]
  · rw [if_neg hj]
theorem up4_ne {A : Nat → Nat → Int32} {b i k j : Nat} {s t a g : Int32} (h : j ≠ i) : up4 A b i s t a g k j = A k j := if_neg h
theorem up1_ne {A : Nat → Nat → Int32} {k0 i k j : Nat} {x : Int32} (h : k ≠ k0 ∨ j ≠ i) : up1 A k0 i x k j = A k j := if_neg (fun z => h.elim (fun q => q z.1) (fun q => q z.2))
theorem up1_same {A : Nat → Nat → Int32} {k0 i : Nat} {x : Int32} : up1 A k0 i x k0 i = x := if_pos ⟨rfl, rfl⟩
abbrev stA (σ : Md) (b i : Nat) (s t a g : Int32) : Md := (d_n σ, up4 (d_A σ) b i s t a g, d_p σ, d_e σ, d_d σ, d_g σ)
abbrev stX (σ : Md) (k i : Nat) (x : Int32) : Md := (d_n σ, up1 (d_A σ) k i x, d_p σ, d_e σ, d_d σ, d_g σ)
abbrev stP (σ : Md) (i p : Nat) : Md := (d_n σ, d_A σ, (fun j => if j = i then p else d_p σ j), d_e σ, d_d σ, d_g σ)
abbrev stG (σ : Md) (g : Nat → Int32) : Md := (d_n σ, d_A σ, d_p σ, d_e σ, d_d σ, g)
abbrev oTM (l m : Nat) (c p cy ev : Int32) : va_E := .inr (0, [.ref l, .ref m, .int c, .int p, .int cy, .int ev])
abbrev oMem (r : Int32) (l2 l3 : Nat) : va_E := .inr (1, [.int r, .ref l2, .ref l3])
abbrev oSn4 (q : Sn4) : va_E := oSn q.1 q.2.1 q.2.2.1 q.2.2.2
def c_pa (ad : Nat → Nat → Nat) (p : Nat) : Option Nat := if p = 0 then none else some (ad 0 (p - 1))
def c_en (ad : Nat → Nat → Nat) (es : List Nat) (i : Nat) : Option Nat := if i ∈ es then some (ad 3 i) else none
abbrev c_cd (ad : Nat → Nat → Nat) (σ : Md) (i : Nat) : va_E := oCd (nI (i + 1)) (d_A σ 0 i) (d_A σ 1 i) (d_A σ 2 i) (ad 1 i) (ad 2 i) (d_A σ 11 i) (c_pa ad (d_p σ i)) (c_en ad (e_c σ) i)
abbrev c_st (σ : Md) (b i : Nat) : va_E := oSg (d_A σ b i) (d_A σ (b + 1) i) (d_A σ (b + 2) i) (d_A σ (b + 3) i)
/-- arrays of two lists are apart, unless nothing was ever put in -/
abbrev c_ap (G : px_G) (a b : Nat) : Prop := a = b → a = g_sv G 0
def c_sep (G : px_G) (ad : Nat → Nat → Nat) (n : Nat) (es : List Nat) : Prop :=
  (ad 6 1 ≠ ad 6 3 ∧ ad 6 1 ≠ ad 6 5 ∧ ad 6 3 ≠ ad 6 5) ∧ (c_ap G (ad 6 2) (ad 6 4) ∧ c_ap G (ad 6 2) (ad 6 6) ∧ c_ap G (ad 6 4) (ad 6 6)) ∧
  (∀ i j, i < n → j < n → ad 0 i = ad 0 j → i = j) ∧ (∀ i j, i < n → j < n → ad 1 i = ad 1 j → i = j) ∧ (∀ i j, i < n → j < n → ad 2 i = ad 2 j → i = j) ∧ (∀ i j, i < n → j < n → ad 1 i ≠ ad 2 j) ∧
  (∀ i j, i ∈ es → j ∈ es → ad 3 i = ad 3 j → i = j)
def c_codes (ws : va_W) (ad : Nat → Nat → Nat) (σ : Md) : Prop := ∀ i, i < d_n σ → px_lk ws (ad 0 i) = some (c_cd ad σ i) ∧ px_lk ws (ad 1 i) = some (c_st σ 3 i) ∧ px_lk ws (ad 2 i) = some (c_st σ 7 i)
def c_ents (ws : va_W) (ad : Nat → Nat → Nat) (es : List En4) : Prop := ∀ x ∈ es, px_lk ws (ad 3 x.1) = some (oEn (ad 0 x.1) (ad 4 x.1) (ad 5 x.1) x.2.1) ∧ px_lk ws (ad 4 x.1) = some (oSn4 x.2.2.1) ∧ px_lk ws (ad 5 x.1) = some (oSn4 x.2.2.2)
def c_lists (G : px_G) (ws : va_W) (ad : Nat → Nat → Nat) (n : Nat) (es ds : List Nat) : Prop := LSA G ws (ad 6 1) (ad 6 2) ((List.range n).map (ad 0)) ∧ LSA G ws (ad 6 3) (ad 6 4) (es.map (ad 3)) ∧ LSA G ws (ad 6 5) (ad 6 6) (ds.map (ad 0))
/-- the class's object at o stands for the state σ -/
def CR (G : px_G) (R : Int32) (ws : va_W) (o : Nat) (ad : Nat → Nat → Nat) (σ : Md) : Prop :=
  px_lk ws o = some (oTM (ad 6 1) (ad 6 0) (d_g σ 0) (d_g σ 1) (d_g σ 2) (d_g σ 3)) ∧ px_lk ws (ad 6 0) = some (oMem R (ad 6 3) (ad 6 5)) ∧
  c_lists G ws ad (d_n σ) (e_c σ) (d_d σ) ∧ c_sep G ad (d_n σ) (e_c σ) ∧ c_codes ws ad σ ∧ c_ents ws ad (d_e σ)
theorem LSA.up {G : px_G} {ws : va_W} {L ar a : Nat} {xs : List Nat} {x e : va_E} (h : LSA G ws L ar xs) (ha : px_lk ws a = some x) (h6 : ¬ px_kd x = 6) (h7 : ¬ px_kd x = 1001) : LSA G (px_up ws a e) L ar xs := by
  obtain ⟨mc, hL, hmode⟩ := h
  exact ⟨mc, px_keepK ha hL (fun z => h6 z.symm), hmode.imp id (fun ⟨cap, f, a1, a2⟩ => ⟨cap, f, px_keepK ha a1 (fun z => h7 z.symm), a2⟩)⟩
theorem c_lists.up {G : px_G} {ws : va_W} {ad : Nat → Nat → Nat} {n : Nat} {es ds : List Nat} {a : Nat} {x e : va_E} (h : c_lists G ws ad n es ds) (ha : px_lk ws a = some x) (h6 : ¬ px_kd x = 6) (h7 : ¬ px_kd x = 1001) : c_lists G (px_up ws a e) ad n es ds := ⟨h.1.up ha h6 h7, h.2.1.up ha h6 h7, h.2.2.up ha h6 h7⟩
theorem c_ents.up {ws : va_W} {ad : Nat → Nat → Nat} {es : List En4} {a : Nat} {x e : va_E} (h : c_ents ws ad es) (ha : px_lk ws a = some x) (h4 : ¬ px_kd x = 4) (h5 : ¬ px_kd x = 5) : c_ents (px_up ws a e) ad es := fun y hy => ⟨px_keepK ha (h y hy).1 (fun z => h4 z.symm), px_keepK ha (h y hy).2.1 (fun z => h5 z.symm), px_keepK ha (h y hy).2.2 (fun z => h5 z.symm)⟩
theorem c_st_up {σ : Md} {b i b2 j : Nat} {s t a g : Int32} (h : j ≠ i ∨ b2 + 4 ≤ b ∨ b + 4 ≤ b2) : c_st (stA σ b i s t a g) b2 j = c_st σ b2 j := by
  have e : ∀ k, b2 ≤ k → k < b2 + 4 → up4 (d_A σ) b i s t a g k j = d_A σ k j := fun k h1 h2 => by
    rcases h with h | h
    · exact up4_ne h
    · exact up4_out (by omega)
  show oSg (up4 (d_A σ) b i s t a g b2 j) (up4 (d_A σ) b i s t a g (b2 + 1) j) (up4 (d_A σ) b i s t a g (b2 + 2) j) (up4 (d_A σ) b i s t a g (b2 + 3) j) = _
  rw [e _ (by omega) (by omega), e _ (by omega) (by omega), e _ (by omega) (by omega), e _ (by omega) (by omega)]
theorem c_st_same {σ : Md} {b i : Nat} {s t a g : Int32} : c_st (stA σ b i s t a g) b i = oSg s t a g := by
  show oSg (up4 (d_A σ) b i s t a g b i) (up4 (d_A σ) b i s t a g (b + 1) i) (up4 (d_A σ) b i s t a g (b + 2) i) (up4 (d_A σ) b i s t a g (b + 3) i) = _
  unfold up4
  simp
theorem c_cd_st {ad : Nat → Nat → Nat} {σ : Md} {b i j : Nat} {s t a g : Int32} (h1 : 3 ≤ b) (h2 : b ≤ 7) : c_cd ad (stA σ b i s t a g) j = c_cd ad σ j := by
  show oCd (nI (j + 1)) (up4 (d_A σ) b i s t a g 0 j) (up4 (d_A σ) b i s t a g 1 j) (up4 (d_A σ) b i s t a g 2 j) (ad 1 j) (ad 2 j) (up4 (d_A σ) b i s t a g 11 j) _ _ = _
  rw [up4_out (by omega), up4_out (by omega), up4_out (by omega), up4_out (by omega)]
/-- a code's standing, or its kept one, is set -/
theorem CR.st {G : px_G} {R : Int32} {ws : va_W} {o : Nat} {ad : Nat → Nat → Nat} {σ : Md} (h : CR G R ws o ad σ) {b i : Nat} (hb : (b = 3) ∨ (b = 7)) (hi : i < d_n σ) {s t a g : Int32} : CR G R (px_up ws (ad (if b = 3 then 1 else 2) i) (oSg s t a g)) o ad (stA σ b i s t a g) := by
  obtain ⟨h1, h2, h3, h4, h5, h6⟩ := h
  obtain ⟨-, -, -, s1, s2, s3, -⟩ := id h4
  have hc : ∃ x, px_lk ws (ad (if b = 3 then 1 else 2) i) = some x ∧ px_kd x = 3 := by
    rcases hb with rfl | rfl
    · exact ⟨_, (h5 i hi).2.1, rfl⟩
    · exact ⟨_, (h5 i hi).2.2, rfl⟩
  obtain ⟨x, hx, hk⟩ := hc
  have n6 : ¬ px_kd x = 6 := by rw [hk]; decide
  have n7 : ¬ px_kd x = 1001 := by rw [hk]; decide
  have n4 : ¬ px_kd x = 4 := by rw [hk]; decide
  have n5 : ¬ px_kd x = 5 := by rw [hk]; decide
  have n0 : ¬ (0 : Nat) = px_kd x := by rw [hk]; decide
  have n1 : ¬ (1 : Nat) = px_kd x := by rw [hk]; decide
  have n2 : ¬ (2 : Nat) = px_kd x := by rw [hk]; decide
  refine ⟨px_keepK hx h1 n0, px_keepK hx h2 n1, h3.up hx n6 n7, h4, fun j hj => ⟨?_, ?_, ?_⟩, h6.up hx n4 n5⟩
  · rw [c_cd_st (by omega) (by omega)]
    exact px_keepK hx (h5 j hj).1 n2
  · rcases hb with rfl | rfl
    · by_cases hji : j = i
      · subst hji
        rw [c_st_same]
        exact px_lk_same _ _ _ _ hx
      · rw [c_st_up (Or.inl hji)]
        exact px_keep (h5 j hj).2.1 (fun z => hji (s1 j i hj hi z))
    · rw [c_st_up (Or.inr (by omega))]
      exact px_keep (h5 j hj).2.1 (s3 j i hj hi)
  · rcases hb with rfl | rfl
    · rw [c_st_up (Or.inr (by omega))]
      exact px_keep (h5 j hj).2.2 (fun z => s3 i j hi hj z.symm)
    · by_cases hji : j = i
      · subst hji
        rw [c_st_same]
        exact px_lk_same _ _ _ _ hx
      · rw [c_st_up (Or.inl hji)]
        exact px_keep (h5 j hj).2.2 (fun z => hji (s2 j i hj hi z))
/-- a code's own cell is set: its counter, its parent -/
theorem CR.cd {G : px_G} {R : Int32} {ws : va_W} {o : Nat} {ad : Nat → Nat → Nat} {σ σ' : Md} (h : CR G R ws o ad σ) {i : Nat} (hi : i < d_n σ) (hn : d_n σ' = d_n σ) (he : d_e σ' = d_e σ) (hd : d_d σ' = d_d σ) (hg : d_g σ' = d_g σ) (hc : ∀ j, j ≠ i → c_cd ad σ' j = c_cd ad σ j) (h3 : ∀ j, c_st σ' 3 j = c_st σ 3 j) (h7 : ∀ j, c_st σ' 7 j = c_st σ 7 j) : CR G R (px_up ws (ad 0 i) (c_cd ad σ' i)) o ad σ' := by
  obtain ⟨h1, h2, hl, h4, h5, h6⟩ := h
  obtain ⟨-, -, s0, -⟩ := id h4
  have hx := (h5 i hi).1
  have NE : ∀ {a b : Nat}, Nat.beq a b = false → ¬ a = b := fun hh => Nat.ne_of_beq_eq_false hh
  refine ⟨?_, px_keepK hx h2 (NE rfl), ?_, ?_, fun j hj => ⟨?_, ?_, ?_⟩, ?_⟩
  · rw [hg]
    exact px_keepK hx h1 (NE rfl)
  · show c_lists G _ ad (d_n σ') ((d_e σ').map _) (d_d σ')
    rw [hn, he, hd]
    exact hl.up hx (NE rfl) (NE rfl)
  · show c_sep G ad (d_n σ') ((d_e σ').map _)
    rw [hn, he]
    exact h4
  · rw [hn] at hj
    by_cases hji : j = i
    · subst hji
      exact px_lk_same _ _ _ _ hx
    · rw [hc j hji]
      exact px_keep (h5 j hj).1 (fun z => hji (s0 j i hj hi z))
  · rw [hn] at hj
    rw [h3 j]
    exact px_keepK hx (h5 j hj).2.1 (NE rfl)
  · rw [hn] at hj
    rw [h7 j]
    exact px_keepK hx (h5 j hj).2.2 (NE rfl)
  · show c_ents _ ad (d_e σ')
    rw [he]
    exact h6.up hx (NE rfl) (NE rfl)
/-- the object's own numbers are set -/
theorem CR.tm {G : px_G} {R : Int32} {ws : va_W} {o : Nat} {ad : Nat → Nat → Nat} {σ : Md} (h : CR G R ws o ad σ) (g : Nat → Int32) : CR G R (px_up ws o (oTM (ad 6 1) (ad 6 0) (g 0) (g 1) (g 2) (g 3))) o ad (stG σ g) := by
  obtain ⟨h1, h2, hl, h4, h5, h6⟩ := h
  have NE : ∀ {a b : Nat}, Nat.beq a b = false → ¬ a = b := fun hh => Nat.ne_of_beq_eq_false hh
  exact ⟨px_lk_same _ _ _ _ h1, px_keepK h1 h2 (NE rfl), hl.up h1 (NE rfl) (NE rfl), h4, fun j hj => ⟨px_keepK h1 (h5 j hj).1 (NE rfl), px_keepK h1 (h5 j hj).2.1 (NE rfl), px_keepK h1 (h5 j hj).2.2 (NE rfl)⟩, h6.up h1 (NE rfl) (NE rfl)⟩
