/-! WHICH ENTRY GOES: the class's scan and the reference's three scans -/
theorem pw_lt {es : List Nat} {N : Nat → Nat} (h : es.Pairwise (fun a b => N a < N b)) : ∀ a b, a ∈ es → b ∈ es → N a = N b → a = b := by
  induction es with
  | nil => intro a b ha; cases ha
  | cons x t ih =>
    intro a b ha hb e
    obtain ⟨h1, h2⟩ := List.pairwise_cons.mp h
    rcases List.mem_cons.mp ha with z1 | z1
    · rcases List.mem_cons.mp hb with z2 | z2
      · rw [z1, z2]
      · have := h1 b z2
        rw [z1] at e
        omega
    · rcases List.mem_cons.mp hb with z2 | z2
      · have := h1 a z1
        rw [z2] at e
        omega
      · exact ih h2 a b z1 z2 e
def cnI (es : List Nat) : Nat → Nat
  | 0 => 0
  | k + 1 => cnI es k + (if k ∈ es then 1 else 0)
theorem cnI_nil : ∀ n, cnI [] n = 0
  | 0 => rfl
  | n + 1 => by rw [cnI, cnI_nil n, if_neg (by intro z; cases z)]
theorem cnI_cons {a : Nat} {t : List Nat} (ha : a ∉ t) : ∀ n, cnI (a :: t) n = cnI t n + (if a < n then 1 else 0)
  | 0 => by rw [cnI, cnI, if_neg (by omega)]
  | n + 1 => by
    rw [cnI, cnI, cnI_cons ha n]
    by_cases h1 : n = a
    · rw [if_pos (List.mem_cons.mpr (Or.inl h1)), if_neg (show ¬ n ∈ t by rw [h1]; exact ha), if_neg (show ¬ a < n by omega), if_pos (show a < n + 1 by omega)]
    · by_cases h2 : n ∈ t
      · rw [if_pos (List.mem_cons.mpr (Or.inr h2)), if_pos h2]
        by_cases h3 : a < n
        · rw [if_pos h3, if_pos (by omega)]
        · rw [if_neg h3, if_neg (by omega)]
      · rw [if_neg (fun z => (List.mem_cons.mp z).elim h1 h2), if_neg h2]
        by_cases h3 : a < n
        · rw [if_pos h3, if_pos (by omega)]
        · rw [if_neg h3, if_neg (by omega)]
theorem cnI_len {n : Nat} : ∀ es : List Nat, es.Nodup → (∀ x ∈ es, x < n) → cnI es n = es.length
  | [], _, _ => cnI_nil n
  | a :: t, hd, h => by
    obtain ⟨h1, h2⟩ := List.nodup_cons.mp hd
    rw [cnI_cons h1, cnI_len t h2 (fun x hx => h x (List.mem_cons_of_mem _ hx)), if_pos (h a List.mem_cons_self), List.length_cons]
section BEST
variable {A : Nat → Nat → Int32} {N pr : Nat → Nat} {c n : Nat}
abbrev nfE (A : Nat → Nat → Int32) (x : Nat) : Prop := sHas (A 3 x) 1 = 0
def kyE (A : Nat → Nat → Int32) (pr : Nat → Nat) (x : Nat) : Nat := 2 * pr x + (if nfE A x then 1 else 0)
theorem ky_t {x : Nat} (h : nfE A x) : kyE A pr x = 2 * pr x + 1 := by rw [kyE, if_pos h]
theorem ky_f {x : Nat} (h : ¬ nfE A x) : kyE A pr x = 2 * pr x := by rw [kyE, if_neg h, Nat.add_zero]
abbrev PrOk (A : Nat → Nat → Int32) (pr : Nat → Nat) (n : Nat) : Prop := ∀ i, i < n → A 0 i = nI (pr i) ∧ 1 ≤ pr i ∧ pr i ≤ 255
theorem mayE_ky (hp : PrOk A pr n) (hc : c < n) {x : Nat} (hx : x < n) : mayE A c x ↔ 2 * pr c + 1 ≤ kyE A pr x := by
  obtain ⟨a1, a2, a3⟩ := hp c hc
  obtain ⟨b1, b2, b3⟩ := hp x hx
  unfold mayE
  rw [a1, b1, nI_ltI (by omega) (by omega), nI_eq (by omega) (by omega)]
  by_cases hf : nfE A x
  · rw [ky_t hf]
    constructor
    · intro z
      omega
    · intro z
      by_cases h : pr c < pr x
      · exact Or.inl h
      · exact Or.inr ⟨by omega, hf⟩
  · rw [ky_f hf]
    constructor
    · rintro (z | z)
      · omega
      · exact absurd z.2 hf
    · intro z
      exact Or.inl (by omega)
theorem befE_ky (hp : PrOk A pr n) {x y : Nat} (hx : x < n) (hy : y < n) : befE A x y ↔ kyE A pr y < kyE A pr x := by
  obtain ⟨a1, a2, a3⟩ := hp x hx
  obtain ⟨b1, b2, b3⟩ := hp y hy
  unfold befE
  rw [a1, b1, nI_ltI (by omega) (by omega), nI_eq (by omega) (by omega)]
  by_cases hf : nfE A x
  · rw [ky_t hf]
    by_cases hg : nfE A y
    · rw [ky_t hg]
      constructor
      · rintro (z | z)
        · omega
        · exact absurd hg z.2.2
      · intro z
        exact Or.inl (by omega)
    · rw [ky_f hg]
      constructor
      · rintro (z | z)
        · omega
        · omega
      · intro z
        by_cases h : pr y < pr x
        · exact Or.inl h
        · exact Or.inr ⟨by omega, hf, hg⟩
  · rw [ky_f hf]
    constructor
    · rintro (z | z)
      · by_cases hg : nfE A y
        · rw [ky_t hg]
          omega
        · rw [ky_f hg]
          omega
      · exact absurd z.2.1 hf
    · intro z
      by_cases hg : nfE A y
      · rw [ky_t hg] at z
        exact Or.inl (by omega)
      · rw [ky_f hg] at z
        exact Or.inl (by omega)
/-- y is the one to go of the list -/
def BestV (A : Nat → Nat → Int32) (pr N : Nat → Nat) (c : Nat) (l : List Nat) (y : Nat) : Prop := y ∈ l ∧ 2 * pr c + 1 ≤ kyE A pr y ∧ ∀ x ∈ l, 2 * pr c + 1 ≤ kyE A pr x → kyE A pr x < kyE A pr y ∨ (kyE A pr x = kyE A pr y ∧ N y ≤ N x)
theorem BestV.uniq {l : List Nat} {y z : Nat} (hN : l.Pairwise (fun a b => N a < N b)) (h1 : BestV A pr N c l y) (h2 : BestV A pr N c l z) : y = z := by
  have a := h1.2.2 z h2.1 h2.2.1
  have b := h2.2.2 y h1.1 h1.2.1
  exact pw_lt hN y z h1.1 h2.1 (by omega)
theorem vicF_best (hp : PrOk A pr n) (hc : c < n) : ∀ (l pre : List Nat) (g : Option Nat), (pre ++ l).Pairwise (fun a b => N a < N b) → (∀ x ∈ pre ++ l, x < n) → ((g = none ∧ ∀ x ∈ pre, ¬ 2 * pr c + 1 ≤ kyE A pr x) ∨ ∃ y, g = some y ∧ BestV A pr N c pre y) →
    (vicF A c g l = none ∧ ∀ x ∈ pre ++ l, ¬ 2 * pr c + 1 ≤ kyE A pr x) ∨ ∃ y, vicF A c g l = some y ∧ BestV A pr N c (pre ++ l) y
  | [], pre, g, hN, hn, h => by
    rw [List.append_nil]
    exact h
  | x :: l, pre, g, hN, hn, h => by
    have hx : x < n := hn x (List.mem_append_right _ List.mem_cons_self)
    have e : pre ++ x :: l = (pre ++ [x]) ++ l := by rw [List.append_assoc]; rfl
    have hNx : ∀ z ∈ pre, N z < N x := fun z hz => (List.pairwise_append.mp hN).2.2 z hz x List.mem_cons_self
    rw [e] at hN hn ⊢
    refine vicF_best hp hc l (pre ++ [x]) (vicS A c g x) hN hn ?_
    rcases h with ⟨rfl, hno⟩ | ⟨y, rfl, hy1, hy2, hy3⟩
    · show (vicS A c none x = none ∧ _) ∨ _
      rw [vicS]
      by_cases hm : mayE A c x
      · rw [if_pos hm]
        rw [mayE_ky hp hc hx] at hm
        refine Or.inr ⟨x, rfl, List.mem_append_right _ List.mem_cons_self, hm, fun z hz hz2 => ?_⟩
        rcases List.mem_append.mp hz with hz | hz
        · exact absurd hz2 (hno z hz)
        · rw [List.mem_singleton.mp hz]
          exact Or.inr ⟨rfl, Nat.le_refl _⟩
      · rw [if_neg hm]
        rw [mayE_ky hp hc hx] at hm
        refine Or.inl ⟨rfl, fun z hz => ?_⟩
        rcases List.mem_append.mp hz with hz | hz
        · exact hno z hz
        · rw [List.mem_singleton.mp hz]
          exact hm
    · have hy : y < n := hn y (List.mem_append_left _ (List.mem_append_left _ hy1))
      have hNy := hNx y hy1
      rw [vicS]
      by_cases hm : mayE A c x ∧ befE A x y
      · rw [if_pos hm]
        rw [mayE_ky hp hc hx, befE_ky hp hx hy] at hm
        refine Or.inr ⟨x, rfl, List.mem_append_right _ List.mem_cons_self, hm.1, fun z hz hz2 => ?_⟩
        rcases List.mem_append.mp hz with hz | hz
        · have := hy3 z hz hz2
          omega
        · rw [List.mem_singleton.mp hz]
          exact Or.inr ⟨rfl, Nat.le_refl _⟩
      · rw [if_neg hm]
        rw [mayE_ky hp hc hx, befE_ky hp hx hy] at hm
        refine Or.inr ⟨y, rfl, List.mem_append_left _ hy1, hy2, fun z hz hz2 => ?_⟩
        rcases List.mem_append.mp hz with hz | hz
        · exact hy3 z hz hz2
        · rw [List.mem_singleton.mp hz] at hz2 ⊢
          have : ¬ kyE A pr y < kyE A pr x := fun k => hm ⟨hz2, k⟩
          omega
/-- the reference's three scans -/
abbrev mayR (A : Nat → Nat → Int32) (pr N : Nat → Nat) (c e : Nat) : Prop := 0 < N e ∧ (pr c < pr e ∨ (pr e = pr c ∧ nfE A e))
def lowF (A : Nat → Nat → Int32) (pr N : Nat → Nat) (c : Nat) : Nat → Nat
  | 0 => 0
  | k + 1 => if mayR A pr N c k ∧ lowF A pr N c k < pr k then pr k else lowF A pr N c k
abbrev somR (A : Nat → Nat → Int32) (pr N : Nat → Nat) (low e : Nat) : Prop := 0 < N e ∧ pr e = low ∧ nfE A e
def somF (A : Nat → Nat → Int32) (pr N : Nat → Nat) (low : Nat) : Nat → Int32
  | 0 => 0
  | k + 1 => if ¬ somF A pr N low k = 0 ∨ somR A pr N low k then 1 else 0
abbrev canR (A : Nat → Nat → Int32) (pr N : Nat → Nat) (low : Nat) (sm : Int32) (e : Nat) : Prop := 0 < N e ∧ pr e = low ∧ (sm = 0 ∨ nfE A e)
def besF (A : Nat → Nat → Int32) (pr N : Nat → Nat) (low : Nat) (sm : Int32) : Nat → Nat
  | 0 => 0
  | k + 1 => if canR A pr N low sm k ∧ (besF A pr N low sm k = 0 ∨ N k < N (besF A pr N low sm k - 1)) then k + 1 else besF A pr N low sm k
theorem lowF_sp (h1 : ∀ i, i < n → 1 ≤ pr i) : ∀ k, k ≤ n → (∀ e, e < k → mayR A pr N c e → pr e ≤ lowF A pr N c k) ∧ (lowF A pr N c k = 0 ∨ ∃ e, e < k ∧ mayR A pr N c e ∧ pr e = lowF A pr N c k)
  | 0, _ => ⟨fun e h => by omega, Or.inl rfl⟩
  | k + 1, hk => by
    obtain ⟨a, b⟩ := lowF_sp h1 k (by omega)
    rw [lowF]
    by_cases h : mayR A pr N c k ∧ lowF A pr N c k < pr k
    · rw [if_pos h]
      refine ⟨fun e he hm => ?_, Or.inr ⟨k, by omega, h.1, rfl⟩⟩
      by_cases hek : e = k
      · rw [hek]
        exact Nat.le_refl _
      · have := a e (by omega) hm
        omega
    · rw [if_neg h]
      refine ⟨fun e he hm => ?_, b.imp id (fun ⟨e, e1, e2⟩ => ⟨e, by omega, e2⟩)⟩
      by_cases hek : e = k
      · subst hek
        have : ¬ lowF A pr N c e < pr e := fun z => h ⟨hm, z⟩
        omega
      · exact a e (by omega) hm
theorem somF_sp {low : Nat} : ∀ k, (somF A pr N low k = 0 ∧ ∀ e, e < k → ¬ somR A pr N low e) ∨ (somF A pr N low k = 1 ∧ ∃ e, e < k ∧ somR A pr N low e)
  | 0 => Or.inl ⟨rfl, fun e h => by omega⟩
  | k + 1 => by
    rw [somF]
    rcases somF_sp k with ⟨a, b⟩ | ⟨a, e, b1, b2⟩
    · by_cases h : somR A pr N low k
      · rw [if_pos (Or.inr h)]
        exact Or.inr ⟨rfl, k, by omega, h⟩
      · rw [if_neg (fun z => z.elim (fun w => w a) h)]
        refine Or.inl ⟨rfl, fun e he => ?_⟩
        by_cases hek : e = k
        · rw [hek]
          exact h
        · exact b e (by omega)
    · rw [if_pos (Or.inl (by rw [a]; decide))]
      exact Or.inr ⟨rfl, e, by omega, b2⟩
theorem besF_sp {low : Nat} {sm : Int32} : ∀ k, (besF A pr N low sm k = 0 ∧ ∀ e, e < k → ¬ canR A pr N low sm e) ∨ ∃ y, besF A pr N low sm k = y + 1 ∧ y < k ∧ canR A pr N low sm y ∧ ∀ e, e < k → canR A pr N low sm e → N y ≤ N e
  | 0 => Or.inl ⟨rfl, fun e h => by omega⟩
  | k + 1 => by
    rw [besF]
    rcases besF_sp k with ⟨a, b⟩ | ⟨y, a, b1, b2, b3⟩
    · by_cases h : canR A pr N low sm k
      · rw [if_pos ⟨h, Or.inl a⟩]
        refine Or.inr ⟨k, rfl, by omega, h, fun e he hc => ?_⟩
        by_cases hek : e = k
        · rw [hek]
          exact Nat.le_refl _
        · exact absurd hc (b e (by omega))
      · rw [if_neg (fun z => h z.1)]
        refine Or.inl ⟨a, fun e he => ?_⟩
        by_cases hek : e = k
        · rw [hek]
          exact h
        · exact b e (by omega)
    · rw [a, Nat.add_sub_cancel]
      by_cases h : canR A pr N low sm k ∧ (y + 1 = 0 ∨ N k < N y)
      · rw [if_pos h]
        refine Or.inr ⟨k, rfl, by omega, h.1, fun e he hc => ?_⟩
        by_cases hek : e = k
        · rw [hek]
          exact Nat.le_refl _
        · have := b3 e (by omega) hc
          omega
      · rw [if_neg h]
        refine Or.inr ⟨y, rfl, by omega, b2, fun e he hc => ?_⟩
        by_cases hek : e = k
        · subst hek
          have : ¬ N e < N y := fun z => h ⟨hc, Or.inr z⟩
          omega
        · exact b3 e (by omega) hc
def goR (A : Nat → Nat → Int32) (pr N : Nat → Nat) (c n : Nat) : Nat := if lowF A pr N c n = 0 then 0 else besF A pr N (lowF A pr N c n) (somF A pr N (lowF A pr N c n) n) n
theorem goR_vic {es : List Nat} (hp : PrOk A pr n) (hc : c < n) (hN : es.Pairwise (fun a b => N a < N b)) (hes : ∀ x ∈ es, x < n) (hz : ∀ i, i < n → (N i = 0 ↔ i ∉ es)) : (vicF A c none es = none ∧ goR A pr N c n = 0) ∨ ∃ y, vicF A c none es = some y ∧ goR A pr N c n = y + 1 := by
  have hst : ∀ e, e < n → (0 < N e ↔ e ∈ es) := fun e he => by
    have := hz e he
    by_cases h : e ∈ es
    · have h2 : N e ≠ 0 := fun z => (this.mp z) h
      exact ⟨fun _ => h, fun _ => by omega⟩
    · have h2 := this.mpr h
      exact ⟨fun z => by omega, fun z => absurd z h⟩
  have hmay : ∀ e, e < n → (mayR A pr N c e ↔ e ∈ es ∧ 2 * pr c + 1 ≤ kyE A pr e) := fun e he => by
    unfold mayR
    rw [hst e he]
    refine and_congr_right (fun _ => ?_)
    by_cases hf : nfE A e
    · rw [ky_t hf]
      constructor
      · rintro (z | z) <;> omega
      · intro z
        by_cases h : pr c < pr e
        · exact Or.inl h
        · exact Or.inr ⟨by omega, hf⟩
    · rw [ky_f hf]
      constructor
      · rintro (z | z)
        · omega
        · exact absurd z.2 hf
      · intro z
        exact Or.inl (by omega)
  obtain ⟨l1, l2⟩ := lowF_sp (A := A) (N := N) (c := c) (fun i hi => (hp i hi).2.1) n (Nat.le_refl _)
  have hv := vicF_best (N := N) hp hc es [] none (by rw [List.nil_append]; exact hN) (by rw [List.nil_append]; exact hes) (Or.inl ⟨rfl, fun x hx => by cases hx⟩)
  rw [List.nil_append] at hv
  rcases hv with ⟨v1, v2⟩ | ⟨y0, v1, v2⟩
  · refine Or.inl ⟨v1, ?_⟩
    have h0 : lowF A pr N c n = 0 := by
      rcases l2 with h | ⟨e, e1, e2, e3⟩
      · exact h
      · have := (hmay e e1).mp e2
        exact absurd this.2 (v2 e this.1)
    rw [goR, if_pos h0]
  · have hy0 : y0 < n := hes y0 v2.1
    have hm0 := (hmay y0 hy0).mpr ⟨v2.1, v2.2.1⟩
    have hlow := l1 y0 hy0 hm0
    have hpy0 := (hp y0 hy0).2.1
    have h0 : ¬ lowF A pr N c n = 0 := by omega
    obtain ⟨e0, e1, e2, e3⟩ := l2.resolve_left h0
    rw [goR, if_neg h0]
    refine Or.inr ⟨y0, v1, ?_⟩
    generalize lowF A pr N c n = low at *
    have hsm := somF_sp (A := A) (pr := pr) (N := N) (low := low) n
    generalize somF A pr N low n = sm at *
    rcases besF_sp (A := A) (pr := pr) (N := N) (low := low) (sm := sm) n with ⟨b1, b2⟩ | ⟨y, b1, b2, b3, b4⟩
    · refine absurd ?_ (b2 e0 e1)
      rcases hsm with ⟨s1, s2⟩ | ⟨s1, e, s2, s3⟩
      · exact ⟨e2.1, e3, Or.inl s1⟩
      · exact absurd ⟨s3.1, s3.2.1, Or.inr s3.2.2⟩ (b2 e s2)
    · rw [b1]
      congr 1
      have hyes := (hst y b2).mp b3.1
      refine BestV.uniq hN ⟨hyes, ?_, fun x hx hx2 => ?_⟩ v2
      · refine ((hmay y b2).mp ⟨b3.1, ?_⟩).2
        rcases e2.2 with h | h
        · exact Or.inl (by have := b3.2.1; omega)
        · refine Or.inr ⟨by have := b3.2.1; omega, b3.2.2.elim (fun z => ?_) id⟩
          rcases hsm with ⟨s1, s2⟩ | ⟨s1, -⟩
          · exact absurd ⟨e2.1, e3, h.2⟩ (s2 e0 e1)
          · exact absurd (z.symm.trans s1) (by decide)
      · have hxn := hes x hx
        have hxl := l1 x hxn ((hmay x hxn).mpr ⟨hx, hx2⟩)
        have hNx := (hst x hxn).mpr hx
        have hy2 := b3.2.1
        by_cases hxp : pr x = low
        · by_cases hf : nfE A x
          · have hs1 : ¬ sm = 0 := by
              rcases hsm with ⟨s1, s2⟩ | ⟨s1, -⟩
              · exact absurd ⟨hNx, hxp, hf⟩ (s2 x hxn)
              · rw [s1]; decide
            have hfy : nfE A y := b3.2.2.resolve_left hs1
            rw [ky_t hf, ky_t hfy]
            exact Or.inr ⟨by omega, b4 x hxn ⟨hNx, hxp, Or.inr hf⟩⟩
          · by_cases hfy : nfE A y
            · rw [ky_f hf, ky_t hfy]
              exact Or.inl (by omega)
            · have hs0 : sm = 0 := b3.2.2.resolve_right hfy
              rw [ky_f hf, ky_f hfy]
              exact Or.inr ⟨by omega, b4 x hxn ⟨hNx, hxp, Or.inl hs0⟩⟩
        · left
          have k1 : kyE A pr x ≤ 2 * pr x + 1 := by
            by_cases hf : nfE A x
            · rw [ky_t hf]
              omega
            · rw [ky_f hf]
              omega
          have k2 : 2 * pr y ≤ kyE A pr y := by
            by_cases hf : nfE A y
            · rw [ky_t hf]
              omega
            · rw [ky_f hf]
              omega
          omega
end BEST
