/-! ROWS OF THE STORE -/
theorem px_up_up : ∀ (ws : va_W) (a : Nat) (e1 e2 : va_E), px_up (px_up ws a e1) a e2 = px_up ws a e2
  | [], _, _, _ => rfl
  | q :: t, a, e1, e2 => by
    by_cases hq : q.1 = a
    · have h1 : px_up (q :: t) a e1 = (a, e1) :: t := by unfold px_up; rw [if_pos hq]
      have h2 : px_up (q :: t) a e2 = (a, e2) :: t := by unfold px_up; rw [if_pos hq]
      rw [h1, h2]
      unfold px_up
      rw [if_pos rfl]
    · have h1 : ∀ (t : va_W) (e : va_E), px_up (q :: t) a e = q :: px_up t a e := fun t e => by rw [px_up]; rw [if_neg hq]
      rw [h1, h1, h1, px_up_up t a e1 e2]
theorem px_ne {ws : va_W} {a b : Nat} {x y : va_E} (h1 : px_lk ws a = some x) (h2 : px_lk ws b = some y) (h : x ≠ y) : a ≠ b := by
  intro z
  subst z
  exact h (Option.some.inj (h1.symm.trans h2))
/-- the kind of a cell: its class's number, or 1000 and more for arrays -/
def px_kd : va_E → Nat
  | .inr o => o.1
  | .inl (_, _, .inl _) => 1000
  | .inl (_, _, .inr (.inr (.inr (.inr _)))) => 1001
  | .inl _ => 1002
theorem px_nek {ws : va_W} {a b : Nat} {x y : va_E} (h1 : px_lk ws a = some x) (h2 : px_lk ws b = some y) (h : ¬ px_kd x = px_kd y) : a ≠ b := px_ne h1 h2 (fun z => h (by rw [z]))
theorem px_keep {ws : va_W} {a b : Nat} {y e : va_E} (h2 : px_lk ws b = some y) (h : b ≠ a) : px_lk (px_up ws a e) b = some y := by rw [px_lk_ne _ _ _ _ h]; exact h2
theorem px_keepK {ws : va_W} {a b : Nat} {x y e : va_E} (h1 : px_lk ws a = some x) (h2 : px_lk ws b = some y) (h : ¬ px_kd y = px_kd x) : px_lk (px_up ws a e) b = some y := px_keep h2 (px_nek h2 h1 h)
/-- what one side's call leaves of the other side's cells -/
def px_kp (K : va_E → Bool) (ws ws' : va_W) : Prop := ∀ (a : Nat) (x : va_E), px_lk ws a = some x → K x = true → px_lk ws' a = some x
theorem px_kp.rf {K : va_E → Bool} {ws : va_W} : px_kp K ws ws := fun _ _ h _ => h
theorem px_kp.tr {K : va_E → Bool} {w1 w2 w3 : va_W} (h1 : px_kp K w1 w2) (h2 : px_kp K w2 w3) : px_kp K w1 w3 := fun a x h hk => h2 a x (h1 a x h hk) hk
theorem px_kp.up {K : va_E → Bool} {ws : va_W} {a : Nat} {x e : va_E} (h : px_lk ws a = some x) (hx : K x = false) : px_kp K ws (px_up ws a e) := fun b y hy hk => px_keep hy (px_ne hy h (fun z => by rw [z, hx] at hk; cases hk))
theorem px_kp.nw {K : va_E → Bool} {ws : va_W} {q : Nat} {e : va_E} : px_kp K ws (ws ++ [(q, e)]) := fun b y hy _ => px_lk_old _ _ _ _ _ hy
