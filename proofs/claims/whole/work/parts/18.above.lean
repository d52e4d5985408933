/-! THE CLASS: those above a code -/
theorem c_pa0 {ad : Nat → Nat → Nat} {p : Nat} (h : p = 0) : c_pa ad p = none := if_pos h
theorem c_pa1 {ad : Nat → Nat → Nat} {p : Nat} (h : ¬ p = 0) : c_pa ad p = some (ad 0 (p - 1)) := if_neg h
def hidF (A : Nat → Nat → Int32) (P : Nat → Nat) : Nat → Nat → Int32
  | 0, _ => 0
  | f + 1, p => if p = 0 then 0 else if sHas (A 3 (p - 1)) 1 = 0 then hidF A P f (P (p - 1)) else 1
def cntF (P : Nat → Nat) : Nat → Nat → Nat
  | 0, _ => 0
  | f + 1, p => if p = 0 then 0 else cntF P f (P (p - 1)) + 1
def belF (P : Nat → Nat) (c : Nat) : Nat → Nat → Int32
  | 0, _ => 0
  | f + 1, p => if p = 0 then 0 else if p = c + 1 then 1 else belF P c f (P (p - 1))
set_option maxHeartbeats 2000000 in
theorem c_hid_loop {G : px_G} {ws : va_W} {d : Nat} {ad : Nat → Nat → Nat} {σ : Md} {a : Nat} (h : c_codes ws ad σ) (hp : ∀ i, i < d_n σ → d_p σ i ≤ d_n σ) : ∀ (f i p : Nat) (v : Value) (x2 : Int32), i + f = 200 → p ≤ d_n σ → v = va_rf (c_pa ad p) → x2 = nI i → px G m_Cd_isHidden 7 [(2, .int x2), (1, v), (0, .ref a)] [] ws (d + 1) 0 0 (fun v w => v = some (.int (hidF (d_A σ) (d_p σ) f p)) ∧ w = ws) := by
  intro f
  induction f with
  | zero =>
    intro i p v x2 hif hpn hv h2
    subst h2
    have hi : i = 200 := by omega
    subst hi
    refine p_s rfl rfl ?_
    refine p_s rfl rfl ?_
    refine p_icmpT rfl (show (200 : Int32) ≤ nI 200 by decide) ?_
    refine p_s rfl rfl ?_
    exact p_iret rfl rfl rfl ⟨rfl, rfl⟩
  | succ f ih =>
    intro i p v x2 hif hpn hv h2
    subst h2
    by_cases hp0 : p = 0
    · rw [c_pa0 hp0] at hv
      subst hv
      refine p_s rfl rfl ?_
      refine p_s rfl rfl ?_
      refine p_icmpF rfl (show ¬ (200 : Int32) ≤ nI i by rw [show (200 : Int32) = nI 200 from rfl, nI_leI (by omega) (by omega)]; omega) ?_
      refine p_s rfl rfl ?_
      refine p_ifnull (r := none) rfl (fun _ => ?_) (fun c => absurd rfl c)
      refine p_s rfl rfl ?_
      exact p_iret rfl rfl rfl ⟨by rw [hidF, if_pos hp0], rfl⟩
    · rw [c_pa1 hp0] at hv
      subst hv
      have hpi : p - 1 < d_n σ := by omega
      have hpp := hp (p - 1) hpi
      refine p_s rfl rfl ?_
      refine p_s rfl rfl ?_
      refine p_icmpF rfl (show ¬ (200 : Int32) ≤ nI i by rw [show (200 : Int32) = nI 200 from rfl, nI_leI (by omega) (by omega)]; omega) ?_
      refine p_s rfl rfl ?_
      refine p_ifnull (r := some (ad 0 (p - 1))) rfl (fun c => by cases c) (fun _ => ?_)
      refine p_s rfl rfl ?_
      refine p_get rfl f_Cd_12 (h (p - 1) hpi).1 rfl ?_
      refine p_s rfl rfl ?_
      refine p_callV rfl c_Cd_57 rfl (h (p - 1) hpi).2.1 g_Sg_has rfl rfl rfl (c_has (h (p - 1) hpi).2.1) (fun v w hq => ?_)
      obtain ⟨rfl, rfl⟩ := hq
      refine p_if rfl (fun c => ?_) (fun c => ?_)
      · simp only [px_cmp] at c
        refine p_s rfl rfl ?_
        refine p_get rfl f_Cd_25 (h (p - 1) hpi).1 rfl ?_
        by_cases hp2 : d_p σ (p - 1) = 0
        · skip
          rw [show va_rf (c_pa ad (d_p σ (p - 1))) = .null by rw [c_pa0 hp2]; rfl]
          refine p_s rfl rfl ?_
          refine p_s rfl rfl ?_
          refine p_goto rfl ?_
          have := ih (i + 1) (d_p σ (p - 1)) _ _ (by omega) hpp (by rw [c_pa0 hp2]) (nI_1 i)
          rw [hidF, if_neg hp0, if_pos c]
          exact this
        · skip
          rw [show va_rf (c_pa ad (d_p σ (p - 1))) = .ref (ad 0 (d_p σ (p - 1) - 1)) by rw [c_pa1 hp2]; rfl]
          refine p_s rfl rfl ?_
          refine p_s rfl rfl ?_
          refine p_goto rfl ?_
          have := ih (i + 1) (d_p σ (p - 1)) _ _ (by omega) hpp (by rw [c_pa1 hp2]) (nI_1 i)
          rw [hidF, if_neg hp0, if_pos c]
          exact this
      · simp only [px_ncmp] at c
        refine p_s rfl rfl ?_
        exact p_iret rfl rfl rfl ⟨by rw [hidF, if_neg hp0, if_neg c], rfl⟩
set_option maxHeartbeats 2000000 in
theorem c_above_loop {G : px_G} {ws : va_W} {d : Nat} {ad : Nat → Nat → Nat} {σ : Md} {a : Nat} (h : c_codes ws ad σ) (hp : ∀ i, i < d_n σ → d_p σ i ≤ d_n σ) : ∀ (f i p : Nat) (v : Value) (x2 : Int32), i + f = 200 → p ≤ d_n σ → v = va_rf (c_pa ad p) → x2 = nI i → px G m_Cd_countAbove 7 [(2, v), (1, .int x2), (0, .ref a)] [] ws d 0 0 (fun v w => v = some (.int (nI (i + cntF (d_p σ) f p))) ∧ w = ws) := by
  intro f
  induction f with
  | zero =>
    intro i p v x2 hif hpn hv h2
    subst h2
    have hi : i = 200 := by omega
    subst hi
    by_cases hp0 : p = 0
    · rw [c_pa0 hp0] at hv
      subst hv
      refine p_s rfl rfl ?_
      refine p_ifnull (r := none) rfl (fun _ => ?_) (fun c => absurd rfl c)
      refine p_s rfl rfl ?_
      exact p_iret rfl rfl rfl ⟨rfl, rfl⟩
    · rw [c_pa1 hp0] at hv
      subst hv
      refine p_s rfl rfl ?_
      refine p_ifnull (r := some (ad 0 (p - 1))) rfl (fun c => by cases c) (fun _ => ?_)
      refine p_s rfl rfl ?_
      refine p_s rfl rfl ?_
      refine p_icmpT rfl (show (200 : Int32) ≤ nI 200 by decide) ?_
      refine p_s rfl rfl ?_
      exact p_iret rfl rfl rfl ⟨rfl, rfl⟩
  | succ f ih =>
    intro i p v x2 hif hpn hv h2
    subst h2
    by_cases hp0 : p = 0
    · rw [c_pa0 hp0] at hv
      subst hv
      refine p_s rfl rfl ?_
      refine p_ifnull (r := none) rfl (fun _ => ?_) (fun c => absurd rfl c)
      refine p_s rfl rfl ?_
      exact p_iret rfl rfl rfl ⟨by rw [cntF, if_pos hp0]; rfl, rfl⟩
    · rw [c_pa1 hp0] at hv
      subst hv
      have hpi : p - 1 < d_n σ := by omega
      have hpp := hp (p - 1) hpi
      refine p_s rfl rfl ?_
      refine p_ifnull (r := some (ad 0 (p - 1))) rfl (fun c => by cases c) (fun _ => ?_)
      refine p_s rfl rfl ?_
      refine p_s rfl rfl ?_
      refine p_icmpF rfl (show ¬ (200 : Int32) ≤ nI i by rw [show (200 : Int32) = nI 200 from rfl, nI_leI (by omega) (by omega)]; omega) ?_
      refine p_s rfl rfl ?_
      refine p_s rfl rfl ?_
      refine p_get rfl f_Cd_25 (h (p - 1) hpi).1 rfl ?_
      by_cases hp2 : d_p σ (p - 1) = 0
      · skip
        rw [show va_rf (c_pa ad (d_p σ (p - 1))) = .null by rw [c_pa0 hp2]; rfl]
        refine p_s rfl rfl ?_
        refine p_goto rfl ?_
        have := ih (i + 1) (d_p σ (p - 1)) _ _ (by omega) hpp (by rw [c_pa0 hp2]) (nI_1 i)
        rw [cntF, if_neg hp0, show i + (cntF (d_p σ) f (d_p σ (p - 1)) + 1) = i + 1 + cntF (d_p σ) f (d_p σ (p - 1)) by omega]
        exact this
      · skip
        rw [show va_rf (c_pa ad (d_p σ (p - 1))) = .ref (ad 0 (d_p σ (p - 1) - 1)) by rw [c_pa1 hp2]; rfl]
        refine p_s rfl rfl ?_
        refine p_goto rfl ?_
        have := ih (i + 1) (d_p σ (p - 1)) _ _ (by omega) hpp (by rw [c_pa1 hp2]) (nI_1 i)
        rw [cntF, if_neg hp0, show i + (cntF (d_p σ) f (d_p σ (p - 1)) + 1) = i + 1 + cntF (d_p σ) f (d_p σ (p - 1)) by omega]
        exact this
set_option maxHeartbeats 2000000 in
theorem c_bel_loop {G : px_G} {ws : va_W} {d : Nat} {ad : Nat → Nat → Nat} {σ : Md} {a : Nat} (h : c_codes ws ad σ) (hp : ∀ i, i < d_n σ → d_p σ i ≤ d_n σ) {cc : Nat} (hcc : cc < d_n σ) (hinj : ∀ i j, i < d_n σ → j < d_n σ → ad 0 i = ad 0 j → i = j) : ∀ (f i p : Nat) (v : Value) (x2 : Int32), i + f = 200 → p ≤ d_n σ → v = va_rf (c_pa ad p) → x2 = nI i → px G m_Cd_isBelow 7 [(3, .int x2), (2, v), (0, .ref a), (1, .ref (ad 0 cc))] [] ws d 0 0 (fun v w => v = some (.int (belF (d_p σ) cc f p)) ∧ w = ws) := by
  intro f
  induction f with
  | zero =>
    intro i p v x2 hif hpn hv h2
    subst h2
    have hi : i = 200 := by omega
    subst hi
    refine p_s rfl rfl ?_
    refine p_s rfl rfl ?_
    refine p_icmpT rfl (show (200 : Int32) ≤ nI 200 by decide) ?_
    refine p_s rfl rfl ?_
    exact p_iret rfl rfl rfl ⟨rfl, rfl⟩
  | succ f ih =>
    intro i p v x2 hif hpn hv h2
    subst h2
    by_cases hp0 : p = 0
    · rw [c_pa0 hp0] at hv
      subst hv
      refine p_s rfl rfl ?_
      refine p_s rfl rfl ?_
      refine p_icmpF rfl (show ¬ (200 : Int32) ≤ nI i by rw [show (200 : Int32) = nI 200 from rfl, nI_leI (by omega) (by omega)]; omega) ?_
      refine p_s rfl rfl ?_
      refine p_ifnull (r := none) rfl (fun _ => ?_) (fun c => absurd rfl c)
      refine p_s rfl rfl ?_
      exact p_iret rfl rfl rfl ⟨by rw [belF, if_pos hp0], rfl⟩
    · rw [c_pa1 hp0] at hv
      subst hv
      have hpi : p - 1 < d_n σ := by omega
      have hpp := hp (p - 1) hpi
      refine p_s rfl rfl ?_
      refine p_s rfl rfl ?_
      refine p_icmpF rfl (show ¬ (200 : Int32) ≤ nI i by rw [show (200 : Int32) = nI 200 from rfl, nI_leI (by omega) (by omega)]; omega) ?_
      refine p_s rfl rfl ?_
      refine p_ifnull (r := some (ad 0 (p - 1))) rfl (fun c => by cases c) (fun _ => ?_)
      refine p_s rfl rfl ?_
      refine p_s rfl rfl ?_
      refine p_acmpneR rfl (fun c => ?_) (fun c => ?_)
      rotate_left
      · have hpc : p = cc + 1 := by have := hinj (p - 1) cc hpi hcc c; omega
        refine p_s rfl rfl ?_
        exact p_iret rfl rfl rfl ⟨by rw [belF, if_neg hp0, if_pos hpc], rfl⟩
      have hpc : ¬ p = cc + 1 := fun z => c (by rw [z]; rfl)
      refine p_s rfl rfl ?_
      refine p_get rfl f_Cd_25 (h (p - 1) hpi).1 rfl ?_
      by_cases hp2 : d_p σ (p - 1) = 0
      · skip
        rw [show va_rf (c_pa ad (d_p σ (p - 1))) = .null by rw [c_pa0 hp2]; rfl]
        refine p_s rfl rfl ?_
        refine p_s rfl rfl ?_
        refine p_goto rfl ?_
        have := ih (i + 1) (d_p σ (p - 1)) _ _ (by omega) hpp (by rw [c_pa0 hp2]) (nI_1 i)
        rw [belF, if_neg hp0, if_neg hpc]
        exact this
      · skip
        rw [show va_rf (c_pa ad (d_p σ (p - 1))) = .ref (ad 0 (d_p σ (p - 1) - 1)) by rw [c_pa1 hp2]; rfl]
        refine p_s rfl rfl ?_
        refine p_s rfl rfl ?_
        refine p_goto rfl ?_
        have := ih (i + 1) (d_p σ (p - 1)) _ _ (by omega) hpp (by rw [c_pa1 hp2]) (nI_1 i)
        rw [belF, if_neg hp0, if_neg hpc]
        exact this
set_option maxHeartbeats 2000000 in
theorem c_isHidden {G : px_G} {ws : va_W} {d : Nat} {ad : Nat → Nat → Nat} {σ : Md}  (h : c_codes ws ad σ) (hp : ∀ i, i < d_n σ → d_p σ i ≤ d_n σ) {i : Nat} (hi : i < d_n σ) : px G m_Cd_isHidden 0 (lv_args 0 [.ref (ad 0 i)]) [] ws (d + 1) 0 0 (fun v w => v = some (.int (hidF (d_A σ) (d_p σ) 200 (d_p σ i))) ∧ w = ws) := by
  have hpp := hp i hi
  refine p_s rfl rfl ?_
  refine p_get rfl f_Cd_25 (h i hi).1 rfl ?_
  by_cases hp2 : d_p σ i = 0
  · rw [show va_rf (c_pa ad (d_p σ i)) = .null by rw [c_pa0 hp2]; rfl]
    refine p_s rfl rfl ?_
    refine p_s rfl rfl ?_
    refine p_s rfl rfl ?_
    exact c_hid_loop h hp 200 0 (d_p σ i) _ _ (by omega) hpp (by rw [c_pa0 hp2]; rfl) rfl
  · rw [show va_rf (c_pa ad (d_p σ i)) = .ref (ad 0 (d_p σ i - 1)) by rw [c_pa1 hp2]; rfl]
    refine p_s rfl rfl ?_
    refine p_s rfl rfl ?_
    refine p_s rfl rfl ?_
    exact c_hid_loop h hp 200 0 (d_p σ i) _ _ (by omega) hpp (by rw [c_pa1 hp2]; rfl) rfl
set_option maxHeartbeats 2000000 in
theorem c_countAbove {G : px_G} {ws : va_W} {d : Nat} {ad : Nat → Nat → Nat} {σ : Md}  (h : c_codes ws ad σ) (hp : ∀ i, i < d_n σ → d_p σ i ≤ d_n σ) {i : Nat} (hi : i < d_n σ) : px G m_Cd_countAbove 0 (lv_args 0 [.ref (ad 0 i)]) [] ws d 0 0 (fun v w => v = some (.int (nI (cntF (d_p σ) 200 (d_p σ i)))) ∧ w = ws) := by
  have hpp := hp i hi
  refine p_s rfl rfl ?_
  refine p_s rfl rfl ?_
  refine p_s rfl rfl ?_
  refine p_get rfl f_Cd_25 (h i hi).1 rfl ?_
  by_cases hp2 : d_p σ i = 0
  · rw [show va_rf (c_pa ad (d_p σ i)) = .null by rw [c_pa0 hp2]; rfl]
    refine p_s rfl rfl ?_
    exact (Nat.zero_add (cntF (d_p σ) 200 (d_p σ i))) ▸ c_above_loop h hp 200 0 (d_p σ i) _ _ (by omega) hpp (by rw [c_pa0 hp2]; rfl) rfl
  · rw [show va_rf (c_pa ad (d_p σ i)) = .ref (ad 0 (d_p σ i - 1)) by rw [c_pa1 hp2]; rfl]
    refine p_s rfl rfl ?_
    exact (Nat.zero_add (cntF (d_p σ) 200 (d_p σ i))) ▸ c_above_loop h hp 200 0 (d_p σ i) _ _ (by omega) hpp (by rw [c_pa1 hp2]; rfl) rfl
set_option maxHeartbeats 2000000 in
theorem c_isBelow {G : px_G} {ws : va_W} {d : Nat} {ad : Nat → Nat → Nat} {σ : Md}  (h : c_codes ws ad σ) (hp : ∀ i, i < d_n σ → d_p σ i ≤ d_n σ) {cc : Nat} (hcc : cc < d_n σ) (hinj : ∀ i j, i < d_n σ → j < d_n σ → ad 0 i = ad 0 j → i = j) {i : Nat} (hi : i < d_n σ) : px G m_Cd_isBelow 0 (lv_args 0 [.ref (ad 0 i), .ref (ad 0 cc)]) [] ws d 0 0 (fun v w => v = some (.int (belF (d_p σ) cc 200 (d_p σ i))) ∧ w = ws) := by
  have hpp := hp i hi
  refine p_s rfl rfl ?_
  refine p_get rfl f_Cd_25 (h i hi).1 rfl ?_
  by_cases hp2 : d_p σ i = 0
  · rw [show va_rf (c_pa ad (d_p σ i)) = .null by rw [c_pa0 hp2]; rfl]
    refine p_s rfl rfl ?_
    refine p_s rfl rfl ?_
    refine p_s rfl rfl ?_
    exact c_bel_loop h hp hcc hinj 200 0 (d_p σ i) _ _ (by omega) hpp (by rw [c_pa0 hp2]; rfl) rfl
  · rw [show va_rf (c_pa ad (d_p σ i)) = .ref (ad 0 (d_p σ i - 1)) by rw [c_pa1 hp2]; rfl]
    refine p_s rfl rfl ?_
    refine p_s rfl rfl ?_
    refine p_s rfl rfl ?_
    exact c_bel_loop h hp hcc hinj 200 0 (d_p σ i) _ _ (by omega) hpp (by rw [c_pa1 hp2]; rfl) rfl
