/-! THE CLASS: which entry goes -/
abbrev mayE (A : Nat → Nat → Int32) (c x : Nat) : Prop := A 0 c < A 0 x ∨ (A 0 x = A 0 c ∧ sHas (A 3 x) 1 = 0)
abbrev befE (A : Nat → Nat → Int32) (x y : Nat) : Prop := A 0 y < A 0 x ∨ (A 0 x = A 0 y ∧ sHas (A 3 x) 1 = 0 ∧ ¬ sHas (A 3 y) 1 = 0)
def vicS (A : Nat → Nat → Int32) (c : Nat) (g : Option Nat) (x : Nat) : Option Nat := match g with
  | none => if mayE A c x then some x else none
  | some y => if mayE A c x ∧ befE A x y then some x else some y
def vicF (A : Nat → Nat → Int32) (c : Nat) : Option Nat → List Nat → Option Nat
  | g, [] => g
  | g, x :: l => vicF A c (vicS A c g x) l
theorem vicF_mem {A : Nat → Nat → Int32} {c : Nat} : ∀ (l : List Nat) (g : Option Nat) (y : Nat), vicF A c g l = some y → g = some y ∨ y ∈ l
  | [], g, y, h => Or.inl h
  | x :: l, g, y, h => by
    rcases vicF_mem l _ y h with h1 | h1
    · cases g with
      | none =>
        simp only [vicS] at h1
        split at h1
        · cases h1
          exact Or.inr List.mem_cons_self
        · cases h1
      | some z =>
        simp only [vicS] at h1
        split at h1
        · cases h1
          exact Or.inr List.mem_cons_self
        · exact Or.inl h1
    · exact Or.inr (List.mem_cons_of_mem _ h1)
abbrev stD (σ : Md) (ds : List Nat) : Md := (d_n σ, d_A σ, d_p σ, d_e σ, ds, d_g σ)
/-- addresses stay, but for the lists' arrays -/
def AdS (ad ad' : Nat → Nat → Nat) : Prop := (∀ k i, k ≠ 6 → ad' k i = ad k i) ∧ ∀ j, j ≠ 2 → j ≠ 4 → j ≠ 6 → ad' 6 j = ad 6 j
theorem AdS.rf {ad : Nat → Nat → Nat} : AdS ad ad := ⟨fun _ _ _ => rfl, fun _ _ _ _ => rfl⟩
theorem AdS.tr {a b c : Nat → Nat → Nat} (h1 : AdS a b) (h2 : AdS b c) : AdS a c := ⟨fun k i hk => (h2.1 k i hk).trans (h1.1 k i hk), fun j x y z => (h2.2 j x y z).trans (h1.2 j x y z)⟩
theorem AdS.u {ad : Nat → Nat → Nat} {j x : Nat} (hj : j = 2 ∨ j = 4 ∨ j = 6) : AdS ad (up6 ad j x) := by
  refine ⟨fun k i hk => if_neg hk, fun i h1 h2 h3 => ?_⟩
  show (if (6 : Nat) = 6 then _ else _) = _
  rw [if_pos rfl, if_neg (by omega)]
theorem CR.entOf {G : px_G} {R : Int32} {ws : va_W} {o : Nat} {ad : Nat → Nat → Nat} {σ : Md} (h : CR G R ws o ad σ) {x : Nat} (hx : x ∈ e_c σ) : ∃ hp, px_lk ws (ad 3 x) = some (oEn (ad 0 x) (ad 4 x) (ad 5 x) hp) := by
  obtain ⟨q, hq, rfl⟩ := List.mem_map.mp hx
  exact ⟨_, (h.2.2.2.2.2 q hq).1⟩
set_option maxHeartbeats 4000000 in
theorem c_vic_loop {G : px_G} {ws : va_W} {d : Nat} {R : Int32} {o : Nat} {ad : Nat → Nat → Nat} {σ : Md} (h : CR G R ws o ad σ) (hen : ∀ x ∈ e_c σ, x < d_n σ) (hlen : (e_c σ).length ≤ 512) {c : Nat} (hc : c < d_n σ) {bc bs : Nat} {Q : Option Value → va_W → Prop} (hK : ∀ (V : Value) (x3 : Int32), V = va_rf ((vicF (d_A σ) c none (e_c σ)).map (ad 3)) → px G m_Mem_displaceFor 59 [(3, .int x3), (2, V), (0, .ref (ad 6 0)), (1, .ref (ad 0 c))] [] ws (d + 7) bc bs Q) : ∀ (l : List Nat) (j : Nat) (g : Option Nat) (V : Value) (x3 : Int32), (e_c σ).drop j = l → j < 2 ^ 31 → vicF (d_A σ) c g l = vicF (d_A σ) c none (e_c σ) → (∀ y, g = some y → y ∈ e_c σ) → V = va_rf (g.map (ad 3)) → x3 = nI j → px G m_Mem_displaceFor 4 [(3, .int x3), (2, V), (0, .ref (ad 6 0)), (1, .ref (ad 0 c))] [] ws (d + 7) bc bs Q := by
  have hL2 := h.2.2.1.2.1
  obtain ⟨sz, mc, hL2c⟩ := hL2.cell
  have hcc := (h.2.2.2.2.1 c hc).1
  intro l
  induction l with
  | nil =>
    intro j g V x3 hd hjb hv hg hV h3
    subst h3
    have hj : (e_c σ).length ≤ j := List.drop_eq_nil_iff.mp hd
    rw [show vicF (d_A σ) c g [] = g from rfl] at hv
    refine p_s rfl rfl ?_
    refine p_s rfl rfl ?_
    refine p_get rfl f_Mem_12 h.2.1 rfl ?_
    refine p_callV rfl c_Mem_37 rfl hL2c g_AL_size rfl rfl rfl (c_size hL2) (fun v w hq => ?_)
    obtain ⟨rfl, rfl⟩ := hq
    refine p_icmpT rfl (show nI ((e_c σ).map (ad 3)).length ≤ nI j by rw [List.length_map]; exact (nI_leI (by omega) hjb).mpr hj) ?_
    exact hK V _ (by rw [hV, hv])
  | cons x l ih =>
    intro j g V x3 hd hjb hv hg hV h3
    subst h3
    have hjl : j < (e_c σ).length := by
      apply Nat.not_le.mp
      intro z
      rw [List.drop_eq_nil_iff.mpr z] at hd
      cases hd
    have hxj : (e_c σ)[j]? = some x := by
      have := congrArg (fun q => q[0]?) hd
      simp only [List.getElem?_drop, Nat.add_zero, List.getElem?_cons_zero] at this
      exact this
    have hd2 : (e_c σ).drop (j + 1) = l := by
      have := congrArg (fun q => q.drop 1) hd
      simp only [List.drop_drop, List.drop_succ_cons, List.drop_zero] at this
      exact this
    have hxm : x ∈ e_c σ := List.mem_of_getElem? hxj
    have hxn := hen x hxm
    have hv2 : vicF (d_A σ) c (vicS (d_A σ) c g x) l = vicF (d_A σ) c none (e_c σ) := hv
    obtain ⟨hp, hent⟩ := h.entOf hxm
    have hxc := h.2.2.2.2.1 x hxn
    cases g with
    | none =>
      subst hV
      by_cases hm : mayE (d_A σ) c x
      · skip
        refine p_s rfl rfl ?_
        refine p_s rfl rfl ?_
        refine p_get rfl f_Mem_12 h.2.1 rfl ?_
        refine p_callV rfl c_Mem_37 rfl hL2c g_AL_size rfl rfl rfl (c_size hL2) (fun v w hq => ?_)
        obtain ⟨rfl, rfl⟩ := hq
        refine p_icmpF rfl (show ¬ nI ((e_c σ).map (ad 3)).length ≤ nI j by rw [List.length_map]; exact nI_ge hjl (by omega)) ?_
        refine p_s rfl rfl ?_
        refine p_get rfl f_Mem_12 h.2.1 rfl ?_
        refine p_s rfl rfl ?_
        refine p_callV rfl c_Mem_52 rfl hL2c g_AL_get rfl rfl rfl (c_get (i := j) (y := ad 3 x) hL2 (by rw [List.getElem?_map, hxj]; rfl)) (fun v w hq => ?_)
        obtain ⟨rfl, rfl⟩ := hq
        refine p_castS rfl cs_Mem_32 hent ?_
        refine p_s rfl rfl ?_
        refine p_s rfl rfl ?_
        refine p_s rfl rfl ?_
        refine p_callV rfl c_Mem_56 rfl hent g_En_mayGoFor rfl rfl rfl (c_mayGoFor hent hxc.1 hxc.2.1 hcc) (fun v w hq => ?_)
        obtain ⟨rfl, rfl⟩ := hq
        rw [if_pos hm]
        refine p_ifF rfl (show ¬ (1 : Int32) = 0 by decide) ?_
        refine p_s rfl rfl ?_
        refine p_ifnull (r := none) rfl (fun _ => ?_) (fun c => absurd rfl c)
        refine p_s rfl rfl ?_
        refine p_s rfl rfl ?_
        refine p_s rfl rfl ?_
        refine p_goto rfl ?_
        refine p_lv (lv2 := [(3, .int (nI j + 1)), (2, .ref (ad 3 x)), (0, .ref (ad 6 0)), (1, .ref (ad 0 c))]) (ks := [0, 1, 3, 4]) rfl ?_
        exact ih (j + 1) (some x) _ _ hd2 (by omega) (by rw [← hv2]; rw [show vicS (d_A σ) c none x = some x from if_pos hm]) (fun y z => by cases z; exact hxm) rfl (nI_1 j)
      · skip
        refine p_s rfl rfl ?_
        refine p_s rfl rfl ?_
        refine p_get rfl f_Mem_12 h.2.1 rfl ?_
        refine p_callV rfl c_Mem_37 rfl hL2c g_AL_size rfl rfl rfl (c_size hL2) (fun v w hq => ?_)
        obtain ⟨rfl, rfl⟩ := hq
        refine p_icmpF rfl (show ¬ nI ((e_c σ).map (ad 3)).length ≤ nI j by rw [List.length_map]; exact nI_ge hjl (by omega)) ?_
        refine p_s rfl rfl ?_
        refine p_get rfl f_Mem_12 h.2.1 rfl ?_
        refine p_s rfl rfl ?_
        refine p_callV rfl c_Mem_52 rfl hL2c g_AL_get rfl rfl rfl (c_get (i := j) (y := ad 3 x) hL2 (by rw [List.getElem?_map, hxj]; rfl)) (fun v w hq => ?_)
        obtain ⟨rfl, rfl⟩ := hq
        refine p_castS rfl cs_Mem_32 hent ?_
        refine p_s rfl rfl ?_
        refine p_s rfl rfl ?_
        refine p_s rfl rfl ?_
        refine p_callV rfl c_Mem_56 rfl hent g_En_mayGoFor rfl rfl rfl (c_mayGoFor hent hxc.1 hxc.2.1 hcc) (fun v w hq => ?_)
        obtain ⟨rfl, rfl⟩ := hq
        rw [if_neg hm]
        refine p_ifT rfl (show (0 : Int32) = 0 from rfl) ?_
        refine p_s rfl rfl ?_
        refine p_goto rfl ?_
        refine p_lv (lv2 := [(3, .int (nI j + 1)), (2, .null), (0, .ref (ad 6 0)), (1, .ref (ad 0 c))]) (ks := [0, 2, 3, 4]) rfl ?_
        exact ih (j + 1) none _ _ hd2 (by omega) (by rw [← hv2]; rw [show vicS (d_A σ) c none x = none from if_neg hm]) (fun y z => by cases z) rfl (nI_1 j)
    | some y =>
      subst hV
      have hym := hg y rfl
      have hyn := hen y hym
      obtain ⟨hp2, hent2⟩ := h.entOf hym
      have hyc := h.2.2.2.2.1 y hyn
      by_cases hm : mayE (d_A σ) c x
      · by_cases hb : befE (d_A σ) x y
        · skip
          refine p_s rfl rfl ?_
          refine p_s rfl rfl ?_
          refine p_get rfl f_Mem_12 h.2.1 rfl ?_
          refine p_callV rfl c_Mem_37 rfl hL2c g_AL_size rfl rfl rfl (c_size hL2) (fun v w hq => ?_)
          obtain ⟨rfl, rfl⟩ := hq
          refine p_icmpF rfl (show ¬ nI ((e_c σ).map (ad 3)).length ≤ nI j by rw [List.length_map]; exact nI_ge hjl (by omega)) ?_
          refine p_s rfl rfl ?_
          refine p_get rfl f_Mem_12 h.2.1 rfl ?_
          refine p_s rfl rfl ?_
          refine p_callV rfl c_Mem_52 rfl hL2c g_AL_get rfl rfl rfl (c_get (i := j) (y := ad 3 x) hL2 (by rw [List.getElem?_map, hxj]; rfl)) (fun v w hq => ?_)
          obtain ⟨rfl, rfl⟩ := hq
          refine p_castS rfl cs_Mem_32 hent ?_
          refine p_s rfl rfl ?_
          refine p_s rfl rfl ?_
          refine p_s rfl rfl ?_
          refine p_callV rfl c_Mem_56 rfl hent g_En_mayGoFor rfl rfl rfl (c_mayGoFor hent hxc.1 hxc.2.1 hcc) (fun v w hq => ?_)
          obtain ⟨rfl, rfl⟩ := hq
          rw [if_pos hm]
          refine p_ifF rfl (show ¬ (1 : Int32) = 0 by decide) ?_
          refine p_s rfl rfl ?_
          refine p_ifnull (r := some (ad 3 y)) rfl (fun c => by cases c) (fun _ => ?_)
          refine p_s rfl rfl ?_
          refine p_s rfl rfl ?_
          refine p_callV rfl c_Mem_59 rfl hent g_En_goesBefore rfl rfl rfl (c_goesBefore hent hent2 hxc.1 hxc.2.1 hyc.1 hyc.2.1) (fun v w hq => ?_)
          obtain ⟨rfl, rfl⟩ := hq
          rw [if_pos hb]
          refine p_ifF rfl (show ¬ (1 : Int32) = 0 by decide) ?_
          refine p_s rfl rfl ?_
          refine p_s rfl rfl ?_
          refine p_s rfl rfl ?_
          refine p_goto rfl ?_
          refine p_lv (lv2 := [(3, .int (nI j + 1)), (2, .ref (ad 3 x)), (0, .ref (ad 6 0)), (1, .ref (ad 0 c))]) (ks := [0, 1, 3, 4]) rfl ?_
          exact ih (j + 1) (some x) _ _ hd2 (by omega) (by rw [← hv2]; rw [show vicS (d_A σ) c (some y) x = some x from if_pos ⟨hm, hb⟩]) (fun y z => by cases z; exact hxm) rfl (nI_1 j)
        · skip
          refine p_s rfl rfl ?_
          refine p_s rfl rfl ?_
          refine p_get rfl f_Mem_12 h.2.1 rfl ?_
          refine p_callV rfl c_Mem_37 rfl hL2c g_AL_size rfl rfl rfl (c_size hL2) (fun v w hq => ?_)
          obtain ⟨rfl, rfl⟩ := hq
          refine p_icmpF rfl (show ¬ nI ((e_c σ).map (ad 3)).length ≤ nI j by rw [List.length_map]; exact nI_ge hjl (by omega)) ?_
          refine p_s rfl rfl ?_
          refine p_get rfl f_Mem_12 h.2.1 rfl ?_
          refine p_s rfl rfl ?_
          refine p_callV rfl c_Mem_52 rfl hL2c g_AL_get rfl rfl rfl (c_get (i := j) (y := ad 3 x) hL2 (by rw [List.getElem?_map, hxj]; rfl)) (fun v w hq => ?_)
          obtain ⟨rfl, rfl⟩ := hq
          refine p_castS rfl cs_Mem_32 hent ?_
          refine p_s rfl rfl ?_
          refine p_s rfl rfl ?_
          refine p_s rfl rfl ?_
          refine p_callV rfl c_Mem_56 rfl hent g_En_mayGoFor rfl rfl rfl (c_mayGoFor hent hxc.1 hxc.2.1 hcc) (fun v w hq => ?_)
          obtain ⟨rfl, rfl⟩ := hq
          rw [if_pos hm]
          refine p_ifF rfl (show ¬ (1 : Int32) = 0 by decide) ?_
          refine p_s rfl rfl ?_
          refine p_ifnull (r := some (ad 3 y)) rfl (fun c => by cases c) (fun _ => ?_)
          refine p_s rfl rfl ?_
          refine p_s rfl rfl ?_
          refine p_callV rfl c_Mem_59 rfl hent g_En_goesBefore rfl rfl rfl (c_goesBefore hent hent2 hxc.1 hxc.2.1 hyc.1 hyc.2.1) (fun v w hq => ?_)
          obtain ⟨rfl, rfl⟩ := hq
          rw [if_neg hb]
          refine p_ifT rfl (show (0 : Int32) = 0 from rfl) ?_
          refine p_s rfl rfl ?_
          refine p_goto rfl ?_
          refine p_lv (lv2 := [(3, .int (nI j + 1)), (2, .ref (ad 3 y)), (0, .ref (ad 6 0)), (1, .ref (ad 0 c))]) (ks := [0, 2, 3, 4]) rfl ?_
          exact ih (j + 1) (some y) _ _ hd2 (by omega) (by rw [← hv2]; rw [show vicS (d_A σ) c (some y) x = some y from if_neg (fun z => hb z.2)]) (fun y z => hg y z) rfl (nI_1 j)
      · skip
        refine p_s rfl rfl ?_
        refine p_s rfl rfl ?_
        refine p_get rfl f_Mem_12 h.2.1 rfl ?_
        refine p_callV rfl c_Mem_37 rfl hL2c g_AL_size rfl rfl rfl (c_size hL2) (fun v w hq => ?_)
        obtain ⟨rfl, rfl⟩ := hq
        refine p_icmpF rfl (show ¬ nI ((e_c σ).map (ad 3)).length ≤ nI j by rw [List.length_map]; exact nI_ge hjl (by omega)) ?_
        refine p_s rfl rfl ?_
        refine p_get rfl f_Mem_12 h.2.1 rfl ?_
        refine p_s rfl rfl ?_
        refine p_callV rfl c_Mem_52 rfl hL2c g_AL_get rfl rfl rfl (c_get (i := j) (y := ad 3 x) hL2 (by rw [List.getElem?_map, hxj]; rfl)) (fun v w hq => ?_)
        obtain ⟨rfl, rfl⟩ := hq
        refine p_castS rfl cs_Mem_32 hent ?_
        refine p_s rfl rfl ?_
        refine p_s rfl rfl ?_
        refine p_s rfl rfl ?_
        refine p_callV rfl c_Mem_56 rfl hent g_En_mayGoFor rfl rfl rfl (c_mayGoFor hent hxc.1 hxc.2.1 hcc) (fun v w hq => ?_)
        obtain ⟨rfl, rfl⟩ := hq
        rw [if_neg hm]
        refine p_ifT rfl (show (0 : Int32) = 0 from rfl) ?_
        refine p_s rfl rfl ?_
        refine p_goto rfl ?_
        refine p_lv (lv2 := [(3, .int (nI j + 1)), (2, .ref (ad 3 y)), (0, .ref (ad 6 0)), (1, .ref (ad 0 c))]) (ks := [0, 2, 3, 4]) rfl ?_
        exact ih (j + 1) (some y) _ _ hd2 (by omega) (by rw [← hv2]; rw [show vicS (d_A σ) c (some y) x = some y from if_neg (fun z => hm z.1)]) (fun y z => hg y z) rfl (nI_1 j)
