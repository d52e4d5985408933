/-! THE STORE: the list of cells as a map from addresses -/
def px_lk : va_W → Nat → Option va_E
  | [], _ => none
  | q :: t, a => if q.1 = a then some q.2 else px_lk t a
def px_up : va_W → Nat → va_E → va_W
  | [], _, _ => []
  | q :: t, a, e => if q.1 = a then (a, e) :: t else q :: px_up t a e
theorem px_lk_pos : ∀ (ws : va_W) (a : Nat) (e : va_E), px_lk ws a = some e → ∃ q0 : Nat, ws[q0]? = some (a, e) ∧ ∀ e', px_up ws a e' = ws.set q0 (a, e')
  | [], _, _, h => by simp [px_lk] at h
  | q :: t, a, e, h => by
    unfold px_lk at h
    by_cases hq : q.1 = a
    · rw [if_pos hq] at h
      have e2 : q.2 = e := Option.some.inj h
      refine ⟨0, ?_, fun e' => ?_⟩
      · rw [List.getElem?_cons_zero, ← hq, ← e2]
      · unfold px_up
        rw [if_pos hq, List.set_cons_zero]
    · rw [if_neg hq] at h
      obtain ⟨q0, h1, h2⟩ := px_lk_pos t a e h
      refine ⟨q0 + 1, by rw [List.getElem?_cons_succ]; exact h1, fun e' => ?_⟩
      unfold px_up
      rw [if_neg hq, List.set_cons_succ, h2]
theorem px_lk_same : ∀ (ws : va_W) (a : Nat) (e e' : va_E), px_lk ws a = some e → px_lk (px_up ws a e') a = some e'
  | [], _, _, _, h => by simp [px_lk] at h
  | q :: t, a, e, e', h => by
    unfold px_lk at h
    by_cases hq : q.1 = a
    · unfold px_up
      rw [if_pos hq]
      simp [px_lk]
    · rw [if_neg hq] at h
      unfold px_up
      rw [if_neg hq]
      unfold px_lk
      rw [if_neg hq]
      exact px_lk_same t a e e' h
theorem px_lk_ne : ∀ (ws : va_W) (a b : Nat) (e' : va_E), b ≠ a → px_lk (px_up ws a e') b = px_lk ws b
  | [], _, _, _, _ => rfl
  | q :: t, a, b, e', h => by
    unfold px_up
    by_cases hq : q.1 = a
    · rw [if_pos hq]
      have h1 : ¬ (a = b) := fun z => h z.symm
      have h2 : ¬ (q.1 = b) := fun z => h1 (hq.symm.trans z)
      simp [px_lk, h1, h2]
    · rw [if_neg hq]
      unfold px_lk
      rw [px_lk_ne t a b e' h]
theorem px_lk_old : ∀ (ws : va_W) (q b : Nat) (e x : va_E), px_lk ws b = some x → px_lk (ws ++ [(q, e)]) b = some x
  | [], _, _, _, _, h => by simp [px_lk] at h
  | r :: t, q, b, e, x, h => by
    unfold px_lk at h
    show px_lk (r :: (t ++ [(q, e)])) b = some x
    unfold px_lk
    by_cases hq : r.1 = b
    · rw [if_pos hq] at h ⊢
      exact h
    · rw [if_neg hq] at h ⊢
      exact px_lk_old t q b e x h
theorem px_lk_new : ∀ (ws : va_W) (q : Nat) (e : va_E), px_lk ws q = none → px_lk (ws ++ [(q, e)]) q = some e
  | [], _, _, _ => by simp [px_lk]
  | r :: t, q, e, h => by
    unfold px_lk at h
    show px_lk (r :: (t ++ [(q, e)])) q = some e
    unfold px_lk
    by_cases hq : r.1 = q
    · rw [if_pos hq] at h
      cases h
    · rw [if_neg hq] at h ⊢
      exact px_lk_new t q e h
theorem px_lk_other : ∀ (ws : va_W) (q b : Nat) (e : va_E), b ≠ q → px_lk (ws ++ [(q, e)]) b = px_lk ws b
  | [], q, b, e, h => by
    have h1 : ¬ (q = b) := fun z => h z.symm
    simp [px_lk, h1]
  | r :: t, q, b, e, h => by
    show px_lk (r :: (t ++ [(q, e)])) b = px_lk (r :: t) b
    unfold px_lk
    rw [px_lk_other t q b e h]
theorem px_fresh {A : Nat → Prop} {ws : va_W} {q : Nat} {e : va_E} (hD : va_D A (ws ++ [(q, e)])) : px_lk ws q = none := by
  cases h : px_lk ws q with
  | none => rfl
  | some x =>
    obtain ⟨q0, h1, -⟩ := px_lk_pos ws q x h
    have hl : q0 < ws.length := (List.getElem?_eq_some_iff.mp h1).1
    have h2 : (ws ++ [(q, e)])[q0]? = some (q, x) := by rw [List.getElem?_append_left hl]; exact h1
    have h3 : (ws ++ [(q, e)])[ws.length]? = some (q, e) := by rw [List.getElem?_append_right (Nat.le_refl _)]; simp
    have := hD.1 q0 ws.length _ _ h2 h3 rfl
    omega
/-! WHAT IS FIXED FOR A RUN: where the old cells end, class numbers and slots, array classes, addresses of static references, the script -/
abbrev px_G : Type := Nat × va_G × (Nat → ClassId) × (Nat → Nat) × Nat × Nat × (Nat → Int32)
abbrev g_lo (G : px_G) : Nat := G.1
abbrev g_D (G : px_G) : va_G := G.2.1
abbrev g_dA (G : px_G) : Nat → ClassId := G.2.2.1
abbrev g_sv (G : px_G) : Nat → Nat := G.2.2.2.1
abbrev g_b (G : px_G) : Nat := G.2.2.2.2.1
abbrev g_n (G : px_G) : Nat := G.2.2.2.2.2.1
abbrev g_x (G : px_G) : Nat → Int32 := G.2.2.2.2.2.2
def px_A (G : px_G) : Nat → Prop := fun q => g_lo G ≤ q
theorem px_goodIn {ws : List Cond} (h : ∀ w ∈ ws, w ∈ px_TB) : GoodIn px_TB ws := fun w hw => ⟨h w hw, good_of_word (List.mem_filter.mp (h w hw)).2⟩
theorem px_nw_tab {w : Cond} (h : px_nwk w = true) : w.onTables = true := by
  unfold px_nwk at h
  split at h <;> first | rfl | cases h
theorem px_nw_warm {w : Cond} {s U : State} (h : px_nwk w = true) (hW : s.WarmedH U.vm) (hZ : va_Nw w s) : va_Nw w U := by
  unfold px_nwk at h
  split at h
  · exact va_Nw.warmF hW hZ
  · exact va_Nw.warmM hW hZ
  · exact va_Nw.warmC hW hZ
  · exact va_Nw.warmD hW hZ
  · cases h
/-- static references that the system reads -/
def px_Es (G : px_G) (U : State) (H : Heap) : Prop := ∀ (k : Nat) (q : String × String × String), px_SL[k]? = some q → va_Z q.1 q.2.1 q.2.2 (.ref (g_sv G k)) (px_A G) U H ∧ va_T (.object "java/lang/Object") (g_sv G k) 0 (fun _ => .null) (px_A G) U H
def px_E (G : px_G) (U : State) : Prop := va_K (g_D G) px_cl (px_tys (g_dA G)) U ∧ g_lo G ≤ U.heap.size ∧ (∀ w ∈ px_NW, va_Nw w U) ∧ va_X (g_b G) (g_n G) (g_x G) U U.heap ∧ g_b G < g_lo G ∧ px_Es G U U.heap ∧ va_AO "java/lang/Object" U ∧ va_Mi "[Ljava/lang/Object;" (g_sv G 1) U
theorem px_E.blind {G : px_G} {U : State} {g : JFrame} {mk : MethodId} {a : Array Value} (h : px_E G U) : px_E G (U.calling g mk a) := by
  obtain ⟨h1, h2, h3, h4, h5, h6, h7, h8⟩ := h
  exact ⟨va_K.moved (u := U) (U := U.calling g mk a) (Vm.Alike.refl U.vm) h1, h2, fun w hw => va_Nw.same (px_nw_tab (px_NW_ok w hw)) (rfl : U.vm = (U.calling g mk a).vm) (h3 w hw), va_X.moved (u := U) (U := U.calling g mk a) (Vm.Alike.refl U.vm) h4, h5, fun k q hq => ⟨va_Z.moved (u := U) (U := U.calling g mk a) (Vm.Alike.refl U.vm) (h6 k q hq).1, va_T.moved (u := U) (U := U.calling g mk a) (Vm.Alike.refl U.vm) (h6 k q hq).2⟩, va_AO.moved (u := U) (U := U.calling g mk a) (Vm.Alike.refl U.vm) h7, va_Mi.moved (u := U) (U := U.calling g mk a) (Vm.Alike.refl U.vm) h8⟩
theorem px_E.go {G : px_G} {s U : State} {H : Heap} {locs : List Loc} (h : px_E G s) (hS : va_S (px_A G) s.heap H locs) (hU : U.heap = H) (hW : s.WarmedH U.vm) : px_E G U := by
  obtain ⟨h1, h2, h3, h4, h5, h6, h7, h8⟩ := h
  subst hU
  have hb : ∀ a : Nat, a < s.heap.size → ¬ px_A G a → U.heap[a]? = s.heap[a]? := hS.2.1
  exact ⟨va_K.moved hW.alike h1, Nat.le_trans h2 hS.1, fun w hw => px_nw_warm (px_NW_ok w hw) hW (h3 w hw), va_X.moved hW.alike (h4.kept (hb _ (Nat.lt_of_lt_of_le h5 h2) (Nat.not_le.mpr h5))), h5, fun k q hq => ⟨((h6 k q hq).1.kept hb).moved hW.alike, ((h6 k q hq).2.kept hb).moved hW.alike⟩, va_AO.moved hW.alike h7, va_Mi.moved hW.alike h8⟩
/-! WHAT A METHOD STANDS ON -/
def px_Cx (G : px_G) (p : Program) (R : Room) (s : State) (m : MethodId) (args : Array Value) (meth : Method) (c : Code) (M : px_M) (d : Nat) : Prop :=
  p.tables.exec = Jvm.exec ∧ c.code = px_b M ∧ meth.sig.returnType = px_t M ∧ c.maxLocals = px_L M ∧ s.vm.findClass (px_y M).cls = some m.cls ∧ (∀ w ∈ px_TB, w.before args s = true) ∧ meth.locks = false ∧ ((px_y M).name = "<init>" → meth.name = "<init>") ∧ d ≤ R.frames ∧ 37 * d ≤ R.locals ∧ px_E G s
/-- a return instruction that fits the answer -/
def px_rt (M : px_M) (pc : Nat) (v : Option Value) : Prop :=
  (∃ (ty : FieldType) (x : Int32), v = some (.int x) ∧ px_t M = some ty ∧ narrow ty (.int x) = .int x ∧ decode (px_b M) pc = .ok (.ireturn, 1)) ∨
  (v = none ∧ px_t M = none ∧ decode (px_b M) pc = .ok (.return_, 1)) ∨
  (∃ (ty : FieldType) (r : Value), v = some r ∧ px_t M = some ty ∧ ((∃ n, ty = .object n) ∨ ∃ t, ty = .array t) ∧ (r = .null ∨ ∃ a, r = .ref a) ∧ decode (px_b M) pc = .ok (.areturn, 1))
abbrev px_P : Type := px_M → Nat → List (Nat × Value) → List Value → va_W → Nat → Nat → Nat → (Option Value → va_W → Prop) → Prop
/-- what the machine does -/
def px_Pw (G : px_G) (l : Launch) : px_P := fun M pc lv st ws d bc bs Q =>
  px_okM M → ∀ (p : Program) (e : Env) (R : Room) (s : State) (m : MethodId) (args : Array Value) (below : List Frame) (meth : Method) (c : Code) (Z : State → Prop) (H : Heap) (locs : List Loc) (cells slots : Nat) (la : Array Slot),
    px_Cx G p R s m args meth c M d → cells + bc ≤ R.cells → slots + bs ≤ R.slots → va_P (g_D G) px_cl ws H → va_D (px_A G) ws → va_S (px_A G) s.heap H locs → lv_has la (px_L M) lv →
    (∀ (v : Option Value) (ws' : va_W) (H' : Heap) (locs' : List Loc) (la' : Array Slot) (pc' : Nat), Q v ws' → va_P (g_D G) px_cl ws' H' → va_D (px_A G) ws' → va_S (px_A G) s.heap H' locs' → px_rt M pc' v →
      W p l e R s m args below meth c H' locs' (cells + bc) (slots + bs) Z (F0 m pc' la' v.toList)) →
    W p l e R s m args below meth c H locs cells slots Z (F0 m pc la st)
def px_Pc (G : px_G) (vs : List Value) (ws : va_W) : Array Value → State → Prop := fun a U => a = vs.toArray ∧ px_E G U ∧ va_P (g_D G) px_cl ws U.heap ∧ va_D (px_A G) ws
def px_Qc (G : px_G) (Rq : Option Value → va_W → Prop) : Array Value → State → Outcome → State → Prop := fun _ st o t => (∃ (v : Option Value) (ws' : va_W), o = .returned v ∧ Rq v ws' ∧ va_P (g_D G) px_cl ws' t.heap ∧ va_D (px_A G) ws') ∧ va_F (px_A G) st t
def px_good (M : px_M) : Prop := px_okM M ∧ plainName (px_y M).cls = true ∧ Cond.code (px_y M) (px_b M) (px_L M) (px_t M) ∈ px_TB ∧ px_L M + 19 ≤ 37
abbrev px_rm (d kc ks : Nat) : Room := { frames := d, cells := kc, slots := ks, locals := 37 * d }
theorem px_met {G : px_G} {l : Launch} {M : px_M} {vs : List Value} {ws : va_W} {d kc ks : Nat} {Rq : Option Value → va_W → Prop} (hg : px_good M) (hl : (lg_sl vs).length ≤ px_L M) (h : px_Pw G l M 0 (lv_args 0 vs) [] ws d kc ks Rq) :
    Met l (px_y M) (Cond.code (px_y M) (px_b M) (px_L M) (px_t M) :: px_TB) (px_rm d kc ks) (px_Pc G vs ws) (px_Qc G Rq) kc ks (px_A G) := by
  refine Met.ofW (cc := px_b M) (maxL := px_L M) (ret := px_t M) hg.2.1 rfl ?_
  intro p e s m args below meth c s₁ B hml hv
  obtain ⟨rfl, hE, hP, hD⟩ := hv
  have hx := B.exec
  have hb := B.bytes
  have hr := B.returns
  have hts := atoms_spec (ws := Cond.code (px_y M) (px_b M) (px_L M) (px_t M) :: px_TB) B.pre
  have hown : s.vm.findClass (px_y M).cls = some m.cls := findClass_of_methodNamed B.named
  have hlocks := B.notSynchronized
  have hnm : meth.name = (px_y M).name := (name_of_methodNamed B.named B.method).1
  have hS : va_S (px_A G) s.heap s.heap [] := va_S.rf
  have hl2 := lv_entry vs (n := px_L M) hl
  rw [lg_entry_eq]
  refine h hg.1 p e _ s m _ below meth c _ s.heap [] 0 0 _ ⟨hx, hb, hr, hml, hown, fun w hw => hts w (List.mem_cons_of_mem _ hw), hlocks, fun q => hnm.trans q, Nat.le_refl _, Nat.le_refl _, hE⟩ (by show 0 + kc ≤ kc; omega) (by show 0 + ks ≤ ks; omega) hP hD hS hl2 ?_
  intro v ws' H' locs' la' pc' hq hP' hD' hS' hrt
  rw [Nat.zero_add, Nat.zero_add]
  rcases hrt with ⟨ty, x, rfl, ht, hn, hd⟩ | ⟨rfl, ht, hd⟩ | ⟨ty, r, rfl, ht, hty, hr2, hd⟩
  · exact W.zret (ty := ty) hx hb (hr.trans ht) hn (fun t ht2 hW => ⟨⟨_, ws', rfl, hq, by rw [ht2]; exact hP', hD'⟩, hS'.F ht2⟩) hS'.2.2 hd
  · exact W.vret hx hb (hr.trans ht) (fun t ht2 hW => ⟨⟨_, ws', rfl, hq, by rw [ht2]; exact hP', hD'⟩, hS'.F ht2⟩) hS'.2.2 hd
  · exact W.aret hx hb (hr.trans ht) hty hr2 (fun t ht2 hW => ⟨⟨_, ws', rfl, hq, by rw [ht2]; exact hP', hD'⟩, hS'.F ht2⟩) hS'.2.2 hd
section PXW
variable {p : Program} {l : Launch} {e : Env} {R : Room} {s : State} {m : MethodId} {args : Array Value} {below : List Frame} {meth : Method} {c : Code} {H : Heap} {locs : List Loc} {cells slots kc ks : Nat} {Z : State → Prop}
variable {G : px_G} {pc : Nat} {la : Array Slot} {st rest : List Value} {a : Array Value} {Rq : Option Value → va_W → Prop}
theorem px_after (hr : va_Run p l e R s m args below meth c H locs cells slots kc ks (F0 m pc la st) rest (px_Qc G Rq a) (px_A G)) (hS : va_S (px_A G) s.heap H locs)
    (kk : ∀ (v : Option Value) (ws' : va_W) (H1 : Heap) (locs1 : List Loc), Rq v ws' → va_P (g_D G) px_cl ws' H1 → va_D (px_A G) ws' → va_S (px_A G) s.heap H1 locs1 → W p l e R s m args below meth c H1 locs1 (cells + kc) (slots + ks) Z (F0 m (pc + 3) la (v.toList ++ rest))) :
    W p l e R s m args below meth c H locs cells slots Z (F0 m pc la st) := by
  intro T hT X
  obtain ⟨v, st₀, t, T', L, h0, X', hL, e1, e2, ⟨⟨v', ws', hv, hq, hP, hD⟩, hz, hk⟩, go⟩ := hr T hT X
  cases hv
  rw [h0] at hz hk
  rw [← e1] at hP
  obtain ⟨t2, a1, b1⟩ := kk v ws' T'.heap (locs ++ L) hq hP hD
    ⟨Nat.le_trans hS.1 (by rw [e1]; exact hz), fun q h1 h2 => by rw [e1, hk q (Nat.lt_of_lt_of_le h1 hS.1) h2]; exact hS.2.1 q h1 h2, fun q hq => by
      rcases List.mem_append.mp hq with h | h
      · exact hS.2.2 q h
      · exact hL q h⟩ T' rfl X'
  exact ⟨t2, go t2 a1, b1⟩
end PXW
