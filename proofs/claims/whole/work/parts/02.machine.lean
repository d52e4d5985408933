/-! THE SMALL MACHINE. A method is a record: name, bytes, locals, return type, rows (pc, instruction, next pc, targets, constant). 'px' is the least predicate closed under the rules px_Cl; px_sound: what px says, the machine does. Everything behind this part is said with px alone. -/
abbrev px_Rw : Type := Nat × Jvm.ClassFile.Instr × Nat × List Nat × Int32
abbrev px_M : Type := MethodName × ByteArray × Nat × Option FieldType × List px_Rw
abbrev px_y (M : px_M) : MethodName := M.1
abbrev px_b (M : px_M) : ByteArray := M.2.1
abbrev px_L (M : px_M) : Nat := M.2.2.1
abbrev px_t (M : px_M) : Option FieldType := M.2.2.2.1
abbrev px_I (M : px_M) : List px_Rw := M.2.2.2.2
def px_row : List px_Rw → Nat → Option (Jvm.ClassFile.Instr × Nat × List Nat × Int32)
  | [], _ => none
  | q :: t, pc => bif Nat.beq q.1 pc then some q.2 else px_row t pc
def px_at (M : px_M) (pc : Nat) : Option (Jvm.ClassFile.Instr × Nat × List Nat × Int32) := px_row (px_I M) pc
def px_len : Jvm.ClassFile.Instr → Nat
  | .bipush _ => 2
  | .aload _ => 2
  | .astore _ => 2
  | .iload _ => 2
  | .istore _ => 2
  | .ldc _ => 2
  | .newarray _ => 2
  | .sipush _ => 3
  | .iinc _ _ => 3
  | .goto _ => 3
  | .ifCond _ _ => 3
  | .if_icmp _ _ => 3
  | .if_acmp _ _ => 3
  | .ifnull _ => 3
  | .ifnonnull _ => 3
  | .getfield _ => 3
  | .putfield _ => 3
  | .getstatic _ => 3
  | .new _ => 3
  | .anewarray _ => 3
  | .checkcast _ => 3
  | .invokevirtual _ => 3
  | .invokespecial _ => 3
  | .invokestatic _ => 3
  | .ldc_w _ => 3
  | _ => 1
def px_sw : Jvm.ClassFile.Instr → Bool
  | .tableswitch _ _ _ _ => true
  | .lookupswitch _ _ => true
  | _ => false
def px_tg (pc : Nat) (off : Int) (tg : List Nat) : Bool := match tg with
  | [t] => decide ((pc : Int) + off = (t : Int))
  | _ => false
def px_k (q : px_Rw) : Bool := match q.2.1 with
  | .iconst n => decide (Int32.ofInt n = q.2.2.2.2)
  | .bipush n => decide ((Int8.ofInt n).toInt32 = q.2.2.2.2)
  | .sipush n => decide ((Int16.ofInt n).toInt32 = q.2.2.2.2)
  | .iinc _ n => decide (Int32.ofInt n = q.2.2.2.2)
  | .goto off => px_tg q.1 off q.2.2.2.1
  | .ifCond _ off => px_tg q.1 off q.2.2.2.1
  | .if_icmp _ off => px_tg q.1 off q.2.2.2.1
  | .if_acmp _ off => px_tg q.1 off q.2.2.2.1
  | .ifnull off => px_tg q.1 off q.2.2.2.1
  | .ifnonnull off => px_tg q.1 off q.2.2.2.1
  | _ => true
def px_chk (q : px_Rw) : Bool := (px_sw q.2.1 || Nat.beq q.2.2.1 (q.1 + px_len q.2.1)) && px_k q
def px_okb (b : ByteArray) (q : px_Rw) : Bool := decide (decode b q.1 = .ok (q.2.1, q.2.2.1 - q.1)) && px_chk q
def px_okM (M : px_M) : Prop := (px_I M).all (px_okb (px_b M)) = true
theorem px_allapp {a b : List px_Rw} {f : px_Rw → Bool} (h1 : a.all f = true) (h2 : b.all f = true) : (a ++ b).all f = true := by rw [List.all_append, h1, h2]; rfl
theorem px_row_mem : ∀ (l : List px_Rw) (pc : Nat) (r : Jvm.ClassFile.Instr × Nat × List Nat × Int32), px_row l pc = some r → (pc, r) ∈ l
  | [], _, _, h => by simp [px_row] at h
  | q :: t, pc, r, h => by
    unfold px_row at h
    cases hb : Nat.beq q.1 pc with
    | true =>
      rw [hb] at h
      have e : q.1 = pc := Nat.eq_of_beq_eq_true hb
      have e2 : q.2 = r := Option.some.inj h
      subst e; subst e2
      exact List.mem_cons_self
    | false =>
      rw [hb] at h
      exact List.mem_cons_of_mem _ (px_row_mem t pc r h)
section PXD
variable {M : px_M} {pc nx : Nat} {i : Jvm.ClassFile.Instr} {tg : List Nat} {k : Int32}
theorem px_dec (hM : px_okM M) (h : px_at M pc = some (i, nx, tg, k)) : decode (px_b M) pc = .ok (i, nx - pc) ∧ px_chk (pc, i, nx, tg, k) = true := by
  have h1 := Bool.and_eq_true_iff.mp (List.all_eq_true.mp hM _ (px_row_mem _ _ _ h))
  exact ⟨of_decide_eq_true h1.1, h1.2⟩
theorem px_hd (n : Nat) (hM : px_okM M) (h : px_at M pc = some (i, nx, tg, k)) (hs : px_sw i = false) (hn : px_len i = n) : decode (px_b M) pc = .ok (i, n) ∧ nx = pc + n := by
  obtain ⟨hd, hc⟩ := px_dec hM h
  have h1 := (Bool.and_eq_true_iff.mp hc).1
  have h2 : Nat.beq nx (pc + px_len i) = true := by
    rcases Bool.or_eq_true_iff.mp h1 with h3 | h3
    · exact absurd (hs.symm.trans h3) (by decide)
    · exact h3
  have e : nx = pc + n := by rw [← hn]; exact Nat.eq_of_beq_eq_true h2
  subst e
  rw [Nat.add_sub_cancel_left] at hd
  exact ⟨hd, rfl⟩
theorem px_kk (hM : px_okM M) (h : px_at M pc = some (i, nx, tg, k)) : px_k (pc, i, nx, tg, k) = true := (Bool.and_eq_true_iff.mp (px_dec hM h).2).2
theorem px_tg1 {off : Int} (h : px_tg pc off tg = true) : ∃ t : Nat, tg = [t] ∧ (pc : Int) + off = (t : Int) := by
  unfold px_tg at h
  split at h
  · exact ⟨_, rfl, of_decide_eq_true h⟩
  · cases h
end PXD
/-- locals -/
def px_get : List (Nat × Value) → Nat → Option Value
  | [], _ => none
  | q :: t, i => bif Nat.beq q.1 i then some q.2 else px_get t i
theorem px_get_mem : ∀ (l : List (Nat × Value)) (i : Nat) (v : Value), px_get l i = some v → (i, v) ∈ l
  | [], _, _, h => by simp [px_get] at h
  | q :: t, i, v, h => by
    unfold px_get at h
    cases hb : Nat.beq q.1 i with
    | true =>
      rw [hb] at h
      have e : q.1 = i := Nat.eq_of_beq_eq_true hb
      have e2 : q.2 = v := Option.some.inj h
      subst e; subst e2
      exact List.mem_cons_self
    | false =>
      rw [hb] at h
      exact List.mem_cons_of_mem _ (px_get_mem t i v h)
theorem px_has {la : Array Slot} {n i : Nat} {v : Value} {lv : List (Nat × Value)} (h : lv_has la n lv) (hg : px_get lv i = some v) : la[i]? = some (.val v) := h.2.2 (i, v) (px_get_mem _ _ _ hg)
def px_put (lv : List (Nat × Value)) (i : Nat) (v : Value) : List (Nat × Value) := (i, v) :: lv.filter (fun q => !(q.1 == i) && !(q.1 + 1 == i && q.2.category == 2))
/-- stack shapes -/
def px_ii : List Value → Option (Int32 × Int32 × List Value)
  | .int y :: .int x :: r => some (x, y, r)
  | _ => none
def px_i1 : List Value → Option (Int32 × List Value)
  | .int x :: r => some (x, r)
  | _ => none
def px_v1 : List Value → Option (Value × List Value)
  | .int x :: r => some (.int x, r)
  | .ref x :: r => some (.ref x, r)
  | .null :: r => some (.null, r)
  | _ => none
def px_r1 : List Value → Option (Value × List Value)
  | .ref x :: r => some (.ref x, r)
  | .null :: r => some (.null, r)
  | _ => none
theorem px_ii_eq {st r : List Value} {x y : Int32} (h : px_ii st = some (x, y, r)) : st = .int y :: .int x :: r := by
  unfold px_ii at h
  split at h
  · cases h; rfl
  · cases h
theorem px_i1_eq {st r : List Value} {x : Int32} (h : px_i1 st = some (x, r)) : st = .int x :: r := by
  unfold px_i1 at h
  split at h
  · cases h; rfl
  · cases h
theorem px_v1_eq {st r : List Value} {v : Value} (h : px_v1 st = some (v, r)) : st = v :: r ∧ v.category = 1 := by
  unfold px_v1 at h
  split at h
  · cases h; exact ⟨rfl, rfl⟩
  · cases h; exact ⟨rfl, rfl⟩
  · cases h; exact ⟨rfl, rfl⟩
  · cases h
theorem px_r1_eq {st r : List Value} {v : Value} (h : px_r1 st = some (v, r)) : st = v :: r ∧ (v = .null ∨ ∃ a, v = .ref a) := by
  unfold px_r1 at h
  split at h
  · cases h; exact ⟨rfl, Or.inr ⟨_, rfl⟩⟩
  · cases h; exact ⟨rfl, Or.inl rfl⟩
  · cases h
def px_loadI (lv : List (Nat × Value)) (st : List Value) (n : Nat) : Option (List (Nat × Value) × List Value) := match px_get lv n with
  | some (.int x) => some (lv, .int x :: st)
  | _ => none
def px_loadA (lv : List (Nat × Value)) (st : List Value) (n : Nat) : Option (List (Nat × Value) × List Value) := match px_get lv n with
  | some (.ref x) => some (lv, .ref x :: st)
  | some .null => some (lv, .null :: st)
  | _ => none
def px_storeI (L : Nat) (lv : List (Nat × Value)) (st : List Value) (n : Nat) : Option (List (Nat × Value) × List Value) := match st with
  | .int x :: r => bif Nat.blt n L then some (px_put lv n (.int x), r) else none
  | _ => none
def px_storeA (L : Nat) (lv : List (Nat × Value)) (st : List Value) (n : Nat) : Option (List (Nat × Value) × List Value) := match st with
  | .ref x :: r => bif Nat.blt n L then some (px_put lv n (.ref x), r) else none
  | .null :: r => bif Nat.blt n L then some (px_put lv n .null, r) else none
  | _ => none
def px_incI (L : Nat) (lv : List (Nat × Value)) (st : List Value) (n : Nat) (k : Int32) : Option (List (Nat × Value) × List Value) := match px_get lv n with
  | some (.int x) => bif Nat.blt n L then some (px_put lv n (.int (x + k)), st) else none
  | _ => none
def px_bin (f : Int32 → Int32 → Int32) (lv : List (Nat × Value)) (st : List Value) : Option (List (Nat × Value) × List Value) := match px_ii st with
  | some (x, y, r) => some (lv, .int (f x y) :: r)
  | none => none
def px_dup (lv : List (Nat × Value)) (st : List Value) : Option (List (Nat × Value) × List Value) := match px_v1 st with
  | some (v, r) => some (lv, v :: v :: r)
  | none => none
def px_pop (lv : List (Nat × Value)) (st : List Value) : Option (List (Nat × Value) × List Value) := match px_v1 st with
  | some (_, r) => some (lv, r)
  | none => none
def px_dx1 (lv : List (Nat × Value)) (st : List Value) : Option (List (Nat × Value) × List Value) := match px_v1 st with
  | some (v, r) => (match px_v1 r with
    | some (w, r2) => some (lv, v :: w :: v :: r2)
    | none => none)
  | none => none
def px_dup2 (lv : List (Nat × Value)) (st : List Value) : Option (List (Nat × Value) × List Value) := match px_v1 st with
  | some (v, r) => (match px_v1 r with
    | some (w, r2) => some (lv, v :: w :: v :: w :: r2)
    | none => none)
  | none => none
def px_neg (lv : List (Nat × Value)) (st : List Value) : Option (List (Nat × Value) × List Value) := match px_i1 st with
  | some (x, r) => some (lv, .int (-x) :: r)
  | none => none
/-- the instructions that touch locals and operands alone -/
def px_step (L : Nat) (i : Jvm.ClassFile.Instr) (k : Int32) (lv : List (Nat × Value)) (st : List Value) : Option (List (Nat × Value) × List Value) := match i with
  | .iconst _ => some (lv, .int k :: st)
  | .bipush _ => some (lv, .int k :: st)
  | .sipush _ => some (lv, .int k :: st)
  | .aconst_null => some (lv, .null :: st)
  | .iload_n n => px_loadI lv st n.val
  | .iload n => px_loadI lv st n
  | .aload_n n => px_loadA lv st n.val
  | .aload n => px_loadA lv st n
  | .istore_n n => px_storeI L lv st n.val
  | .istore n => px_storeI L lv st n
  | .astore_n n => px_storeA L lv st n.val
  | .astore n => px_storeA L lv st n
  | .iinc n _ => px_incI L lv st n k
  | .iadd => px_bin (fun x y => x + y) lv st
  | .isub => px_bin (fun x y => x - y) lv st
  | .imul => px_bin (fun x y => x * y) lv st
  | .iand => px_bin (fun x y => x &&& y) lv st
  | .ior => px_bin (fun x y => x ||| y) lv st
  | .ixor => px_bin (fun x y => x ^^^ y) lv st
  | .ishl => px_bin (fun x y => x <<< (y &&& 31)) lv st
  | .ishr => px_bin (fun x y => x >>> (y &&& 31)) lv st
  | .iushr => px_bin (fun x y => (x.toUInt32 >>> (y.toUInt32 &&& Int32.toUInt32 31)).toInt32) lv st
  | .ineg => px_neg lv st
  | .dup => px_dup lv st
  | .pop => px_pop lv st
  | .dup_x1 => px_dx1 lv st
  | .dup2 => px_dup2 lv st
  | _ => none
section PXE
variable {lv lv' : List (Nat × Value)} {st st' : List Value} {L n : Nat} {k : Int32}
theorem px_bin_eq {f : Int32 → Int32 → Int32} (h : px_bin f lv st = some (lv', st')) : ∃ (x y : Int32) (r : List Value), st = .int y :: .int x :: r ∧ lv' = lv ∧ st' = .int (f x y) :: r := by
  unfold px_bin at h
  split at h
  · next x y r e => cases h; exact ⟨x, y, r, px_ii_eq e, rfl, rfl⟩
  · cases h
theorem px_neg_eq (h : px_neg lv st = some (lv', st')) : ∃ (x : Int32) (r : List Value), st = .int x :: r ∧ lv' = lv ∧ st' = .int (-x) :: r := by
  unfold px_neg at h
  split at h
  · next x r e => cases h; exact ⟨x, r, px_i1_eq e, rfl, rfl⟩
  · cases h
theorem px_loadI_eq (h : px_loadI lv st n = some (lv', st')) : ∃ x : Int32, px_get lv n = some (.int x) ∧ lv' = lv ∧ st' = .int x :: st := by
  unfold px_loadI at h
  split at h
  · next x e => cases h; exact ⟨x, e, rfl, rfl⟩
  · cases h
theorem px_loadA_eq (h : px_loadA lv st n = some (lv', st')) : (∃ x : Nat, px_get lv n = some (.ref x) ∧ lv' = lv ∧ st' = .ref x :: st) ∨ (px_get lv n = some .null ∧ lv' = lv ∧ st' = .null :: st) := by
  unfold px_loadA at h
  split at h
  · next x e => cases h; exact Or.inl ⟨x, e, rfl, rfl⟩
  · next e => cases h; exact Or.inr ⟨e, rfl, rfl⟩
  · cases h
theorem px_blt {a b : Nat} {α : Type} {x y : α} (h : (bif Nat.blt a b then some x else none) = some y) : a < b ∧ x = y := by
  cases hb : Nat.blt a b with
  | true =>
    rw [hb] at h
    exact ⟨Nat.le_of_ble_eq_true hb, Option.some.inj h⟩
  | false =>
    rw [hb] at h
    cases h
theorem px_storeI_eq (h : px_storeI L lv st n = some (lv', st')) : ∃ (x : Int32) (r : List Value), st = .int x :: r ∧ n < L ∧ lv' = px_put lv n (.int x) ∧ st' = r := by
  unfold px_storeI at h
  split at h
  · next x r =>
    obtain ⟨h1, h2⟩ := px_blt h
    cases h2
    exact ⟨x, _, rfl, h1, rfl, rfl⟩
  · cases h
theorem px_storeA_eq (h : px_storeA L lv st n = some (lv', st')) : (∃ (x : Nat) (r : List Value), st = .ref x :: r ∧ n < L ∧ lv' = px_put lv n (.ref x) ∧ st' = r) ∨ (∃ r : List Value, st = .null :: r ∧ n < L ∧ lv' = px_put lv n .null ∧ st' = r) := by
  unfold px_storeA at h
  split at h
  · next x r =>
    obtain ⟨h1, h2⟩ := px_blt h
    cases h2
    exact Or.inl ⟨x, _, rfl, h1, rfl, rfl⟩
  · next r =>
    obtain ⟨h1, h2⟩ := px_blt h
    cases h2
    exact Or.inr ⟨_, rfl, h1, rfl, rfl⟩
  · cases h
theorem px_incI_eq (h : px_incI L lv st n k = some (lv', st')) : ∃ x : Int32, px_get lv n = some (.int x) ∧ n < L ∧ lv' = px_put lv n (.int (x + k)) ∧ st' = st := by
  unfold px_incI at h
  split at h
  · next x e =>
    obtain ⟨h1, h2⟩ := px_blt h
    cases h2
    exact ⟨x, e, h1, rfl, rfl⟩
  · cases h
theorem px_dup_eq (h : px_dup lv st = some (lv', st')) : ∃ (v : Value) (r : List Value), st = v :: r ∧ v.category = 1 ∧ lv' = lv ∧ st' = v :: v :: r := by
  unfold px_dup at h
  split at h
  · next v r e => cases h; exact ⟨v, r, (px_v1_eq e).1, (px_v1_eq e).2, rfl, rfl⟩
  · cases h
theorem px_pop_eq (h : px_pop lv st = some (lv', st')) : ∃ (v : Value) (r : List Value), st = v :: r ∧ v.category = 1 ∧ lv' = lv ∧ st' = r := by
  unfold px_pop at h
  split at h
  · next v r e => cases h; exact ⟨v, _, (px_v1_eq e).1, (px_v1_eq e).2, rfl, rfl⟩
  · cases h
theorem px_dx1_eq (h : px_dx1 lv st = some (lv', st')) : ∃ (v w : Value) (r : List Value), st = v :: w :: r ∧ v.category = 1 ∧ w.category = 1 ∧ lv' = lv ∧ st' = v :: w :: v :: r := by
  unfold px_dx1 at h
  split at h
  · next v r e =>
    split at h
    · next w r2 e2 =>
      cases h
      obtain ⟨h1, h2⟩ := px_v1_eq e
      obtain ⟨h3, h4⟩ := px_v1_eq e2
      exact ⟨v, w, r2, by rw [h1, h3], h2, h4, rfl, rfl⟩
    · cases h
  · cases h
theorem px_dup2_eq (h : px_dup2 lv st = some (lv', st')) : ∃ (v w : Value) (r : List Value), st = v :: w :: r ∧ v.category = 1 ∧ w.category = 1 ∧ lv' = lv ∧ st' = v :: w :: v :: w :: r := by
  unfold px_dup2 at h
  split at h
  · next v r e =>
    split at h
    · next w r2 e2 =>
      cases h
      obtain ⟨h1, h2⟩ := px_v1_eq e
      obtain ⟨h3, h4⟩ := px_v1_eq e2
      exact ⟨v, w, r2, by rw [h1, h3], h2, h4, rfl, rfl⟩
    · cases h
  · cases h
theorem px_idx {la : Array Slot} {x : Value} (h : lv_has la L lv) (hg : px_get lv n = some x) : ∃ j : Nat, lv[j]? = some (n, x) := List.getElem?_of_mem (px_get_mem _ _ _ hg)
end PXE
section PXS
variable {p : Program} {l : Launch} {e : Env} {R : Room} {s : State} {m : MethodId} {args : Array Value} {below : List Frame} {meth : Method} {c : Code} {H : Heap} {locs : List Loc} {cells slots : Nat} {Z : State → Prop}
variable {M : px_M} {pc nx : Nat} {i : Jvm.ClassFile.Instr} {tg : List Nat} {k : Int32} {la : Array Slot} {lv lv' : List (Nat × Value)} {st st' : List Value}
set_option maxHeartbeats 4000000 in
theorem px_simple (hx : p.tables.exec = Jvm.exec) (hb : c.code = px_b M) (hM : px_okM M) (ha : px_at M pc = some (i, nx, tg, k)) (hs : px_step (px_L M) i k lv st = some (lv', st')) (hl : lv_has la (px_L M) lv)
    (kk : ∀ la', lv_has la' (px_L M) lv' → W p l e R s m args below meth c H locs cells slots Z (F0 m nx la' st')) : W p l e R s m args below meth c H locs cells slots Z (F0 m pc la st) := by
  have hkk := px_kk hM ha
  cases i
  case iconst n =>
    obtain ⟨hd, rfl⟩ := px_hd 1 hM ha rfl rfl
    cases hs
    exact lv_iconst hx hb hd (of_decide_eq_true hkk) (kk la hl)
  case bipush n =>
    obtain ⟨hd, rfl⟩ := px_hd 2 hM ha rfl rfl
    cases hs
    exact lv_bipush hx hb hd (of_decide_eq_true hkk) (kk la hl)
  case sipush n =>
    obtain ⟨hd, rfl⟩ := px_hd 3 hM ha rfl rfl
    cases hs
    exact lv_sipush hx hb hd (of_decide_eq_true hkk) (kk la hl)
  case aconst_null =>
    obtain ⟨hd, rfl⟩ := px_hd 1 hM ha rfl rfl
    cases hs
    exact lv_null hx hb hd (kk la hl)
  case iload_n n =>
    obtain ⟨hd, rfl⟩ := px_hd 1 hM ha rfl rfl
    obtain ⟨x, hg, rfl, rfl⟩ := px_loadI_eq hs
    exact lv_iload_n hx hb hd rfl (px_has hl hg) (kk la hl)
  case iload n =>
    obtain ⟨hd, rfl⟩ := px_hd 2 hM ha rfl rfl
    obtain ⟨x, hg, rfl, rfl⟩ := px_loadI_eq hs
    exact lv_iload hx hb hd (px_has hl hg) (kk la hl)
  case aload_n n =>
    obtain ⟨hd, rfl⟩ := px_hd 1 hM ha rfl rfl
    rcases px_loadA_eq hs with ⟨x, hg, rfl, rfl⟩ | ⟨hg, rfl, rfl⟩
    · exact lv_aload_n hx hb hd rfl (px_has hl hg) (kk la hl)
    · exact lv_aload_nN hx hb hd rfl (px_has hl hg) (kk la hl)
  case aload n =>
    obtain ⟨hd, rfl⟩ := px_hd 2 hM ha rfl rfl
    rcases px_loadA_eq hs with ⟨x, hg, rfl, rfl⟩ | ⟨hg, rfl, rfl⟩
    · exact lv_aload hx hb hd (px_has hl hg) (kk la hl)
    · exact lv_aloadN hx hb hd (px_has hl hg) (kk la hl)
  case istore_n n =>
    obtain ⟨hd, rfl⟩ := px_hd 1 hM ha rfl rfl
    obtain ⟨x, r, rfl, hn, rfl, rfl⟩ := px_storeI_eq hs
    exact lv_istore_n hx hb hd rfl hl hn rfl kk
  case istore n =>
    obtain ⟨hd, rfl⟩ := px_hd 2 hM ha rfl rfl
    obtain ⟨x, r, rfl, hn, rfl, rfl⟩ := px_storeI_eq hs
    exact lv_istore hx hb hd hl hn rfl kk
  case astore_n n =>
    obtain ⟨hd, rfl⟩ := px_hd 1 hM ha rfl rfl
    rcases px_storeA_eq hs with ⟨x, r, rfl, hn, rfl, rfl⟩ | ⟨r, rfl, hn, rfl, rfl⟩
    · exact lv_astore_n hx hb hd rfl hl hn rfl kk
    · exact lv_astore_nN hx hb hd rfl hl hn rfl kk
  case astore n =>
    obtain ⟨hd, rfl⟩ := px_hd 2 hM ha rfl rfl
    rcases px_storeA_eq hs with ⟨x, r, rfl, hn, rfl, rfl⟩ | ⟨r, rfl, hn, rfl, rfl⟩
    · exact lv_astore hx hb hd hl hn rfl kk
    · exact lv_astoreN hx hb hd hl hn rfl kk
  case iinc n z =>
    obtain ⟨hd, rfl⟩ := px_hd 3 hM ha rfl rfl
    obtain ⟨x, hg, hn, rfl, rfl⟩ := px_incI_eq hs
    obtain ⟨j, hj⟩ := px_idx hl hg
    have hz : Int32.ofInt z = k := of_decide_eq_true hkk
    subst hz
    exact lv_iinc hx hb hd hl hj rfl hn rfl kk
  case iadd =>
    obtain ⟨hd, rfl⟩ := px_hd 1 hM ha rfl rfl
    obtain ⟨x, y, r, rfl, rfl, rfl⟩ := px_bin_eq hs
    exact lv_iadd hx hb hd (kk la hl)
  case isub =>
    obtain ⟨hd, rfl⟩ := px_hd 1 hM ha rfl rfl
    obtain ⟨x, y, r, rfl, rfl, rfl⟩ := px_bin_eq hs
    exact lv_isub hx hb hd (kk la hl)
  case imul =>
    obtain ⟨hd, rfl⟩ := px_hd 1 hM ha rfl rfl
    obtain ⟨x, y, r, rfl, rfl, rfl⟩ := px_bin_eq hs
    exact lv_imul hx hb hd (kk la hl)
  case iand =>
    obtain ⟨hd, rfl⟩ := px_hd 1 hM ha rfl rfl
    obtain ⟨x, y, r, rfl, rfl, rfl⟩ := px_bin_eq hs
    exact lv_iand hx hb hd (kk la hl)
  case ior =>
    obtain ⟨hd, rfl⟩ := px_hd 1 hM ha rfl rfl
    obtain ⟨x, y, r, rfl, rfl, rfl⟩ := px_bin_eq hs
    exact lv_ior hx hb hd (kk la hl)
  case ixor =>
    obtain ⟨hd, rfl⟩ := px_hd 1 hM ha rfl rfl
    obtain ⟨x, y, r, rfl, rfl, rfl⟩ := px_bin_eq hs
    exact lv_ixor hx hb hd (kk la hl)
  case ishl =>
    obtain ⟨hd, rfl⟩ := px_hd 1 hM ha rfl rfl
    obtain ⟨x, y, r, rfl, rfl, rfl⟩ := px_bin_eq hs
    exact lv_ishl hx hb hd (kk la hl)
  case ishr =>
    obtain ⟨hd, rfl⟩ := px_hd 1 hM ha rfl rfl
    obtain ⟨x, y, r, rfl, rfl, rfl⟩ := px_bin_eq hs
    exact lv_ishr hx hb hd (kk la hl)
  case iushr =>
    obtain ⟨hd, rfl⟩ := px_hd 1 hM ha rfl rfl
    obtain ⟨x, y, r, rfl, rfl, rfl⟩ := px_bin_eq hs
    exact lv_iushr hx hb hd rfl (kk la hl)
  case ineg =>
    obtain ⟨hd, rfl⟩ := px_hd 1 hM ha rfl rfl
    obtain ⟨x, r, rfl, rfl, rfl⟩ := px_neg_eq hs
    exact lv_ineg hx hb hd (kk la hl)
  case dup =>
    obtain ⟨hd, rfl⟩ := px_hd 1 hM ha rfl rfl
    obtain ⟨v, r, rfl, hv, rfl, rfl⟩ := px_dup_eq hs
    exact lv_dup hx hb hd hv (kk la hl)
  case pop =>
    obtain ⟨hd, rfl⟩ := px_hd 1 hM ha rfl rfl
    obtain ⟨v, r, rfl, hv, rfl, rfl⟩ := px_pop_eq hs
    exact lv_pop hx hb hd hv (kk la hl)
  case dup_x1 =>
    obtain ⟨hd, rfl⟩ := px_hd 1 hM ha rfl rfl
    obtain ⟨v, w, r, rfl, hv, hw, rfl, rfl⟩ := px_dx1_eq hs
    exact lv_dup_x1 hx hb hd hv hw (kk la hl)
  case dup2 =>
    obtain ⟨hd, rfl⟩ := px_hd 1 hM ha rfl rfl
    obtain ⟨v, w, r, rfl, hv, hw, rfl, rfl⟩ := px_dup2_eq hs
    exact lv_dup2_11 hx hb hd hv hw (kk la hl)
  all_goals (simp [px_step] at hs)
end PXS
