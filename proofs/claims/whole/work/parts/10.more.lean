/-! MORE ROWS: updates of one cell, branches that are known -/
theorem px_up_self : ∀ (ws : va_W) (a : Nat) (e : va_E), px_lk ws a = some e → px_up ws a e = ws
  | [], _, _, _ => rfl
  | q :: t, a, e, h => by
    unfold px_lk at h
    by_cases hq : q.1 = a
    · rw [if_pos hq] at h
      have e2 : q.2 = e := Option.some.inj h
      unfold px_up
      rw [if_pos hq, ← hq, ← e2]
    · rw [if_neg hq] at h
      unfold px_up
      rw [if_neg hq, px_up_self t a e h]
theorem px_cmp_n {c : Jvm.ClassFile.Cond} {x y : Int32} (h : px_cmp c x y) (n : px_ncmp c x y) : False := by
  cases c
  case ne => exact h n
  all_goals exact n h
section PXM
variable {G : px_G} {M : px_M} {pc nx d bc bs : Nat} {tg : List Nat} {z : Int32} {lv : List (Nat × Value)} {st : List Value} {ws : va_W} {Q : Option Value → va_W → Prop}
theorem p_ifT {cc : Jvm.ClassFile.Cond} {off : Int} {t : Nat} {x : Int32} (ha : px_at M pc = some (.ifCond cc off, nx, [t], z)) (h : px_cmp cc x 0) (kt : px G M t lv st ws d bc bs Q) : px G M pc lv (.int x :: st) ws d bc bs Q := p_if ha (fun _ => kt) (fun n => (px_cmp_n h n).elim)
theorem p_ifF {cc : Jvm.ClassFile.Cond} {off : Int} {t : Nat} {x : Int32} (ha : px_at M pc = some (.ifCond cc off, nx, [t], z)) (h : px_ncmp cc x 0) (kf : px G M nx lv st ws d bc bs Q) : px G M pc lv (.int x :: st) ws d bc bs Q := p_if ha (fun n => (px_cmp_n n h).elim) (fun _ => kf)
theorem p_icmpT {cc : Jvm.ClassFile.Cond} {off : Int} {t : Nat} {x y : Int32} (ha : px_at M pc = some (.if_icmp cc off, nx, [t], z)) (h : px_cmp cc x y) (kt : px G M t lv st ws d bc bs Q) : px G M pc lv (.int y :: .int x :: st) ws d bc bs Q := p_icmp ha (fun _ => kt) (fun n => (px_cmp_n h n).elim)
theorem p_icmpF {cc : Jvm.ClassFile.Cond} {off : Int} {t : Nat} {x y : Int32} (ha : px_at M pc = some (.if_icmp cc off, nx, [t], z)) (h : px_ncmp cc x y) (kf : px G M nx lv st ws d bc bs Q) : px G M pc lv (.int y :: .int x :: st) ws d bc bs Q := p_icmp ha (fun n => (px_cmp_n n h).elim) (fun _ => kf)
theorem p_get2 {idx ci k a : Nat} {fs : List Value} {v : Value} {x : va_E} (ha : px_at M pc = some (.getfield idx, nx, tg, z)) (hF : px_Fd (px_y M).cls idx ci k) (hw : px_lk ws a = some x) (hv : fs[k]? = some v) (kk : px G M nx lv (v :: st) (px_up ws a (.inr (ci, fs))) d bc bs Q) : px G M pc lv (.ref a :: st) (px_up ws a (.inr (ci, fs))) d bc bs Q := p_get ha hF (px_lk_same _ _ _ _ hw) hv kk
theorem p_put2 {idx ci k a : Nat} {fs : List Value} {v : Value} {ty : FieldType} {x : va_E} (ha : px_at M pc = some (.putfield idx, nx, tg, z)) (hF : px_Fp (px_y M).cls idx ci k ty) (hw : px_lk ws a = some x) (hn : narrow ty v = v) (hf : fits ty v = true) (hkl : k < fs.length) (kk : px G M nx lv st (px_up ws a (.inr (ci, fs.set k v))) d bc bs Q) : px G M pc lv (v :: .ref a :: st) (px_up ws a (.inr (ci, fs))) d bc bs Q := p_put ha hF (px_lk_same _ _ _ _ hw) hn hf hkl (by rw [px_up_up]; exact kk)
theorem p_putF2 {idx ci k a : Nat} {fs : List Value} {v : Value} {ty : FieldType} {x : va_E} (ha : px_at M pc = some (.putfield idx, nx, tg, z)) (hF : px_FpF (px_y M).cls idx ci k ty) (hi : (px_y M).name = "<init>") (hw : px_lk ws a = some x) (hn : narrow ty v = v) (hf : fits ty v = true) (hkl : k < fs.length) (kk : px G M nx lv st (px_up ws a (.inr (ci, fs.set k v))) d bc bs Q) : px G M pc lv (v :: .ref a :: st) (px_up ws a (.inr (ci, fs))) d bc bs Q := p_putF ha hF hi (px_lk_same _ _ _ _ hw) hn hf hkl (by rw [px_up_up]; exact kk)
/-- the first update of a cell -/
theorem p_own {a : Nat} {e : va_E} (h : px_lk ws a = some e) (kk : px G M pc lv st (px_up ws a e) d bc bs Q) : px G M pc lv st ws d bc bs Q := by rw [px_up_self ws a e h] at kk; exact kk
end PXM
