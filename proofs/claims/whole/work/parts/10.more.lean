/-! MORE ROWS: updates of one cell, branches that are known -/
theorem px_up_self : ∀ (ws : va_W) (a : Nat) (e : va_E), px_lk ws a = some e → px_up ws a e = ws
  | [], _, _, _ => rfl
  | q :: t, a, e, h => by
    unfold px_lk at h
    by_cases hq : q.1 = a
    · rw [if_pos hq] at h
      have e2 : q.2 = e := Option.some.inj h
      unfold px_up
      rw [if_pos hq, ← hq, ← e2]
    · rw [if_neg hq] at h
      unfold px_up
      rw [if_neg hq, px_up_self t a e h]
theorem px_cmp_n {c : Jvm.ClassFile.Cond} {x y : Int32} (h : px_cmp c x y) (n : px_ncmp c x y) : False := by
  cases c
  case ne => exact h n
  all_goals exact n h
section PXM
variable {G : px_G} {M : px_M} {pc nx d bc bs : Nat} {tg : List Nat} {z : Int32} {lv : List (Nat × Value)} {st : List Value} {ws : va_W} {Q : Option Value → va_W → Prop}
theorem p_ifT {cc : Jvm.ClassFile.Cond} {off : Int} {t : Nat} {x : Int32} (ha : px_at M pc = some (.ifCond cc off, nx, [t], z)) (h : px_cmp cc x 0) (kt : px G M t lv st ws d bc bs Q) : px G M pc lv (.int x :: st) ws d bc bs Q := p_if ha (fun _ => kt) (fun n => (px_cmp_n h n).elim)
theorem p_ifF {cc : Jvm.ClassFile.Cond} {off : Int} {t : Nat} {x : Int32} (ha : px_at M pc = some (.ifCond cc off, nx, [t], z)) (h : px_ncmp cc x 0) (kf : px G M nx lv st ws d bc bs Q) : px G M pc lv (.int x :: st) ws d bc bs Q := p_if ha (fun n => (px_cmp_n n h).elim) (fun _ => kf)
theorem p_icmpT {cc : Jvm.ClassFile.Cond} {off : Int} {t : Nat} {x y : Int32} (ha : px_at M pc = some (.if_icmp cc off, nx, [t], z)) (h : px_cmp cc x y) (kt : px G M t lv st ws d bc bs Q) : px G M pc lv (.int y :: .int x :: st) ws d bc bs Q := p_icmp ha (fun _ => kt) (fun n => (px_cmp_n h n).elim)
theorem p_icmpF {cc : Jvm.ClassFile.Cond} {off : Int} {t : Nat} {x y : Int32} (ha : px_at M pc = some (.if_icmp cc off, nx, [t], z)) (h : px_ncmp cc x y) (kf : px G M nx lv st ws d bc bs Q) : px G M pc lv (.int y :: .int x :: st) ws d bc bs Q := p_icmp ha (fun n => (px_cmp_n n h).elim) (fun _ => kf)
theorem p_get2 {idx ci k a : Nat} {fs : List Value} {v : Value} {x : va_E} (ha : px_at M pc = some (.getfield idx, nx, tg, z)) (hF : px_Fd (px_y M).cls idx ci k) (hw : px_lk ws a = some x) (hv : fs[k]? = some v) (kk : px G M nx lv (v :: st) (px_up ws a (.inr (ci, fs))) d bc bs Q) : px G M pc lv (.ref a :: st) (px_up ws a (.inr (ci, fs))) d bc bs Q := p_get ha hF (px_lk_same _ _ _ _ hw) hv kk
theorem p_put2 {idx ci k a : Nat} {fs : List Value} {v : Value} {ty : FieldType} {x : va_E} (ha : px_at M pc = some (.putfield idx, nx, tg, z)) (hF : px_Fp (px_y M).cls idx ci k ty) (hw : px_lk ws a = some x) (hn : narrow ty v = v) (hf : fits ty v = true) (hkl : k < fs.length) (kk : px G M nx lv st (px_up ws a (.inr (ci, fs.set k v))) d bc bs Q) : px G M pc lv (v :: .ref a :: st) (px_up ws a (.inr (ci, fs))) d bc bs Q := p_put ha hF (px_lk_same _ _ _ _ hw) hn hf hkl (by rw [px_up_up]; exact kk)
theorem p_putF2 {idx ci k a : Nat} {fs : List Value} {v : Value} {ty : FieldType} {x : va_E} (ha : px_at M pc = some (.putfield idx, nx, tg, z)) (hF : px_FpF (px_y M).cls idx ci k ty) (hi : (px_y M).name = "<init>") (hw : px_lk ws a = some x) (hn : narrow ty v = v) (hf : fits ty v = true) (hkl : k < fs.length) (kk : px G M nx lv st (px_up ws a (.inr (ci, fs.set k v))) d bc bs Q) : px G M pc lv (v :: .ref a :: st) (px_up ws a (.inr (ci, fs))) d bc bs Q := p_putF ha hF hi (px_lk_same _ _ _ _ hw) hn hf hkl (by rw [px_up_up]; exact kk)
/-- the first update of a cell -/
theorem p_own {a : Nat} {e : va_E} (h : px_lk ws a = some e) (kk : px G M pc lv st (px_up ws a e) d bc bs Q) : px G M pc lv st ws d bc bs Q := by rw [px_up_self ws a e h] at kk; exact kk
end PXM
theorem px_nn {ws : va_W} {a q : Nat} {x : va_E} (h : px_lk ws a = some x) (hq : px_lk ws q = none) : a ≠ q := by
  intro z
  subst z
  rw [h] at hq
  cases hq
/-- what is left of the cells outside S -/
def px_fr (S : Nat → Prop) (ws w : va_W) : Prop := ∀ (b : Nat) (x : va_E), ¬ S b → px_lk ws b = some x → px_lk w b = some x
theorem px_fr.rf {S : Nat → Prop} {ws : va_W} : px_fr S ws ws := fun _ _ _ h => h
theorem px_fr.tr {S : Nat → Prop} {w1 w2 w3 : va_W} (h1 : px_fr S w1 w2) (h2 : px_fr S w2 w3) : px_fr S w1 w3 := fun b x hb h => h2 b x hb (h1 b x hb h)
theorem px_fr.up {S : Nat → Prop} {ws : va_W} {a : Nat} {e : va_E} (h : S a) : px_fr S ws (px_up ws a e) := fun b x hb hx => px_keep hx (fun z => hb (by rw [z]; exact h))
theorem px_fr.nw {S : Nat → Prop} {ws : va_W} {q : Nat} {e : va_E} : px_fr S ws (ws ++ [(q, e)]) := fun b y _ hy => px_lk_old _ _ _ _ _ hy
theorem px_fr.upn {S : Nat → Prop} {ws : va_W} {q : Nat} {e e' : va_E} (h : px_lk ws q = none) : px_fr S ws (px_up (ws ++ [(q, e)]) q e') := fun b y _ hy => px_keep (px_lk_old _ _ _ _ _ hy) (px_nn hy h)
theorem px_fr.wk {S T : Nat → Prop} {ws w : va_W} (h : px_fr S ws w) (hT : ∀ b, S b → T b) : px_fr T ws w := fun b x hb hx => h b x (fun z => hb (hT b z)) hx
theorem px_w {G : px_G} {M : px_M} {pc d bc bs : Nat} {lv : List (Nat × Value)} {st : List Value} {ws w : va_W} {Q : Option Value → va_W → Prop} (h : w = ws) (kk : px G M pc lv st w d bc bs Q) : px G M pc lv st ws d bc bs Q := h ▸ kk
