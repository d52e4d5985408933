/-! THE CLASS: the constructor -/
theorem px_old {S : Nat → Prop} {ws w : va_W} {q : Nat} (hf : px_fr S ws w) (hS : ¬ S q) (h : px_lk w q = none) : px_lk ws q = none := by
  cases hz : px_lk ws q with
  | none => rfl
  | some x => rw [hf q x hS hz] at h; cases h
set_option maxHeartbeats 4000000 in
theorem c_MemInit {G : px_G} {ws : va_W} {d a : Nat} {R : Int32} (h : px_lk ws a = some (.inr (1, [.int 0, .null, .null]))) : px G m_Mem_init 0 (lv_args 0 [.ref a, .int R]) [] ws (d + 4) 2 6 (fun v w => v = none ∧ ∃ L2 L3, px_lk ws L2 = none ∧ px_lk ws L3 = none ∧ L3 ≠ L2 ∧ px_lk w a = some (oMem R L2 L3) ∧ px_lk w L2 = some (oAL (g_sv G 0) 0 0) ∧ px_lk w L3 = some (oAL (g_sv G 0) 0 0) ∧ px_fr (fun b => b = a) ws w) := by
  refine p_s rfl rfl ?_
  refine p_objI rfl w_61 w_24 w_25 (by exact Nat.le_of_ble_eq_true rfl) ?_
  refine p_s rfl rfl ?_
  refine p_new (N := 3) rfl nc_Mem_9 (fun q1 hq1 hl1 => ?_)
  refine p_s rfl rfl ?_
  refine p_callI rfl c_Mem_11 g_AL_init rfl rfl rfl (p_le (by omega) (Nat.le_refl _) (Nat.le_refl _) (c_ALInit (d := d) (px_lk_new _ _ _ hq1))) (fun v w hq => ?_)
  obtain ⟨rfl, hw9⟩ := hq
  obtain ⟨w1, hw1⟩ : ∃ w1, w1 = w := ⟨_, rfl⟩
  have A1 : px_lk w1 a = some (.inr (1, [.int 0, .null, .null])) := by rw [hw1, hw9]; exact px_keep (px_lk_old _ _ _ _ _ h) (px_nn h hq1)
  have B1 : px_lk w1 q1 = some (oAL (g_sv G 0) 0 0) := by rw [hw1, hw9]; exact px_lk_same _ _ _ _ (px_lk_new _ _ _ hq1)
  have F1 : px_fr (fun _ => False) ws w1 := by rw [hw1, hw9]; exact px_fr.upn hq1
  rw [← hw1]
  clear hw9
  refine p_putF rfl fF_Mem_12 rfl A1 rfl rfl (by exact Nat.le_of_ble_eq_true rfl) ?_
  have C1 := px_lk_same w1 a _ (.inr (1, [.int 0, .ref q1, .null])) A1
  have D1 := px_keep (e := .inr (1, [.int 0, .ref q1, .null])) B1 (px_nek B1 A1 (Nat.ne_of_beq_eq_false rfl))
  refine p_s rfl rfl ?_
  refine p_new (N := 3) rfl nc_Mem_9 (fun q2 hq2 hl2 => ?_)
  refine p_s rfl rfl ?_
  refine p_callI rfl c_Mem_11 g_AL_init rfl rfl rfl (p_le (by omega) (Nat.le_refl _) (Nat.le_refl _) (c_ALInit (d := d) (px_lk_new _ _ _ hq2))) (fun v w hq => ?_)
  obtain ⟨rfl, hw9⟩ := hq
  obtain ⟨w2, hw2⟩ : ∃ w2, w2 = w := ⟨_, rfl⟩
  have A2 : px_lk w2 a = some (.inr (1, [.int 0, .ref q1, .null])) := by rw [hw2, hw9]; exact px_keep (px_lk_old _ _ _ _ _ C1) (px_nn C1 hq2)
  have B2 : px_lk w2 q2 = some (oAL (g_sv G 0) 0 0) := by rw [hw2, hw9]; exact px_lk_same _ _ _ _ (px_lk_new _ _ _ hq2)
  have F2 : px_fr (fun _ => False) (px_up w1 a (.inr (1, [.int 0, .ref q1, .null]))) w2 := by rw [hw2, hw9]; exact px_fr.upn hq2
  rw [← hw2]
  clear hw9
  have E2 : px_lk w2 q1 = some (oAL (g_sv G 0) 0 0) := F2 _ _ (fun z => z) D1
  refine p_own A2 ?_
  refine p_putF2 rfl fF_Mem_18 rfl A2 rfl rfl (by exact Nat.le_of_ble_eq_true rfl) ?_
  refine p_s rfl rfl ?_
  refine p_s rfl rfl ?_
  refine p_putF2 rfl fF_Mem_21 rfl A2 rfl rfl (by exact Nat.le_of_ble_eq_true rfl) ?_
  refine p_vret rfl rfl ⟨rfl, q1, q2, hq1, ?_, fun z => px_nn D1 hq2 z.symm, px_lk_same _ _ _ _ A2, px_keep E2 (px_nek E2 A2 (Nat.ne_of_beq_eq_false rfl)), px_keep B2 (px_nek B2 A2 (Nat.ne_of_beq_eq_false rfl)), ?_⟩
  · exact px_old F1 (fun z => z) (px_old (px_fr.up (S := fun b => b = a) (a := a) (e := .inr (1, [.int 0, .ref q1, .null])) rfl) (fun z => px_nn C1 hq2 z.symm) hq2)
  · exact ((F1.wk (T := fun b => b = a) (fun _ z => z.elim)).tr (px_fr.up rfl)).tr ((F2.wk (T := fun b => b = a) (fun _ z => z.elim)).tr (px_fr.up (S := fun b => b = a) rfl))
def g0M : Nat → Int32 := fun k => if k = 0 then -1 else if k = 1 then 1 else 0
abbrev m0 : Md := (0, (fun _ _ => 0), (fun _ => 0), [], [], g0M)
def roomOf (x : Int32) : Int32 := if isw x 0 65536 = 0 then 8 else x
def ad0 (G : px_G) (mm l1 l2 l3 : Nat) : Nat → Nat → Nat := fun _ i => if i = 0 then mm else if i = 1 then l1 else if i = 3 then l2 else if i = 5 then l3 else g_sv G 0
theorem CR.first {G : px_G} {R : Int32} {ws : va_W} {o mm l1 l2 l3 : Nat} (h1 : px_lk ws o = some (oTM l1 mm (-1) 1 0 0)) (h2 : px_lk ws mm = some (oMem R l2 l3)) (h3 : px_lk ws l1 = some (oAL (g_sv G 0) 0 0)) (h4 : px_lk ws l2 = some (oAL (g_sv G 0) 0 0)) (h5 : px_lk ws l3 = some (oAL (g_sv G 0) 0 0)) (n12 : l1 ≠ l2) (n13 : l1 ≠ l3) (n23 : l2 ≠ l3) : CR G R ws o (ad0 G mm l1 l2 l3) m0 :=
  ⟨h1, h2, ⟨⟨0, h3, Or.inl ⟨rfl, rfl⟩⟩, ⟨0, h4, Or.inl ⟨rfl, rfl⟩⟩, ⟨0, h5, Or.inl ⟨rfl, rfl⟩⟩⟩, ⟨⟨n12, n13, n23⟩, ⟨fun _ => rfl, fun _ => rfl, fun _ => rfl⟩, fun i j hi => absurd hi (Nat.not_lt_zero _), fun i j hi => absurd hi (Nat.not_lt_zero _), fun i j hi => absurd hi (Nat.not_lt_zero _), fun i j hi => absurd hi (Nat.not_lt_zero _), fun i j hi => absurd hi List.not_mem_nil⟩, fun i hi => absurd hi (Nat.not_lt_zero _), fun x hx => absurd hx List.not_mem_nil⟩
set_option maxHeartbeats 4000000 in
theorem o_init {G : px_G} {ws : va_W} {d o : Nat} {x : Int32} (h : px_lk ws o = some (.inr (0, [.null, .null, .int 0, .int 0, .int 0, .int 0]))) : px G m_TM_init 0 (lv_args 0 [.ref o, .int x]) [] ws (d + 10) 4 12 (fun v w => v = none ∧ ∃ ad, CR G (roomOf x) w o ad m0 ∧ px_fr (fun b => b = o) ws w) := by
  by_cases hx : isw x 0 65536 = 0
  · skip
    refine p_s rfl rfl ?_
    refine p_objI rfl w_23 w_24 w_25 (by exact Nat.le_of_ble_eq_true rfl) ?_
    refine p_s rfl rfl ?_
    refine p_new (N := 3) rfl nc_TM_9 (fun q1 hq1 hl1 => ?_)
    refine p_s rfl rfl ?_
    refine p_callI rfl c_TM_11 g_AL_init rfl rfl rfl (p_le (by omega) (Nat.le_refl _) (Nat.le_refl _) (c_ALInit (d := d) (px_lk_new _ _ _ hq1))) (fun v w hq => ?_)
    obtain ⟨rfl, hw9⟩ := hq
    obtain ⟨w1, hw1⟩ : ∃ w1, w1 = w := ⟨_, rfl⟩
    have A1 : px_lk w1 o = some (.inr (0, [.null, .null, .int 0, .int 0, .int 0, .int 0])) := by rw [hw1, hw9]; exact px_keep (px_lk_old _ _ _ _ _ h) (px_nn h hq1)
    have B1 : px_lk w1 q1 = some (oAL (g_sv G 0) 0 0) := by rw [hw1, hw9]; exact px_lk_same _ _ _ _ (px_lk_new _ _ _ hq1)
    have F1 : px_fr (fun _ => False) ws w1 := by rw [hw1, hw9]; exact px_fr.upn hq1
    rw [← hw1]
    clear hw9
    refine p_own A1 ?_
    refine p_putF2 rfl fF_TM_12 rfl A1 rfl rfl (by exact Nat.le_of_ble_eq_true rfl) ?_
    refine p_s rfl rfl ?_
    refine p_s rfl rfl ?_
    refine p_put2 rfl fp_TM_16 A1 rfl rfl (by exact Nat.le_of_ble_eq_true rfl) ?_
    refine p_s rfl rfl ?_
    refine p_s rfl rfl ?_
    refine p_put2 rfl fp_TM_20 A1 rfl rfl (by exact Nat.le_of_ble_eq_true rfl) ?_
    refine p_s rfl rfl ?_
    refine p_s rfl rfl ?_
    refine p_put2 rfl fp_TM_24 A1 rfl rfl (by exact Nat.le_of_ble_eq_true rfl) ?_
    refine p_s rfl rfl ?_
    refine p_s rfl rfl ?_
    refine p_put2 rfl fp_TM_27 A1 rfl rfl (by exact Nat.le_of_ble_eq_true rfl) ?_
    have C1 := px_lk_same w1 o _ (.inr (0, [.ref q1, .null, .int (-1), .int 1, .int 0, .int 0])) A1
    have D1 := px_keep (e := .inr (0, [.ref q1, .null, .int (-1), .int 1, .int 0, .int 0])) B1 (px_nek B1 A1 (Nat.ne_of_beq_eq_false rfl))
    refine p_s rfl rfl ?_
    refine p_new (N := 3) rfl nc_TM_30 (fun mm hm hml => ?_)
    refine p_s rfl rfl ?_
    refine p_s rfl rfl ?_
    refine p_s rfl rfl ?_
    refine p_ldc rfl w_54 ?_
    refine p_callS rfl c_TM_33 g_TM_isWithin rfl rfl rfl (p_le (by omega) (Nat.le_refl _) (Nat.le_refl _) (c_isWithin (d := d))) (fun v w hq => ?_)
    obtain ⟨rfl, hw9⟩ := hq
    subst hw9
    refine p_ifT rfl hx ?_
    refine p_s rfl rfl ?_
    refine p_callI rfl c_TM_37 g_Mem_init rfl rfl rfl (p_le (by omega) (Nat.le_refl _) (Nat.le_refl _) (c_MemInit (d := d) (R := 8) (px_lk_new _ _ _ hm))) (fun v w hq => ?_)
    obtain ⟨rfl, L2, L3, r1, r2, r3, r4, r5, r6, r7⟩ := hq
    have A3 : px_lk w o = some (.inr (0, [.ref q1, .null, .int (-1), .int 1, .int 0, .int 0])) := r7 _ _ (px_nn C1 hm) (px_lk_old _ _ _ _ _ C1)
    have D3 : px_lk w q1 = some (oAL (g_sv G 0) 0 0) := r7 _ _ (px_nn D1 hm) (px_lk_old _ _ _ _ _ D1)
    have n12 : q1 ≠ L2 := px_nn (px_lk_old _ _ _ _ _ D1) r1
    have n13 : q1 ≠ L3 := px_nn (px_lk_old _ _ _ _ _ D1) r2
    refine p_own A3 ?_
    refine p_putF2 rfl fF_TM_40 rfl A3 rfl rfl (by exact Nat.le_of_ble_eq_true rfl) ?_
    refine p_vret rfl rfl ⟨rfl, ad0 G mm q1 L2 L3, ?_, ?_⟩
    · rw [roomOf, if_pos hx]
      exact CR.first (px_lk_same _ _ _ _ A3) (px_keep r4 (px_nek r4 A3 (Nat.ne_of_beq_eq_false rfl))) (px_keep D3 (px_nek D3 A3 (Nat.ne_of_beq_eq_false rfl))) (px_keep r5 (px_nek r5 A3 (Nat.ne_of_beq_eq_false rfl))) (px_keep r6 (px_nek r6 A3 (Nat.ne_of_beq_eq_false rfl))) n12 n13 (fun z => r3 z.symm)
    · refine (((F1.wk (T := fun b => b = o) (fun _ z => z.elim)).tr (px_fr.up (a := o) (e := .inr (0, [.ref q1, .null, .int (-1), .int 1, .int 0, .int 0])) rfl)).tr ?_).tr (px_fr.up (S := fun b => b = o) rfl)
      intro b x hb hx
      exact r7 b x (px_nn hx hm) (px_lk_old _ _ _ _ _ hx)
  · skip
    refine p_s rfl rfl ?_
    refine p_objI rfl w_23 w_24 w_25 (by exact Nat.le_of_ble_eq_true rfl) ?_
    refine p_s rfl rfl ?_
    refine p_new (N := 3) rfl nc_TM_9 (fun q1 hq1 hl1 => ?_)
    refine p_s rfl rfl ?_
    refine p_callI rfl c_TM_11 g_AL_init rfl rfl rfl (p_le (by omega) (Nat.le_refl _) (Nat.le_refl _) (c_ALInit (d := d) (px_lk_new _ _ _ hq1))) (fun v w hq => ?_)
    obtain ⟨rfl, hw9⟩ := hq
    obtain ⟨w1, hw1⟩ : ∃ w1, w1 = w := ⟨_, rfl⟩
    have A1 : px_lk w1 o = some (.inr (0, [.null, .null, .int 0, .int 0, .int 0, .int 0])) := by rw [hw1, hw9]; exact px_keep (px_lk_old _ _ _ _ _ h) (px_nn h hq1)
    have B1 : px_lk w1 q1 = some (oAL (g_sv G 0) 0 0) := by rw [hw1, hw9]; exact px_lk_same _ _ _ _ (px_lk_new _ _ _ hq1)
    have F1 : px_fr (fun _ => False) ws w1 := by rw [hw1, hw9]; exact px_fr.upn hq1
    rw [← hw1]
    clear hw9
    refine p_own A1 ?_
    refine p_putF2 rfl fF_TM_12 rfl A1 rfl rfl (by exact Nat.le_of_ble_eq_true rfl) ?_
    refine p_s rfl rfl ?_
    refine p_s rfl rfl ?_
    refine p_put2 rfl fp_TM_16 A1 rfl rfl (by exact Nat.le_of_ble_eq_true rfl) ?_
    refine p_s rfl rfl ?_
    refine p_s rfl rfl ?_
    refine p_put2 rfl fp_TM_20 A1 rfl rfl (by exact Nat.le_of_ble_eq_true rfl) ?_
    refine p_s rfl rfl ?_
    refine p_s rfl rfl ?_
    refine p_put2 rfl fp_TM_24 A1 rfl rfl (by exact Nat.le_of_ble_eq_true rfl) ?_
    refine p_s rfl rfl ?_
    refine p_s rfl rfl ?_
    refine p_put2 rfl fp_TM_27 A1 rfl rfl (by exact Nat.le_of_ble_eq_true rfl) ?_
    have C1 := px_lk_same w1 o _ (.inr (0, [.ref q1, .null, .int (-1), .int 1, .int 0, .int 0])) A1
    have D1 := px_keep (e := .inr (0, [.ref q1, .null, .int (-1), .int 1, .int 0, .int 0])) B1 (px_nek B1 A1 (Nat.ne_of_beq_eq_false rfl))
    refine p_s rfl rfl ?_
    refine p_new (N := 3) rfl nc_TM_30 (fun mm hm hml => ?_)
    refine p_s rfl rfl ?_
    refine p_s rfl rfl ?_
    refine p_s rfl rfl ?_
    refine p_ldc rfl w_54 ?_
    refine p_callS rfl c_TM_33 g_TM_isWithin rfl rfl rfl (p_le (by omega) (Nat.le_refl _) (Nat.le_refl _) (c_isWithin (d := d))) (fun v w hq => ?_)
    obtain ⟨rfl, hw9⟩ := hq
    subst hw9
    refine p_ifF rfl hx ?_
    refine p_s rfl rfl ?_
    refine p_goto rfl ?_
    refine p_callI rfl c_TM_37 g_Mem_init rfl rfl rfl (p_le (by omega) (Nat.le_refl _) (Nat.le_refl _) (c_MemInit (d := d) (R := x) (px_lk_new _ _ _ hm))) (fun v w hq => ?_)
    obtain ⟨rfl, L2, L3, r1, r2, r3, r4, r5, r6, r7⟩ := hq
    have A3 : px_lk w o = some (.inr (0, [.ref q1, .null, .int (-1), .int 1, .int 0, .int 0])) := r7 _ _ (px_nn C1 hm) (px_lk_old _ _ _ _ _ C1)
    have D3 : px_lk w q1 = some (oAL (g_sv G 0) 0 0) := r7 _ _ (px_nn D1 hm) (px_lk_old _ _ _ _ _ D1)
    have n12 : q1 ≠ L2 := px_nn (px_lk_old _ _ _ _ _ D1) r1
    have n13 : q1 ≠ L3 := px_nn (px_lk_old _ _ _ _ _ D1) r2
    refine p_own A3 ?_
    refine p_putF2 rfl fF_TM_40 rfl A3 rfl rfl (by exact Nat.le_of_ble_eq_true rfl) ?_
    refine p_vret rfl rfl ⟨rfl, ad0 G mm q1 L2 L3, ?_, ?_⟩
    · rw [roomOf, if_neg hx]
      exact CR.first (px_lk_same _ _ _ _ A3) (px_keep r4 (px_nek r4 A3 (Nat.ne_of_beq_eq_false rfl))) (px_keep D3 (px_nek D3 A3 (Nat.ne_of_beq_eq_false rfl))) (px_keep r5 (px_nek r5 A3 (Nat.ne_of_beq_eq_false rfl))) (px_keep r6 (px_nek r6 A3 (Nat.ne_of_beq_eq_false rfl))) n12 n13 (fun z => r3 z.symm)
    · refine (((F1.wk (T := fun b => b = o) (fun _ z => z.elim)).tr (px_fr.up (a := o) (e := .inr (0, [.ref q1, .null, .int (-1), .int 1, .int 0, .int 0])) rfl)).tr ?_).tr (px_fr.up (S := fun b => b = o) rfl)
      intro b x hb hx
      exact r7 b x (px_nn hx hm) (px_lk_old _ _ _ _ _ hx)
