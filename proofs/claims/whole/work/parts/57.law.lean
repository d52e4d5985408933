/-! THE LAW: its loop over the calls -/
theorem LSA.keep {G : px_G} {ws w : va_W} {L ar : Nat} {xs : List Nat} (h : LSA G ws L ar xs) (hk : px_kp Kc ws w) : LSA G w L ar xs := by
  obtain ⟨mc, hL, hmode⟩ := h
  exact ⟨mc, hk _ _ hL rfl, hmode.imp id (fun ⟨cap, f, a1, a2⟩ => ⟨cap, f, hk _ _ a1 rfl, a2⟩)⟩
theorem CR.keep {G : px_G} {R : Int32} {ws w : va_W} {o : Nat} {ad : Nat → Nat → Nat} {σ : Md} (h : CR G R ws o ad σ) (hk : px_kp Kc ws w) : CR G R w o ad σ := by
  obtain ⟨h1, h2, ⟨l1, l2, l3⟩, h4, h5, h6⟩ := h
  exact ⟨hk _ _ h1 rfl, hk _ _ h2 rfl, ⟨l1.keep hk, l2.keep hk, l3.keep hk⟩, h4, fun i hi => ⟨hk _ _ (h5 i hi).1 rfl, hk _ _ (h5 i hi).2.1 rfl, hk _ _ (h5 i hi).2.2 rfl⟩, fun x hx => ⟨hk _ _ (h6 x hx).1 rfl, hk _ _ (h6 x hx).2.1 rfl, hk _ _ (h6 x hx).2.2 rfl⟩⟩
theorem Kr_cell (G : px_G) (k : Nat) (f : Nat → Int32) : Kr (rcell G k f) = true := by
  unfold Kr
  rw [rcell_kd]
  rfl
theorem RH.keep {G : px_G} {ws w : va_W} {m : Nat} {aa : Nat → Nat} {fa : Nat → Nat → Int32} {s : Nat → Int32} (h : RH G ws m aa fa s) (hk : px_kp Kr ws w) : RH G w m aa fa s := by
  obtain ⟨h1, h2, h3⟩ := h
  exact ⟨hk _ _ h1 rfl, fun k hl => hk _ _ (h2 k hl) (Kr_cell G k _), h3⟩
theorem RZ.keep {G : px_G} {R : Int32} {q : Nat} {ws w : va_W} {m : Nat} {aa : Nat → Nat} {σ : Md} (h : RZ G R q ws m aa σ) (hk : px_kp Kr ws w) : RZ G R q w m aa σ := by
  obtain ⟨fa, s, a, b⟩ := h
  exact ⟨fa, s, a.keep hk, b⟩
def JJ (G : px_G) (R : Int32) (q : Nat) (ws : va_W) (o m : Nat) (aa : Nat → Nat) (σ : Md) : Prop := (∃ ad, CR G R ws o ad σ) ∧ RZ G R q ws m aa σ ∧ Iv σ
abbrev lvL (G : px_G) (o m : Nat) (x : Int32) : List (Nat × Value) := [(3, .int x), (2, .ref m), (1, .ref o), (0, .ref (g_b G))]
section SLD
variable {G : px_G} {M : px_M} {pc nx d bc bs : Nat} {tg : List Nat} {z : Int32} {lv : List (Nat × Value)} {st : List Value} {ws : va_W} {Q : Option Value → va_W → Prop}
theorem p_sldS {k : Nat} {j : Int32} (ha : px_at M pc = some (.iaload, nx, tg, z)) (hj : j = nI k) (hk : k < g_n G) (hn : g_n G ≤ 2049) (kk : px G M nx lv (.int (g_x G k) :: st) ws d bc bs Q) : px G M pc lv (.int j :: .ref (g_b G) :: st) ws d bc bs Q := by
  subst hj
  refine p_sld ha (vp_in_nI hk (by omega)) ?_
  rw [nI_clamp (by omega)]
  exact kk
end SLD
theorem RZ.mono {G : px_G} {R : Int32} {q : Nat} {ws : va_W} {m : Nat} {aa : Nat → Nat} {σ : Md} (h : RZ G R q ws m aa σ) : RZ G R (q + 1) ws m aa σ := by
  obtain ⟨fa, s, a, b⟩ := h
  exact ⟨fa, s, a, b.mono (Nat.le_succ q)⟩
set_option maxRecDepth 16384 in
set_option maxHeartbeats 4000000 in
theorem lw_code {G : px_G} {d : Nat} {R : Int32} {q : Nat} {ws : va_W} {o m : Nat} {aa : Nat → Nat} {σ : Md} {i bc bs : Nat} {Q : Option Value → va_W → Prop} (hJ : JJ G R q ws o m aa σ) (hqb : q < 100000) (hN : g_n G ≤ 2049) (hi : i + 3 < g_n G) (K : ∀ (w : va_W) (σ : Md), JJ G R (q + 1) w o m aa σ → px G m_Lw_law 542 (lvL G o m (nI i)) [] w (d + 11) bc bs Q) : px G m_Lw_law 112 (lvL G o m (nI i)) [] ws (d + 11) (bc + 4) (bs + 2008) Q := by
  obtain ⟨⟨ad, hC⟩, hZ, hI⟩ := hJ
  refine p_s rfl rfl ?_
  refine p_s rfl rfl ?_
  refine p_s rfl rfl ?_
  refine p_s rfl rfl ?_
  refine p_s rfl rfl ?_
  refine p_sldS (k := i + 1) rfl (nI_add i 1) (by omega) hN ?_
  refine p_s rfl rfl ?_
  refine p_s rfl rfl ?_
  refine p_s rfl rfl ?_
  refine p_s rfl rfl ?_
  refine p_sldS (k := i + 2) rfl (nI_add i 2) (by omega) hN ?_
  refine p_s rfl rfl ?_
  refine p_s rfl rfl ?_
  refine p_s rfl rfl ?_
  refine p_s rfl rfl ?_
  refine p_sldS (k := i + 3) rfl (nI_add i 3) (by omega) hN ?_
  obtain ⟨ans, σ2, hI2, hc, hr⟩ := b_code (d := d) (q := q) (m := m) (aa := aa) hC hI (g_x G (i + 1)) (g_x G (i + 2)) (g_x G (i + 3))
  refine p_callV rfl c_Lw_21 rfl hC.1 g_TM_code rfl rfl rfl (hc) (fun v w hq => ?_)
  obtain ⟨rfl, ad2, hC2, hk1⟩ := hq
  have hZ2 := hZ.keep hk1
  obtain ⟨fa2, s2, hr2, hs2⟩ := id hZ2
  refine p_s rfl rfl ?_
  refine p_s rfl rfl ?_
  refine p_s rfl rfl ?_
  refine p_s rfl rfl ?_
  refine p_s rfl rfl ?_
  refine p_sldS (k := i + 1) rfl (nI_add i 1) (by omega) hN ?_
  refine p_s rfl rfl ?_
  refine p_s rfl rfl ?_
  refine p_s rfl rfl ?_
  refine p_s rfl rfl ?_
  refine p_sldS (k := i + 2) rfl (nI_add i 2) (by omega) hN ?_
  refine p_s rfl rfl ?_
  refine p_s rfl rfl ?_
  refine p_s rfl rfl ?_
  refine p_s rfl rfl ?_
  refine p_sldS (k := i + 3) rfl (nI_add i 3) (by omega) hN ?_
  refine p_callV rfl c_Lw_25 rfl hr2.1 g_Rf_code rfl rfl rfl (hr _ hZ2) (fun v w hq => ?_)
  obtain ⟨rfl, fa3, s3, hr3, hs3, hk3⟩ := hq
  refine p_icmpT rfl rfl ?_
  exact K _ _ ⟨⟨_, hC2.keep hk3⟩, ⟨_, _, hr3, hs3⟩, hI2⟩
set_option maxRecDepth 16384 in
set_option maxHeartbeats 4000000 in
theorem lw_event {G : px_G} {d : Nat} {R : Int32} {q : Nat} {ws : va_W} {o m : Nat} {aa : Nat → Nat} {σ : Md} {i bc bs : Nat} {Q : Option Value → va_W → Prop} (hJ : JJ G R q ws o m aa σ) (hqb : q < 100000) (hN : g_n G ≤ 2049) (hi : i + 3 < g_n G) (K : ∀ (w : va_W) (σ : Md), JJ G R (q + 1) w o m aa σ → px G m_Lw_law 542 (lvL G o m (nI i)) [] w (d + 11) bc bs Q) : px G m_Lw_law 155 (lvL G o m (nI i)) [] ws (d + 11) (bc + 4) (bs + 2008) Q := by
  obtain ⟨⟨ad, hC⟩, hZ, hI⟩ := hJ
  refine p_s rfl rfl ?_
  refine p_s rfl rfl ?_
  refine p_s rfl rfl ?_
  refine p_s rfl rfl ?_
  refine p_s rfl rfl ?_
  refine p_sldS (k := i + 1) rfl (nI_add i 1) (by omega) hN ?_
  refine p_s rfl rfl ?_
  refine p_s rfl rfl ?_
  refine p_s rfl rfl ?_
  refine p_s rfl rfl ?_
  refine p_sldS (k := i + 2) rfl (nI_add i 2) (by omega) hN ?_
  refine p_if rfl (fun c => ?_) (fun c => ?_)
  · simp only [px_cmp] at c
    obtain ⟨ans, σ2, hI2, hc, hr⟩ := b_event (d := d) (q := q) (m := m) (aa := aa) hC hI hqb (g_x G (i + 1)) (0)
    refine p_s rfl rfl ?_
    refine p_callV rfl c_Lw_26 rfl hC.1 g_TM_event rfl rfl rfl (hc) (fun v w hq => ?_)
    obtain ⟨rfl, ad2, hC2, hk1⟩ := hq
    have hZ2 := hZ.keep hk1
    obtain ⟨fa2, s2, hr2, hs2⟩ := id hZ2
    refine p_s rfl rfl ?_
    refine p_s rfl rfl ?_
    refine p_s rfl rfl ?_
    refine p_s rfl rfl ?_
    refine p_s rfl rfl ?_
    refine p_sldS (k := i + 1) rfl (nI_add i 1) (by omega) hN ?_
    refine p_s rfl rfl ?_
    refine p_s rfl rfl ?_
    refine p_s rfl rfl ?_
    refine p_s rfl rfl ?_
    refine p_sldS (k := i + 2) rfl (nI_add i 2) (by omega) hN ?_
    refine p_ifT rfl c ?_
    refine p_s rfl rfl ?_
    refine p_callV rfl c_Lw_30 rfl hr2.1 g_Rf_event rfl rfl rfl (hr _ hZ2) (fun v w hq => ?_)
    obtain ⟨rfl, fa3, s3, hr3, hs3, hk3⟩ := hq
    refine p_icmpT rfl rfl ?_
    exact K _ _ ⟨⟨_, hC2.keep hk3⟩, ⟨_, _, hr3, hs3⟩, hI2⟩
  · simp only [px_ncmp] at c
    obtain ⟨ans, σ2, hI2, hc, hr⟩ := b_event (d := d) (q := q) (m := m) (aa := aa) hC hI hqb (g_x G (i + 1)) (1)
    refine p_s rfl rfl ?_
    refine p_goto rfl ?_
    refine p_callV rfl c_Lw_26 rfl hC.1 g_TM_event rfl rfl rfl (hc) (fun v w hq => ?_)
    obtain ⟨rfl, ad2, hC2, hk1⟩ := hq
    have hZ2 := hZ.keep hk1
    obtain ⟨fa2, s2, hr2, hs2⟩ := id hZ2
    refine p_s rfl rfl ?_
    refine p_s rfl rfl ?_
    refine p_s rfl rfl ?_
    refine p_s rfl rfl ?_
    refine p_s rfl rfl ?_
    refine p_sldS (k := i + 1) rfl (nI_add i 1) (by omega) hN ?_
    refine p_s rfl rfl ?_
    refine p_s rfl rfl ?_
    refine p_s rfl rfl ?_
    refine p_s rfl rfl ?_
    refine p_sldS (k := i + 2) rfl (nI_add i 2) (by omega) hN ?_
    refine p_ifF rfl c ?_
    refine p_s rfl rfl ?_
    refine p_goto rfl ?_
    refine p_callV rfl c_Lw_30 rfl hr2.1 g_Rf_event rfl rfl rfl (hr _ hZ2) (fun v w hq => ?_)
    obtain ⟨rfl, fa3, s3, hr3, hs3, hk3⟩ := hq
    refine p_icmpT rfl rfl ?_
    exact K _ _ ⟨⟨_, hC2.keep hk3⟩, ⟨_, _, hr3, hs3⟩, hI2⟩
set_option maxRecDepth 16384 in
set_option maxHeartbeats 4000000 in
theorem lw_cycle {G : px_G} {d : Nat} {R : Int32} {q : Nat} {ws : va_W} {o m : Nat} {aa : Nat → Nat} {σ : Md} {i bc bs : Nat} {Q : Option Value → va_W → Prop} (hJ : JJ G R q ws o m aa σ) (hqb : q < 100000) (hN : g_n G ≤ 2049) (hi : i + 3 < g_n G) (K : ∀ (w : va_W) (σ : Md), JJ G R (q + 1) w o m aa σ → px G m_Lw_law 542 (lvL G o m (nI i)) [] w (d + 11) bc bs Q) : px G m_Lw_law 204 (lvL G o m (nI i)) [] ws (d + 11) (bc + 4) (bs + 2008) Q := by
  obtain ⟨⟨ad, hC⟩, hZ, hI⟩ := hJ
  refine p_s rfl rfl ?_
  refine p_s rfl rfl ?_
  refine p_s rfl rfl ?_
  refine p_s rfl rfl ?_
  refine p_s rfl rfl ?_
  refine p_sldS (k := i + 1) rfl (nI_add i 1) (by omega) hN ?_
  refine p_if rfl (fun c => ?_) (fun c => ?_)
  · simp only [px_cmp] at c
    obtain ⟨ans, σ2, hI2, hc, hr⟩ := b_cycle (d := d) (q := q) (m := m) (aa := aa) hC hI (0)
    refine p_s rfl rfl ?_
    refine p_callV rfl c_Lw_31 rfl hC.1 g_TM_cycle rfl rfl rfl (hc) (fun v w hq => ?_)
    obtain ⟨rfl, ad2, hC2, hk1⟩ := hq
    have hZ2 := hZ.keep hk1
    obtain ⟨fa2, s2, hr2, hs2⟩ := id hZ2
    refine p_s rfl rfl ?_
    refine p_s rfl rfl ?_
    refine p_s rfl rfl ?_
    refine p_s rfl rfl ?_
    refine p_s rfl rfl ?_
    refine p_sldS (k := i + 1) rfl (nI_add i 1) (by omega) hN ?_
    refine p_ifT rfl c ?_
    refine p_s rfl rfl ?_
    refine p_callV rfl c_Lw_35 rfl hr2.1 g_Rf_cycle rfl rfl rfl (hr _ hZ2) (fun v w hq => ?_)
    obtain ⟨rfl, fa3, s3, hr3, hs3, hk3⟩ := hq
    refine p_icmpT rfl rfl ?_
    exact K _ _ ⟨⟨_, hC2.keep hk3⟩, ⟨_, _, hr3, hs3⟩, hI2⟩
  · simp only [px_ncmp] at c
    obtain ⟨ans, σ2, hI2, hc, hr⟩ := b_cycle (d := d) (q := q) (m := m) (aa := aa) hC hI (1)
    refine p_s rfl rfl ?_
    refine p_goto rfl ?_
    refine p_callV rfl c_Lw_31 rfl hC.1 g_TM_cycle rfl rfl rfl (hc) (fun v w hq => ?_)
    obtain ⟨rfl, ad2, hC2, hk1⟩ := hq
    have hZ2 := hZ.keep hk1
    obtain ⟨fa2, s2, hr2, hs2⟩ := id hZ2
    refine p_s rfl rfl ?_
    refine p_s rfl rfl ?_
    refine p_s rfl rfl ?_
    refine p_s rfl rfl ?_
    refine p_s rfl rfl ?_
    refine p_sldS (k := i + 1) rfl (nI_add i 1) (by omega) hN ?_
    refine p_ifF rfl c ?_
    refine p_s rfl rfl ?_
    refine p_goto rfl ?_
    refine p_callV rfl c_Lw_35 rfl hr2.1 g_Rf_cycle rfl rfl rfl (hr _ hZ2) (fun v w hq => ?_)
    obtain ⟨rfl, fa3, s3, hr3, hs3, hk3⟩ := hq
    refine p_icmpT rfl rfl ?_
    exact K _ _ ⟨⟨_, hC2.keep hk3⟩, ⟨_, _, hr3, hs3⟩, hI2⟩
set_option maxRecDepth 16384 in
set_option maxHeartbeats 4000000 in
theorem lw_status {G : px_G} {d : Nat} {R : Int32} {q : Nat} {ws : va_W} {o m : Nat} {aa : Nat → Nat} {σ : Md} {i bc bs : Nat} {Q : Option Value → va_W → Prop} (hJ : JJ G R q ws o m aa σ) (hqb : q < 100000) (hN : g_n G ≤ 2049) (hi : i + 3 < g_n G) (K : ∀ (w : va_W) (σ : Md), JJ G R (q + 1) w o m aa σ → px G m_Lw_law 542 (lvL G o m (nI i)) [] w (d + 11) bc bs Q) : px G m_Lw_law 243 (lvL G o m (nI i)) [] ws (d + 11) (bc + 4) (bs + 2008) Q := by
  obtain ⟨⟨ad, hC⟩, hZ, hI⟩ := hJ
  refine p_s rfl rfl ?_
  refine p_s rfl rfl ?_
  refine p_s rfl rfl ?_
  refine p_s rfl rfl ?_
  refine p_s rfl rfl ?_
  refine p_sldS (k := i + 1) rfl (nI_add i 1) (by omega) hN ?_
  obtain ⟨ans, σ2, hI2, hc, hr⟩ := b_status (d := d) (q := q) (m := m) (aa := aa) hC hI (g_x G (i + 1))
  refine p_callV rfl c_Lw_36 rfl hC.1 g_TM_status rfl rfl rfl (hc) (fun v w hq => ?_)
  obtain ⟨rfl, ad2, hC2, hk1⟩ := hq
  have hZ2 := hZ.keep hk1
  obtain ⟨fa2, s2, hr2, hs2⟩ := id hZ2
  refine p_s rfl rfl ?_
  refine p_s rfl rfl ?_
  refine p_s rfl rfl ?_
  refine p_s rfl rfl ?_
  refine p_s rfl rfl ?_
  refine p_sldS (k := i + 1) rfl (nI_add i 1) (by omega) hN ?_
  refine p_callV rfl c_Lw_40 rfl hr2.1 g_Rf_status rfl rfl rfl (hr _ hZ2) (fun v w hq => ?_)
  obtain ⟨rfl, fa3, s3, hr3, hs3, hk3⟩ := hq
  refine p_icmpT rfl rfl ?_
  exact K _ _ ⟨⟨_, hC2.keep hk3⟩, ⟨_, _, hr3, hs3⟩, hI2⟩
set_option maxRecDepth 16384 in
set_option maxHeartbeats 4000000 in
theorem lw_snapshot {G : px_G} {d : Nat} {R : Int32} {q : Nat} {ws : va_W} {o m : Nat} {aa : Nat → Nat} {σ : Md} {i bc bs : Nat} {Q : Option Value → va_W → Prop} (hJ : JJ G R q ws o m aa σ) (hqb : q < 100000) (hN : g_n G ≤ 2049) (hi : i + 3 < g_n G) (K : ∀ (w : va_W) (σ : Md), JJ G R (q + 1) w o m aa σ → px G m_Lw_law 542 (lvL G o m (nI i)) [] w (d + 11) bc bs Q) : px G m_Lw_law 266 (lvL G o m (nI i)) [] ws (d + 11) (bc + 4) (bs + 2008) Q := by
  obtain ⟨⟨ad, hC⟩, hZ, hI⟩ := hJ
  refine p_s rfl rfl ?_
  refine p_s rfl rfl ?_
  refine p_s rfl rfl ?_
  refine p_s rfl rfl ?_
  refine p_s rfl rfl ?_
  refine p_sldS (k := i + 1) rfl (nI_add i 1) (by omega) hN ?_
  refine p_s rfl rfl ?_
  refine p_s rfl rfl ?_
  refine p_s rfl rfl ?_
  refine p_s rfl rfl ?_
  refine p_sldS (k := i + 2) rfl (nI_add i 2) (by omega) hN ?_
  refine p_s rfl rfl ?_
  refine p_s rfl rfl ?_
  refine p_s rfl rfl ?_
  refine p_s rfl rfl ?_
  refine p_sldS (k := i + 3) rfl (nI_add i 3) (by omega) hN ?_
  obtain ⟨ans, σ2, hI2, hc, hr⟩ := b_snapshot (d := d) (q := q) (m := m) (aa := aa) hC hI hqb (g_x G (i + 1)) (g_x G (i + 2)) (g_x G (i + 3))
  refine p_callV rfl c_Lw_41 rfl hC.1 g_TM_snapshot rfl rfl rfl (hc) (fun v w hq => ?_)
  obtain ⟨rfl, ad2, hC2, hk1⟩ := hq
  have hZ2 := hZ.keep hk1
  obtain ⟨fa2, s2, hr2, hs2⟩ := id hZ2
  refine p_s rfl rfl ?_
  refine p_s rfl rfl ?_
  refine p_s rfl rfl ?_
  refine p_s rfl rfl ?_
  refine p_s rfl rfl ?_
  refine p_sldS (k := i + 1) rfl (nI_add i 1) (by omega) hN ?_
  refine p_s rfl rfl ?_
  refine p_s rfl rfl ?_
  refine p_s rfl rfl ?_
  refine p_s rfl rfl ?_
  refine p_sldS (k := i + 2) rfl (nI_add i 2) (by omega) hN ?_
  refine p_s rfl rfl ?_
  refine p_s rfl rfl ?_
  refine p_s rfl rfl ?_
  refine p_s rfl rfl ?_
  refine p_sldS (k := i + 3) rfl (nI_add i 3) (by omega) hN ?_
  refine p_callV rfl c_Lw_44 rfl hr2.1 g_Rf_snapshot rfl rfl rfl (hr _ hZ2) (fun v w hq => ?_)
  obtain ⟨rfl, fa3, s3, hr3, hs3, hk3⟩ := hq
  refine p_icmpT rfl rfl ?_
  exact K _ _ ⟨⟨_, hC2.keep hk3⟩, ⟨_, _, hr3, hs3⟩, hI2⟩
set_option maxRecDepth 16384 in
set_option maxHeartbeats 4000000 in
theorem lw_clear {G : px_G} {d : Nat} {R : Int32} {q : Nat} {ws : va_W} {o m : Nat} {aa : Nat → Nat} {σ : Md} {i bc bs : Nat} {Q : Option Value → va_W → Prop} (hJ : JJ G R q ws o m aa σ) (hqb : q < 100000) (hN : g_n G ≤ 2049) (hi : i + 3 < g_n G) (K : ∀ (w : va_W) (σ : Md), JJ G R (q + 1) w o m aa σ → px G m_Lw_law 542 (lvL G o m (nI i)) [] w (d + 11) bc bs Q) : px G m_Lw_law 309 (lvL G o m (nI i)) [] ws (d + 11) (bc + 4) (bs + 2008) Q := by
  obtain ⟨⟨ad, hC⟩, hZ, hI⟩ := hJ
  refine p_s rfl rfl ?_
  refine p_s rfl rfl ?_
  refine p_s rfl rfl ?_
  refine p_s rfl rfl ?_
  refine p_s rfl rfl ?_
  refine p_sldS (k := i + 1) rfl (nI_add i 1) (by omega) hN ?_
  obtain ⟨ans, σ2, hI2, hc, hr⟩ := b_clear (d := d) (q := q) (m := m) (aa := aa) hC hI (g_x G (i + 1))
  refine p_callV rfl c_Lw_45 rfl hC.1 g_TM_clear rfl rfl rfl (hc) (fun v w hq => ?_)
  obtain ⟨rfl, ad2, hC2, hk1⟩ := hq
  have hZ2 := hZ.keep hk1
  obtain ⟨fa2, s2, hr2, hs2⟩ := id hZ2
  refine p_s rfl rfl ?_
  refine p_s rfl rfl ?_
  refine p_s rfl rfl ?_
  refine p_s rfl rfl ?_
  refine p_s rfl rfl ?_
  refine p_sldS (k := i + 1) rfl (nI_add i 1) (by omega) hN ?_
  refine p_callV rfl c_Lw_48 rfl hr2.1 g_Rf_clear rfl rfl rfl (hr _ hZ2) (fun v w hq => ?_)
  obtain ⟨rfl, fa3, s3, hr3, hs3, hk3⟩ := hq
  refine p_icmpT rfl rfl ?_
  exact K _ _ ⟨⟨_, hC2.keep hk3⟩, ⟨_, _, hr3, hs3⟩, hI2⟩
set_option maxRecDepth 16384 in
set_option maxHeartbeats 4000000 in
theorem lw_parent {G : px_G} {d : Nat} {R : Int32} {q : Nat} {ws : va_W} {o m : Nat} {aa : Nat → Nat} {σ : Md} {i bc bs : Nat} {Q : Option Value → va_W → Prop} (hJ : JJ G R q ws o m aa σ) (hqb : q < 100000) (hN : g_n G ≤ 2049) (hi : i + 3 < g_n G) (K : ∀ (w : va_W) (σ : Md), JJ G R (q + 1) w o m aa σ → px G m_Lw_law 542 (lvL G o m (nI i)) [] w (d + 11) bc bs Q) : px G m_Lw_law 332 (lvL G o m (nI i)) [] ws (d + 11) (bc + 4) (bs + 2008) Q := by
  obtain ⟨⟨ad, hC⟩, hZ, hI⟩ := hJ
  refine p_s rfl rfl ?_
  refine p_s rfl rfl ?_
  refine p_s rfl rfl ?_
  refine p_s rfl rfl ?_
  refine p_s rfl rfl ?_
  refine p_sldS (k := i + 1) rfl (nI_add i 1) (by omega) hN ?_
  refine p_s rfl rfl ?_
  refine p_s rfl rfl ?_
  refine p_s rfl rfl ?_
  refine p_s rfl rfl ?_
  refine p_sldS (k := i + 2) rfl (nI_add i 2) (by omega) hN ?_
  obtain ⟨ans, σ2, hI2, hc, hr⟩ := b_parent (d := d) (q := q) (m := m) (aa := aa) hC hI (g_x G (i + 1)) (g_x G (i + 2))
  refine p_callV rfl c_Lw_49 rfl hC.1 g_TM_parent rfl rfl rfl (hc) (fun v w hq => ?_)
  obtain ⟨rfl, ad2, hC2, hk1⟩ := hq
  have hZ2 := hZ.keep hk1
  obtain ⟨fa2, s2, hr2, hs2⟩ := id hZ2
  refine p_s rfl rfl ?_
  refine p_s rfl rfl ?_
  refine p_s rfl rfl ?_
  refine p_s rfl rfl ?_
  refine p_s rfl rfl ?_
  refine p_sldS (k := i + 1) rfl (nI_add i 1) (by omega) hN ?_
  refine p_s rfl rfl ?_
  refine p_s rfl rfl ?_
  refine p_s rfl rfl ?_
  refine p_s rfl rfl ?_
  refine p_sldS (k := i + 2) rfl (nI_add i 2) (by omega) hN ?_
  refine p_callV rfl c_Lw_53 rfl hr2.1 g_Rf_parent rfl rfl rfl (hr _ hZ2) (fun v w hq => ?_)
  obtain ⟨rfl, fa3, s3, hr3, hs3, hk3⟩ := hq
  refine p_icmpT rfl rfl ?_
  exact K _ _ ⟨⟨_, hC2.keep hk3⟩, ⟨_, _, hr3, hs3⟩, hI2⟩
set_option maxRecDepth 16384 in
set_option maxHeartbeats 4000000 in
theorem lw_enable {G : px_G} {d : Nat} {R : Int32} {q : Nat} {ws : va_W} {o m : Nat} {aa : Nat → Nat} {σ : Md} {i bc bs : Nat} {Q : Option Value → va_W → Prop} (hJ : JJ G R q ws o m aa σ) (hqb : q < 100000) (hN : g_n G ≤ 2049) (hi : i + 3 < g_n G) (K : ∀ (w : va_W) (σ : Md), JJ G R (q + 1) w o m aa σ → px G m_Lw_law 542 (lvL G o m (nI i)) [] w (d + 11) bc bs Q) : px G m_Lw_law 365 (lvL G o m (nI i)) [] ws (d + 11) (bc + 4) (bs + 2008) Q := by
  obtain ⟨⟨ad, hC⟩, hZ, hI⟩ := hJ
  refine p_s rfl rfl ?_
  refine p_s rfl rfl ?_
  refine p_s rfl rfl ?_
  refine p_s rfl rfl ?_
  refine p_s rfl rfl ?_
  refine p_sldS (k := i + 1) rfl (nI_add i 1) (by omega) hN ?_
  refine p_s rfl rfl ?_
  refine p_s rfl rfl ?_
  refine p_s rfl rfl ?_
  refine p_s rfl rfl ?_
  refine p_sldS (k := i + 2) rfl (nI_add i 2) (by omega) hN ?_
  refine p_if rfl (fun c => ?_) (fun c => ?_)
  · simp only [px_cmp] at c
    obtain ⟨ans, σ2, hI2, hc, hr⟩ := b_enable (d := d) (q := q) (m := m) (aa := aa) hC hI (g_x G (i + 1)) (0)
    refine p_s rfl rfl ?_
    refine p_callV rfl c_Lw_54 rfl hC.1 g_TM_enable rfl rfl rfl (hc) (fun v w hq => ?_)
    obtain ⟨rfl, ad2, hC2, hk1⟩ := hq
    have hZ2 := hZ.keep hk1
    obtain ⟨fa2, s2, hr2, hs2⟩ := id hZ2
    refine p_s rfl rfl ?_
    refine p_s rfl rfl ?_
    refine p_s rfl rfl ?_
    refine p_s rfl rfl ?_
    refine p_s rfl rfl ?_
    refine p_sldS (k := i + 1) rfl (nI_add i 1) (by omega) hN ?_
    refine p_s rfl rfl ?_
    refine p_s rfl rfl ?_
    refine p_s rfl rfl ?_
    refine p_s rfl rfl ?_
    refine p_sldS (k := i + 2) rfl (nI_add i 2) (by omega) hN ?_
    refine p_ifT rfl c ?_
    refine p_s rfl rfl ?_
    refine p_callV rfl c_Lw_57 rfl hr2.1 g_Rf_enable rfl rfl rfl (hr _ hZ2) (fun v w hq => ?_)
    obtain ⟨rfl, fa3, s3, hr3, hs3, hk3⟩ := hq
    refine p_icmpT rfl rfl ?_
    exact K _ _ ⟨⟨_, hC2.keep hk3⟩, ⟨_, _, hr3, hs3⟩, hI2⟩
  · simp only [px_ncmp] at c
    obtain ⟨ans, σ2, hI2, hc, hr⟩ := b_enable (d := d) (q := q) (m := m) (aa := aa) hC hI (g_x G (i + 1)) (1)
    refine p_s rfl rfl ?_
    refine p_goto rfl ?_
    refine p_callV rfl c_Lw_54 rfl hC.1 g_TM_enable rfl rfl rfl (hc) (fun v w hq => ?_)
    obtain ⟨rfl, ad2, hC2, hk1⟩ := hq
    have hZ2 := hZ.keep hk1
    obtain ⟨fa2, s2, hr2, hs2⟩ := id hZ2
    refine p_s rfl rfl ?_
    refine p_s rfl rfl ?_
    refine p_s rfl rfl ?_
    refine p_s rfl rfl ?_
    refine p_s rfl rfl ?_
    refine p_sldS (k := i + 1) rfl (nI_add i 1) (by omega) hN ?_
    refine p_s rfl rfl ?_
    refine p_s rfl rfl ?_
    refine p_s rfl rfl ?_
    refine p_s rfl rfl ?_
    refine p_sldS (k := i + 2) rfl (nI_add i 2) (by omega) hN ?_
    refine p_ifF rfl c ?_
    refine p_s rfl rfl ?_
    refine p_goto rfl ?_
    refine p_callV rfl c_Lw_57 rfl hr2.1 g_Rf_enable rfl rfl rfl (hr _ hZ2) (fun v w hq => ?_)
    obtain ⟨rfl, fa3, s3, hr3, hs3, hk3⟩ := hq
    refine p_icmpT rfl rfl ?_
    exact K _ _ ⟨⟨_, hC2.keep hk3⟩, ⟨_, _, hr3, hs3⟩, hI2⟩
set_option maxRecDepth 16384 in
set_option maxHeartbeats 4000000 in
theorem lw_lamp {G : px_G} {d : Nat} {R : Int32} {q : Nat} {ws : va_W} {o m : Nat} {aa : Nat → Nat} {σ : Md} {i bc bs : Nat} {Q : Option Value → va_W → Prop} (hJ : JJ G R q ws o m aa σ) (hqb : q < 100000) (hN : g_n G ≤ 2049) (hi : i + 3 < g_n G) (K : ∀ (w : va_W) (σ : Md), JJ G R (q + 1) w o m aa σ → px G m_Lw_law 542 (lvL G o m (nI i)) [] w (d + 11) bc bs Q) : px G m_Lw_law 414 (lvL G o m (nI i)) [] ws (d + 11) (bc + 4) (bs + 2008) Q := by
  obtain ⟨⟨ad, hC⟩, hZ, hI⟩ := hJ
  refine p_s rfl rfl ?_
  refine p_s rfl rfl ?_
  refine p_s rfl rfl ?_
  refine p_s rfl rfl ?_
  refine p_s rfl rfl ?_
  refine p_sldS (k := i + 1) rfl (nI_add i 1) (by omega) hN ?_
  obtain ⟨ans, σ2, hI2, hc, hr⟩ := b_lamp (d := d) (q := q) (m := m) (aa := aa) hC hI (g_x G (i + 1))
  refine p_callV rfl c_Lw_58 rfl hC.1 g_TM_lamp rfl rfl rfl (hc) (fun v w hq => ?_)
  obtain ⟨rfl, ad2, hC2, hk1⟩ := hq
  have hZ2 := hZ.keep hk1
  obtain ⟨fa2, s2, hr2, hs2⟩ := id hZ2
  refine p_s rfl rfl ?_
  refine p_s rfl rfl ?_
  refine p_s rfl rfl ?_
  refine p_s rfl rfl ?_
  refine p_s rfl rfl ?_
  refine p_sldS (k := i + 1) rfl (nI_add i 1) (by omega) hN ?_
  refine p_callV rfl c_Lw_61 rfl hr2.1 g_Rf_lamp rfl rfl rfl (hr _ hZ2) (fun v w hq => ?_)
  obtain ⟨rfl, fa3, s3, hr3, hs3, hk3⟩ := hq
  refine p_icmpT rfl rfl ?_
  exact K _ _ ⟨⟨_, hC2.keep hk3⟩, ⟨_, _, hr3, hs3⟩, hI2⟩
set_option maxRecDepth 16384 in
set_option maxHeartbeats 4000000 in
theorem lw_stored {G : px_G} {d : Nat} {R : Int32} {q : Nat} {ws : va_W} {o m : Nat} {aa : Nat → Nat} {σ : Md} {i bc bs : Nat} {Q : Option Value → va_W → Prop} (hJ : JJ G R q ws o m aa σ) (hqb : q < 100000) (hN : g_n G ≤ 2049) (hi : i + 3 < g_n G) (K : ∀ (w : va_W) (σ : Md), JJ G R (q + 1) w o m aa σ → px G m_Lw_law 542 (lvL G o m (nI i)) [] w (d + 11) bc bs Q) : px G m_Lw_law 437 (lvL G o m (nI i)) [] ws (d + 11) (bc + 4) (bs + 2008) Q := by
  obtain ⟨⟨ad, hC⟩, hZ, hI⟩ := hJ
  refine p_s rfl rfl ?_
  refine p_s rfl rfl ?_
  refine p_s rfl rfl ?_
  refine p_s rfl rfl ?_
  refine p_s rfl rfl ?_
  refine p_sldS (k := i + 1) rfl (nI_add i 1) (by omega) hN ?_
  refine p_s rfl rfl ?_
  refine p_s rfl rfl ?_
  refine p_s rfl rfl ?_
  refine p_s rfl rfl ?_
  refine p_sldS (k := i + 2) rfl (nI_add i 2) (by omega) hN ?_
  obtain ⟨ans, σ2, hI2, hc, hr⟩ := b_stored (d := d) (q := q) (m := m) (aa := aa) hC hI hqb (g_x G (i + 1)) (g_x G (i + 2))
  refine p_callV rfl c_Lw_62 rfl hC.1 g_TM_stored rfl rfl rfl (hc) (fun v w hq => ?_)
  obtain ⟨rfl, ad2, hC2, hk1⟩ := hq
  have hZ2 := hZ.keep hk1
  obtain ⟨fa2, s2, hr2, hs2⟩ := id hZ2
  refine p_s rfl rfl ?_
  refine p_s rfl rfl ?_
  refine p_s rfl rfl ?_
  refine p_s rfl rfl ?_
  refine p_s rfl rfl ?_
  refine p_sldS (k := i + 1) rfl (nI_add i 1) (by omega) hN ?_
  refine p_s rfl rfl ?_
  refine p_s rfl rfl ?_
  refine p_s rfl rfl ?_
  refine p_s rfl rfl ?_
  refine p_sldS (k := i + 2) rfl (nI_add i 2) (by omega) hN ?_
  refine p_callV rfl c_Lw_65 rfl hr2.1 g_Rf_stored rfl rfl rfl (hr _ hZ2) (fun v w hq => ?_)
  obtain ⟨rfl, fa3, s3, hr3, hs3, hk3⟩ := hq
  refine p_icmpT rfl rfl ?_
  exact K _ _ ⟨⟨_, hC2.keep hk3⟩, ⟨_, _, hr3, hs3⟩, hI2⟩
set_option maxRecDepth 16384 in
set_option maxHeartbeats 4000000 in
theorem lw_cut {G : px_G} {d : Nat} {R : Int32} {q : Nat} {ws : va_W} {o m : Nat} {aa : Nat → Nat} {σ : Md} {i bc bs : Nat} {Q : Option Value → va_W → Prop} (hJ : JJ G R q ws o m aa σ) (hqb : q < 100000) (hN : g_n G ≤ 2049) (hi : i + 3 < g_n G) (K : ∀ (w : va_W) (σ : Md), JJ G R (q + 1) w o m aa σ → px G m_Lw_law 542 (lvL G o m (nI i)) [] w (d + 11) bc bs Q) : px G m_Lw_law 470 (lvL G o m (nI i)) [] ws (d + 11) (bc + 4) (bs + 2008) Q := by
  obtain ⟨⟨ad, hC⟩, hZ, hI⟩ := hJ
  obtain ⟨ans, σ2, hI2, hc, hr⟩ := b_cut (d := d) (q := q) (m := m) (aa := aa) hC hI hqb 
  refine p_s rfl rfl ?_
  refine p_callV rfl c_Lw_66 rfl hC.1 g_TM_cut rfl rfl rfl (hc) (fun v w hq => ?_)
  obtain ⟨rfl, ad2, hC2, hk1⟩ := hq
  have hZ2 := hZ.keep hk1
  obtain ⟨fa2, s2, hr2, hs2⟩ := id hZ2
  refine p_s rfl rfl ?_
  refine p_callV rfl c_Lw_70 rfl hr2.1 g_Rf_cut rfl rfl rfl (hr _ hZ2) (fun v w hq => ?_)
  obtain ⟨rfl, fa3, s3, hr3, hs3, hk3⟩ := hq
  refine p_icmpT rfl rfl ?_
  exact K _ _ ⟨⟨_, hC2.keep hk3⟩, ⟨_, _, hr3, hs3⟩, hI2⟩
set_option maxRecDepth 16384 in
set_option maxHeartbeats 4000000 in
theorem lw_start {G : px_G} {d : Nat} {R : Int32} {q : Nat} {ws : va_W} {o m : Nat} {aa : Nat → Nat} {σ : Md} {i bc bs : Nat} {Q : Option Value → va_W → Prop} (hJ : JJ G R q ws o m aa σ) (hqb : q < 100000) (hN : g_n G ≤ 2049) (hi : i + 3 < g_n G) (K : ∀ (w : va_W) (σ : Md), JJ G R (q + 1) w o m aa σ → px G m_Lw_law 542 (lvL G o m (nI i)) [] w (d + 11) bc bs Q) : px G m_Lw_law 483 (lvL G o m (nI i)) [] ws (d + 11) (bc + 4) (bs + 2008) Q := by
  obtain ⟨⟨ad, hC⟩, hZ, hI⟩ := hJ
  obtain ⟨ans, σ2, hI2, hc, hr⟩ := b_start (d := d) (q := q) (m := m) (aa := aa) hC hI hqb 
  refine p_s rfl rfl ?_
  refine p_callV rfl c_Lw_71 rfl hC.1 g_TM_start rfl rfl rfl (hc) (fun v w hq => ?_)
  obtain ⟨rfl, ad2, hC2, hk1⟩ := hq
  have hZ2 := hZ.keep hk1
  obtain ⟨fa2, s2, hr2, hs2⟩ := id hZ2
  refine p_s rfl rfl ?_
  refine p_callV rfl c_Lw_74 rfl hr2.1 g_Rf_start rfl rfl rfl (hr _ hZ2) (fun v w hq => ?_)
  obtain ⟨rfl, fa3, s3, hr3, hs3, hk3⟩ := hq
  refine p_icmpT rfl rfl ?_
  exact K _ _ ⟨⟨_, hC2.keep hk3⟩, ⟨_, _, hr3, hs3⟩, hI2⟩
set_option maxRecDepth 16384 in
set_option maxHeartbeats 4000000 in
theorem lw_displaced {G : px_G} {d : Nat} {R : Int32} {q : Nat} {ws : va_W} {o m : Nat} {aa : Nat → Nat} {σ : Md} {i bc bs : Nat} {Q : Option Value → va_W → Prop} (hJ : JJ G R q ws o m aa σ) (hqb : q < 100000) (hN : g_n G ≤ 2049) (hi : i + 3 < g_n G) (K : ∀ (w : va_W) (σ : Md), JJ G R (q + 1) w o m aa σ → px G m_Lw_law 542 (lvL G o m (nI i)) [] w (d + 11) bc bs Q) : px G m_Lw_law 496 (lvL G o m (nI i)) [] ws (d + 11) (bc + 4) (bs + 2008) Q := by
  obtain ⟨⟨ad, hC⟩, hZ, hI⟩ := hJ
  refine p_s rfl rfl ?_
  refine p_s rfl rfl ?_
  refine p_s rfl rfl ?_
  refine p_s rfl rfl ?_
  refine p_s rfl rfl ?_
  refine p_sldS (k := i + 1) rfl (nI_add i 1) (by omega) hN ?_
  obtain ⟨ans, σ2, hI2, hc, hr⟩ := b_displaced (d := d) (q := q) (m := m) (aa := aa) hC hI (g_x G (i + 1))
  refine p_callV rfl c_Lw_75 rfl hC.1 g_TM_displaced rfl rfl rfl (hc) (fun v w hq => ?_)
  obtain ⟨rfl, ad2, hC2, hk1⟩ := hq
  have hZ2 := hZ.keep hk1
  obtain ⟨fa2, s2, hr2, hs2⟩ := id hZ2
  refine p_s rfl rfl ?_
  refine p_s rfl rfl ?_
  refine p_s rfl rfl ?_
  refine p_s rfl rfl ?_
  refine p_s rfl rfl ?_
  refine p_sldS (k := i + 1) rfl (nI_add i 1) (by omega) hN ?_
  refine p_callV rfl c_Lw_78 rfl hr2.1 g_Rf_displaced rfl rfl rfl (hr _ hZ2) (fun v w hq => ?_)
  obtain ⟨rfl, fa3, s3, hr3, hs3, hk3⟩ := hq
  refine p_icmpT rfl rfl ?_
  exact K _ _ ⟨⟨_, hC2.keep hk3⟩, ⟨_, _, hr3, hs3⟩, hI2⟩
set_option maxRecDepth 16384 in
set_option maxHeartbeats 4000000 in
theorem lw_age {G : px_G} {d : Nat} {R : Int32} {q : Nat} {ws : va_W} {o m : Nat} {aa : Nat → Nat} {σ : Md} {i bc bs : Nat} {Q : Option Value → va_W → Prop} (hJ : JJ G R q ws o m aa σ) (hqb : q < 100000) (hN : g_n G ≤ 2049) (hi : i + 3 < g_n G) (K : ∀ (w : va_W) (σ : Md), JJ G R (q + 1) w o m aa σ → px G m_Lw_law 542 (lvL G o m (nI i)) [] w (d + 11) bc bs Q) : px G m_Lw_law 519 (lvL G o m (nI i)) [] ws (d + 11) (bc + 4) (bs + 2008) Q := by
  obtain ⟨⟨ad, hC⟩, hZ, hI⟩ := hJ
  refine p_s rfl rfl ?_
  refine p_s rfl rfl ?_
  refine p_s rfl rfl ?_
  refine p_s rfl rfl ?_
  refine p_s rfl rfl ?_
  refine p_sldS (k := i + 1) rfl (nI_add i 1) (by omega) hN ?_
  obtain ⟨ans, σ2, hI2, hc, hr⟩ := b_age (d := d) (q := q) (m := m) (aa := aa) hC hI (g_x G (i + 1))
  refine p_callV rfl c_Lw_79 rfl hC.1 g_TM_age rfl rfl rfl (hc) (fun v w hq => ?_)
  obtain ⟨rfl, ad2, hC2, hk1⟩ := hq
  have hZ2 := hZ.keep hk1
  obtain ⟨fa2, s2, hr2, hs2⟩ := id hZ2
  refine p_s rfl rfl ?_
  refine p_s rfl rfl ?_
  refine p_s rfl rfl ?_
  refine p_s rfl rfl ?_
  refine p_s rfl rfl ?_
  refine p_sldS (k := i + 1) rfl (nI_add i 1) (by omega) hN ?_
  refine p_callV rfl c_Lw_82 rfl hr2.1 g_Rf_age rfl rfl rfl (hr _ hZ2) (fun v w hq => ?_)
  obtain ⟨rfl, fa3, s3, hr3, hs3, hk3⟩ := hq
  refine p_icmpT rfl rfl ?_
  exact K _ _ ⟨⟨_, hC2.keep hk3⟩, ⟨_, _, hr3, hs3⟩, hI2⟩
theorem and15 (x : Int32) : ∃ k, k < 16 ∧ x &&& 15 = nI k := by
  have h : uN (x &&& 15) ≤ 15 := by
    rw [uN_and]
    exact Nat.and_le_right
  refine ⟨uN (x &&& 15), by omega, ?_⟩
  apply z_inj
  apply BitVec.eq_of_toNat_eq
  show uN (x &&& 15) = (Int32.ofNat (uN (x &&& 15))).toBitVec.toNat
  rw [Int32.toBitVec_ofNat', BitVec.toNat_ofNat]
  omega
theorem lw_gt {n i : Nat} (hn : n ≤ 2049) (hi : i ≤ 5000) : nI n - 4 < nI i ↔ n < i + 4 := by
  have e4 : (4 : Int32).toInt = 4 := rfl
  have en : (nI n).toInt = (n : Int) := nI_toInt (by omega)
  have ei : (nI i).toInt = (i : Int) := nI_toInt (by omega)
  have es : (nI n - 4).toInt = (n : Int) - 4 := by
    rw [z_sub (by rw [en, e4]; omega) (by rw [en, e4]; omega), en, e4]
  rw [z_lt, es, ei]
  omega
set_option maxRecDepth 16384 in
set_option maxHeartbeats 4000000 in
theorem lw_loop {G : px_G} {d : Nat} {R : Int32} {o m : Nat} {aa : Nat → Nat} (hN : g_n G ≤ 2049) : ∀ (c i q : Nat) (ws : va_W) (σ : Md), JJ G R q ws o m aa σ → q + c ≤ 600 → i ≤ g_n G + 4 → g_n G < i + 4 + 4 * c → px G m_Lw_law 28 (lvL G o m (nI i)) [] ws (d + 11) (4 * c) (2008 * c) (fun v _ => v = some (.int 1)) := by
  intro c
  induction c with
  | zero =>
    intro i q ws σ hJ hqc hi hlt
    refine p_s rfl rfl ?_
    refine p_s rfl rfl ?_
    refine p_slen rfl ?_
    refine p_s rfl rfl ?_
    refine p_s rfl rfl ?_
    refine p_icmpT rfl ((lw_gt hN (by omega)).mpr (by omega)) ?_
    refine p_s rfl rfl ?_
    exact p_iret rfl rfl rfl rfl
  | succ c ih =>
    intro i q ws σ hJ hqc hi hlt
    by_cases hx : g_n G < i + 4
    · skip
      refine p_s rfl rfl ?_
      refine p_s rfl rfl ?_
      refine p_slen rfl ?_
      refine p_s rfl rfl ?_
      refine p_s rfl rfl ?_
      refine p_icmpT rfl ((lw_gt hN (by omega)).mpr hx) ?_
      refine p_s rfl rfl ?_
      exact p_iret rfl rfl rfl rfl
    · have hi3 : i + 3 < g_n G := by omega
      have hqb : q < 100000 := by omega
      have K : ∀ (w : va_W) (σ : Md), JJ G R (q + 1) w o m aa σ → px G m_Lw_law 542 (lvL G o m (nI i)) [] w (d + 11) (4 * c) (2008 * c) (fun v _ => v = some (.int 1)) := by
        intro w σ2 hJ2
        refine p_s rfl rfl ?_
        refine p_goto rfl ?_
        have h := ih (i + 4) (q + 1) w σ2 hJ2 (by omega) (by omega) (by omega)
        rw [← nI_add i 4] at h
        exact h
      obtain ⟨k, hk, hx15⟩ := and15 (g_x G i)
      show px G m_Lw_law 28 (lvL G o m (nI i)) [] ws (d + 11) (4 * c + 4) (2008 * c + 2008) _
      refine p_s rfl rfl ?_
      refine p_s rfl rfl ?_
      refine p_slen rfl ?_
      refine p_s rfl rfl ?_
      refine p_s rfl rfl ?_
      refine p_icmpF rfl (fun z => hx ((lw_gt hN (by omega)).mp z)) ?_
      refine p_s rfl rfl ?_
      refine p_s rfl rfl ?_
      refine p_sldS (k := i) rfl rfl (by omega) hN ?_
      refine p_s rfl rfl ?_
      refine p_s rfl rfl ?_
      show px G m_Lw_law 42 _ [.int (g_x G i &&& 15)] _ _ _ _ _
      rw [hx15]
      rcases (show k = 0 ∨ k = 1 ∨ k = 2 ∨ k = 3 ∨ k = 4 ∨ k = 5 ∨ k = 6 ∨ k = 7 ∨ k = 8 ∨ k = 9 ∨ k = 10 ∨ k = 11 ∨ k = 12 ∨ k = 13 ∨ k = 14 ∨ k = 15 by omega) with rfl | rfl | rfl | rfl | rfl | rfl | rfl | rfl | rfl | rfl | rfl | rfl | rfl | rfl | rfl | rfl
      · refine p_tabI (of := 70) (t := 112) rfl (by decide) (by decide) (by decide) (by decide) ?_
        exact lw_code hJ hqb hN hi3 K
      · refine p_tabI (of := 113) (t := 155) rfl (by decide) (by decide) (by decide) (by decide) ?_
        exact lw_event hJ hqb hN hi3 K
      · refine p_tabI (of := 162) (t := 204) rfl (by decide) (by decide) (by decide) (by decide) ?_
        exact lw_cycle hJ hqb hN hi3 K
      · refine p_tabI (of := 201) (t := 243) rfl (by decide) (by decide) (by decide) (by decide) ?_
        exact lw_status hJ hqb hN hi3 K
      · refine p_tabI (of := 224) (t := 266) rfl (by decide) (by decide) (by decide) (by decide) ?_
        exact lw_snapshot hJ hqb hN hi3 K
      · refine p_tabI (of := 267) (t := 309) rfl (by decide) (by decide) (by decide) (by decide) ?_
        exact lw_clear hJ hqb hN hi3 K
      · refine p_tabI (of := 290) (t := 332) rfl (by decide) (by decide) (by decide) (by decide) ?_
        exact lw_parent hJ hqb hN hi3 K
      · refine p_tabI (of := 323) (t := 365) rfl (by decide) (by decide) (by decide) (by decide) ?_
        exact lw_enable hJ hqb hN hi3 K
      · refine p_tabI (of := 372) (t := 414) rfl (by decide) (by decide) (by decide) (by decide) ?_
        exact lw_lamp hJ hqb hN hi3 K
      · refine p_tabI (of := 395) (t := 437) rfl (by decide) (by decide) (by decide) (by decide) ?_
        exact lw_stored hJ hqb hN hi3 K
      · refine p_tabI (of := 428) (t := 470) rfl (by decide) (by decide) (by decide) (by decide) ?_
        exact lw_cut hJ hqb hN hi3 K
      · refine p_tabI (of := 441) (t := 483) rfl (by decide) (by decide) (by decide) (by decide) ?_
        exact lw_start hJ hqb hN hi3 K
      · refine p_tabI (of := 454) (t := 496) rfl (by decide) (by decide) (by decide) (by decide) ?_
        exact lw_displaced hJ hqb hN hi3 K
      · refine p_tabI (of := 477) (t := 519) rfl (by decide) (by decide) (by decide) (by decide) ?_
        exact lw_age hJ hqb hN hi3 K
      · refine p_tabO (t := 542) rfl (by decide) (by decide) ?_
        exact p_le (Nat.le_refl _) (by omega) (by omega) (K ws σ ⟨hJ.1, hJ.2.1.mono, hJ.2.2⟩)
      · refine p_tabO (t := 542) rfl (by decide) (by decide) ?_
        exact p_le (Nat.le_refl _) (by omega) (by omega) (K ws σ ⟨hJ.1, hJ.2.1.mono, hJ.2.2⟩)
set_option maxRecDepth 16384 in
set_option maxHeartbeats 4000000 in
theorem lw_cell {G : px_G} {ws : va_W} {d : Nat} (hN : g_n G ≤ 2049) : px G m_Lw_cell 0 (lv_args 0 [.ref (g_b G), .int 0]) [] ws d 0 0 (fun v w => v = some (.int (if 0 < g_n G then g_x G 0 else 0)) ∧ w = ws) := by
  by_cases h0 : 0 < g_n G
  · skip
    refine p_s rfl rfl ?_
    refine p_s rfl rfl ?_
    refine p_slen rfl ?_
    refine p_icmpF rfl (show ¬ nI (g_n G) ≤ nI 0 from nI_nle h0 (by omega)) ?_
    refine p_s rfl rfl ?_
    refine p_s rfl rfl ?_
    refine p_sldS (k := 0) rfl rfl h0 hN ?_
    refine p_goto rfl ?_
    exact p_iret rfl rfl rfl ⟨by rw [if_pos h0], rfl⟩
  · have e0 : g_n G = 0 := by omega
    refine p_s rfl rfl ?_
    refine p_s rfl rfl ?_
    refine p_slen rfl ?_
    rw [e0]
    refine p_icmpT rfl (show nI 0 ≤ 0 by decide) ?_
    refine p_s rfl rfl ?_
    exact p_iret rfl rfl rfl ⟨by rw [if_neg (by decide)], rfl⟩
set_option maxRecDepth 16384 in
set_option maxHeartbeats 4000000 in
theorem lw_run {G : px_G} {d : Nat} (hN : g_n G ≤ 2049) : px G m_Lw_law 0 (lv_args 0 [.ref (g_b G)]) [] [] (d + 11) 2072 1036109 (fun v _ => v = some (.int 1)) := by
  refine p_new (N := 6) rfl nc_Lw_7 (fun o1 ho1 hl1 => ?_)
  refine p_s rfl rfl ?_
  refine p_s rfl rfl ?_
  refine p_s rfl rfl ?_
  refine p_callS rfl c_Lw_9 g_Lw_cell rfl rfl rfl (p_le (by omega) (Nat.le_refl _) (Nat.le_refl _) (lw_cell (d := d) hN)) (fun v w hq => ?_)
  obtain ⟨rfl, hw9⟩ := hq
  subst hw9
  refine p_callI rfl c_Lw_15 g_TM_init rfl rfl rfl (o_init (d := d) (px_lk_new _ _ _ ho1)) (fun v w hq => ?_)
  obtain ⟨rfl, ad, hC, hf1⟩ := hq
  rename va_W => wA
  refine p_s rfl rfl ?_
  refine p_new (N := 26) rfl nc_Lw_18 (fun m1 hm1 hl2 => ?_)
  refine p_s rfl rfl ?_
  refine p_s rfl rfl ?_
  refine p_s rfl rfl ?_
  refine p_callS rfl c_Lw_9 g_Lw_cell rfl rfl rfl (p_le (by omega) (Nat.le_refl _) (Nat.le_refl _) (lw_cell (d := d) hN)) (fun v w hq => ?_)
  obtain ⟨rfl, hw9⟩ := hq
  subst hw9
  have hm2 := px_lk_new wA m1 (.inr (7, oRv (fun _ => 0) 0)) hm1
  refine p_callI rfl c_Lw_20 g_Rf_init rfl rfl rfl (r_init (d := d) hm2) (fun v w hq => ?_)
  obtain ⟨rfl, aa, ⟨fa, s, hr, hs⟩, hf2⟩ := hq
  rename va_W => wB
  refine p_s rfl rfl ?_
  refine p_s rfl rfl ?_
  refine p_s rfl rfl ?_
  have hk : px_kp Kc (wA ++ [(m1, .inr (7, oRv (fun _ => 0) 0))]) wB := fun a x hx hK => hf2 a x (fun z => by
    subst z
    rw [hm2] at hx
    cases hx
    cases hK) hx
  exact lw_loop hN 512 1 0 _ _ ⟨⟨ad, (hC.keep px_kp.nw).keep hk⟩, ⟨fa, s, hr, hs⟩, Iv.first⟩ (by omega) (by omega) (by omega)
