/-! THE CLASS: displaceFor -/
def dspA (ds : List Nat) (x : Nat) : List Nat := if ds.length < 500 then ds ++ [x] else ds
set_option maxHeartbeats 2000000 in
theorem c_displaceN {G : px_G} {ws : va_W} {d : Nat} {R : Int32} {o : Nat} {ad : Nat → Nat → Nat} {σ : Md} (h : CR G R ws o ad σ) (hen : ∀ x ∈ e_c σ, x < d_n σ) (hlen : (e_c σ).length ≤ 500) (hnd : (e_c σ).Nodup) (hdn : ∀ x ∈ d_d σ, x < d_n σ) {c : Nat} (hc : c < d_n σ) (hv : vicF (d_A σ) c none (e_c σ) = none) {bc bs : Nat} : px G m_Mem_displaceFor 0 (lv_args 0 [.ref (ad 6 0), .ref (ad 0 c)]) [] ws (d + 7) bc bs (fun v w => v = some (.int 0) ∧ w = ws) := by
  refine p_s rfl rfl ?_
  refine p_s rfl rfl ?_
  refine p_s rfl rfl ?_
  refine p_s rfl rfl ?_
  refine c_vic_loop h hen (by omega) hc (fun V x3 hV => ?_) (e_c σ) 0 none .null 0 rfl (by decide) rfl (fun y z => by cases z) rfl rfl
  rw [hv] at hV
  subst hV
  refine p_s rfl rfl ?_
  refine p_ifnonnull (r := none) rfl (fun c => absurd rfl c) (fun _ => ?_)
  refine p_s rfl rfl ?_
  exact p_iret rfl rfl rfl ⟨rfl, rfl⟩
theorem CR.obD {G : px_G} {R : Int32} {ws : va_W} {o : Nat} {ad : Nat → Nat → Nat} {σ : Md} (h : CR G R ws o ad σ) (hdn : ∀ x ∈ d_d σ, x < d_n σ) : ∀ x ∈ (d_d σ).map (ad 0), px_ob ws x := by
  intro x hx
  obtain ⟨i, hi, rfl⟩ := List.mem_map.mp hx
  exact h.obC (hdn i hi)
set_option maxHeartbeats 2000000 in
theorem c_displaceS {G : px_G} {ws : va_W} {d : Nat} {R : Int32} {o : Nat} {ad : Nat → Nat → Nat} {σ : Md} (h : CR G R ws o ad σ) (hen : ∀ x ∈ e_c σ, x < d_n σ) (hlen : (e_c σ).length ≤ 500) (hnd : (e_c σ).Nodup) (hdn : ∀ x ∈ d_d σ, x < d_n σ) {c : Nat} (hc : c < d_n σ) {x : Nat} (hv : vicF (d_A σ) c none (e_c σ) = some x) (hdb : (d_d σ).length ≤ 500) : px G m_Mem_displaceFor 0 (lv_args 0 [.ref (ad 6 0), .ref (ad 0 c)]) [] ws (d + 7) 1 1000 (fun v w => v = some (.int 1) ∧ ∃ ad2, AdS ad ad2 ∧ CR G R w o ad2 (stE (stD σ (dspA (d_d σ) x)) (dropE (d_e σ) x)) ∧ px_kp Kr ws w) := by
  refine p_wf (fun hw => ?_)
  refine p_s rfl rfl ?_
  refine p_s rfl rfl ?_
  refine p_s rfl rfl ?_
  refine p_s rfl rfl ?_
  refine c_vic_loop h hen (by omega) hc (fun V x3 hV => ?_) (e_c σ) 0 none .null 0 rfl (by decide) rfl (fun y z => by cases z) rfl rfl
  rw [hv] at hV
  subst hV
  have hxm : x ∈ e_c σ := by
    rcases vicF_mem _ _ _ hv with z | z
    · cases z
    · exact z
  have hxn := hen x hxm
  obtain ⟨hp, hent⟩ := h.entOf hxm
  have hL3 := h.2.2.1.2.2
  obtain ⟨sz, mc, hL3c⟩ := hL3.cell
  by_cases hdl : (d_d σ).length < 500
  · skip
    refine p_s rfl rfl ?_
    refine p_ifnonnull (r := some (ad 3 x)) rfl (fun _ => ?_) (fun c => by cases c)
    refine p_s rfl rfl ?_
    refine p_get rfl f_Mem_18 h.2.1 rfl ?_
    refine p_callV rfl c_Mem_37 rfl hL3c g_AL_size rfl rfl rfl (c_size hL3) (fun v w hq => ?_)
    obtain ⟨rfl, rfl⟩ := hq
    refine p_s rfl rfl ?_
    refine p_icmpF rfl (show ¬ (500 : Int32) ≤ nI ((d_d σ).map (ad 0)).length by rw [List.length_map, show (500 : Int32) = nI 500 from rfl]; exact nI_ge hdl (by decide)) ?_
    refine p_s rfl rfl ?_
    refine p_get rfl f_Mem_18 h.2.1 rfl ?_
    refine p_s rfl rfl ?_
    refine p_get rfl f_Mem_63 hent rfl ?_
    refine p_callV rfl c_Mem_48 rfl hL3c g_AL_add1 rfl rfl rfl (p_le (by omega) (Nat.le_refl _) (Nat.le_refl _) (c_add (d := d) hL3 (by rw [List.length_map]; omega) (h.obD hdn) (h.obC hxn))) (fun v w hq => ?_)
    obtain ⟨rfl, a3, ha3, hl3, hf3⟩ := hq
    have hg := CRg.l3 hw h.g hf3 ha3 hl3
    have h2 : CR G R w o (up6 ad 6 a3) (stD σ (d_d σ ++ [x])) := by
      have e : (d_d σ ++ [x]).map (up6 ad 6 a3 0) = (d_d σ).map (ad 0) ++ [ad 0 x] := by rw [List.map_append]; rfl
      have hg2 : CRg G R w o (up6 ad 6 a3) (stD σ (d_d σ ++ [x])) ((e_c σ).map (ad 3)) ((d_d σ ++ [x]).map (up6 ad 6 a3 0)) := by rw [e]; exact hg
      exact hg2
    have hkp := hL3.kp hw hf3
    obtain ⟨hp2, hent2⟩ := h2.entOf hxm
    refine p_s rfl rfl ?_
    refine p_s rfl rfl ?_
    refine p_s rfl rfl ?_
    refine p_get rfl f_Mem_63 hent2 rfl ?_
    refine p_callV rfl c_Mem_67 rfl h2.2.1 g_Mem_drop rfl rfl rfl (c_drop h2 hnd (Nat.le_trans hlen (by decide)) hxn) (fun v w hq => ?_)
    obtain ⟨rfl, hcr, hkp2⟩ := hq
    refine p_s rfl rfl ?_
    refine p_iret rfl rfl rfl ⟨rfl, up6 ad 6 a3, AdS.u (Or.inr (Or.inr rfl)), ?_, hkp.tr hkp2⟩
    rw [dspA, if_pos hdl]
    exact hcr
  · skip
    refine p_s rfl rfl ?_
    refine p_ifnonnull (r := some (ad 3 x)) rfl (fun _ => ?_) (fun c => by cases c)
    refine p_s rfl rfl ?_
    refine p_get rfl f_Mem_18 h.2.1 rfl ?_
    refine p_callV rfl c_Mem_37 rfl hL3c g_AL_size rfl rfl rfl (c_size hL3) (fun v w hq => ?_)
    obtain ⟨rfl, rfl⟩ := hq
    refine p_s rfl rfl ?_
    refine p_icmpT rfl (show (500 : Int32) ≤ nI ((d_d σ).map (ad 0)).length by rw [List.length_map, show (500 : Int32) = nI 500 from rfl]; exact (nI_leI (by decide) (by omega)).mpr (by omega)) ?_
    refine p_s rfl rfl ?_
    refine p_s rfl rfl ?_
    refine p_get rfl f_Mem_63 hent rfl ?_
    refine p_callV rfl c_Mem_67 rfl h.2.1 g_Mem_drop rfl rfl rfl (c_drop h hnd (Nat.le_trans hlen (by decide)) hxn) (fun v w hq => ?_)
    obtain ⟨rfl, hcr, hkp2⟩ := hq
    refine p_s rfl rfl ?_
    refine p_iret rfl rfl rfl ⟨rfl, ad, AdS.rf, ?_, hkp2⟩
    rw [dspA, if_neg hdl]
    exact hcr
