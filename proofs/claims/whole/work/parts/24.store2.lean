/-! THE CLASS: store, snapshots, judge -/
/-- what the class relies on -/
def Wf (σ : Md) : Prop := d_n σ ≤ 200 ∧ (∀ i, i < d_n σ → d_p σ i ≤ d_n σ) ∧ (∀ x ∈ e_c σ, x < d_n σ) ∧ (e_c σ).length ≤ 200 ∧ (e_c σ).Nodup ∧ (∀ x ∈ d_d σ, x < d_n σ) ∧ (d_d σ).length ≤ 500
def storeM (R : Int32) (σ : Md) (c : Nat) (F : Sn4) : Md :=
  if c ∈ e_c σ then stE σ (hapE (d_e σ) c F)
  else if nI (e_c σ).length < R then stE σ (d_e σ ++ [(c, 1, F, F)])
  else match vicF (d_A σ) c none (e_c σ) with
    | none => σ
    | some x => stE (stD σ (dspA (d_d σ) x)) (dropE (d_e σ) x ++ [(c, 1, F, F)])
theorem dropE_len {es : List En4} {i : Nat} : (dropE es i).length ≤ es.length := List.length_filter_le _ _
set_option maxHeartbeats 4000000 in
theorem c_store {G : px_G} {ws : va_W} {d : Nat} {R : Int32} {o : Nat} {ad : Nat → Nat → Nat} {σ : Md} (h : CR G R ws o ad σ) (hwf : Wf σ) {c sn : Nat} {F : Sn4} (hc : c < d_n σ) (hsn : px_lk ws sn = some (oSn4 F)) : px G m_Mem_store 0 (lv_args 0 [.ref (ad 6 0), .ref (ad 0 c), .ref sn]) [] ws (d + 8) 3 2004 (fun v w => v = none ∧ ∃ ad2, AdW ad ad2 ∧ CR G R w o ad2 (storeM R σ c F) ∧ px_kp Kr ws w) := by
  obtain ⟨w1, w2, w3, w4, w5, w6, w7⟩ := hwf
  have hcc := (h.2.2.2.2.1 c hc).1
  have hL2 := h.2.2.1.2.1
  obtain ⟨sz, mc, hL2c⟩ := hL2.cell
  by_cases hcm : c ∈ e_c σ
  · obtain ⟨hp, hent⟩ := h.entOf hcm
    refine p_s rfl rfl ?_
    refine p_get rfl f_Mem_25 hcc rfl ?_
    rw [c_en_in hcm]
    refine p_ifnull (r := some (ad 3 c)) rfl (fun c => by cases c) (fun _ => ?_)
    refine p_s rfl rfl ?_
    refine p_get rfl f_Mem_25 hcc rfl ?_
    rw [c_en_in hcm]
    refine p_s rfl rfl ?_
    refine p_callV rfl c_Mem_31 rfl hent g_En_happenAgain rfl rfl rfl (p_le (by omega) (Nat.le_refl _) (Nat.le_refl _) (c_happenAgain (d := d) (sn := sn) hent)) (fun v w hq => ?_)
    obtain ⟨rfl, rfl⟩ := hq
    refine p_goto rfl ?_
    refine p_vret rfl rfl ⟨rfl, upA ad 5 c sn, AdW.uA (by omega) (by omega), ?_, px_kp.up hent rfl⟩
    rw [storeM, if_pos hcm]
    exact h.happen hcm hent hsn
  · by_cases hr : nI (e_c σ).length < R
    · skip
      refine p_s rfl rfl ?_
      refine p_get rfl f_Mem_25 hcc rfl ?_
      rw [c_en_out hcm]
      refine p_ifnull (r := none) rfl (fun _ => ?_) (fun c => absurd rfl c)
      refine p_s rfl rfl ?_
      refine p_get rfl f_Mem_12 h.2.1 rfl ?_
      refine p_callV rfl c_Mem_37 rfl hL2c g_AL_size rfl rfl rfl (c_size hL2) (fun v w hq => ?_)
      obtain ⟨rfl, rfl⟩ := hq
      rw [List.length_map]
      refine p_s rfl rfl ?_
      refine p_get rfl f_Mem_21 h.2.1 rfl ?_
      refine p_icmpT rfl hr ?_
      refine p_le (Nat.le_refl _) (by omega) (by omega) (p_post (fun v w hq => ?_) (c_store_new (d := d) h (by omega) hc hcm hsn))
      obtain ⟨rfl, ad2, a1, a2, a3⟩ := hq
      refine ⟨rfl, ad2, a1, ?_, a3⟩
      rw [storeM, if_neg hcm, if_pos hr]
      exact a2
    · cases hv : vicF (d_A σ) c none (e_c σ) with
      | none =>
        refine p_s rfl rfl ?_
        refine p_get rfl f_Mem_25 hcc rfl ?_
        rw [c_en_out hcm]
        refine p_ifnull (r := none) rfl (fun _ => ?_) (fun c => absurd rfl c)
        refine p_s rfl rfl ?_
        refine p_get rfl f_Mem_12 h.2.1 rfl ?_
        refine p_callV rfl c_Mem_37 rfl hL2c g_AL_size rfl rfl rfl (c_size hL2) (fun v w hq => ?_)
        obtain ⟨rfl, rfl⟩ := hq
        rw [List.length_map]
        refine p_s rfl rfl ?_
        refine p_get rfl f_Mem_21 h.2.1 rfl ?_
        refine p_icmpF rfl hr ?_
        refine p_s rfl rfl ?_
        refine p_s rfl rfl ?_
        refine p_callV rfl c_Mem_41 rfl h.2.1 g_Mem_displaceFor rfl rfl rfl (c_displaceN (bc := 0) (bs := 0) h w3 (by omega) w5 w6 hc hv) (fun v w hq => ?_)
        obtain ⟨rfl, rfl⟩ := hq
        refine p_ifT rfl (show (0 : Int32) = 0 from rfl) ?_
        refine p_vret rfl rfl ⟨rfl, ad, AdW.rf, ?_, px_kp.rf⟩
        rw [storeM, if_neg hcm, if_neg hr, hv]
        exact h
      | some x =>
        refine p_s rfl rfl ?_
        refine p_get rfl f_Mem_25 hcc rfl ?_
        rw [c_en_out hcm]
        refine p_ifnull (r := none) rfl (fun _ => ?_) (fun c => absurd rfl c)
        refine p_s rfl rfl ?_
        refine p_get rfl f_Mem_12 h.2.1 rfl ?_
        refine p_callV rfl c_Mem_37 rfl hL2c g_AL_size rfl rfl rfl (c_size hL2) (fun v w hq => ?_)
        obtain ⟨rfl, rfl⟩ := hq
        rw [List.length_map]
        refine p_s rfl rfl ?_
        refine p_get rfl f_Mem_21 h.2.1 rfl ?_
        refine p_icmpF rfl hr ?_
        refine p_s rfl rfl ?_
        refine p_s rfl rfl ?_
        refine p_callV rfl c_Mem_41 rfl h.2.1 g_Mem_displaceFor rfl rfl rfl (c_displaceS h w3 (by omega) w5 w6 hc hv w7) (fun v w hq => ?_)
        obtain ⟨rfl, ad2, b1, b2, b3⟩ := hq
        refine p_ifF rfl (show ¬ (1 : Int32) = 0 by decide) ?_
        have hsn2 : px_lk w sn = some (oSn4 F) := b3 sn _ hsn rfl
        have hcm2 : c ∉ e_c (stE (stD σ (dspA (d_d σ) x)) (dropE (d_e σ) x)) := fun z => hcm (dropE_codes.mp z).1
        have e0 : ad2 0 c = ad 0 c := b1.1 0 c (by decide)
        have e6 : ad2 6 0 = ad 6 0 := b1.2 0 (by decide) (by decide) (by decide)
        have hnew := c_store_new (d := d) (c := c) b2 (Nat.le_trans (by rw [List.length_map]; exact dropE_len) (Nat.le_trans (by rw [← List.length_map (f := fun x : En4 => x.1)]; exact w4) (by decide))) hc hcm2 hsn2
        rw [e0, e6] at hnew
        refine p_le (Nat.le_refl _) (by omega) (by omega) (p_post (fun v w2 hq => ?_) hnew)
        obtain ⟨rfl, ad3, a1, a2, a3⟩ := hq
        refine ⟨rfl, ad3, b1.w.tr a1, ?_, b3.tr a3⟩
        rw [storeM, if_neg hcm, if_neg hr, hv]
        exact a2
