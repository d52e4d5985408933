/-! THE RULES HOLD OF THE MACHINE -/
set_option maxHeartbeats 4000000 in
theorem px_w_s (G : px_G) (l : Launch) : px_r_s G (px_Pw G l) := by
  intro M pc nx d bc bs tg z lv st ws Q i lv' st' ha hs kk hok p e R s m args below meth c Z H locs cells slots la C hbc hbs hP hD hS hl hret
  obtain ⟨hx, hb, hr, hml, hown, hts, hlk, hin, hfr, hlo, hE⟩ := id C
  exact px_simple hx hb hok ha hs hl (fun la' hl' => kk hok p e R s m args below meth c Z H locs cells slots la' C hbc hbs hP hD hS hl' hret)
set_option maxHeartbeats 4000000 in
theorem px_w_aloadR (G : px_G) (l : Launch) : px_r_aloadR G (px_Pw G l) := by
  intro M pc nx d bc bs tg z lv st ws Q i n r ha hi hg kk hok p e R s m args below meth c Z H locs cells slots la C hbc hbs hP hD hS hl hret
  obtain ⟨hx, hb, hr, hml, hown, hts, hlk, hin, hfr, hlo, hE⟩ := id C
  rcases px_isAload_eq hi with ⟨j, rfl, rfl⟩ | rfl
  · obtain ⟨hd, rfl⟩ := px_hd 1 hok ha rfl rfl
    cases r with
    | none => exact lv_aload_nN hx hb hd rfl (px_has hl hg) (kk hok p e R s m args below meth c Z H locs cells slots la C hbc hbs hP hD hS hl hret)
    | some y => exact lv_aload_n hx hb hd rfl (px_has hl hg) (kk hok p e R s m args below meth c Z H locs cells slots la C hbc hbs hP hD hS hl hret)
  · obtain ⟨hd, rfl⟩ := px_hd 2 hok ha rfl rfl
    cases r with
    | none => exact lv_aloadN hx hb hd (px_has hl hg) (kk hok p e R s m args below meth c Z H locs cells slots la C hbc hbs hP hD hS hl hret)
    | some y => exact lv_aload hx hb hd (px_has hl hg) (kk hok p e R s m args below meth c Z H locs cells slots la C hbc hbs hP hD hS hl hret)
set_option maxHeartbeats 4000000 in
theorem px_w_astoreR (G : px_G) (l : Launch) : px_r_astoreR G (px_Pw G l) := by
  intro M pc nx d bc bs tg z lv st ws Q i n r ha hi hn kk hok p e R s m args below meth c Z H locs cells slots la C hbc hbs hP hD hS hl hret
  obtain ⟨hx, hb, hr, hml, hown, hts, hlk, hin, hfr, hlo, hE⟩ := id C
  have K : ∀ la', lv_has la' (px_L M) (px_put lv n (va_rf r)) → W p l e R s m args below meth c H locs cells slots Z (F0 m nx la' st) := fun la' hl' => kk hok p e R s m args below meth c Z H locs cells slots la' C hbc hbs hP hD hS hl' hret
  rcases px_isAstore_eq hi with ⟨j, rfl, rfl⟩ | rfl
  · obtain ⟨hd, rfl⟩ := px_hd 1 hok ha rfl rfl
    cases r with
    | none => exact lv_astore_nN hx hb hd rfl hl hn rfl K
    | some y => exact lv_astore_n hx hb hd rfl hl hn rfl K
  · obtain ⟨hd, rfl⟩ := px_hd 2 hok ha rfl rfl
    cases r with
    | none => exact lv_astoreN hx hb hd hl hn rfl K
    | some y => exact lv_astore hx hb hd hl hn rfl K
set_option maxHeartbeats 4000000 in
theorem px_w_goto (G : px_G) (l : Launch) : px_r_goto G (px_Pw G l) := by
  intro M pc nx d bc bs z lv st ws Q off t ha kk hok p e R s m args below meth c Z H locs cells slots la C hbc hbs hP hD hS hl hret
  obtain ⟨hx, hb, hr, hml, hown, hts, hlk, hin, hfr, hlo, hE⟩ := id C
  have ht : decide ((pc : Int) + off = (t : Int)) = true := px_kk hok ha
  exact lv_goto hx hb (px_hd 3 hok ha rfl rfl).1 (of_decide_eq_true ht) (kk hok p e R s m args below meth c Z H locs cells slots la C hbc hbs hP hD hS hl hret)
set_option maxHeartbeats 4000000 in
theorem px_w_if (G : px_G) (l : Launch) : px_r_if G (px_Pw G l) := by
  intro M pc nx d bc bs z lv st ws Q cc off t x ha kt kf hok p e R s m args below meth c Z H locs cells slots la C hbc hbs hP hD hS hl hret
  obtain ⟨hx, hb, hr, hml, hown, hts, hlk, hin, hfr, hlo, hE⟩ := id C
  have ht : decide ((pc : Int) + off = (t : Int)) = true := px_kk hok ha
  have ht := of_decide_eq_true ht
  obtain ⟨hd, rfl⟩ := px_hd 3 hok ha rfl rfl
  cases cc
  case eq => exact lv_if_eq hx hb hd ht (fun h => kt h hok p e R s m args below meth c Z H locs cells slots la C hbc hbs hP hD hS hl hret) (fun h => kf h hok p e R s m args below meth c Z H locs cells slots la C hbc hbs hP hD hS hl hret)
  case ne => exact lv_if_ne hx hb hd ht (fun h => kt h hok p e R s m args below meth c Z H locs cells slots la C hbc hbs hP hD hS hl hret) (fun h => kf h hok p e R s m args below meth c Z H locs cells slots la C hbc hbs hP hD hS hl hret)
  case lt => exact lv_if_lt hx hb hd ht (fun h => kt h hok p e R s m args below meth c Z H locs cells slots la C hbc hbs hP hD hS hl hret) (fun h => kf h hok p e R s m args below meth c Z H locs cells slots la C hbc hbs hP hD hS hl hret)
  case ge => exact lv_if_ge hx hb hd ht (fun h => kt h hok p e R s m args below meth c Z H locs cells slots la C hbc hbs hP hD hS hl hret) (fun h => kf h hok p e R s m args below meth c Z H locs cells slots la C hbc hbs hP hD hS hl hret)
  case gt => exact lv_if_gt hx hb hd ht (fun h => kt h hok p e R s m args below meth c Z H locs cells slots la C hbc hbs hP hD hS hl hret) (fun h => kf h hok p e R s m args below meth c Z H locs cells slots la C hbc hbs hP hD hS hl hret)
  case le => exact lv_if_le hx hb hd ht (fun h => kt h hok p e R s m args below meth c Z H locs cells slots la C hbc hbs hP hD hS hl hret) (fun h => kf h hok p e R s m args below meth c Z H locs cells slots la C hbc hbs hP hD hS hl hret)
set_option maxHeartbeats 4000000 in
theorem px_w_icmp (G : px_G) (l : Launch) : px_r_icmp G (px_Pw G l) := by
  intro M pc nx d bc bs z lv st ws Q cc off t x y ha kt kf hok p e R s m args below meth c Z H locs cells slots la C hbc hbs hP hD hS hl hret
  obtain ⟨hx, hb, hr, hml, hown, hts, hlk, hin, hfr, hlo, hE⟩ := id C
  have ht : decide ((pc : Int) + off = (t : Int)) = true := px_kk hok ha
  have ht := of_decide_eq_true ht
  obtain ⟨hd, rfl⟩ := px_hd 3 hok ha rfl rfl
  cases cc
  case eq => exact lv_icmp_eq hx hb hd ht (fun h => kt h hok p e R s m args below meth c Z H locs cells slots la C hbc hbs hP hD hS hl hret) (fun h => kf h hok p e R s m args below meth c Z H locs cells slots la C hbc hbs hP hD hS hl hret)
  case ne => exact lv_icmp_ne hx hb hd ht (fun h => kt h hok p e R s m args below meth c Z H locs cells slots la C hbc hbs hP hD hS hl hret) (fun h => kf h hok p e R s m args below meth c Z H locs cells slots la C hbc hbs hP hD hS hl hret)
  case lt => exact lv_icmp_lt hx hb hd ht (fun h => kt h hok p e R s m args below meth c Z H locs cells slots la C hbc hbs hP hD hS hl hret) (fun h => kf h hok p e R s m args below meth c Z H locs cells slots la C hbc hbs hP hD hS hl hret)
  case ge => exact lv_icmp_ge hx hb hd ht (fun h => kt h hok p e R s m args below meth c Z H locs cells slots la C hbc hbs hP hD hS hl hret) (fun h => kf h hok p e R s m args below meth c Z H locs cells slots la C hbc hbs hP hD hS hl hret)
  case gt => exact lv_icmp_gt hx hb hd ht (fun h => kt h hok p e R s m args below meth c Z H locs cells slots la C hbc hbs hP hD hS hl hret) (fun h => kf h hok p e R s m args below meth c Z H locs cells slots la C hbc hbs hP hD hS hl hret)
  case le => exact lv_icmp_le hx hb hd ht (fun h => kt h hok p e R s m args below meth c Z H locs cells slots la C hbc hbs hP hD hS hl hret) (fun h => kf h hok p e R s m args below meth c Z H locs cells slots la C hbc hbs hP hD hS hl hret)
set_option maxHeartbeats 4000000 in
theorem px_w_ifnull (G : px_G) (l : Launch) : px_r_ifnull G (px_Pw G l) := by
  intro M pc nx d bc bs z lv st ws Q off t r ha kt kf hok p e R s m args below meth c Z H locs cells slots la C hbc hbs hP hD hS hl hret
  obtain ⟨hx, hb, hr, hml, hown, hts, hlk, hin, hfr, hlo, hE⟩ := id C
  have ht : decide ((pc : Int) + off = (t : Int)) = true := px_kk hok ha
  have ht := of_decide_eq_true ht
  obtain ⟨hd, rfl⟩ := px_hd 3 hok ha rfl rfl
  cases r with
  | none => exact lv_ifnullN hx hb hd ht (kt rfl hok p e R s m args below meth c Z H locs cells slots la C hbc hbs hP hD hS hl hret)
  | some y => exact lv_ifnull hx hb hd (kf (by simp) hok p e R s m args below meth c Z H locs cells slots la C hbc hbs hP hD hS hl hret)
set_option maxHeartbeats 4000000 in
theorem px_w_ifnonnull (G : px_G) (l : Launch) : px_r_ifnonnull G (px_Pw G l) := by
  intro M pc nx d bc bs z lv st ws Q off t r ha kt kf hok p e R s m args below meth c Z H locs cells slots la C hbc hbs hP hD hS hl hret
  obtain ⟨hx, hb, hr, hml, hown, hts, hlk, hin, hfr, hlo, hE⟩ := id C
  have ht : decide ((pc : Int) + off = (t : Int)) = true := px_kk hok ha
  have ht := of_decide_eq_true ht
  obtain ⟨hd, rfl⟩ := px_hd 3 hok ha rfl rfl
  cases r with
  | none => exact lv_ifnonnullN hx hb hd (kf rfl hok p e R s m args below meth c Z H locs cells slots la C hbc hbs hP hD hS hl hret)
  | some y => exact lv_ifnonnull hx hb hd ht (kt (by simp) hok p e R s m args below meth c Z H locs cells slots la C hbc hbs hP hD hS hl hret)
set_option maxHeartbeats 4000000 in
theorem px_w_acmpeq (G : px_G) (l : Launch) : px_r_acmpeq G (px_Pw G l) := by
  intro M pc nx d bc bs z lv st ws Q off t rx ry ha kt kf hok p e R s m args below meth c Z H locs cells slots la C hbc hbs hP hD hS hl hret
  obtain ⟨hx, hb, hr, hml, hown, hts, hlk, hin, hfr, hlo, hE⟩ := id C
  have ht : decide ((pc : Int) + off = (t : Int)) = true := px_kk hok ha
  have ht := of_decide_eq_true ht
  obtain ⟨hd, rfl⟩ := px_hd 3 hok ha rfl rfl
  exact lv_acmp_eq hx hb hd ht (fun h => kt h hok p e R s m args below meth c Z H locs cells slots la C hbc hbs hP hD hS hl hret) (fun h => kf h hok p e R s m args below meth c Z H locs cells slots la C hbc hbs hP hD hS hl hret)
set_option maxHeartbeats 4000000 in
theorem px_w_acmpne (G : px_G) (l : Launch) : px_r_acmpne G (px_Pw G l) := by
  intro M pc nx d bc bs z lv st ws Q off t rx ry ha kt kf hok p e R s m args below meth c Z H locs cells slots la C hbc hbs hP hD hS hl hret
  obtain ⟨hx, hb, hr, hml, hown, hts, hlk, hin, hfr, hlo, hE⟩ := id C
  have ht : decide ((pc : Int) + off = (t : Int)) = true := px_kk hok ha
  have ht := of_decide_eq_true ht
  obtain ⟨hd, rfl⟩ := px_hd 3 hok ha rfl rfl
  exact lv_acmp_ne hx hb hd ht (fun h => kt h hok p e R s m args below meth c Z H locs cells slots la C hbc hbs hP hD hS hl hret) (fun h => kf h hok p e R s m args below meth c Z H locs cells slots la C hbc hbs hP hD hS hl hret)
set_option maxHeartbeats 4000000 in
theorem px_w_idiv (G : px_G) (l : Launch) : px_r_idiv G (px_Pw G l) := by
  intro M pc nx d bc bs tg z lv st ws Q x y ha hy kk hok p e R s m args below meth c Z H locs cells slots la C hbc hbs hP hD hS hl hret
  obtain ⟨hx, hb, hr, hml, hown, hts, hlk, hin, hfr, hlo, hE⟩ := id C
  obtain ⟨hd, rfl⟩ := px_hd 1 hok ha rfl rfl
  exact lv_idiv hx hb hd hy (kk hok p e R s m args below meth c Z H locs cells slots la C hbc hbs hP hD hS hl hret)
set_option maxHeartbeats 4000000 in
theorem px_w_irem (G : px_G) (l : Launch) : px_r_irem G (px_Pw G l) := by
  intro M pc nx d bc bs tg z lv st ws Q x y ha hy kk hok p e R s m args below meth c Z H locs cells slots la C hbc hbs hP hD hS hl hret
  obtain ⟨hx, hb, hr, hml, hown, hts, hlk, hin, hfr, hlo, hE⟩ := id C
  obtain ⟨hd, rfl⟩ := px_hd 1 hok ha rfl rfl
  exact lv_irem hx hb hd hy (kk hok p e R s m args below meth c Z H locs cells slots la C hbc hbs hP hD hS hl hret)
set_option maxHeartbeats 4000000 in
theorem px_w_get (G : px_G) (l : Launch) : px_r_get G (px_Pw G l) := by
  intro M pc nx d bc bs tg z lv st ws Q idx ci k a fs v ha hF hw hv kk hok p e R s m args below meth c Z H locs cells slots la C hbc hbs hP hD hS hl hret
  obtain ⟨hx, hb, hr, hml, hown, hts, hlk, hin, hfr, hlo, hE⟩ := id C
  obtain ⟨hd, rfl⟩ := px_hd 3 hok ha rfl rfl
  obtain ⟨K, T, N, hc, hk, ref, hlink, hsm⟩ := hF
  obtain ⟨q0, hq, -⟩ := px_lk_pos _ _ _ hw
  exact va_get hx hb hts (px_clok hc).1 hown hE.1 hP q0 hq hc k hk (hts _ hlink) (px_sm hts hsm) hv hd (kk hok p e R s m args below meth c Z H locs cells slots la C hbc hbs hP hD hS hl hret)
set_option maxHeartbeats 4000000 in
theorem px_w_getN (G : px_G) (l : Launch) : px_r_getN G (px_Pw G l) := by
  intro M pc nx d bc bs tg z lv st ws Q idx ci k a fs v ha hF hw hv kk hok p e R s m args below meth c Z H locs cells slots la C hbc hbs hP hD hS hl hret
  obtain ⟨hx, hb, hr, hml, hown, hts, hlk, hin, hfr, hlo, hE⟩ := id C
  obtain ⟨hd, rfl⟩ := px_hd 3 hok ha rfl rfl
  obtain ⟨K, T, N, host, hc, hk, hlink⟩ := hF
  obtain ⟨q0, hq, -⟩ := px_lk_pos _ _ _ hw
  exact va_getN (host := host) hx hb hts (px_clok hc).1 hown hE.1 hP q0 hq hc k hk (va_Nw.use rfl (hE.2.2.1 _ hlink)) (fun _ h9 => h9) hv hd (kk hok p e R s m args below meth c Z H locs cells slots la C hbc hbs hP hD hS hl hret)
set_option maxHeartbeats 4000000 in
theorem px_w_put (G : px_G) (l : Launch) : px_r_put G (px_Pw G l) := by
  intro M pc nx d bc bs tg z lv st ws Q idx ci k a fs v ty ha hF hw hn hf hkl kk hok p e R s m args below meth c Z H locs cells slots la C hbc hbs hP hD hS hl hret
  obtain ⟨hx, hb, hr, hml, hown, hts, hlk, hin, hfr, hlo, hE⟩ := id C
  obtain ⟨hd, rfl⟩ := px_hd 3 hok ha rfl rfl
  obtain ⟨K, T, N, hc, hk, ⟨ref, hlink, hsm⟩, hfin, hty⟩ := hF
  obtain ⟨q0, hq, hu⟩ := px_lk_pos _ _ _ hw
  exact va_put hx hb hts (px_clok hc).1 (px_ty ci) (px_clok hc).2.1 (px_clok hc).2.2 hown hE.1 hP hD hS q0 hq hc k hk (hts _ hlink) (px_sm hts hsm) hfin (by rw [(px_clok hc).2.1 k hk, hty]) hn hf hkl hd (fun H1 locs1 hP1 hD1 hS1 => kk hok p e R s m args below meth c Z H1 locs1 cells slots la C hbc hbs (by rw [hu]; exact hP1) (by rw [hu]; exact hD1) hS1 hl hret)
set_option maxHeartbeats 4000000 in
theorem px_w_putF (G : px_G) (l : Launch) : px_r_putF G (px_Pw G l) := by
  intro M pc nx d bc bs tg z lv st ws Q idx ci k a fs v ty ha hF hi hw hn hf hkl kk hok p e R s m args below meth c Z H locs cells slots la C hbc hbs hP hD hS hl hret
  obtain ⟨hx, hb, hr, hml, hown, hts, hlk, hin, hfr, hlo, hE⟩ := id C
  obtain ⟨hd, rfl⟩ := px_hd 3 hok ha rfl rfl
  obtain ⟨K, T, N, hc, hk, ⟨ref, hlink, hsm⟩, hfin, hty, hdecl⟩ := hF
  obtain ⟨q0, hq, hu⟩ := px_lk_pos _ _ _ hw
  exact va_putF hx hb hts (px_clok hc).1 (px_ty ci) (px_clok hc).2.1 (px_clok hc).2.2 hown hE.1 hP hD hS q0 hq hc k hk (hts _ hlink) (px_sm hts hsm) hfin (hin hi) hdecl (by rw [(px_clok hc).2.1 k hk, hty]) hn hf hkl hd (fun H1 locs1 hP1 hD1 hS1 => kk hok p e R s m args below meth c Z H1 locs1 cells slots la C hbc hbs (by rw [hu]; exact hP1) (by rw [hu]; exact hD1) hS1 hl hret)
set_option maxHeartbeats 4000000 in
theorem px_w_new (G : px_G) (l : Launch) : px_r_new G (px_Pw G l) := by
  intro M pc nx d bc bs tg z lv st ws Q idx ci N fs ha hF kk hok p e R s m args below meth c Z H locs cells slots la C hbc hbs hP hD hS hl hret
  obtain ⟨hx, hb, hr, hml, hown, hts, hlk, hin, hfr, hlo, hE⟩ := id C
  obtain ⟨hd, rfl⟩ := px_hd 3 hok ha rfl rfl
  obtain ⟨K, T, hc, hcl, hins, hini, hfs⟩ := hF
  exact va_new hx hb hts (px_clok hc).1 (px_ty ci) (px_clok hc).2.1 hown (hts _ hcl) (hts _ hins) (hts _ hini) hE.1 hP hD hS (fun q h => Nat.le_trans hE.2.1 h) hc hfs (by omega) (by omega) hd (fun q H1 hP1 hD1 hS1 => kk q (px_fresh hD1) (hD1.2 ws.length (q, .inr (ci, fs)) (by simp)) hok p e R s m args below meth c Z H1 locs (cells + 1) (slots + N) la C (by omega) (by omega) hP1 hD1 hS1 hl (fun v1 ws1 H1' locs1' la1 pc1 g1 g2 g3 g4 g5 => by rw [show cells + 1 + bc = cells + (bc + 1) by omega, show slots + N + bs = slots + (bs + N) by omega]; exact hret v1 ws1 H1' locs1' la1 pc1 g1 g2 g3 g4 g5))
set_option maxHeartbeats 4000000 in
theorem px_w_weak (G : px_G) (l : Launch) : px_r_weak G (px_Pw G l) := by
  intro M pc d bc bs lv st ws Q dd k1 k2 kk hok p e R s m args below meth c Z H locs cells slots la C hbc hbs hP hD hS hl hret
  obtain ⟨hx, hb, hr, hml, hown, hts, hlk, hin, hfr, hlo, hE⟩ := id C
  refine W.widen (k := cells + k1) (n := slots + k2) (by omega) (by omega) ?_
  exact kk hok p e R s m args below meth c Z H locs (cells + k1) (slots + k2) la ⟨hx, hb, hr, hml, hown, hts, hlk, hin, by omega, by omega, hE⟩ (by omega) (by omega) hP hD hS hl (fun v1 ws1 H1' locs1' la1 pc1 g1 g2 g3 g4 g5 => by rw [show cells + k1 + bc = cells + (k1 + bc) by omega, show slots + k2 + bs = slots + (k2 + bs) by omega]; exact hret v1 ws1 H1' locs1' la1 pc1 g1 g2 g3 g4 g5)
set_option maxHeartbeats 4000000 in
theorem px_w_iret (G : px_G) (l : Launch) : px_r_iret G (px_Pw G l) := by
  intro M pc nx d bc bs tg z lv ws Q x ty ha ht hn hq hok p e R s m args below meth c Z H locs cells slots la C hbc hbs hP hD hS hl hret
  obtain ⟨hx, hb, hr, hml, hown, hts, hlk, hin, hfr, hlo, hE⟩ := id C
  refine W.widen (k := cells + bc) (n := slots + bs) (by omega) (by omega) ?_
  exact hret _ ws H locs la pc hq hP hD hS (Or.inl ⟨ty, x, rfl, ht, hn, (px_hd 1 hok ha rfl rfl).1⟩)
set_option maxHeartbeats 4000000 in
theorem px_w_vret (G : px_G) (l : Launch) : px_r_vret G (px_Pw G l) := by
  intro M pc nx d bc bs tg z lv ws Q ha ht hq hok p e R s m args below meth c Z H locs cells slots la C hbc hbs hP hD hS hl hret
  obtain ⟨hx, hb, hr, hml, hown, hts, hlk, hin, hfr, hlo, hE⟩ := id C
  refine W.widen (k := cells + bc) (n := slots + bs) (by omega) (by omega) ?_
  exact hret _ ws H locs la pc hq hP hD hS (Or.inr (Or.inl ⟨rfl, ht, (px_hd 1 hok ha rfl rfl).1⟩))
set_option maxHeartbeats 4000000 in
theorem px_w_aret (G : px_G) (l : Launch) : px_r_aret G (px_Pw G l) := by
  intro M pc nx d bc bs tg z lv ws Q r ty ha ht hty hq hok p e R s m args below meth c Z H locs cells slots la C hbc hbs hP hD hS hl hret
  obtain ⟨hx, hb, hr, hml, hown, hts, hlk, hin, hfr, hlo, hE⟩ := id C
  refine W.widen (k := cells + bc) (n := slots + bs) (by omega) (by omega) ?_
  exact hret _ ws H locs la pc hq hP hD hS (Or.inr (Or.inr ⟨ty, va_rf r, rfl, ht, hty, (by cases r with
    | none => exact Or.inl rfl
    | some y => exact Or.inr ⟨y, rfl⟩), (px_hd 1 hok ha rfl rfl).1⟩))
set_option maxHeartbeats 4000000 in
theorem px_w_ldc (G : px_G) (l : Launch) : px_r_ldc G (px_Pw G l) := by
  intro M pc nx d bc bs tg z lv st ws Q idx v ha hF kk hok p e R s m args below meth c Z H locs cells slots la C hbc hbs hP hD hS hl hret
  obtain ⟨hx, hb, hr, hml, hown, hts, hlk, hin, hfr, hlo, hE⟩ := id C
  obtain ⟨hd, rfl⟩ := px_hd 2 hok ha rfl rfl
  exact lv_ldc hx hb hown (hts _ hF) hd (kk hok p e R s m args below meth c Z H locs cells slots la C hbc hbs hP hD hS hl hret)
set_option maxHeartbeats 4000000 in
theorem px_w_castN (G : px_G) (l : Launch) : px_r_castN G (px_Pw G l) := by
  intro M pc nx d bc bs tg z lv st ws Q idx ha kk hok p e R s m args below meth c Z H locs cells slots la C hbc hbs hP hD hS hl hret
  obtain ⟨hx, hb, hr, hml, hown, hts, hlk, hin, hfr, hlo, hE⟩ := id C
  obtain ⟨hd, rfl⟩ := px_hd 3 hok ha rfl rfl
  exact lv_castN hx hb hd (kk hok p e R s m args below meth c Z H locs cells slots la C hbc hbs hP hD hS hl hret)
set_option maxHeartbeats 4000000 in
theorem px_w_castS (G : px_G) (l : Launch) : px_r_castS G (px_Pw G l) := by
  intro M pc nx d bc bs tg z lv st ws Q idx ci a fs ha hF hw kk hok p e R s m args below meth c Z H locs cells slots la C hbc hbs hP hD hS hl hret
  obtain ⟨hx, hb, hr, hml, hown, hts, hlk, hin, hfr, hlo, hE⟩ := id C
  obtain ⟨hd, rfl⟩ := px_hd 3 hok ha rfl rfl
  obtain ⟨K, T, N, hc, hcl⟩ := hF
  obtain ⟨q0, hq, -⟩ := px_lk_pos _ _ _ hw
  exact va_castS hx hb hown (hts _ hcl) (hE.1.1 ci _ hc).2 (va_recv hE.1 hP hc hq) hd (kk hok p e R s m args below meth c Z H locs cells slots la C hbc hbs hP hD hS hl hret)
set_option maxHeartbeats 4000000 in
theorem px_w_iald (G : px_G) (l : Launch) : px_r_iald G (px_Pw G l) := by
  intro M pc nx d bc bs tg z lv st ws Q a t n f j ha ht hw hj kk hok p e R s m args below meth c Z H locs cells slots la C hbc hbs hP hD hS hl hret
  obtain ⟨hx, hb, hr, hml, hown, hts, hlk, hin, hfr, hlo, hE⟩ := id C
  obtain ⟨hd, rfl⟩ := px_hd 1 hok ha rfl rfl
  obtain ⟨q0, hq, -⟩ := px_lk_pos _ _ _ hw
  exact va_iald hx hb hE.1 hP q0 t hq ht hj hd (kk hok p e R s m args below meth c Z H locs cells slots la C hbc hbs hP hD hS hl hret)
set_option maxHeartbeats 4000000 in
theorem px_w_zald (G : px_G) (l : Launch) : px_r_zald G (px_Pw G l) := by
  intro M pc nx d bc bs tg z lv st ws Q a t n f j ha ht hw hj kk hok p e R s m args below meth c Z H locs cells slots la C hbc hbs hP hD hS hl hret
  obtain ⟨hx, hb, hr, hml, hown, hts, hlk, hin, hfr, hlo, hE⟩ := id C
  obtain ⟨hd, rfl⟩ := px_hd 1 hok ha rfl rfl
  obtain ⟨q0, hq, -⟩ := px_lk_pos _ _ _ hw
  exact va_zald hx hb hE.1 hP q0 t hq ht hj hd (kk hok p e R s m args below meth c Z H locs cells slots la C hbc hbs hP hD hS hl hret)
set_option maxHeartbeats 4000000 in
theorem px_w_iast (G : px_G) (l : Launch) : px_r_iast G (px_Pw G l) := by
  intro M pc nx d bc bs tg z lv st ws Q a t n f j x ha ht hw hj kk hok p e R s m args below meth c Z H locs cells slots la C hbc hbs hP hD hS hl hret
  obtain ⟨hx, hb, hr, hml, hown, hts, hlk, hin, hfr, hlo, hE⟩ := id C
  obtain ⟨hd, rfl⟩ := px_hd 1 hok ha rfl rfl
  obtain ⟨q0, hq, hu⟩ := px_lk_pos _ _ _ hw
  exact va_iast hx hb hE.1 hP hD hS q0 t hq ht hj hd (fun H1 locs1 hP1 hD1 hS1 => kk hok p e R s m args below meth c Z H1 locs1 cells slots la C hbc hbs (by rw [hu]; exact hP1) (by rw [hu]; exact hD1) hS1 hl hret)
set_option maxHeartbeats 4000000 in
theorem px_w_zast (G : px_G) (l : Launch) : px_r_zast G (px_Pw G l) := by
  intro M pc nx d bc bs tg z lv st ws Q a t n f j x ha ht hw hj kk hok p e R s m args below meth c Z H locs cells slots la C hbc hbs hP hD hS hl hret
  obtain ⟨hx, hb, hr, hml, hown, hts, hlk, hin, hfr, hlo, hE⟩ := id C
  obtain ⟨hd, rfl⟩ := px_hd 1 hok ha rfl rfl
  obtain ⟨q0, hq, hu⟩ := px_lk_pos _ _ _ hw
  exact va_zast hx hb hE.1 hP hD hS q0 t hq ht hj hd (fun H1 locs1 hP1 hD1 hS1 => kk hok p e R s m args below meth c Z H1 locs1 cells slots la C hbc hbs (by rw [hu]; exact hP1) (by rw [hu]; exact hD1) hS1 hl hret)
set_option maxHeartbeats 4000000 in
theorem px_w_aald (G : px_G) (l : Launch) : px_r_aald G (px_Pw G l) := by
  intro M pc nx d bc bs tg z lv st ws Q a t n K f j ha ht hw hj kk hok p e R s m args below meth c Z H locs cells slots la C hbc hbs hP hD hS hl hret
  obtain ⟨hx, hb, hr, hml, hown, hts, hlk, hin, hfr, hlo, hE⟩ := id C
  obtain ⟨hd, rfl⟩ := px_hd 1 hok ha rfl rfl
  obtain ⟨q0, hq, -⟩ := px_lk_pos _ _ _ hw
  exact va_aldq hx hb hE.1 hP q0 t hq ht hj hd (kk hok p e R s m args below meth c Z H locs cells slots la C hbc hbs hP hD hS hl hret)
set_option maxHeartbeats 4000000 in
theorem px_w_aastN (G : px_G) (l : Launch) : px_r_aastN G (px_Pw G l) := by
  intro M pc nx d bc bs tg z lv st ws Q a t n K f j ha ht hw hj kk hok p e R s m args below meth c Z H locs cells slots la C hbc hbs hP hD hS hl hret
  obtain ⟨hx, hb, hr, hml, hown, hts, hlk, hin, hfr, hlo, hE⟩ := id C
  obtain ⟨hd, rfl⟩ := px_hd 1 hok ha rfl rfl
  obtain ⟨q0, hq, hu⟩ := px_lk_pos _ _ _ hw
  exact va_astqN hx hb hE.1 hP hD hS q0 t hq ht hj hd (fun H1 locs1 hP1 hD1 hS1 => kk hok p e R s m args below meth c Z H1 locs1 cells slots la C hbc hbs (by rw [hu]; exact hP1) (by rw [hu]; exact hD1) hS1 hl hret)
set_option maxHeartbeats 4000000 in
theorem px_w_aast (G : px_G) (l : Launch) : px_r_aast G (px_Pw G l) := by
  intro M pc nx d bc bs tg z lv st ws Q a t n v ci K C0 T N f vs j ha ht hw hc hca hv hj kk hok p e R s m args below meth c Z H locs cells slots la C hbc hbs hP hD hS hl hret
  obtain ⟨hx, hb, hr, hml, hown, hts, hlk, hin, hfr, hlo, hE⟩ := id C
  obtain ⟨hd, rfl⟩ := px_hd 1 hok ha rfl rfl
  obtain ⟨q0, hq, hu⟩ := px_lk_pos _ _ _ hw
  obtain ⟨qk, hqk, -⟩ := px_lk_pos _ _ _ hv
  exact va_astqO hx hb hE.1 hP hD hS q0 t qk ci hq ht (hE.2.2.1 _ hca) hqk hc hj hd (fun H1 locs1 hP1 hD1 hS1 => kk hok p e R s m args below meth c Z H1 locs1 cells slots la C hbc hbs (by rw [hu]; exact hP1) (by rw [hu]; exact hD1) hS1 hl hret)
set_option maxHeartbeats 4000000 in
theorem px_w_alen (G : px_G) (l : Launch) : px_r_alen G (px_Pw G l) := by
  intro M pc nx d bc bs tg z lv st ws Q a t n x ty ha ht hw hn kk hok p e R s m args below meth c Z H locs cells slots la C hbc hbs hP hD hS hl hret
  obtain ⟨hx, hb, hr, hml, hown, hts, hlk, hin, hfr, hlo, hE⟩ := id C
  obtain ⟨hd, rfl⟩ := px_hd 1 hok ha rfl rfl
  obtain ⟨q0, hq, -⟩ := px_lk_pos _ _ _ hw
  exact va_alen hx hb hE.1 hP q0 t hq ht (by rw [hn]; rfl) hd (kk hok p e R s m args below meth c Z H locs cells slots la C hbc hbs hP hD hS hl hret)
set_option maxHeartbeats 4000000 in
theorem px_w_sld (G : px_G) (l : Launch) : px_r_sld G (px_Pw G l) := by
  intro M pc nx d bc bs tg z lv st ws Q j ha hj kk hok p e R s m args below meth c Z H locs cells slots la C hbc hbs hP hD hS hl hret
  obtain ⟨hx, hb, hr, hml, hown, hts, hlk, hin, hfr, hlo, hE⟩ := id C
  obtain ⟨hd, rfl⟩ := px_hd 1 hok ha rfl rfl
  exact va_sld hx hb hE.2.2.2.1 (Nat.lt_of_lt_of_le hE.2.2.2.2.1 hE.2.1) (Nat.not_le.mpr hE.2.2.2.2.1) hS hj hd (kk hok p e R s m args below meth c Z H locs cells slots la C hbc hbs hP hD hS hl hret)
set_option maxHeartbeats 4000000 in
theorem px_w_slen (G : px_G) (l : Launch) : px_r_slen G (px_Pw G l) := by
  intro M pc nx d bc bs tg z lv st ws Q ha kk hok p e R s m args below meth c Z H locs cells slots la C hbc hbs hP hD hS hl hret
  obtain ⟨hx, hb, hr, hml, hown, hts, hlk, hin, hfr, hlo, hE⟩ := id C
  obtain ⟨hd, rfl⟩ := px_hd 1 hok ha rfl rfl
  exact va_slen hx hb hE.2.2.2.1 (Nat.lt_of_lt_of_le hE.2.2.2.2.1 hE.2.1) (Nat.not_le.mpr hE.2.2.2.2.1) hS hd (kk hok p e R s m args below meth c Z H locs cells slots la C hbc hbs hP hD hS hl hret)
set_option maxHeartbeats 4000000 in
theorem px_w_newI (G : px_G) (l : Launch) : px_r_newI G (px_Pw G l) := by
  intro M pc nx d bc bs tg z lv st ws Q t N n ha ht hw hn hN hby kk hok p e R s m args below meth c Z H locs cells slots la C hbc hbs hP hD hS hl hret
  obtain ⟨hx, hb, hr, hml, hown, hts, hlk, hin, hfr, hlo, hE⟩ := id C
  obtain ⟨hd, rfl⟩ := px_hd 2 hok ha rfl rfl
  exact va_newa (atype := .int) (ty := .int) (a0 := (N, .inl (fun _ => 0))) hx hb (hts _ hw) rfl hE.1 hP hD hS (fun q h => Nat.le_trans hE.2.1 h) (fun _ => rfl) hn hN hby (by omega) (by omega) hd (fun q cA H1 hK1 hP1 hD1 hS1 => by
    have hcA : cA = g_dA G t := px_cA_prim hE.1 hK1 ht (by intro n h; cases h)
    subst hcA
    exact kk q (px_fresh hD1) (px_freshA hD1) hok p e R s m args below meth c Z H1 locs (cells + 1) (slots + N) la C (by omega) (by omega) hP1 hD1 hS1 hl (fun v1 ws1 H1' locs1' la1 pc1 g1 g2 g3 g4 g5 => by rw [show cells + 1 + bc = cells + (bc + 1) by omega, show slots + N + bs = slots + (bs + N) by omega]; exact hret v1 ws1 H1' locs1' la1 pc1 g1 g2 g3 g4 g5))
set_option maxHeartbeats 4000000 in
theorem px_w_newZ (G : px_G) (l : Launch) : px_r_newZ G (px_Pw G l) := by
  intro M pc nx d bc bs tg z lv st ws Q t N n ha ht hw hn hN hby kk hok p e R s m args below meth c Z H locs cells slots la C hbc hbs hP hD hS hl hret
  obtain ⟨hx, hb, hr, hml, hown, hts, hlk, hin, hfr, hlo, hE⟩ := id C
  obtain ⟨hd, rfl⟩ := px_hd 2 hok ha rfl rfl
  exact va_newa (atype := .boolean) (ty := .boolean) (a0 := (N, .inl (fun _ => 0))) hx hb (hts _ hw) rfl hE.1 hP hD hS (fun q h => Nat.le_trans hE.2.1 h) (fun _ => rfl) hn hN hby (by omega) (by omega) hd (fun q cA H1 hK1 hP1 hD1 hS1 => by
    have hcA : cA = g_dA G t := px_cA_prim hE.1 hK1 ht (by intro n h; cases h)
    subst hcA
    exact kk q (px_fresh hD1) (px_freshA hD1) hok p e R s m args below meth c Z H1 locs (cells + 1) (slots + N) la C (by omega) (by omega) hP1 hD1 hS1 hl (fun v1 ws1 H1' locs1' la1 pc1 g1 g2 g3 g4 g5 => by rw [show cells + 1 + bc = cells + (bc + 1) by omega, show slots + N + bs = slots + (bs + N) by omega]; exact hret v1 ws1 H1' locs1' la1 pc1 g1 g2 g3 g4 g5))
set_option maxHeartbeats 4000000 in
theorem px_w_newQ (G : px_G) (l : Launch) : px_r_newQ G (px_Pw G l) := by
  intro M pc nx d bc bs tg z lv st ws Q idx t N n ha ht hcl hn hN hby kk hok p e R s m args below meth c Z H locs cells slots la C hbc hbs hP hD hS hl hret
  obtain ⟨hx, hb, hr, hml, hown, hts, hlk, hin, hfr, hlo, hE⟩ := id C
  obtain ⟨hd, rfl⟩ := px_hd 3 hok ha rfl rfl
  exact va_newq hx hb hown (hts _ hcl) hE.2.2.2.2.2.2.1 hE.1 hP hD hS (fun q h => Nat.le_trans hE.2.1 h) hn hN hby (by omega) (by omega) hd (fun q cA H1 hK1 hP1 hD1 hS1 => by
    have hcA : cA = g_dA G t := px_cA_obj hE.1 hK1 ht
    subst hcA
    exact kk q (px_fresh hD1) (px_freshA hD1) hok p e R s m args below meth c Z H1 locs (cells + 1) (slots + N) la C (by omega) (by omega) hP1 hD1 hS1 hl (fun v1 ws1 H1' locs1' la1 pc1 g1 g2 g3 g4 g5 => by rw [show cells + 1 + bc = cells + (bc + 1) by omega, show slots + N + bs = slots + (bs + N) by omega]; exact hret v1 ws1 H1' locs1' la1 pc1 g1 g2 g3 g4 g5))
set_option maxHeartbeats 4000000 in
theorem px_w_objI (G : px_G) (l : Launch) : px_r_objI G (px_Pw G l) := by
  intro M pc nx d bc bs tg z lv st ws Q idx a ha hF hi hco hst kk hok p e R s m args below meth c Z H locs cells slots la C hbc hbs hP hD hS hl hret
  obtain ⟨hx, hb, hr, hml, hown, hts, hlk, hin, hfr, hlo, hE⟩ := id C
  obtain ⟨hd, rfl⟩ := px_hd 3 hok ha rfl rfl
  refine W.objInit hx hb hown (hts _ hF) (hts _ hi) (hts _ hco) rfl (by rw [hml]; exact hl.1) rfl hd (by omega) ?_ ?_
  · have h9 := lv_room (m := m) (pc := pc) (ls := la) (rest := .ref a :: st) (st := st) hst
    omega
  · exact kk hok p e R s m args below meth c Z H locs cells slots la C hbc hbs hP hD hS hl hret
set_option maxHeartbeats 4000000 in
theorem px_w_max (G : px_G) (l : Launch) : px_r_max G (px_Pw G l) := by
  intro M pc nx d bc bs tg z lv st ws Q idx x y ha hF hs hi hco hst kk hok p e R s m args below meth c Z H locs cells slots la C hbc hbs hP hD hS hl hret
  obtain ⟨hx, hb, hr, hml, hown, hts, hlk, hin, hfr, hlo, hE⟩ := id C
  obtain ⟨hd, rfl⟩ := px_hd 3 hok ha rfl rfl
  exact va_mmax hx hb (hml.trans hl.1.symm) hown (hts _ hF) (hts _ hs) (hts _ hi) (hts _ hco) (by omega) (by omega) (by omega) (by omega) hd (kk hok p e R s m args below meth c Z H locs cells slots la C hbc hbs hP hD hS hl hret)
set_option maxHeartbeats 4000000 in
theorem px_w_min (G : px_G) (l : Launch) : px_r_min G (px_Pw G l) := by
  intro M pc nx d bc bs tg z lv st ws Q idx x y ha hF hs hi hco hst kk hok p e R s m args below meth c Z H locs cells slots la C hbc hbs hP hD hS hl hret
  obtain ⟨hx, hb, hr, hml, hown, hts, hlk, hin, hfr, hlo, hE⟩ := id C
  obtain ⟨hd, rfl⟩ := px_hd 3 hok ha rfl rfl
  exact va_mmin hx hb (hml.trans hl.1.symm) hown (hts _ hF) (hts _ hs) (hts _ hi) (hts _ hco) (by omega) (by omega) (by omega) (by omega) hd (kk hok p e R s m args below meth c Z H locs cells slots la C hbc hbs hP hD hS hl hret)
set_option maxHeartbeats 4000000 in
theorem px_w_tabO (G : px_G) (l : Launch) : px_r_tabO G (px_Pw G l) := by
  intro M pc nx d bc bs tg z lv st ws Q df lw hi os t x ha ho ht kk hok p e R s m args below meth c Z H locs cells slots la C hbc hbs hP hD hS hl hret
  obtain ⟨hx, hb, hr, hml, hown, hts, hlk, hin, hfr, hlo, hE⟩ := id C
  exact lv_tableOut hx hb (px_dec hok ha).1 ho ht (kk hok p e R s m args below meth c Z H locs cells slots la C hbc hbs hP hD hS hl hret)
set_option maxHeartbeats 4000000 in
theorem px_w_tabI (G : px_G) (l : Launch) : px_r_tabI G (px_Pw G l) := by
  intro M pc nx d bc bs tg z lv st ws Q df lw hi of os t x ha h1 h2 ho ht kk hok p e R s m args below meth c Z H locs cells slots la C hbc hbs hP hD hS hl hret
  obtain ⟨hx, hb, hr, hml, hown, hts, hlk, hin, hfr, hlo, hE⟩ := id C
  exact lv_tableIn hx hb (px_dec hok ha).1 h1 h2 ho ht (kk hok p e R s m args below meth c Z H locs cells slots la C hbc hbs hP hD hS hl hret)
set_option maxHeartbeats 4000000 in
theorem px_w_gets (G : px_G) (l : Launch) : px_r_gets G (px_Pw G l) := by
  intro M pc nx d bc bs tg z lv st ws Q idx k q ha hq hF kk hok p e R s m args below meth c Z H locs cells slots la C hbc hbs hP hD hS hl hret
  obtain ⟨hx, hb, hr, hml, hown, hts, hlk, hin, hfr, hlo, hE⟩ := id C
  obtain ⟨hd, rfl⟩ := px_hd 3 hok ha rfl rfl
  exact va_gets hx hb (hE.2.2.2.2.2.1 k q hq).1 hS hown (hts _ hF) (fun _ h9 => h9) hd (kk hok p e R s m args below meth c Z H locs cells slots la C hbc hbs hP hD hS hl hret)
set_option maxHeartbeats 4000000 in
theorem px_w_tlen (G : px_G) (l : Launch) : px_r_tlen G (px_Pw G l) := by
  intro M pc nx d bc bs tg z lv st ws Q k q ha hq kk hok p e R s m args below meth c Z H locs cells slots la C hbc hbs hP hD hS hl hret
  obtain ⟨hx, hb, hr, hml, hown, hts, hlk, hin, hfr, hlo, hE⟩ := id C
  obtain ⟨hd, rfl⟩ := px_hd 1 hok ha rfl rfl
  exact va_tlen hx hb (hE.2.2.2.2.2.1 k q hq).2 hS rfl hd (kk hok p e R s m args below meth c Z H locs cells slots la C hbc hbs hP hD hS hl hret)
set_option maxHeartbeats 4000000 in
theorem px_w_ldcw (G : px_G) (l : Launch) : px_r_ldcw G (px_Pw G l) := by
  intro M pc nx d bc bs tg z lv st ws Q idx v ha hF kk hok p e R s m args below meth c Z H locs cells slots la C hbc hbs hP hD hS hl hret
  obtain ⟨hx, hb, hr, hml, hown, hts, hlk, hin, hfr, hlo, hE⟩ := id C
  obtain ⟨hd, rfl⟩ := px_hd 3 hok ha rfl rfl
  exact lv_ldcw hx hb hown (hts _ hF) hd (kk hok p e R s m args below meth c Z H locs cells slots la C hbc hbs hP hD hS hl hret)
set_option maxHeartbeats 4000000 in
theorem px_w_ldcM (G : px_G) (l : Launch) : px_r_ldcM G (px_Pw G l) := by
  intro M pc nx d bc bs tg z lv st ws Q idx ha hF kk hok p e R s m args below meth c Z H locs cells slots la C hbc hbs hP hD hS hl hret
  obtain ⟨hx, hb, hr, hml, hown, hts, hlk, hin, hfr, hlo, hE⟩ := id C
  obtain ⟨hd, rfl⟩ := px_hd 2 hok ha rfl rfl
  exact va_ldcM hx hb hown (hts _ hF) hE.2.2.2.2.2.2.2 hd (kk hok p e R s m args below meth c Z H locs cells slots la C hbc hbs hP hD hS hl hret)
set_option maxHeartbeats 4000000 in
theorem px_w_getC (G : px_G) (l : Launch) : px_r_getC G (px_Pw G l) := by
  intro M pc nx d bc bs tg z lv st ws Q idx a n f ha hF hw hst kk hok p e R s m args below meth c Z H locs cells slots la C hbc hbs hP hD hS hl hret
  obtain ⟨hx, hb, hr, hml, hown, hts, hlk, hin, hfr, hlo, hE⟩ := id C
  obtain ⟨hd, rfl⟩ := px_hd 3 hok ha rfl rfl
  obtain ⟨q0, hq, -⟩ := px_lk_pos _ _ _ hw
  exact va_getC (C := "[Ljava/lang/Object;") hx hb (hml.trans hl.1.symm) hown (hts _ hF) (va_Nw.use rfl (hE.2.2.1 _ w_683)) (hts _ w_682) (hts _ w_199) (hts _ w_209) hE.2.2.2.2.2.2.2 ⟨_, hP q0 _ hq, rfl, va_nmO (hE.1.2 2 _ rfl).2 (by decide +kernel)⟩ (by omega) (by omega) hd (kk hok p e R s m args below meth c Z H locs cells slots la C hbc hbs hP hD hS hl hret)
set_option maxHeartbeats 4000000 in
theorem px_w_copy (G : px_G) (l : Launch) : px_r_copy G (px_Pw G l) := by
  intro M pc nx d bc bs tg z lv st ws Q idx a0 a n0 n1 f g sp dp n ha hF hw0 hw1 h1 h2 h3 h4 h5 hel hst kk hok p e R s m args below meth c Z H locs cells slots la C hbc hbs hP hD hS hl hret
  obtain ⟨hx, hb, hr, hml, hown, hts, hlk, hin, hfr, hlo, hE⟩ := id C
  obtain ⟨hd, rfl⟩ := px_hd 3 hok ha rfl rfl
  obtain ⟨q0, hq0, -⟩ := px_lk_pos _ _ _ hw0
  obtain ⟨q1, hq, hu⟩ := px_lk_pos _ _ _ hw1
  have hnat : nativeFrameWords "java/lang/System" "arraycopy" 5 + 11 ≤ 29 := by decide +kernel
  exact va_copyM hx hb (hml.trans hl.1.symm) hown (hts _ hF) (hts _ w_221) (hts _ w_220) (hts _ w_12) hE.1 hP hD hS q0 q1 2 2 hq0 hq rfl rfl h1 h2 h3 h4 h5 (fun i hi y hy => by
    obtain ⟨ci, fs, K, T, N, hly, hc, hca⟩ := hel i hi y hy
    obtain ⟨qy, hqy, -⟩ := px_lk_pos _ _ _ hly
    refine va_rAny hE.1 hP hqy hc (fun comp c0 e1 e2 => ?_)
    obtain ⟨c9, t9, f1, f2, f3⟩ := Cond.castable_spec (va_Nw.use (A := args) rfl (hE.2.2.1 _ hca))
    cases e2.symm.trans f1
    cases e1.symm.trans f2
    exact f3) (by omega) (by omega) hd (fun H1 locs1 hP1 hD1 hS1 => kk hok p e R s m args below meth c Z H1 locs1 cells slots la C hbc hbs (by rw [hu]; exact hP1) (by rw [hu]; exact hD1) hS1 hl hret)
set_option maxHeartbeats 4000000 in
theorem px_w_callV (G : px_G) (l : Launch) : px_r_callV G (px_Pw G l) := by
  intro M pc nx d bc bs tg z lv st ws Q idx kc ks n B S M' As rest Rq b ci C0 T N fs ha hF hcl hw hg hsp hB hSS hvl hrs hc kk hok p e R s m args below meth c Z H locs cells slots la C hbc hbs hP hD hS hl hret
  obtain ⟨hx, hb, hr, hml, hown, hts, hlk, hin, hfr, hlo, hE⟩ := id C
  obtain ⟨hd, rfl⟩ := px_hd 3 hok ha rfl rfl
  subst hB
  subst hSS
  obtain ⟨hst, hn⟩ := px_spl_eq n st hsp
  subst hst
  have hmet := px_met hg hvl hc
  obtain ⟨q0, hq, -⟩ := px_lk_pos _ _ _ hw
  have hcw : CallW R s args (px_y M).cls C0 idx (px_y M') (px_b M') (px_L M') (px_t M') (Cond.code (px_y M') (px_b M') (px_L M') (px_t M') :: px_TB) (px_rm d kc ks) kc ks n := cwV n hts (px_goodIn (px_wsV hF.1 hg)) rfl rfl rfl hF.2 ⟨by show d + 1 ≤ R.frames; omega, by show 8 + (px_L M' + 11) + 37 * d ≤ R.locals; have := hg.2.2.2; omega⟩
  have hpre : PreV s H C0 b (px_Pc G (.ref b :: As) ws) As := ⟨fun a U g mk q => ⟨q.1, q.2.1.blind, q.2.2.1, q.2.2.2⟩, va_recv hE.1 hP hcl hq, fun U hU hW => ⟨rfl, hE.go hS hU hW, by rw [hU]; exact hP, hD⟩⟩
  refine px_after (va_runV (As := As) (rest := rest) ⟨hx, hb, hml, hown, hts⟩ hmet hcw hpre rfl hn hl.1 rfl (lv_room hrs) hd ⟨by omega, by omega⟩) hS (fun v ws1 H1 locs1 g0 g1 g2 g3 => kk v ws1 g0 hok p e R s m args below meth c Z H1 locs1 (cells + kc) (slots + ks) la C (by omega) (by omega) g1 g2 g3 hl (fun v1 ws1 H1' locs1' la1 pc1 g1 g2 g3 g4 g5 => by rw [show cells + kc + bc = cells + (bc + kc) by omega, show slots + ks + bs = slots + (bs + ks) by omega]; exact hret v1 ws1 H1' locs1' la1 pc1 g1 g2 g3 g4 g5))
set_option maxHeartbeats 4000000 in
theorem px_w_callVN (G : px_G) (l : Launch) : px_r_callVN G (px_Pw G l) := by
  intro M pc nx d bc bs tg z lv st ws Q idx kc ks n B S M' As rest Rq b ci C0 host T N fs ha hF hcl hw hg hsp hB hSS hvl hrs hc kk hok p e R s m args below meth c Z H locs cells slots la C hbc hbs hP hD hS hl hret
  obtain ⟨hx, hb, hr, hml, hown, hts, hlk, hin, hfr, hlo, hE⟩ := id C
  obtain ⟨hd, rfl⟩ := px_hd 3 hok ha rfl rfl
  subst hB
  subst hSS
  obtain ⟨hst, hn⟩ := px_spl_eq n st hsp
  subst hst
  have hmet := px_met hg hvl hc
  obtain ⟨q0, hq, -⟩ := px_lk_pos _ _ _ hw
  have hcw : va_CN R s args (px_y M).cls idx (px_y M') host (px_b M') (px_L M') (px_t M') (Cond.code (px_y M') (px_b M') (px_L M') (px_t M') :: px_TB) (px_rm d kc ks) kc ks n ∧ (Cond.instanceMethod (px_y M')).before args s = true ∧ (Cond.selects C0 (px_y M') (px_y M')).before args s = true := ⟨va_cnB n hts (px_goodIn (px_wsC hg)) rfl rfl rfl (hE.2.2.1 _ hF.1) (hts _ hF.2.1) hF.2.2.2.2 ⟨by show d + 1 ≤ R.frames; omega, by show 8 + (px_L M' + 11) + 37 * d ≤ R.locals; have := hg.2.2.2; omega⟩, hts _ hF.2.2.1, hts _ hF.2.2.2.1⟩
  have hpre : PreV s H C0 b (px_Pc G (.ref b :: As) ws) As := ⟨fun a U g mk q => ⟨q.1, q.2.1.blind, q.2.2.1, q.2.2.2⟩, va_recv hE.1 hP hcl hq, fun U hU hW => ⟨rfl, hE.go hS hU hW, by rw [hU]; exact hP, hD⟩⟩
  refine px_after (va_runVN (As := As) (rest := rest) ⟨hx, hb, hml, hown, hts⟩ hmet hcw hpre rfl hn hl.1 rfl (lv_room hrs) hd ⟨by omega, by omega⟩) hS (fun v ws1 H1 locs1 g0 g1 g2 g3 => kk v ws1 g0 hok p e R s m args below meth c Z H1 locs1 (cells + kc) (slots + ks) la C (by omega) (by omega) g1 g2 g3 hl (fun v1 ws1 H1' locs1' la1 pc1 g1 g2 g3 g4 g5 => by rw [show cells + kc + bc = cells + (bc + kc) by omega, show slots + ks + bs = slots + (bs + ks) by omega]; exact hret v1 ws1 H1' locs1' la1 pc1 g1 g2 g3 g4 g5))
set_option maxHeartbeats 4000000 in
theorem px_w_callS (G : px_G) (l : Launch) : px_r_callS G (px_Pw G l) := by
  intro M pc nx d bc bs tg z lv st ws Q idx kc ks n B S M' As rest Rq ha hF hg hsp hB hSS hvl hrs hc kk hok p e R s m args below meth c Z H locs cells slots la C hbc hbs hP hD hS hl hret
  obtain ⟨hx, hb, hr, hml, hown, hts, hlk, hin, hfr, hlo, hE⟩ := id C
  obtain ⟨hd, rfl⟩ := px_hd 3 hok ha rfl rfl
  subst hB
  subst hSS
  obtain ⟨hst, hn⟩ := px_spl_eq n st hsp
  subst hst
  have hmet := px_met hg hvl hc
  have hcw : CallB R s args (px_y M).cls idx (px_y M') (px_b M') (px_L M') (px_t M') (Cond.code (px_y M') (px_b M') (px_L M') (px_t M') :: px_TB) (px_rm d kc ks) kc ks n ∧ (Cond.static (px_y M')).before args s = true := ⟨callB_of n hts (px_goodIn (px_wsC hg)) rfl rfl rfl (hts _ hF.1) (hts _ hF.2.1) hF.2.2.2 ⟨by show d + 1 ≤ R.frames; omega, by show 8 + (px_L M' + 11) + 37 * d ≤ R.locals; have := hg.2.2.2; omega⟩, hts _ hF.2.2.1⟩
  have hpre : PreS s H (px_Pc G As ws) As := ⟨fun a U g mk q => ⟨q.1, q.2.1.blind, q.2.2.1, q.2.2.2⟩, fun U hU hW => ⟨rfl, hE.go hS hU hW, by rw [hU]; exact hP, hD⟩⟩
  refine px_after (va_runS (As := As) (rest := rest) ⟨hx, hb, hml, hown, hts⟩ hmet hcw hpre rfl hn hl.1 rfl (lv_room hrs) hd ⟨by omega, by omega⟩) hS (fun v ws1 H1 locs1 g0 g1 g2 g3 => kk v ws1 g0 hok p e R s m args below meth c Z H1 locs1 (cells + kc) (slots + ks) la C (by omega) (by omega) g1 g2 g3 hl (fun v1 ws1 H1' locs1' la1 pc1 g1 g2 g3 g4 g5 => by rw [show cells + kc + bc = cells + (bc + kc) by omega, show slots + ks + bs = slots + (bs + ks) by omega]; exact hret v1 ws1 H1' locs1' la1 pc1 g1 g2 g3 g4 g5))
set_option maxHeartbeats 4000000 in
theorem px_w_callI (G : px_G) (l : Launch) : px_r_callI G (px_Pw G l) := by
  intro M pc nx d bc bs tg z lv st ws Q idx kc ks n B S M' As rest Rq b ha hF hg hsp hB hSS hvl hrs hc kk hok p e R s m args below meth c Z H locs cells slots la C hbc hbs hP hD hS hl hret
  obtain ⟨hx, hb, hr, hml, hown, hts, hlk, hin, hfr, hlo, hE⟩ := id C
  obtain ⟨hd, rfl⟩ := px_hd 3 hok ha rfl rfl
  subst hB
  subst hSS
  obtain ⟨hst, hn⟩ := px_spl_eq n st hsp
  subst hst
  have hmet := px_met hg hvl hc
  have hcw : CallB R s args (px_y M).cls idx (px_y M') (px_b M') (px_L M') none (Cond.code (px_y M') (px_b M') (px_L M') (px_t M') :: px_TB) (px_rm d kc ks) kc ks n ∧ (px_y M').name = "<init>" ∧ (Cond.instanceMethod (px_y M')).before args s = true := cwI n hts (px_goodIn (px_wsC hg)) (by rw [hF.2.2.2.2.2]) rfl rfl (hts _ hF.1) (hts _ hF.2.1) (hts _ hF.2.2.1) hF.2.2.2.1 hF.2.2.2.2.1 ⟨by show d + 1 ≤ R.frames; omega, by show 8 + (px_L M' + 11) + 37 * d ≤ R.locals; have := hg.2.2.2; omega⟩
  have hpre : PreS s H (px_Pc G (.ref b :: As) ws) (.ref b :: As) := ⟨fun a U g mk q => ⟨q.1, q.2.1.blind, q.2.2.1, q.2.2.2⟩, fun U hU hW => ⟨rfl, hE.go hS hU hW, by rw [hU]; exact hP, hD⟩⟩
  refine px_after (va_runI (As := As) (rest := rest) ⟨hx, hb, hml, hown, hts⟩ hmet hcw hpre rfl hn hl.1 rfl (lv_room hrs) hd ⟨by omega, by omega⟩) hS (fun v ws1 H1 locs1 g0 g1 g2 g3 => kk v ws1 g0 hok p e R s m args below meth c Z H1 locs1 (cells + kc) (slots + ks) la C (by omega) (by omega) g1 g2 g3 hl (fun v1 ws1 H1' locs1' la1 pc1 g1 g2 g3 g4 g5 => by rw [show cells + kc + bc = cells + (bc + kc) by omega, show slots + ks + bs = slots + (bs + ks) by omega]; exact hret v1 ws1 H1' locs1' la1 pc1 g1 g2 g3 g4 g5))
set_option maxHeartbeats 4000000 in
theorem px_w_callIN (G : px_G) (l : Launch) : px_r_callIN G (px_Pw G l) := by
  intro M pc nx d bc bs tg z lv st ws Q idx kc ks n B S M' As rest Rq b host ha hF hg hsp hB hSS hvl hrs hc kk hok p e R s m args below meth c Z H locs cells slots la C hbc hbs hP hD hS hl hret
  obtain ⟨hx, hb, hr, hml, hown, hts, hlk, hin, hfr, hlo, hE⟩ := id C
  obtain ⟨hd, rfl⟩ := px_hd 3 hok ha rfl rfl
  subst hB
  subst hSS
  obtain ⟨hst, hn⟩ := px_spl_eq n st hsp
  subst hst
  have hmet := px_met hg hvl hc
  have hcw : va_CN R s args (px_y M).cls idx (px_y M') host (px_b M') (px_L M') none (Cond.code (px_y M') (px_b M') (px_L M') (px_t M') :: px_TB) (px_rm d kc ks) kc ks n ∧ (px_y M').name = "<init>" ∧ (Cond.instanceMethod (px_y M')).before args s = true := ⟨va_cnB n hts (px_goodIn (px_wsC hg)) (by rw [hF.2.2.2.2.2]) rfl rfl (hE.2.2.1 _ hF.2.1) (hts _ hF.1) hF.2.2.2.2.1 ⟨by show d + 1 ≤ R.frames; omega, by show 8 + (px_L M' + 11) + 37 * d ≤ R.locals; have := hg.2.2.2; omega⟩, hF.2.2.2.1, hts _ hF.2.2.1⟩
  have hpre : PreS s H (px_Pc G (.ref b :: As) ws) (.ref b :: As) := ⟨fun a U g mk q => ⟨q.1, q.2.1.blind, q.2.2.1, q.2.2.2⟩, fun U hU hW => ⟨rfl, hE.go hS hU hW, by rw [hU]; exact hP, hD⟩⟩
  refine px_after (va_runIN (As := As) (rest := rest) ⟨hx, hb, hml, hown, hts⟩ hmet hcw hpre rfl hn hl.1 rfl (lv_room hrs) hd ⟨by omega, by omega⟩) hS (fun v ws1 H1 locs1 g0 g1 g2 g3 => kk v ws1 g0 hok p e R s m args below meth c Z H1 locs1 (cells + kc) (slots + ks) la C (by omega) (by omega) g1 g2 g3 hl (fun v1 ws1 H1' locs1' la1 pc1 g1 g2 g3 g4 g5 => by rw [show cells + kc + bc = cells + (bc + kc) by omega, show slots + ks + bs = slots + (bs + ks) by omega]; exact hret v1 ws1 H1' locs1' la1 pc1 g1 g2 g3 g4 g5))
set_option maxHeartbeats 4000000 in
theorem px_w_wf (G : px_G) (l : Launch) : px_r_wf G (px_Pw G l) := by
  intro M pc d bc bs lv st ws Q kk hok p e R s m args below meth c Z H locs cells slots la C hbc hbs hP hD hS hl hret
  obtain ⟨hx, hb, hr, hml, hown, hts, hlk, hin, hfr, hlo, hE⟩ := id C
  refine kk ⟨fun a x hx => ?_, ?_⟩ hok p e R s m args below meth c Z H locs cells slots la C hbc hbs hP hD hS hl hret
  · obtain ⟨q0, hq, -⟩ := px_lk_pos _ _ _ hx
    exact hD.2 q0 _ hq
  · obtain ⟨cell, -, -, -, -, -, -, hn⟩ := (hE.2.2.2.2.2.1 0 _ rfl).2
    exact Nat.not_le.mp hn
set_option maxHeartbeats 4000000 in
theorem px_w_lv (G : px_G) (l : Launch) : px_r_lv G (px_Pw G l) := by
  intro M pc d bc bs lv st ws Q lv2 ks hs kk hok p e R s m args below meth c Z H locs cells slots la C hbc hbs hP hD hS hl hret
  obtain ⟨hx, hb, hr, hml, hown, hts, hlk, hin, hfr, hlo, hE⟩ := id C
  exact kk hok p e R s m args below meth c Z H locs cells slots la C hbc hbs hP hD hS (lv_sub hl ks hs) hret
set_option maxHeartbeats 4000000 in
theorem px_w_post (G : px_G) (l : Launch) : px_r_post G (px_Pw G l) := by
  intro M pc d bc bs lv st ws Q Q1 hp kk hok p e R s m args below meth c Z H locs cells slots la C hbc hbs hP hD hS hl hret
  obtain ⟨hx, hb, hr, hml, hown, hts, hlk, hin, hfr, hlo, hE⟩ := id C
  exact kk hok p e R s m args below meth c Z H locs cells slots la C hbc hbs hP hD hS hl (fun v1 ws1 H1 locs1 la1 pc1 g1 => hret v1 ws1 H1 locs1 la1 pc1 (hp v1 ws1 g1))
theorem px_closed (G : px_G) (l : Launch) : px_Cl G (px_Pw G l) := ⟨px_w_s G l, px_w_aloadR G l, px_w_astoreR G l, px_w_goto G l, px_w_if G l, px_w_icmp G l, px_w_ifnull G l, px_w_ifnonnull G l, px_w_acmpeq G l, px_w_acmpne G l, px_w_idiv G l, px_w_irem G l, px_w_get G l, px_w_getN G l, px_w_put G l, px_w_putF G l, px_w_new G l, px_w_weak G l, px_w_iret G l, px_w_vret G l, px_w_aret G l, px_w_ldc G l, px_w_castN G l, px_w_castS G l, px_w_iald G l, px_w_zald G l, px_w_iast G l, px_w_zast G l, px_w_aald G l, px_w_aastN G l, px_w_aast G l, px_w_alen G l, px_w_sld G l, px_w_slen G l, px_w_newI G l, px_w_newZ G l, px_w_newQ G l, px_w_objI G l, px_w_max G l, px_w_min G l, px_w_tabO G l, px_w_tabI G l, px_w_gets G l, px_w_tlen G l, px_w_ldcw G l, px_w_ldcM G l, px_w_getC G l, px_w_copy G l, px_w_callV G l, px_w_callVN G l, px_w_callS G l, px_w_callI G l, px_w_callIN G l, px_w_wf G l, px_w_lv G l, px_w_post G l⟩
/-- SOUND: what the small machine says, the machine does -/
theorem px_sound {G : px_G} (l : Launch) {M : px_M} {pc : Nat} {lv : List (Nat × Value)} {st : List Value} {ws : va_W} {d bc bs : Nat} {Q : Option Value → va_W → Prop} (h : px G M pc lv st ws d bc bs Q) : px_Pw G l M pc lv st ws d bc bs Q := h _ (px_closed G l)
