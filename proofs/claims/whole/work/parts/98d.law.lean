/-! THE LAW, call by call -/
section LAW
variable {ys : Nat → Int32} {L j : Nat} {γ : Type} {Q : γ → Prop} {p : Int} {S : St} {I I2 : MI} {J : MJ} {R : MR}
theorem w_l1 {K : Int32 → Option γ} (h : En Q (K (iI (p + 1)))) : En Q (lt_ (iI p + 1) K) := by
  have e : iI p + 1 = iI (p + 1) := iI_add p 1
  rw [e]
  exact h
theorem w_l2 {K : Int32 → Option γ} (h : En Q (K (iI (p + 2)))) : En Q (lt_ (iI p + 2) K) := by
  have e : iI p + 2 = iI (p + 2) := iI_add p 2
  rw [e]
  exact h
theorem w_l3 {K : Int32 → Option γ} (h : En Q (K (iI (p + 3)))) : En Q (lt_ (iI p + 3) K) := by
  have e : iI p + 3 = iI (p + 3) := iI_add p 3
  rw [e]
  exact h
theorem w_l4 {K : Int32 → Option γ} (h : En Q (K (iI (p + 4)))) : En Q (lt_ (iI p + 4) K) := by
  have e : iI p + 4 = iI (p + 4) := iI_add p 4
  rw [e]
  exact h
theorem w_sc {K : Int32 → Option γ} (h0 : 0 ≤ p) (h1 : p < L) (hL : L ≤ 2048) (h : En Q (K (ys p.toNat))) : En Q (sc_ ys L (iI p) K) := by
  unfold sc_
  rw [if_pos (ix_ok h0 h1 (by omega)), iI_nat ⟨by omega, by omega⟩]
  exact h
theorem bool_o (x : Int32) : ∃ o : Int, (o = 0 ∨ o = 1) ∧ ((x = 0 ∧ o = 0) ∨ (¬ x = 0 ∧ o = 1)) := by
  by_cases h : x = 0
  · exact ⟨0, Or.inl rfl, Or.inl ⟨h, rfl⟩⟩
  · exact ⟨1, Or.inr rfl, Or.inr ⟨h, rfl⟩⟩
theorem ps_80 {T : TX} {n lo hi : Nat} : ∀ (d i : Nat) (w : Int) (m : Nat) (L : LN), i ≤ n → -1 ≤ w ∧ w ≤ n → hi < 14 → 5 * m ≤ i → 5 * (psV T n lo hi d i w m L).2.2.1 ≤ n
  | 0, i, w, m, L, hin, _, _, hm => by
    show 5 * m ≤ n
    omega
  | d + 1, i, w, m, L, hin, hw, hhi, hm => by
    by_cases h0 : tK T n i = 0
    · rw [ps_0 h0]
      show 5 * m ≤ n
      omega
    by_cases h1 : vbH T n i lo (hi + 1 - lo) = -1
    · rw [ps_n h0 h1]
      show 5 * m ≤ n
      omega
    obtain ⟨v, hv, hv1, hv2, hvb⟩ := vbH_is _ _ h1
    cases ho : lnO T n v i w
    · rw [ps_f h0 hv ho]
      show 5 * m ≤ n
      omega
    · rw [ps_s h0 hv ho]
      have h5 := ln_5 hin hw (by omega) hvb ho
      have hE := tE_b (T := T) hin
      have hnt := nt_b (T := T) (n := n) (v := v) (nOf v) 0 (tE T n i) w (fun _ => 0) hE.2.1 hw
      exact ps_80 d _ _ _ _ h5.2.1 hnt.2.2.1 hhi (by omega)
theorem pS_80 {T : TX} {n lo hi : Nat} (ht : Tok T n) (hhi : hi < 14) : (pS0 T n lo hi).2.2.1 ≤ 80 := by
  have h := ps_80 (T := T) (n := n) (lo := lo) (hi := hi) 90 0 (-1) 0 (fun _ => (0, 0, 0)) (by omega) (by omega) hhi (by omega)
  have h4 := ht.1
  have h : 5 * (pS0 T n lo hi).2.2.1 ≤ n := h
  omega
theorem scr_ok {V : RV} {T : TX} {n : Nat} (ht : Tok T n) (hw : WR V) (hn : WN V) : WR (scrV V (pS0 T n 4 13)) ∧ WN (scrV V (pS0 T n 4 13)) ∧ (scrV V (pS0 T n 4 13)).2 5 6 ≤ V.2 5 6 + 80 := by
  have h80 := pS_80 (T := T) (n := n) (lo := 4) (hi := 13) ht (by omega)
  unfold scrV
  by_cases h : (pS0 T n 4 13).1 = 0
  · rw [if_pos h]
    have h1 := wn_run (L := (pS0 T n 4 13).2.2.2) (pS0 T n 4 13).2.2.1 0 hw hn
    exact ⟨wr_run _ _ hw, h1.1, by omega⟩
  · rw [if_neg h]
    exact ⟨hw, hn, by omega⟩
theorem sto_ok {V : RV} {x : Int32} {n : Int} (hw : WR V) (hn : WN V) : WR (stoV V x n) ∧ WN (stoV V x n) ∧ (stoV V x n).2 5 6 ≤ V.2 5 6 + 80 := by
  unfold stoV
  by_cases h : 1 ≤ n ∧ n ≤ 60
  · rw [if_pos h]
    have h1 := wn_stm (D := drX) (Z := shV) (n := n.toNat) (x := x) hw hn
    exact ⟨wr_stm hw, h1.1, by have := h1.2; show (stmV drX shV n.toNat x V).2 5 6 ≤ _; omega⟩
  · rw [if_neg h]
    exact ⟨hw, hn, by omega⟩
theorem mod_6 {V : RV} {b : Int} : (modV V b).2 5 6 = V.2 5 6 := upG_ne (by omega)
theorem wn_mod {V : RV} {b : Int} (h : WN V) : WN (modV V b) := wn_up h (by omega)
theorem rd_6 {V : RV} : (readV V).2.2 5 6 = V.2 5 6 := (rdn_1 17).2
set_option maxHeartbeats 4000000 in
theorem law_4 (hL : L ≤ 2048) (hj : 4 * (j : Int) + 3 < L) (hI : INV (80 * (j : Int)) S) {j11 : St → Option Unit} (hj11 : ∀ S, INV (80 * ((j + 1 : Nat) : Int)) S → En (fun _ => True) (j11 S)) : En (fun _ => True) (
      lt_ ((iI (4 * (j : Int))) + 1 : Int32) fun v52 =>
      sc_ ys L v52 fun v53 =>
      ck_ S 0 8 <| cI_ (f_X8_tick S 0 v53) fun v55 S54 =>
      lt_ ((iI (4 * (j : Int))) + 1 : Int32) fun v56 =>
      sc_ ys L v56 fun v57 =>
      ck_ S54 373 9 <| cI_ (f_X9_tick S54 373 v57) fun v59 S58 =>
      if v55 = v59 then
        j11 (S58)
      else
        none) := by
  obtain ⟨I, J, R, σ, π, σs, V, Vs, T, n, fl, pl, rfl, hRC, hR, hc, hq, hw, hn, hb, hcs, hws, ht, him⟩ := hI
  have k0 := kd_0
  have k374 := kd_374
  obtain ⟨t1, t2, t3, t4, t5, t6, t7, t8, hT⟩ := id ht
  have hx : TXC I T n := ⟨t1, t2⟩
  have hBB : 80 * (j : Int) ≤ 80 * ((j + 1 : Nat) : Int) := by omega
  obtain ⟨a1, ha1, e1⟩ := iI_of (ys (4 * (j : Int) + 1).toNat)
  have hw' : WR (goV V a1).2 := wr_go hw
  have hn' : WN (goV V a1).2 := wn_go hn
  have hb' : (goV V a1).2.2 5 6 ≤ 80 * ((j + 1 : Nat) : Int) := by
    rw [go_6]
    omega
  refine w_l1 ?_
  refine w_sc (by omega) (by omega) hL ?_
  rw [e1]
  refine w_ck (by omega) k0 ?_
  refine w_cI (tick_X (J := J) hRC hc hw ha1) ?_
  rintro v S ⟨hv, I1, R1, σ1, rfl, hc1, hF, hRF⟩
  have hR1 := hR.m (r := 1) (by omega) hRF
  have hq1 : RMQ I1 π V := rmq_congr hq fun k _ => hF _ _ (by omega) (by omega)
  refine w_l1 ?_
  refine w_sc (by omega) (by omega) hL ?_
  rw [e1]
  refine w_ck (by omega) k374 ?_
  refine w_cI (tick_Y (J := J) hR1 hq1 hw ha1) ?_
  rintro v2 S ⟨hv2, I2, π2, rfl, hq2, hK⟩
  refine w_pos (hv.trans hv2.symm) ?_
  exact hj11 _ (inv_act hBB hRC hR hcs hws ht him hc1 hF hRF hq2 hK hw' hn' hb')
set_option maxHeartbeats 4000000 in
theorem law_5 (hL : L ≤ 2048) (hj : 4 * (j : Int) + 3 < L) (hI : INV (80 * (j : Int)) S) {j11 : St → Option Unit} (hj11 : ∀ S, INV (80 * ((j + 1 : Nat) : Int)) S → En (fun _ => True) (j11 S)) : En (fun _ => True) (
      lt_ ((iI (4 * (j : Int))) + 1 : Int32) fun v60 =>
      sc_ ys L v60 fun v61 =>
      lt_ ((iI (4 * (j : Int))) + 2 : Int32) fun v62 =>
      sc_ ys L v62 fun v63 =>
      ck_ S 0 8 <| cI_ (f_X8_take S 0 v61 v63) fun v65 S64 =>
      lt_ ((iI (4 * (j : Int))) + 1 : Int32) fun v66 =>
      sc_ ys L v66 fun v67 =>
      lt_ ((iI (4 * (j : Int))) + 2 : Int32) fun v68 =>
      sc_ ys L v68 fun v69 =>
      ck_ S64 373 9 <| cI_ (f_X9_take S64 373 v67 v69) fun v71 S70 =>
      if v65 = v71 then
        j11 (S70)
      else
        none) := by
  obtain ⟨I, J, R, σ, π, σs, V, Vs, T, n, fl, pl, rfl, hRC, hR, hc, hq, hw, hn, hb, hcs, hws, ht, him⟩ := hI
  have k0 := kd_0
  have k374 := kd_374
  obtain ⟨t1, t2, t3, t4, t5, t6, t7, t8, hT⟩ := id ht
  have hx : TXC I T n := ⟨t1, t2⟩
  have hBB : 80 * (j : Int) ≤ 80 * ((j + 1 : Nat) : Int) := by omega
  obtain ⟨a1, ha1, e1⟩ := iI_of (ys (4 * (j : Int) + 1).toNat)
  obtain ⟨a2, ha2, e2⟩ := iI_of (ys (4 * (j : Int) + 2).toNat)
  have hw' : WR (takV V a1 a2).2 := wr_tak hw
  have hn' : WN (takV V a1 a2).2 := (wn_tak hw hn).1
  have hb' : (takV V a1 a2).2.2 5 6 ≤ 80 * ((j + 1 : Nat) : Int) := by
    have := (wn_tak (l := a1) (n := a2) hw hn).2.2
    omega
  refine w_l1 ?_
  refine w_sc (by omega) (by omega) hL ?_
  rw [e1]
  refine w_l2 ?_
  refine w_sc (by omega) (by omega) hL ?_
  rw [e2]
  refine w_ck (by omega) k0 ?_
  refine w_cI (take_X (J := J) hRC hc hw ha1 ha2) ?_
  rintro v S ⟨hv, I1, R1, σ1, rfl, hc1, hF, hRF⟩
  have hR1 := hR.m (r := 1) (by omega) hRF
  have hq1 : RMQ I1 π V := rmq_congr hq fun k _ => hF _ _ (by omega) (by omega)
  refine w_l1 ?_
  refine w_sc (by omega) (by omega) hL ?_
  rw [e1]
  refine w_l2 ?_
  refine w_sc (by omega) (by omega) hL ?_
  rw [e2]
  refine w_ck (by omega) k374 ?_
  refine w_cI (take_Y (J := J) hR1 hq1 hw ha1 ha2) ?_
  rintro v2 S ⟨hv2, I2, π2, rfl, hq2, hK⟩
  refine w_pos (hv.trans hv2.symm) ?_
  exact hj11 _ (inv_act hBB hRC hR hcs hws ht him hc1 hF hRF hq2 hK hw' hn' hb')
set_option maxHeartbeats 4000000 in
theorem law_6 (hL : L ≤ 2048) (hj : 4 * (j : Int) + 3 < L) (hI : INV (80 * (j : Int)) S) {j11 : St → Option Unit} (hj11 : ∀ S, INV (80 * ((j + 1 : Nat) : Int)) S → En (fun _ => True) (j11 S)) : En (fun _ => True) (
      lt_ ((iI (4 * (j : Int))) + 1 : Int32) fun v72 =>
      sc_ ys L v72 fun v73 =>
      lt_ ((iI (4 * (j : Int))) + 2 : Int32) fun v74 =>
      sc_ ys L v74 fun v75 =>
      ck_ S 0 8 <| cI_ (f_X8_put S 0 v73 v75) fun v77 S76 =>
      lt_ ((iI (4 * (j : Int))) + 1 : Int32) fun v78 =>
      sc_ ys L v78 fun v79 =>
      lt_ ((iI (4 * (j : Int))) + 2 : Int32) fun v80 =>
      sc_ ys L v80 fun v81 =>
      ck_ S76 373 9 <| cI_ (f_X9_put S76 373 v79 v81) fun v83 S82 =>
      if v77 = v83 then
        j11 (S82)
      else
        none) := by
  obtain ⟨I, J, R, σ, π, σs, V, Vs, T, n, fl, pl, rfl, hRC, hR, hc, hq, hw, hn, hb, hcs, hws, ht, him⟩ := hI
  have k0 := kd_0
  have k374 := kd_374
  obtain ⟨t1, t2, t3, t4, t5, t6, t7, t8, hT⟩ := id ht
  have hx : TXC I T n := ⟨t1, t2⟩
  have hBB : 80 * (j : Int) ≤ 80 * ((j + 1 : Nat) : Int) := by omega
  obtain ⟨a1, ha1, e1⟩ := iI_of (ys (4 * (j : Int) + 1).toNat)
  obtain ⟨a2, ha2, e2⟩ := iI_of (ys (4 * (j : Int) + 2).toNat)
  have hw' : WR (putV V a1 a2).2 := wr_put hw
  have hn' : WN (putV V a1 a2).2 := wn_put hw hn
  have hb' : (putV V a1 a2).2.2 5 6 ≤ 80 * ((j + 1 : Nat) : Int) := by
    rw [put_6]
    omega
  refine w_l1 ?_
  refine w_sc (by omega) (by omega) hL ?_
  rw [e1]
  refine w_l2 ?_
  refine w_sc (by omega) (by omega) hL ?_
  rw [e2]
  refine w_ck (by omega) k0 ?_
  refine w_cI (put_X (J := J) hRC hc hw ha1 ha2) ?_
  rintro v S ⟨hv, I1, R1, σ1, rfl, hc1, hF, hRF⟩
  have hR1 := hR.m (r := 1) (by omega) hRF
  have hq1 : RMQ I1 π V := rmq_congr hq fun k _ => hF _ _ (by omega) (by omega)
  refine w_l1 ?_
  refine w_sc (by omega) (by omega) hL ?_
  rw [e1]
  refine w_l2 ?_
  refine w_sc (by omega) (by omega) hL ?_
  rw [e2]
  refine w_ck (by omega) k374 ?_
  refine w_cI (put_Y (J := J) hR1 hq1 hw ha1 ha2) ?_
  rintro v2 S ⟨hv2, I2, π2, rfl, hq2, hK⟩
  refine w_pos (hv.trans hv2.symm) ?_
  exact hj11 _ (inv_act hBB hRC hR hcs hws ht him hc1 hF hRF hq2 hK hw' hn' hb')
set_option maxHeartbeats 4000000 in
theorem law_7 (hL : L ≤ 2048) (hj : 4 * (j : Int) + 3 < L) (hI : INV (80 * (j : Int)) S) {j11 : St → Option Unit} (hj11 : ∀ S, INV (80 * ((j + 1 : Nat) : Int)) S → En (fun _ => True) (j11 S)) : En (fun _ => True) (
      lt_ ((iI (4 * (j : Int))) + 1 : Int32) fun v84 =>
      sc_ ys L v84 fun v85 =>
      ck_ S 0 8 <| cI_ (f_X8_end S 0 v85) fun v87 S86 =>
      lt_ ((iI (4 * (j : Int))) + 1 : Int32) fun v88 =>
      sc_ ys L v88 fun v89 =>
      ck_ S86 373 9 <| cI_ (f_X9_end S86 373 v89) fun v91 S90 =>
      if v87 = v91 then
        j11 (S90)
      else
        none) := by
  obtain ⟨I, J, R, σ, π, σs, V, Vs, T, n, fl, pl, rfl, hRC, hR, hc, hq, hw, hn, hb, hcs, hws, ht, him⟩ := hI
  have k0 := kd_0
  have k374 := kd_374
  obtain ⟨t1, t2, t3, t4, t5, t6, t7, t8, hT⟩ := id ht
  have hx : TXC I T n := ⟨t1, t2⟩
  have hBB : 80 * (j : Int) ≤ 80 * ((j + 1 : Nat) : Int) := by omega
  obtain ⟨a1, ha1, e1⟩ := iI_of (ys (4 * (j : Int) + 1).toNat)
  have hw' : WR (endV V a1).2 := wr_end hw
  have hn' : WN (endV V a1).2 := wn_end hn
  have hb' : (endV V a1).2.2 5 6 ≤ 80 * ((j + 1 : Nat) : Int) := by
    rw [end_6]
    omega
  refine w_l1 ?_
  refine w_sc (by omega) (by omega) hL ?_
  rw [e1]
  refine w_ck (by omega) k0 ?_
  refine w_cI (end_X (J := J) hRC hc hw ha1) ?_
  rintro v S ⟨hv, I1, R1, σ1, rfl, hc1, hF, hRF⟩
  have hR1 := hR.m (r := 1) (by omega) hRF
  have hq1 : RMQ I1 π V := rmq_congr hq fun k _ => hF _ _ (by omega) (by omega)
  refine w_l1 ?_
  refine w_sc (by omega) (by omega) hL ?_
  rw [e1]
  refine w_ck (by omega) k374 ?_
  refine w_cI (end_Y (J := J) hR1 hq1 hw ha1) ?_
  rintro v2 S ⟨hv2, I2, π2, rfl, hq2, hK⟩
  refine w_pos (hv.trans hv2.symm) ?_
  exact hj11 _ (inv_act hBB hRC hR hcs hws ht him hc1 hF hRF hq2 hK hw' hn' hb')
set_option maxHeartbeats 4000000 in
theorem law_8 (hL : L ≤ 2048) (hj : 4 * (j : Int) + 3 < L) (hI : INV (80 * (j : Int)) S) {j11 : St → Option Unit} (hj11 : ∀ S, INV (80 * ((j + 1 : Nat) : Int)) S → En (fun _ => True) (j11 S)) : En (fun _ => True) (
      lt_ ((iI (4 * (j : Int))) + 1 : Int32) fun v92 =>
      sc_ ys L v92 fun v93 =>
      ck_ S 0 8 <| cI_ (f_X8_drop S 0 v93) fun v95 S94 =>
      lt_ ((iI (4 * (j : Int))) + 1 : Int32) fun v96 =>
      sc_ ys L v96 fun v97 =>
      ck_ S94 373 9 <| cI_ (f_X9_drop S94 373 v97) fun v99 S98 =>
      if v95 = v99 then
        j11 (S98)
      else
        none) := by
  obtain ⟨I, J, R, σ, π, σs, V, Vs, T, n, fl, pl, rfl, hRC, hR, hc, hq, hw, hn, hb, hcs, hws, ht, him⟩ := hI
  have k0 := kd_0
  have k374 := kd_374
  obtain ⟨t1, t2, t3, t4, t5, t6, t7, t8, hT⟩ := id ht
  have hx : TXC I T n := ⟨t1, t2⟩
  have hBB : 80 * (j : Int) ≤ 80 * ((j + 1 : Nat) : Int) := by omega
  obtain ⟨a1, ha1, e1⟩ := iI_of (ys (4 * (j : Int) + 1).toNat)
  have hw' : WR (drpV V a1).2 := wr_drp hw
  have hn' : WN (drpV V a1).2 := wn_drp hw hn
  have hb' : (drpV V a1).2.2 5 6 ≤ 80 * ((j + 1 : Nat) : Int) := by
    rw [drp_6]
    omega
  refine w_l1 ?_
  refine w_sc (by omega) (by omega) hL ?_
  rw [e1]
  refine w_ck (by omega) k0 ?_
  refine w_cI (drop_X (J := J) hRC hc hw ha1) ?_
  rintro v S ⟨hv, I1, R1, σ1, rfl, hc1, hF, hRF⟩
  have hR1 := hR.m (r := 1) (by omega) hRF
  have hq1 : RMQ I1 π V := rmq_congr hq fun k _ => hF _ _ (by omega) (by omega)
  refine w_l1 ?_
  refine w_sc (by omega) (by omega) hL ?_
  rw [e1]
  refine w_ck (by omega) k374 ?_
  refine w_cI (drop_Y (J := J) hR1 hq1 hw ha1) ?_
  rintro v2 S ⟨hv2, I2, π2, rfl, hq2, hK⟩
  refine w_pos (hv.trans hv2.symm) ?_
  exact hj11 _ (inv_act hBB hRC hR hcs hws ht him hc1 hF hRF hq2 hK hw' hn' hb')
set_option maxHeartbeats 4000000 in
theorem law_9 (hL : L ≤ 2048) (hj : 4 * (j : Int) + 3 < L) (hI : INV (80 * (j : Int)) S) {j11 : St → Option Unit} (hj11 : ∀ S, INV (80 * ((j + 1 : Nat) : Int)) S → En (fun _ => True) (j11 S)) : En (fun _ => True) (
      lt_ ((iI (4 * (j : Int))) + 1 : Int32) fun v100 =>
      sc_ ys L v100 fun v101 =>
      jn_ (fun (x102 : Int32) =>
        ck_ S 0 8 <| cI_ (f_X8_swap S 0 x102) fun v104 S103 =>
        lt_ ((iI (4 * (j : Int))) + 1 : Int32) fun v105 =>
        sc_ ys L v105 fun v106 =>
        jn_ (fun (x107 : Int32) =>
          ck_ S103 373 9 <| cI_ (f_X9_swap S103 373 x107) fun v109 S108 =>
          if v104 = v109 then
            j11 (S108)
          else
            none
        ) fun j107 =>
        if v106 = 0 then
          j107 (0)
        else
          j107 (1)
      ) fun j102 =>
      if v101 = 0 then
        j102 (0)
      else
        j102 (1)) := by
  obtain ⟨I, J, R, σ, π, σs, V, Vs, T, n, fl, pl, rfl, hRC, hR, hc, hq, hw, hn, hb, hcs, hws, ht, him⟩ := hI
  have k0 := kd_0
  have k374 := kd_374
  obtain ⟨t1, t2, t3, t4, t5, t6, t7, t8, hT⟩ := id ht
  have hx : TXC I T n := ⟨t1, t2⟩
  have hBB : 80 * (j : Int) ≤ 80 * ((j + 1 : Nat) : Int) := by omega
  obtain ⟨b1, hb1, hbz1⟩ := bool_o (ys (4 * (j : Int) + 1).toNat)
  have hw' : WR (swpV V b1).2 := wr_swp hw
  have hn' : WN (swpV V b1).2 := wn_swp hw hn
  have hb' : (swpV V b1).2.2 5 6 ≤ 80 * ((j + 1 : Nat) : Int) := by
    rw [swp_6]
    omega
  refine w_l1 ?_
  refine w_sc (by omega) (by omega) hL ?_
  refine w_jnP (fun x => x = iI b1) ?_ ?_
  · rintro x rfl
    refine w_ck (by omega) k0 ?_
    refine w_cI (swap_X (J := J) hRC hc hw hb1) ?_
    rintro v S ⟨hv, I1, R1, σ1, rfl, hc1, hF, hRF⟩
    have hR1 := hR.m (r := 1) (by omega) hRF
    have hq1 : RMQ I1 π V := rmq_congr hq fun k _ => hF _ _ (by omega) (by omega)
    refine w_l1 ?_
    refine w_sc (by omega) (by omega) hL ?_
    refine w_jnP (fun x => x = iI b1) ?_ ?_
    · rintro x rfl
      refine w_ck (by omega) k374 ?_
      refine w_cI (swap_Y (J := J) hR1 hq1 hw hb1) ?_
      rintro v2 S ⟨hv2, I2, π2, rfl, hq2, hK⟩
      refine w_pos (hv.trans hv2.symm) ?_
      exact hj11 _ (inv_act hBB hRC hR hcs hws ht him hc1 hF hRF hq2 hK hw' hn' hb')
    · intro jb hjb
      rcases hbz1 with ⟨hz, hzo⟩ | ⟨hz, hzo⟩
      · refine w_pos hz ?_
        exact hjb _ (by rw [hzo]; rfl)
      · refine w_neg hz ?_
        exact hjb _ (by rw [hzo]; rfl)
  · intro jb hjb
    rcases hbz1 with ⟨hz, hzo⟩ | ⟨hz, hzo⟩
    · refine w_pos hz ?_
      exact hjb _ (by rw [hzo]; rfl)
    · refine w_neg hz ?_
      exact hjb _ (by rw [hzo]; rfl)
set_option maxHeartbeats 4000000 in
theorem law_10 (hL : L ≤ 2048) (hj : 4 * (j : Int) + 3 < L) (hI : INV (80 * (j : Int)) S) {j11 : St → Option Unit} (hj11 : ∀ S, INV (80 * ((j + 1 : Nat) : Int)) S → En (fun _ => True) (j11 S)) : En (fun _ => True) (
      ck_ S 0 8 <| cI_ (f_X8_read S 0) fun v111 S110 =>
      ck_ S110 373 9 <| cI_ (f_X9_read S110 373) fun v113 S112 =>
      if v111 = v113 then
        j11 (S112)
      else
        none) := by
  obtain ⟨I, J, R, σ, π, σs, V, Vs, T, n, fl, pl, rfl, hRC, hR, hc, hq, hw, hn, hb, hcs, hws, ht, him⟩ := hI
  have k0 := kd_0
  have k374 := kd_374
  obtain ⟨t1, t2, t3, t4, t5, t6, t7, t8, hT⟩ := id ht
  have hx : TXC I T n := ⟨t1, t2⟩
  have hBB : 80 * (j : Int) ≤ 80 * ((j + 1 : Nat) : Int) := by omega
  have hw' : WR (readV V).2 := wr_read hw
  have hn' : WN (readV V).2 := wn_read hn
  have hb' : (readV V).2.2 5 6 ≤ 80 * ((j + 1 : Nat) : Int) := by
    rw [rd_6]
    omega
  refine w_ck (by omega) k0 ?_
  refine w_cI (read_X (J := J) hRC hc hw ) ?_
  rintro v S ⟨hv, I1, R1, σ1, rfl, hc1, hF, hRF⟩
  have hR1 := hR.m (r := 1) (by omega) hRF
  have hq1 : RMQ I1 π V := rmq_congr hq fun k _ => hF _ _ (by omega) (by omega)
  refine w_ck (by omega) k374 ?_
  refine w_cI (read_Y (J := J) hR1 hq1 hw ) ?_
  rintro v2 S ⟨hv2, I2, π2, rfl, hq2, hK⟩
  refine w_pos (hv.trans hv2.symm) ?_
  exact hj11 _ (inv_act hBB hRC hR hcs hws ht him hc1 hF hRF hq2 hK hw' hn' hb')
set_option maxHeartbeats 4000000 in
theorem law_12 (hL : L ≤ 2048) (hj : 4 * (j : Int) + 3 < L) (hI : INV (80 * (j : Int)) S) {j11 : St → Option Unit} (hj11 : ∀ S, INV (80 * ((j + 1 : Nat) : Int)) S → En (fun _ => True) (j11 S)) : En (fun _ => True) (
      lt_ ((iI (4 * (j : Int))) + 1 : Int32) fun v124 =>
      sc_ ys L v124 fun v125 =>
      ck_ S 0 8 <| cI_ (f_X8_mask S 0 v125) fun v127 S126 =>
      lt_ ((iI (4 * (j : Int))) + 1 : Int32) fun v128 =>
      sc_ ys L v128 fun v129 =>
      ck_ S126 373 9 <| cI_ (f_X9_mask S126 373 v129) fun v131 S130 =>
      if v127 = v131 then
        j11 (S130)
      else
        none) := by
  obtain ⟨I, J, R, σ, π, σs, V, Vs, T, n, fl, pl, rfl, hRC, hR, hc, hq, hw, hn, hb, hcs, hws, ht, him⟩ := hI
  have k0 := kd_0
  have k374 := kd_374
  obtain ⟨t1, t2, t3, t4, t5, t6, t7, t8, hT⟩ := id ht
  have hx : TXC I T n := ⟨t1, t2⟩
  have hBB : 80 * (j : Int) ≤ 80 * ((j + 1 : Nat) : Int) := by omega
  obtain ⟨a1, ha1, e1⟩ := iI_of (ys (4 * (j : Int) + 1).toNat)
  have hw' : WR (mskV V a1).2 := wr_msk hw
  have hn' : WN (mskV V a1).2 := wn_msk hn
  have hb' : (mskV V a1).2.2 5 6 ≤ 80 * ((j + 1 : Nat) : Int) := by
    rw [msk_6]
    omega
  refine w_l1 ?_
  refine w_sc (by omega) (by omega) hL ?_
  rw [e1]
  refine w_ck (by omega) k0 ?_
  refine w_cI (mask_X (J := J) hRC hc hw ha1) ?_
  rintro v S ⟨hv, I1, R1, σ1, rfl, hc1, hF, hRF⟩
  have hR1 := hR.m (r := 1) (by omega) hRF
  have hq1 : RMQ I1 π V := rmq_congr hq fun k _ => hF _ _ (by omega) (by omega)
  refine w_l1 ?_
  refine w_sc (by omega) (by omega) hL ?_
  rw [e1]
  refine w_ck (by omega) k374 ?_
  refine w_cI (mask_Y (J := J) hR1 hq1 hw ha1) ?_
  rintro v2 S ⟨hv2, I2, π2, rfl, hq2, hK⟩
  refine w_pos (hv.trans hv2.symm) ?_
  exact hj11 _ (inv_act hBB hRC hR hcs hws ht him hc1 hF hRF hq2 hK hw' hn' hb')
set_option maxHeartbeats 4000000 in
theorem law_13 (hL : L ≤ 2048) (hj : 4 * (j : Int) + 3 < L) (hI : INV (80 * (j : Int)) S) {j11 : St → Option Unit} (hj11 : ∀ S, INV (80 * ((j + 1 : Nat) : Int)) S → En (fun _ => True) (j11 S)) : En (fun _ => True) (
      lt_ ((iI (4 * (j : Int))) + 1 : Int32) fun v132 =>
      sc_ ys L v132 fun v133 =>
      ck_ S 0 8 <| cI_ (f_X8_resize S 0 v133) fun v135 S134 =>
      lt_ ((iI (4 * (j : Int))) + 1 : Int32) fun v136 =>
      sc_ ys L v136 fun v137 =>
      ck_ S134 373 9 <| cI_ (f_X9_resize S134 373 v137) fun v139 S138 =>
      if v135 = v139 then
        j11 (S138)
      else
        none) := by
  obtain ⟨I, J, R, σ, π, σs, V, Vs, T, n, fl, pl, rfl, hRC, hR, hc, hq, hw, hn, hb, hcs, hws, ht, him⟩ := hI
  have k0 := kd_0
  have k374 := kd_374
  obtain ⟨t1, t2, t3, t4, t5, t6, t7, t8, hT⟩ := id ht
  have hx : TXC I T n := ⟨t1, t2⟩
  have hBB : 80 * (j : Int) ≤ 80 * ((j + 1 : Nat) : Int) := by omega
  obtain ⟨a1, ha1, e1⟩ := iI_of (ys (4 * (j : Int) + 1).toNat)
  have hw' : WR (rszV V a1).2 := wr_rsz hw
  have hn' : WN (rszV V a1).2 := wn_rsz hw hn
  have hb' : (rszV V a1).2.2 5 6 ≤ 80 * ((j + 1 : Nat) : Int) := by
    rw [rsz_6]
    omega
  refine w_l1 ?_
  refine w_sc (by omega) (by omega) hL ?_
  rw [e1]
  refine w_ck (by omega) k0 ?_
  refine w_cI (resize_X (J := J) hRC hc hw ha1) ?_
  rintro v S ⟨hv, I1, R1, σ1, rfl, hc1, hF, hRF⟩
  have hR1 := hR.m (r := 1) (by omega) hRF
  have hq1 : RMQ I1 π V := rmq_congr hq fun k _ => hF _ _ (by omega) (by omega)
  refine w_l1 ?_
  refine w_sc (by omega) (by omega) hL ?_
  rw [e1]
  refine w_ck (by omega) k374 ?_
  refine w_cI (resize_Y (J := J) hR1 hq1 hw ha1) ?_
  rintro v2 S ⟨hv2, I2, π2, rfl, hq2, hK⟩
  refine w_pos (hv.trans hv2.symm) ?_
  exact hj11 _ (inv_act hBB hRC hR hcs hws ht him hc1 hF hRF hq2 hK hw' hn' hb')
set_option maxHeartbeats 4000000 in
theorem law_11 (hL : L ≤ 2048) (hj : 4 * (j : Int) + 3 < L) (hI : INV (80 * (j : Int)) S) {j11 : St → Option Unit} (hj11 : ∀ S, INV (80 * ((j + 1 : Nat) : Int)) S → En (fun _ => True) (j11 S)) : En (fun _ => True) (
      lt_ ((iI (4 * (j : Int))) + 1 : Int32) fun v114 =>
      sc_ ys L v114 fun v115 =>
      jn_ (fun (x116 : Int32) =>
        ck_ S 0 8 <| cI_ (f_X8_mode S 0 x116) fun v118 S117 =>
        lt_ ((iI (4 * (j : Int))) + 1 : Int32) fun v119 =>
        sc_ ys L v119 fun v120 =>
        jn_ (fun (x121 : Int32) =>
          ck_ S117 373 9 <| cI_ (f_X9_mode S117 373 x121) fun v123 S122 =>
          if v118 = v123 then
            j11 (S122)
          else
            none
        ) fun j121 =>
        if v120 = 0 then
          j121 (0)
        else
          j121 (1)
      ) fun j116 =>
      if v115 = 0 then
        j116 (0)
      else
        j116 (1)) := by
  obtain ⟨I, J, R, σ, π, σs, V, Vs, T, n, fl, pl, rfl, hRC, hR, hc, hq, hw, hn, hb, hcs, hws, ht, him⟩ := hI
  have k0 := kd_0
  have k374 := kd_374
  obtain ⟨t1, t2, t3, t4, t5, t6, t7, t8, hT⟩ := id ht
  have hx : TXC I T n := ⟨t1, t2⟩
  have hBB : 80 * (j : Int) ≤ 80 * ((j + 1 : Nat) : Int) := by omega
  obtain ⟨b1, hb1, hbz1⟩ := bool_o (ys (4 * (j : Int) + 1).toNat)
  have hw' : WR (modV V b1) := wr_mod hw hb1
  have hn' : WN (modV V b1) := wn_mod hn
  have hb' : (modV V b1).2 5 6 ≤ 80 * ((j + 1 : Nat) : Int) := by
    rw [mod_6]
    omega
  refine w_l1 ?_
  refine w_sc (by omega) (by omega) hL ?_
  refine w_jnP (fun x => x = iI b1) ?_ ?_
  · rintro x rfl
    refine w_ck (by omega) k0 ?_
    refine w_cI (mode_X (J := J) hRC hc hw hb1) ?_
    rintro v S ⟨hv, I1, R1, σ1, rfl, hc1, hF, hRF⟩
    have hR1 := hR.m (r := 1) (by omega) hRF
    have hq1 : RMQ I1 π V := rmq_congr hq fun k _ => hF _ _ (by omega) (by omega)
    refine w_l1 ?_
    refine w_sc (by omega) (by omega) hL ?_
    refine w_jnP (fun x => x = iI b1) ?_ ?_
    · rintro x rfl
      refine w_ck (by omega) k374 ?_
      refine w_cI (mode_Y (J := J) hR1 hq1 hw hb1) ?_
      rintro v2 S ⟨hv2, I2, π2, rfl, hq2, hK⟩
      refine w_pos (hv.trans hv2.symm) ?_
      exact hj11 _ (inv_act hBB hRC hR hcs hws ht him hc1 hF hRF hq2 hK hw' hn' hb')
    · intro jb hjb
      rcases hbz1 with ⟨hz, hzo⟩ | ⟨hz, hzo⟩
      · refine w_pos hz ?_
        exact hjb _ (by rw [hzo]; rfl)
      · refine w_neg hz ?_
        exact hjb _ (by rw [hzo]; rfl)
  · intro jb hjb
    rcases hbz1 with ⟨hz, hzo⟩ | ⟨hz, hzo⟩
    · refine w_pos hz ?_
      exact hjb _ (by rw [hzo]; rfl)
    · refine w_neg hz ?_
      exact hjb _ (by rw [hzo]; rfl)
set_option maxHeartbeats 4000000 in
theorem law_14 (hL : L ≤ 2048) (hj : 4 * (j : Int) + 3 < L) (hI : INV (80 * (j : Int)) S) {j11 : St → Option Unit} (hj11 : ∀ S, INV (80 * ((j + 1 : Nat) : Int)) S → En (fun _ => True) (j11 S)) : En (fun _ => True) (
      lt_ ((iI (4 * (j : Int))) + 1 : Int32) fun v140 =>
      sc_ ys L v140 fun v141 =>
      lt_ ((iI (4 * (j : Int))) + 2 : Int32) fun v142 =>
      sc_ ys L v142 fun v143 =>
      ck_ S 0 8 <| cI_ (f_X8_storm S 0 v141 v143) fun v145 S144 =>
      lt_ ((iI (4 * (j : Int))) + 1 : Int32) fun v146 =>
      sc_ ys L v146 fun v147 =>
      lt_ ((iI (4 * (j : Int))) + 2 : Int32) fun v148 =>
      sc_ ys L v148 fun v149 =>
      ck_ S144 373 9 <| cI_ (f_X9_storm S144 373 v147 v149) fun v151 S150 =>
      if v145 = v151 then
        j11 (S150)
      else
        none) := by
  obtain ⟨I, J, R, σ, π, σs, V, Vs, T, n, fl, pl, rfl, hRC, hR, hc, hq, hw, hn, hb, hcs, hws, ht, him⟩ := hI
  have k0 := kd_0
  have k374 := kd_374
  obtain ⟨t1, t2, t3, t4, t5, t6, t7, t8, hT⟩ := id ht
  have hx : TXC I T n := ⟨t1, t2⟩
  have hBB : 80 * (j : Int) ≤ 80 * ((j + 1 : Nat) : Int) := by omega
  obtain ⟨a2, ha2, e2⟩ := iI_of (ys (4 * (j : Int) + 2).toNat)
  have hs := sto_ok (x := ys (4 * (j : Int) + 1).toNat) (n := a2) hw hn
  have hb' : (stoV V (ys (4 * (j : Int) + 1).toNat) a2).2 5 6 ≤ 80 * ((j + 1 : Nat) : Int) := by
    have := hs.2.2
    omega
  refine w_l1 ?_
  refine w_sc (by omega) (by omega) hL ?_
  refine w_l2 ?_
  refine w_sc (by omega) (by omega) hL ?_
  rw [e2]
  refine w_ck (by omega) k0 ?_
  refine w_cI (storm_X (J := J) hRC hc hw ha2.1 ha2.2) ?_
  rintro v S ⟨hv, I1, R1, σ1, rfl, hc1, hF, hRF⟩
  have hR1 := hR.m (r := 1) (by omega) hRF
  have hq1 : RMQ I1 π V := rmq_congr hq fun k _ => hF _ _ (by omega) (by omega)
  refine w_l1 ?_
  refine w_sc (by omega) (by omega) hL ?_
  refine w_l2 ?_
  refine w_sc (by omega) (by omega) hL ?_
  rw [e2]
  refine w_ck (by omega) k374 ?_
  refine w_cI (storm_Y (J := J) hR1 hq1 hw hn (by omega) ha2.1 ha2.2) ?_
  rintro v2 S ⟨hv2, I2, π2, rfl, hq2, k1, k2⟩
  refine w_pos (hv.trans hv2.symm) ?_
  exact hj11 _ (inv_act hBB hRC hR hcs hws ht him hc1 hF hRF hq2 ⟨k1, fun k h1 _ => k2 k h1⟩ hs.1 hs.2.1 hb')
set_option maxHeartbeats 4000000 in
theorem law_15 (hL : L ≤ 2048) (hj : 4 * (j : Int) + 3 < L) (hI : INV (80 * (j : Int)) S) {j11 : St → Option Unit} (hj11 : ∀ S, INV (80 * ((j + 1 : Nat) : Int)) S → En (fun _ => True) (j11 S)) : En (fun _ => True) (
      lt_ ((iI (4 * (j : Int))) + 1 : Int32) fun v152 =>
      sc_ ys L v152 fun v153 =>
      ck_ S 0 8 <| cP_ (f_X8_count S 0 v153) fun v154 =>
      lt_ ((iI (4 * (j : Int))) + 1 : Int32) fun v155 =>
      sc_ ys L v155 fun v156 =>
      ck_ S 373 9 <| cI_ (f_X9_count S 373 v156) fun v158 S157 =>
      if v154 = v158 then
        j11 (S157)
      else
        none) := by
  obtain ⟨I, J, R, σ, π, σs, V, Vs, T, n, fl, pl, rfl, hRC, hR, hc, hq, hw, hn, hb, hcs, hws, ht, him⟩ := hI
  have k0 := kd_0
  have k374 := kd_374
  obtain ⟨t1, t2, t3, t4, t5, t6, t7, t8, hT⟩ := id ht
  have hx : TXC I T n := ⟨t1, t2⟩
  have hBB : 80 * (j : Int) ≤ 80 * ((j + 1 : Nat) : Int) := by omega
  obtain ⟨a1, ha1, e1⟩ := iI_of (ys (4 * (j : Int) + 1).toNat)
  refine w_l1 ?_
  refine w_sc (by omega) (by omega) hL ?_
  rw [e1]
  refine w_ck (by omega) k0 ?_
  refine w_cP (count_X (J := J) hRC hc hw t1 ha1.1 ha1.2) ?_
  refine w_l1 ?_
  refine w_sc (by omega) (by omega) hL ?_
  rw [e1]
  refine w_ck (by omega) k374 ?_
  refine w_cI (Q' := fun y => y = _) ⟨_, count_Y (J := J) hR hq hw t5 ha1.1 ha1.2, rfl⟩ ?_
  rintro v2 S he
  cases he
  refine w_pos rfl ?_
  exact hj11 _ (inv_ask hBB hRC hR hc hq hw hn (by omega) hcs hws ht him (fb_374 (f374_u f374_r)))
set_option maxHeartbeats 4000000 in
theorem law_16 (hL : L ≤ 2048) (hj : 4 * (j : Int) + 3 < L) (hI : INV (80 * (j : Int)) S) {j11 : St → Option Unit} (hj11 : ∀ S, INV (80 * ((j + 1 : Nat) : Int)) S → En (fun _ => True) (j11 S)) : En (fun _ => True) (
      lt_ ((iI (4 * (j : Int))) + 1 : Int32) fun v159 =>
      sc_ ys L v159 fun v160 =>
      lt_ ((iI (4 * (j : Int))) + 2 : Int32) fun v161 =>
      sc_ ys L v161 fun v162 =>
      ck_ S 0 8 <| cP_ (f_X8_page S 0 v160 v162) fun v163 =>
      lt_ ((iI (4 * (j : Int))) + 1 : Int32) fun v164 =>
      sc_ ys L v164 fun v165 =>
      lt_ ((iI (4 * (j : Int))) + 2 : Int32) fun v166 =>
      sc_ ys L v166 fun v167 =>
      ck_ S 373 9 <| cI_ (f_X9_page S 373 v165 v167) fun v169 S168 =>
      if v163 = v169 then
        j11 (S168)
      else
        none) := by
  obtain ⟨I, J, R, σ, π, σs, V, Vs, T, n, fl, pl, rfl, hRC, hR, hc, hq, hw, hn, hb, hcs, hws, ht, him⟩ := hI
  have k0 := kd_0
  have k374 := kd_374
  obtain ⟨t1, t2, t3, t4, t5, t6, t7, t8, hT⟩ := id ht
  have hx : TXC I T n := ⟨t1, t2⟩
  have hBB : 80 * (j : Int) ≤ 80 * ((j + 1 : Nat) : Int) := by omega
  obtain ⟨a1, ha1, e1⟩ := iI_of (ys (4 * (j : Int) + 1).toNat)
  obtain ⟨a2, ha2, e2⟩ := iI_of (ys (4 * (j : Int) + 2).toNat)
  refine w_l1 ?_
  refine w_sc (by omega) (by omega) hL ?_
  rw [e1]
  refine w_l2 ?_
  refine w_sc (by omega) (by omega) hL ?_
  rw [e2]
  refine w_ck (by omega) k0 ?_
  refine w_cP (page_X (J := J) hRC hc hw ha1.1 ha1.2 ha2.1 ha2.2) ?_
  refine w_l1 ?_
  refine w_sc (by omega) (by omega) hL ?_
  rw [e1]
  refine w_l2 ?_
  refine w_sc (by omega) (by omega) hL ?_
  rw [e2]
  refine w_ck (by omega) k374 ?_
  refine w_cI (Q' := fun y => y = _) ⟨_, page_Y (J := J) hR hq hw ha1.1 ha1.2 ha2.1 ha2.2, rfl⟩ ?_
  rintro v2 S he
  cases he
  refine w_pos rfl ?_
  exact hj11 _ (inv_ask hBB hRC hR hc hq hw hn (by omega) hcs hws ht him (fb_374 (f374_u f374_r)))
set_option maxHeartbeats 4000000 in
theorem law_17 (hL : L ≤ 2048) (hj : 4 * (j : Int) + 3 < L) (hI : INV (80 * (j : Int)) S) {j11 : St → Option Unit} (hj11 : ∀ S, INV (80 * ((j + 1 : Nat) : Int)) S → En (fun _ => True) (j11 S)) : En (fun _ => True) (
      lt_ ((iI (4 * (j : Int))) + 1 : Int32) fun v170 =>
      sc_ ys L v170 fun v171 =>
      lt_ ((iI (4 * (j : Int))) + 2 : Int32) fun v172 =>
      sc_ ys L v172 fun v173 =>
      ck_ S 0 8 <| cP_ (f_X8_cell S 0 v171 v173) fun v174 =>
      lt_ ((iI (4 * (j : Int))) + 1 : Int32) fun v175 =>
      sc_ ys L v175 fun v176 =>
      lt_ ((iI (4 * (j : Int))) + 2 : Int32) fun v177 =>
      sc_ ys L v177 fun v178 =>
      ck_ S 373 9 <| cI_ (f_X9_cell S 373 v176 v178) fun v180 S179 =>
      if v174 = v180 then
        j11 (S179)
      else
        none) := by
  obtain ⟨I, J, R, σ, π, σs, V, Vs, T, n, fl, pl, rfl, hRC, hR, hc, hq, hw, hn, hb, hcs, hws, ht, him⟩ := hI
  have k0 := kd_0
  have k374 := kd_374
  obtain ⟨t1, t2, t3, t4, t5, t6, t7, t8, hT⟩ := id ht
  have hx : TXC I T n := ⟨t1, t2⟩
  have hBB : 80 * (j : Int) ≤ 80 * ((j + 1 : Nat) : Int) := by omega
  obtain ⟨a1, ha1, e1⟩ := iI_of (ys (4 * (j : Int) + 1).toNat)
  obtain ⟨a2, ha2, e2⟩ := iI_of (ys (4 * (j : Int) + 2).toNat)
  refine w_l1 ?_
  refine w_sc (by omega) (by omega) hL ?_
  rw [e1]
  refine w_l2 ?_
  refine w_sc (by omega) (by omega) hL ?_
  rw [e2]
  refine w_ck (by omega) k0 ?_
  refine w_cP (cell_X (J := J) hRC hc hw ha1.1 ha1.2 ha2.1 ha2.2) ?_
  refine w_l1 ?_
  refine w_sc (by omega) (by omega) hL ?_
  rw [e1]
  refine w_l2 ?_
  refine w_sc (by omega) (by omega) hL ?_
  rw [e2]
  refine w_ck (by omega) k374 ?_
  refine w_cI (Q' := fun y => y = _) ⟨_, cell_Y (J := J) hR hq hw ha1.1 ha1.2 ha2.1 ha2.2, rfl⟩ ?_
  rintro v2 S he
  cases he
  refine w_pos rfl ?_
  exact hj11 _ (inv_ask hBB hRC hR hc hq hw hn (by omega) hcs hws ht him (fb_374 (f374_u f374_r)))
set_option maxHeartbeats 4000000 in
theorem law_18 (hL : L ≤ 2048) (hj : 4 * (j : Int) + 3 < L) (hI : INV (80 * (j : Int)) S) {j11 : St → Option Unit} (hj11 : ∀ S, INV (80 * ((j + 1 : Nat) : Int)) S → En (fun _ => True) (j11 S)) : En (fun _ => True) (
      lt_ ((iI (4 * (j : Int))) + 1 : Int32) fun v181 =>
      sc_ ys L v181 fun v182 =>
      lt_ ((iI (4 * (j : Int))) + 2 : Int32) fun v183 =>
      sc_ ys L v183 fun v184 =>
      ck_ S 0 8 <| cP_ (f_X8_open S 0 v182 v184) fun v185 =>
      lt_ ((iI (4 * (j : Int))) + 1 : Int32) fun v186 =>
      sc_ ys L v186 fun v187 =>
      lt_ ((iI (4 * (j : Int))) + 2 : Int32) fun v188 =>
      sc_ ys L v188 fun v189 =>
      ck_ S 373 9 <| cI_ (f_X9_open S 373 v187 v189) fun v191 S190 =>
      if v185 = v191 then
        j11 (S190)
      else
        none) := by
  obtain ⟨I, J, R, σ, π, σs, V, Vs, T, n, fl, pl, rfl, hRC, hR, hc, hq, hw, hn, hb, hcs, hws, ht, him⟩ := hI
  have k0 := kd_0
  have k374 := kd_374
  obtain ⟨t1, t2, t3, t4, t5, t6, t7, t8, hT⟩ := id ht
  have hx : TXC I T n := ⟨t1, t2⟩
  have hBB : 80 * (j : Int) ≤ 80 * ((j + 1 : Nat) : Int) := by omega
  obtain ⟨a1, ha1, e1⟩ := iI_of (ys (4 * (j : Int) + 1).toNat)
  obtain ⟨a2, ha2, e2⟩ := iI_of (ys (4 * (j : Int) + 2).toNat)
  refine w_l1 ?_
  refine w_sc (by omega) (by omega) hL ?_
  rw [e1]
  refine w_l2 ?_
  refine w_sc (by omega) (by omega) hL ?_
  rw [e2]
  refine w_ck (by omega) k0 ?_
  refine w_cP (open_X (J := J) hRC hc hw ha1.1 ha1.2 ha2.1 ha2.2) ?_
  refine w_l1 ?_
  refine w_sc (by omega) (by omega) hL ?_
  rw [e1]
  refine w_l2 ?_
  refine w_sc (by omega) (by omega) hL ?_
  rw [e2]
  refine w_ck (by omega) k374 ?_
  refine w_cI (Q' := fun y => y = _) ⟨_, open_Y (J := J) hR hq hw ha1.1 ha1.2 ha2.1 ha2.2, rfl⟩ ?_
  rintro v2 S he
  cases he
  refine w_pos rfl ?_
  exact hj11 _ (inv_ask hBB hRC hR hc hq hw hn (by omega) hcs hws ht him (fb_374 (f374_u f374_r)))
set_option maxHeartbeats 4000000 in
theorem law_19 (hL : L ≤ 2048) (hj : 4 * (j : Int) + 3 < L) (hI : INV (80 * (j : Int)) S) {j11 : St → Option Unit} (hj11 : ∀ S, INV (80 * ((j + 1 : Nat) : Int)) S → En (fun _ => True) (j11 S)) : En (fun _ => True) (
      lt_ ((iI (4 * (j : Int))) + 1 : Int32) fun v192 =>
      sc_ ys L v192 fun v193 =>
      lt_ ((iI (4 * (j : Int))) + 2 : Int32) fun v194 =>
      sc_ ys L v194 fun v195 =>
      ck_ S 0 8 <| cP_ (f_X8_record S 0 v193 v195) fun v196 =>
      lt_ ((iI (4 * (j : Int))) + 1 : Int32) fun v197 =>
      sc_ ys L v197 fun v198 =>
      lt_ ((iI (4 * (j : Int))) + 2 : Int32) fun v199 =>
      sc_ ys L v199 fun v200 =>
      ck_ S 373 9 <| cI_ (f_X9_record S 373 v198 v200) fun v202 S201 =>
      if v196 = v202 then
        j11 (S201)
      else
        none) := by
  obtain ⟨I, J, R, σ, π, σs, V, Vs, T, n, fl, pl, rfl, hRC, hR, hc, hq, hw, hn, hb, hcs, hws, ht, him⟩ := hI
  have k0 := kd_0
  have k374 := kd_374
  obtain ⟨t1, t2, t3, t4, t5, t6, t7, t8, hT⟩ := id ht
  have hx : TXC I T n := ⟨t1, t2⟩
  have hBB : 80 * (j : Int) ≤ 80 * ((j + 1 : Nat) : Int) := by omega
  obtain ⟨a1, ha1, e1⟩ := iI_of (ys (4 * (j : Int) + 1).toNat)
  obtain ⟨a2, ha2, e2⟩ := iI_of (ys (4 * (j : Int) + 2).toNat)
  refine w_l1 ?_
  refine w_sc (by omega) (by omega) hL ?_
  rw [e1]
  refine w_l2 ?_
  refine w_sc (by omega) (by omega) hL ?_
  rw [e2]
  refine w_ck (by omega) k0 ?_
  refine w_cP (record_X (J := J) hRC hc hw ha1.1 ha1.2 ha2.1 ha2.2) ?_
  refine w_l1 ?_
  refine w_sc (by omega) (by omega) hL ?_
  rw [e1]
  refine w_l2 ?_
  refine w_sc (by omega) (by omega) hL ?_
  rw [e2]
  refine w_ck (by omega) k374 ?_
  refine w_cI (record_Y (J := J) hR hq hw ha1.1 ha1.2 ha2.1 ha2.2) ?_
  rintro v2 S ⟨hv2, I2, rfl, hK⟩
  refine w_pos hv2.symm ?_
  exact hj11 _ (inv_ask hBB hRC hR hc hq hw hn (by omega) hcs hws ht him (fb_374 hK))
set_option maxHeartbeats 4000000 in
theorem law_20 (hL : L ≤ 2048) (hj : 4 * (j : Int) + 3 < L) (hI : INV (80 * (j : Int)) S) {j11 : St → Option Unit} (hj11 : ∀ S, INV (80 * ((j + 1 : Nat) : Int)) S → En (fun _ => True) (j11 S)) : En (fun _ => True) (
      lt_ ((iI (4 * (j : Int))) + 1 : Int32) fun v203 =>
      sc_ ys L v203 fun v204 =>
      ck_ S 0 8 <| cP_ (f_X8_latest S 0 v204) fun v205 =>
      lt_ ((iI (4 * (j : Int))) + 1 : Int32) fun v206 =>
      sc_ ys L v206 fun v207 =>
      ck_ S 373 9 <| cI_ (f_X9_latest S 373 v207) fun v209 S208 =>
      if v205 = v209 then
        j11 (S208)
      else
        none) := by
  obtain ⟨I, J, R, σ, π, σs, V, Vs, T, n, fl, pl, rfl, hRC, hR, hc, hq, hw, hn, hb, hcs, hws, ht, him⟩ := hI
  have k0 := kd_0
  have k374 := kd_374
  obtain ⟨t1, t2, t3, t4, t5, t6, t7, t8, hT⟩ := id ht
  have hx : TXC I T n := ⟨t1, t2⟩
  have hBB : 80 * (j : Int) ≤ 80 * ((j + 1 : Nat) : Int) := by omega
  obtain ⟨a1, ha1, e1⟩ := iI_of (ys (4 * (j : Int) + 1).toNat)
  refine w_l1 ?_
  refine w_sc (by omega) (by omega) hL ?_
  rw [e1]
  refine w_ck (by omega) k0 ?_
  refine w_cP (latest_X (J := J) hRC hc hw ha1.1 ha1.2) ?_
  refine w_l1 ?_
  refine w_sc (by omega) (by omega) hL ?_
  rw [e1]
  refine w_ck (by omega) k374 ?_
  refine w_cI (Q' := fun y => y = _) ⟨_, latest_Y (J := J) hR hq hw ha1.1 ha1.2, rfl⟩ ?_
  rintro v2 S he
  cases he
  refine w_pos rfl ?_
  exact hj11 _ (inv_ask hBB hRC hR hc hq hw hn (by omega) hcs hws ht him (fb_374 (f374_u f374_r)))
set_option maxHeartbeats 4000000 in
theorem law_21 (hL : L ≤ 2048) (hj : 4 * (j : Int) + 3 < L) (hI : INV (80 * (j : Int)) S) {j11 : St → Option Unit} (hj11 : ∀ S, INV (80 * ((j + 1 : Nat) : Int)) S → En (fun _ => True) (j11 S)) : En (fun _ => True) (
      lt_ ((iI (4 * (j : Int))) + 1 : Int32) fun v210 =>
      sc_ ys L v210 fun v211 =>
      lt_ ((iI (4 * (j : Int))) + 2 : Int32) fun v212 =>
      sc_ ys L v212 fun v213 =>
      lt_ ((iI (4 * (j : Int))) + 3 : Int32) fun v214 =>
      sc_ ys L v214 fun v215 =>
      ck_ S 0 8 <| cP_ (f_X8_parsed S 0 v211 v213 v215) fun v216 =>
      lt_ ((iI (4 * (j : Int))) + 1 : Int32) fun v217 =>
      sc_ ys L v217 fun v218 =>
      lt_ ((iI (4 * (j : Int))) + 2 : Int32) fun v219 =>
      sc_ ys L v219 fun v220 =>
      lt_ ((iI (4 * (j : Int))) + 3 : Int32) fun v221 =>
      sc_ ys L v221 fun v222 =>
      ck_ S 373 9 <| cI_ (f_X9_parsed S 373 v218 v220 v222) fun v224 S223 =>
      if v216 = v224 then
        j11 (S223)
      else
        none) := by
  obtain ⟨I, J, R, σ, π, σs, V, Vs, T, n, fl, pl, rfl, hRC, hR, hc, hq, hw, hn, hb, hcs, hws, ht, him⟩ := hI
  have k0 := kd_0
  have k374 := kd_374
  obtain ⟨t1, t2, t3, t4, t5, t6, t7, t8, hT⟩ := id ht
  have hx : TXC I T n := ⟨t1, t2⟩
  have hBB : 80 * (j : Int) ≤ 80 * ((j + 1 : Nat) : Int) := by omega
  obtain ⟨a1, ha1, e1⟩ := iI_of (ys (4 * (j : Int) + 1).toNat)
  obtain ⟨a2, ha2, e2⟩ := iI_of (ys (4 * (j : Int) + 2).toNat)
  obtain ⟨a3, ha3, e3⟩ := iI_of (ys (4 * (j : Int) + 3).toNat)
  refine w_l1 ?_
  refine w_sc (by omega) (by omega) hL ?_
  rw [e1]
  refine w_l2 ?_
  refine w_sc (by omega) (by omega) hL ?_
  rw [e2]
  refine w_l3 ?_
  refine w_sc (by omega) (by omega) hL ?_
  rw [e3]
  refine w_ck (by omega) k0 ?_
  refine w_cP (parsed_X (J := J) hRC hc hw ha1.1 ha1.2 ha2.1 ha2.2 ha3.1 ha3.2) ?_
  refine w_l1 ?_
  refine w_sc (by omega) (by omega) hL ?_
  rw [e1]
  refine w_l2 ?_
  refine w_sc (by omega) (by omega) hL ?_
  rw [e2]
  refine w_l3 ?_
  refine w_sc (by omega) (by omega) hL ?_
  rw [e3]
  refine w_ck (by omega) k374 ?_
  refine w_cI (parsed_Y (J := J) hR hq hw ha1.1 ha1.2 ha2.1 ha2.2 ha3.1 ha3.2) ?_
  rintro v2 S ⟨hv2, I2, rfl, hK⟩
  refine w_pos hv2.symm ?_
  exact hj11 _ (inv_ask hBB hRC hR hc hq hw hn (by omega) hcs hws ht him (fb_374 hK))
set_option maxHeartbeats 4000000 in
theorem law_22 (hL : L ≤ 2048) (hj : 4 * (j : Int) + 3 < L) (hI : INV (80 * (j : Int)) S) {j11 : St → Option Unit} (hj11 : ∀ S, INV (80 * ((j + 1 : Nat) : Int)) S → En (fun _ => True) (j11 S)) : En (fun _ => True) (
      lt_ ((iI (4 * (j : Int))) + 1 : Int32) fun v225 =>
      sc_ ys L v225 fun v226 =>
      lt_ ((iI (4 * (j : Int))) + 2 : Int32) fun v227 =>
      sc_ ys L v227 fun v228 =>
      lt_ ((iI (4 * (j : Int))) + 3 : Int32) fun v229 =>
      sc_ ys L v229 fun v230 =>
      jn_ (fun (x231 : Int32) =>
        ck_ S 0 8 <| cP_ (f_X8_between S 0 v226 v228 x231) fun v232 =>
        lt_ ((iI (4 * (j : Int))) + 1 : Int32) fun v233 =>
        sc_ ys L v233 fun v234 =>
        lt_ ((iI (4 * (j : Int))) + 2 : Int32) fun v235 =>
        sc_ ys L v235 fun v236 =>
        lt_ ((iI (4 * (j : Int))) + 3 : Int32) fun v237 =>
        sc_ ys L v237 fun v238 =>
        jn_ (fun (x239 : Int32) =>
          ck_ S 373 9 <| cI_ (f_X9_between S 373 v234 v236 x239) fun v241 S240 =>
          if v232 = v241 then
            j11 (S240)
          else
            none
        ) fun j239 =>
        if v238 = 0 then
          j239 (0)
        else
          j239 (1)
      ) fun j231 =>
      if v230 = 0 then
        j231 (0)
      else
        j231 (1)) := by
  obtain ⟨I, J, R, σ, π, σs, V, Vs, T, n, fl, pl, rfl, hRC, hR, hc, hq, hw, hn, hb, hcs, hws, ht, him⟩ := hI
  have k0 := kd_0
  have k374 := kd_374
  obtain ⟨t1, t2, t3, t4, t5, t6, t7, t8, hT⟩ := id ht
  have hx : TXC I T n := ⟨t1, t2⟩
  have hBB : 80 * (j : Int) ≤ 80 * ((j + 1 : Nat) : Int) := by omega
  obtain ⟨a1, ha1, e1⟩ := iI_of (ys (4 * (j : Int) + 1).toNat)
  obtain ⟨a2, ha2, e2⟩ := iI_of (ys (4 * (j : Int) + 2).toNat)
  obtain ⟨b3, hb3, hbz3⟩ := bool_o (ys (4 * (j : Int) + 3).toNat)
  refine w_l1 ?_
  refine w_sc (by omega) (by omega) hL ?_
  rw [e1]
  refine w_l2 ?_
  refine w_sc (by omega) (by omega) hL ?_
  rw [e2]
  refine w_l3 ?_
  refine w_sc (by omega) (by omega) hL ?_
  refine w_jnP (fun x => x = iI b3) ?_ ?_
  · rintro x rfl
    refine w_ck (by omega) k0 ?_
    refine w_cP (between_X (J := J) hRC hc hw ha1 ha2 hb3) ?_
    refine w_l1 ?_
    refine w_sc (by omega) (by omega) hL ?_
    rw [e1]
    refine w_l2 ?_
    refine w_sc (by omega) (by omega) hL ?_
    rw [e2]
    refine w_l3 ?_
    refine w_sc (by omega) (by omega) hL ?_
    refine w_jnP (fun x => x = iI b3) ?_ ?_
    · rintro x rfl
      refine w_ck (by omega) k374 ?_
      refine w_cI (between_Y (J := J) hR hq hw ha1 ha2 hb3) ?_
      rintro v2 S ⟨hv2, I2, rfl, hK⟩
      refine w_pos hv2.symm ?_
      exact hj11 _ (inv_ask hBB hRC hR hc hq hw hn (by omega) hcs hws ht him (fb_374 hK))
    · intro jb hjb
      rcases hbz3 with ⟨hz, hzo⟩ | ⟨hz, hzo⟩
      · refine w_pos hz ?_
        exact hjb _ (by rw [hzo]; rfl)
      · refine w_neg hz ?_
        exact hjb _ (by rw [hzo]; rfl)
  · intro jb hjb
    rcases hbz3 with ⟨hz, hzo⟩ | ⟨hz, hzo⟩
    · refine w_pos hz ?_
      exact hjb _ (by rw [hzo]; rfl)
    · refine w_neg hz ?_
      exact hjb _ (by rw [hzo]; rfl)
set_option maxHeartbeats 4000000 in
theorem law_23 (hL : L ≤ 2048) (hj : 4 * (j : Int) + 3 < L) (hI : INV (80 * (j : Int)) S) {j11 : St → Option Unit} (hj11 : ∀ S, INV (80 * ((j + 1 : Nat) : Int)) S → En (fun _ => True) (j11 S)) : En (fun _ => True) (
      lt_ ((iI (4 * (j : Int))) + 1 : Int32) fun v242 =>
      sc_ ys L v242 fun v243 =>
      lt_ ((iI (4 * (j : Int))) + 2 : Int32) fun v244 =>
      sc_ ys L v244 fun v245 =>
      lt_ ((iI (4 * (j : Int))) + 3 : Int32) fun v246 =>
      sc_ ys L v246 fun v247 =>
      ck_ S 0 8 <| cP_ (f_X8_sum S 0 v243 v245 v247) fun v248 =>
      lt_ ((iI (4 * (j : Int))) + 1 : Int32) fun v249 =>
      sc_ ys L v249 fun v250 =>
      lt_ ((iI (4 * (j : Int))) + 2 : Int32) fun v251 =>
      sc_ ys L v251 fun v252 =>
      lt_ ((iI (4 * (j : Int))) + 3 : Int32) fun v253 =>
      sc_ ys L v253 fun v254 =>
      ck_ S 373 9 <| cI_ (f_X9_sum S 373 v250 v252 v254) fun v256 S255 =>
      if v248 = v256 then
        j11 (S255)
      else
        none) := by
  obtain ⟨I, J, R, σ, π, σs, V, Vs, T, n, fl, pl, rfl, hRC, hR, hc, hq, hw, hn, hb, hcs, hws, ht, him⟩ := hI
  have k0 := kd_0
  have k374 := kd_374
  obtain ⟨t1, t2, t3, t4, t5, t6, t7, t8, hT⟩ := id ht
  have hx : TXC I T n := ⟨t1, t2⟩
  have hBB : 80 * (j : Int) ≤ 80 * ((j + 1 : Nat) : Int) := by omega
  obtain ⟨a1, ha1, e1⟩ := iI_of (ys (4 * (j : Int) + 1).toNat)
  obtain ⟨a2, ha2, e2⟩ := iI_of (ys (4 * (j : Int) + 2).toNat)
  obtain ⟨a3, ha3, e3⟩ := iI_of (ys (4 * (j : Int) + 3).toNat)
  refine w_l1 ?_
  refine w_sc (by omega) (by omega) hL ?_
  rw [e1]
  refine w_l2 ?_
  refine w_sc (by omega) (by omega) hL ?_
  rw [e2]
  refine w_l3 ?_
  refine w_sc (by omega) (by omega) hL ?_
  rw [e3]
  refine w_ck (by omega) k0 ?_
  refine w_cP (sum_X (J := J) hRC hc hw ha1.1 ha1.2 ha2.1 ha2.2 ha3.1 ha3.2) ?_
  refine w_l1 ?_
  refine w_sc (by omega) (by omega) hL ?_
  rw [e1]
  refine w_l2 ?_
  refine w_sc (by omega) (by omega) hL ?_
  rw [e2]
  refine w_l3 ?_
  refine w_sc (by omega) (by omega) hL ?_
  rw [e3]
  refine w_ck (by omega) k374 ?_
  refine w_cI (Q' := fun y => y = _) ⟨_, sum_Y (J := J) hR hq hw ha1.1 ha1.2 ha2.1 ha2.2 ha3.1 ha3.2, rfl⟩ ?_
  rintro v2 S he
  cases he
  refine w_pos rfl ?_
  exact hj11 _ (inv_ask hBB hRC hR hc hq hw hn (by omega) hcs hws ht him (fb_374 (f374_u f374_r)))
set_option maxHeartbeats 4000000 in
theorem law_24 (hL : L ≤ 2048) (hj : 4 * (j : Int) + 3 < L) (hI : INV (80 * (j : Int)) S) {j11 : St → Option Unit} (hj11 : ∀ S, INV (80 * ((j + 1 : Nat) : Int)) S → En (fun _ => True) (j11 S)) : En (fun _ => True) (
      lt_ ((iI (4 * (j : Int))) + 1 : Int32) fun v257 =>
      sc_ ys L v257 fun v258 =>
      lt_ ((iI (4 * (j : Int))) + 2 : Int32) fun v259 =>
      sc_ ys L v259 fun v260 =>
      ck_ S 0 8 <| cP_ (f_X8_would S 0 v258 v260) fun v261 =>
      lt_ ((iI (4 * (j : Int))) + 1 : Int32) fun v262 =>
      sc_ ys L v262 fun v263 =>
      lt_ ((iI (4 * (j : Int))) + 2 : Int32) fun v264 =>
      sc_ ys L v264 fun v265 =>
      ck_ S 373 9 <| cI_ (f_X9_would S 373 v263 v265) fun v267 S266 =>
      if v261 = v267 then
        j11 (S266)
      else
        none) := by
  obtain ⟨I, J, R, σ, π, σs, V, Vs, T, n, fl, pl, rfl, hRC, hR, hc, hq, hw, hn, hb, hcs, hws, ht, him⟩ := hI
  have k0 := kd_0
  have k374 := kd_374
  obtain ⟨t1, t2, t3, t4, t5, t6, t7, t8, hT⟩ := id ht
  have hx : TXC I T n := ⟨t1, t2⟩
  have hBB : 80 * (j : Int) ≤ 80 * ((j + 1 : Nat) : Int) := by omega
  obtain ⟨a1, ha1, e1⟩ := iI_of (ys (4 * (j : Int) + 1).toNat)
  obtain ⟨a2, ha2, e2⟩ := iI_of (ys (4 * (j : Int) + 2).toNat)
  refine w_l1 ?_
  refine w_sc (by omega) (by omega) hL ?_
  rw [e1]
  refine w_l2 ?_
  refine w_sc (by omega) (by omega) hL ?_
  rw [e2]
  refine w_ck (by omega) k0 ?_
  refine w_cP (would_X (J := J) hRC hc hw ha1.1 ha1.2 ha2.1 ha2.2) ?_
  refine w_l1 ?_
  refine w_sc (by omega) (by omega) hL ?_
  rw [e1]
  refine w_l2 ?_
  refine w_sc (by omega) (by omega) hL ?_
  rw [e2]
  refine w_ck (by omega) k374 ?_
  refine w_cI (Q' := fun y => y = _) ⟨_, would_Y (J := J) hR hq hw ha1.1 ha1.2 ha2.1 ha2.2, rfl⟩ ?_
  rintro v2 S he
  cases he
  refine w_pos rfl ?_
  exact hj11 _ (inv_ask hBB hRC hR hc hq hw hn (by omega) hcs hws ht him (fb_374 (f374_u f374_r)))
set_option maxHeartbeats 4000000 in
theorem law_25 (hL : L ≤ 2048) (hj : 4 * (j : Int) + 3 < L) (hI : INV (80 * (j : Int)) S) {j11 : St → Option Unit} (hj11 : ∀ S, INV (80 * ((j + 1 : Nat) : Int)) S → En (fun _ => True) (j11 S)) : En (fun _ => True) (
      lt_ ((iI (4 * (j : Int))) + 1 : Int32) fun v268 =>
      sc_ ys L v268 fun v269 =>
      ck_ S 0 8 <| cP_ (f_X8_room S 0 v269) fun v270 =>
      lt_ ((iI (4 * (j : Int))) + 1 : Int32) fun v271 =>
      sc_ ys L v271 fun v272 =>
      ck_ S 373 9 <| cI_ (f_X9_room S 373 v272) fun v274 S273 =>
      if v270 = v274 then
        j11 (S273)
      else
        none) := by
  obtain ⟨I, J, R, σ, π, σs, V, Vs, T, n, fl, pl, rfl, hRC, hR, hc, hq, hw, hn, hb, hcs, hws, ht, him⟩ := hI
  have k0 := kd_0
  have k374 := kd_374
  obtain ⟨t1, t2, t3, t4, t5, t6, t7, t8, hT⟩ := id ht
  have hx : TXC I T n := ⟨t1, t2⟩
  have hBB : 80 * (j : Int) ≤ 80 * ((j + 1 : Nat) : Int) := by omega
  obtain ⟨a1, ha1, e1⟩ := iI_of (ys (4 * (j : Int) + 1).toNat)
  refine w_l1 ?_
  refine w_sc (by omega) (by omega) hL ?_
  rw [e1]
  refine w_ck (by omega) k0 ?_
  refine w_cP (room_X (J := J) hRC hc hw ha1.1 ha1.2) ?_
  refine w_l1 ?_
  refine w_sc (by omega) (by omega) hL ?_
  rw [e1]
  refine w_ck (by omega) k374 ?_
  refine w_cI (room_Y (J := J) hR hq hw ha1.1 ha1.2) ?_
  rintro v2 S ⟨hv2, I2, rfl, hK⟩
  refine w_pos hv2.symm ?_
  exact hj11 _ (inv_ask hBB hRC hR hc hq hw hn (by omega) hcs hws ht him hK)
set_option maxHeartbeats 4000000 in
theorem law_3 (hL : L ≤ 2048) (hj : 4 * (j : Int) + 3 < L) (hI : INV (80 * (j : Int)) S) {j11 : St → Option Unit} (hj11 : ∀ S, INV (80 * ((j + 1 : Nat) : Int)) S → En (fun _ => True) (j11 S)) : En (fun _ => True) (
      lt_ ((iI (4 * (j : Int))) + 1 : Int32) fun v43 =>
      sc_ ys L v43 fun v44 =>
      jn_ (fun (x45 : Int32) =>
        ck_ S 0 8 <| cP_ (f_X8_fault S 0 x45) fun v46 =>
        lt_ ((iI (4 * (j : Int))) + 1 : Int32) fun v47 =>
        sc_ ys L v47 fun v48 =>
        jn_ (fun (x49 : Int32) =>
          ck_ S 373 9 <| cI_ (f_X9_fault S 373 x49) fun v51 S50 =>
          if v46 = v51 then
            j11 (S50)
          else
            none
        ) fun j49 =>
        if v48 = 0 then
          j49 (0)
        else
          j49 (1)
      ) fun j45 =>
      if v44 = 0 then
        j45 (0)
      else
        j45 (1)) := by
  obtain ⟨I, J, R, σ, π, σs, V, Vs, T, n, fl, pl, rfl, hRC, hR, hc, hq, hw, hn, hb, hcs, hws, ht, him⟩ := hI
  have k0 := kd_0
  have k374 := kd_374
  obtain ⟨t1, t2, t3, t4, t5, t6, t7, t8, hT⟩ := id ht
  have hx : TXC I T n := ⟨t1, t2⟩
  have hBB : 80 * (j : Int) ≤ 80 * ((j + 1 : Nat) : Int) := by omega
  obtain ⟨b1, hb1, hbz1⟩ := bool_o (ys (4 * (j : Int) + 1).toNat)
  refine w_l1 ?_
  refine w_sc (by omega) (by omega) hL ?_
  refine w_jnP (fun x => x = iI b1) ?_ ?_
  · rintro x rfl
    refine w_ck (by omega) k0 ?_
    refine w_cP (fault_X (J := J) hRC t3 t4 hb1) ?_
    refine w_l1 ?_
    refine w_sc (by omega) (by omega) hL ?_
    refine w_jnP (fun x => x = iI b1) ?_ ?_
    · rintro x rfl
      refine w_ck (by omega) k374 ?_
      refine w_cI (Q' := fun y => y = _) ⟨_, fault_Y (J := J) hR t7 t8 hb1, rfl⟩ ?_
      rintro v2 S he
      cases he
      refine w_pos rfl ?_
      exact hj11 _ (inv_ask hBB hRC hR hc hq hw hn (by omega) hcs hws ht him (fb_374 (f374_u f374_r)))
    · intro jb hjb
      rcases hbz1 with ⟨hz, hzo⟩ | ⟨hz, hzo⟩
      · refine w_pos hz ?_
        exact hjb _ (by rw [hzo]; rfl)
      · refine w_neg hz ?_
        exact hjb _ (by rw [hzo]; rfl)
  · intro jb hjb
    rcases hbz1 with ⟨hz, hzo⟩ | ⟨hz, hzo⟩
    · refine w_pos hz ?_
      exact hjb _ (by rw [hzo]; rfl)
    · refine w_neg hz ?_
      exact hjb _ (by rw [hzo]; rfl)
set_option maxHeartbeats 4000000 in
theorem law_26 (hL : L ≤ 2048) (hj : 4 * (j : Int) + 3 < L) (hI : INV (80 * (j : Int)) S) {j11 : St → Option Unit} (hj11 : ∀ S, INV (80 * ((j + 1 : Nat) : Int)) S → En (fun _ => True) (j11 S)) : En (fun _ => True) (
      lt_ ((iI (4 * (j : Int))) + 1 : Int32) fun v275 =>
      sc_ ys L v275 fun v276 =>
      lt_ ((iI (4 * (j : Int))) + 2 : Int32) fun v277 =>
      sc_ ys L v277 fun v278 =>
      lt_ ((iI (4 * (j : Int))) + 3 : Int32) fun v279 =>
      sc_ ys L v279 fun v280 =>
      ck_ S 0 8 <| cI_ (f_X8_after S 0 v276 v278 v280) fun v282 S281 =>
      lt_ ((iI (4 * (j : Int))) + 1 : Int32) fun v283 =>
      sc_ ys L v283 fun v284 =>
      lt_ ((iI (4 * (j : Int))) + 2 : Int32) fun v285 =>
      sc_ ys L v285 fun v286 =>
      lt_ ((iI (4 * (j : Int))) + 3 : Int32) fun v287 =>
      sc_ ys L v287 fun v288 =>
      ck_ S281 373 9 <| cI_ (f_X9_after S281 373 v284 v286 v288) fun v290 S289 =>
      if v282 = v290 then
        j11 (S289)
      else
        none) := by
  obtain ⟨I, J, R, σ, π, σs, V, Vs, T, n, fl, pl, rfl, hRC, hR, hc, hq, hw, hn, hb, hcs, hws, ht, him⟩ := hI
  have k0 := kd_0
  have k374 := kd_374
  obtain ⟨t1, t2, t3, t4, t5, t6, t7, t8, hT⟩ := id ht
  have hx : TXC I T n := ⟨t1, t2⟩
  have hBB : 80 * (j : Int) ≤ 80 * ((j + 1 : Nat) : Int) := by omega
  obtain ⟨a2, ha2, e2⟩ := iI_of (ys (4 * (j : Int) + 2).toNat)
  obtain ⟨a3, ha3, e3⟩ := iI_of (ys (4 * (j : Int) + 3).toNat)
  refine w_l1 ?_
  refine w_sc (by omega) (by omega) hL ?_
  refine w_l2 ?_
  refine w_sc (by omega) (by omega) hL ?_
  rw [e2]
  refine w_l3 ?_
  refine w_sc (by omega) (by omega) hL ?_
  rw [e3]
  refine w_ck (by omega) k0 ?_
  refine w_cI (after_X (J := J) hRC hc hw hcs hws t1 ha2.1 ha2.2 ha3.1 ha3.2) ?_
  rintro v S ⟨hv, I1, R1, σ1, Vs1, rfl, hcs1, hws1, hF, hRF⟩
  have hR1 := hR.m (r := 72) (by omega) hRF
  have hq1 : RMQ I1 π V := rmq_congr hq fun k _ => hF _ _ (by omega) (by omega)
  have hl1 : I1 374 985 = iI (n : Nat) := (hF _ _ (by omega) (by omega)).trans t5
  refine w_l1 ?_
  refine w_sc (by omega) (by omega) hL ?_
  refine w_l2 ?_
  refine w_sc (by omega) (by omega) hL ?_
  rw [e2]
  refine w_l3 ?_
  refine w_sc (by omega) (by omega) hL ?_
  rw [e3]
  refine w_ck (by omega) k374 ?_
  refine w_cI (after_Y (J := J) hR1 hq1 hw hn (by omega) hl1 ha2.1 ha2.2 ha3.1 ha3.2) ?_
  rintro v2 S ⟨hv2, I2, rfl, hK⟩
  refine w_pos (hv.trans hv2.symm) ?_
  exact hj11 _ (inv_try hBB hRC hR hc hq hw hn (by omega) ht him hcs1 hws1 hF hRF hK)
set_option maxHeartbeats 4000000 in
theorem law_27 (hL : L ≤ 2048) (hj : 4 * (j : Int) + 3 < L) (hI : INV (80 * (j : Int)) S) {j11 : St → Option Unit} (hj11 : ∀ S, INV (80 * ((j + 1 : Nat) : Int)) S → En (fun _ => True) (j11 S)) : En (fun _ => True) (
      lt_ ((iI (4 * (j : Int))) + 1 : Int32) fun v291 =>
      sc_ ys L v291 fun v292 =>
      lt_ ((iI (4 * (j : Int))) + 2 : Int32) fun v293 =>
      sc_ ys L v293 fun v294 =>
      ck_ S 0 8 <| cI_ (f_X8_fewest S 0 v292 v294) fun v296 S295 =>
      lt_ ((iI (4 * (j : Int))) + 1 : Int32) fun v297 =>
      sc_ ys L v297 fun v298 =>
      lt_ ((iI (4 * (j : Int))) + 2 : Int32) fun v299 =>
      sc_ ys L v299 fun v300 =>
      ck_ S295 373 9 <| cI_ (f_X9_fewest S295 373 v298 v300) fun v302 S301 =>
      if v296 = v302 then
        j11 (S301)
      else
        none) := by
  obtain ⟨I, J, R, σ, π, σs, V, Vs, T, n, fl, pl, rfl, hRC, hR, hc, hq, hw, hn, hb, hcs, hws, ht, him⟩ := hI
  have k0 := kd_0
  have k374 := kd_374
  obtain ⟨t1, t2, t3, t4, t5, t6, t7, t8, hT⟩ := id ht
  have hx : TXC I T n := ⟨t1, t2⟩
  have hBB : 80 * (j : Int) ≤ 80 * ((j + 1 : Nat) : Int) := by omega
  obtain ⟨a2, ha2, e2⟩ := iI_of (ys (4 * (j : Int) + 2).toNat)
  refine w_l1 ?_
  refine w_sc (by omega) (by omega) hL ?_
  refine w_l2 ?_
  refine w_sc (by omega) (by omega) hL ?_
  rw [e2]
  refine w_ck (by omega) k0 ?_
  refine w_cI (fewest_X (J := J) hRC hc hw hcs hws ha2.1 ha2.2) ?_
  rintro v S ⟨hv, I1, R1, σ1, Vs1, rfl, hcs1, hws1, hF, hRF⟩
  have hR1 := hR.m (r := 72) (by omega) hRF
  have hq1 : RMQ I1 π V := rmq_congr hq fun k _ => hF _ _ (by omega) (by omega)
  have hl1 : I1 374 985 = iI (n : Nat) := (hF _ _ (by omega) (by omega)).trans t5
  refine w_l1 ?_
  refine w_sc (by omega) (by omega) hL ?_
  refine w_l2 ?_
  refine w_sc (by omega) (by omega) hL ?_
  rw [e2]
  refine w_ck (by omega) k374 ?_
  refine w_cI (fewest_Y (J := J) hR1 hq1 hw hws ha2.1 ha2.2) ?_
  rintro v2 S ⟨hv2, I2, rfl, hK⟩
  refine w_pos (hv.trans hv2.symm) ?_
  exact hj11 _ (inv_try hBB hRC hR hc hq hw hn (by omega) ht him hcs1 hws1 hF hRF hK)
set_option maxHeartbeats 4000000 in
theorem law_0 (hL : L ≤ 2048) (hj : 4 * (j : Int) + 3 < L) (hI : INV (80 * (j : Int)) S) {j11 : St → Option Unit} (hj11 : ∀ S, INV (80 * ((j + 1 : Nat) : Int)) S → En (fun _ => True) (j11 S)) : En (fun _ => True) (
      lt_ ((iI (4 * (j : Int))) + 1 : Int32) fun v13 =>
      sc_ ys L v13 fun v14 =>
      lt_ (Int32.toInt64 v14) fun v15 =>
      lt_ (v15 <<< (Int32.toInt64 32 &&& 63) : Int64) fun v16 =>
      lt_ ((iI (4 * (j : Int))) + 2 : Int32) fun v17 =>
      sc_ ys L v17 fun v18 =>
      lt_ (Int32.toInt64 v18) fun v19 =>
      lt_ (v19 &&& 4294967295 : Int64) fun v20 =>
      lt_ (v16 ||| v20 : Int64) fun v21 =>
      ck_ S 0 8 <| cI_ (f_X8_tell S 0 v21) fun v23 S22 =>
      lt_ ((iI (4 * (j : Int))) + 1 : Int32) fun v24 =>
      sc_ ys L v24 fun v25 =>
      lt_ (Int32.toInt64 v25) fun v26 =>
      lt_ (v26 <<< (Int32.toInt64 32 &&& 63) : Int64) fun v27 =>
      lt_ ((iI (4 * (j : Int))) + 2 : Int32) fun v28 =>
      sc_ ys L v28 fun v29 =>
      lt_ (Int32.toInt64 v29) fun v30 =>
      lt_ (v30 &&& 4294967295 : Int64) fun v31 =>
      lt_ (v27 ||| v31 : Int64) fun v32 =>
      ck_ S22 373 9 <| cI_ (f_X9_tell S22 373 v32) fun v34 S33 =>
      if v23 = v34 then
        j11 (S33)
      else
        none) := by
  obtain ⟨I, J, R, σ, π, σs, V, Vs, T, n, fl, pl, rfl, hRC, hR, hc, hq, hw, hn, hb, hcs, hws, ht, him⟩ := hI
  have k0 := kd_0
  have k374 := kd_374
  obtain ⟨t1, t2, t3, t4, t5, t6, t7, t8, hT⟩ := id ht
  have hx : TXC I T n := ⟨t1, t2⟩
  have hBB : 80 * (j : Int) ≤ 80 * ((j + 1 : Nat) : Int) := by omega
  refine w_l1 ?_
  refine w_sc (by omega) (by omega) hL ?_
  refine w_lt ?_
  refine w_lt ?_
  refine w_l2 ?_
  refine w_sc (by omega) (by omega) hL ?_
  refine w_lt ?_
  refine w_lt ?_
  refine w_lt ?_
  refine w_ck (by omega) k0 ?_
  refine w_cI (tell_X (J := J) hRC hx hT) ?_
  rintro v S ⟨hv, I1, rfl, f1, g1⟩
  refine w_l1 ?_
  refine w_sc (by omega) (by omega) hL ?_
  refine w_lt ?_
  refine w_lt ?_
  refine w_l2 ?_
  refine w_sc (by omega) (by omega) hL ?_
  refine w_lt ?_
  refine w_lt ?_
  refine w_lt ?_
  refine w_ck (by omega) k374 ?_
  refine w_cI (tell_Y (J := J) (I := I1) (T := T) (n := n) hR ⟨(f1 _ _ (by omega) (by omega)).trans t5, fun i hi => by rw [f1 _ _ (by omega) (by omega)]; have := t6 i hi; rw [Nat.mul_zero, Nat.zero_add] at this; exact this⟩ hT) ?_
  rintro v2 S ⟨hv2, I2, rfl, f2, g2, g3⟩
  refine w_pos (hv.trans hv2.symm) ?_
  have hot := tel_ok (q := ((Int32.toInt64 (ys (4 * (j : Int) + 1).toNat) <<< (Int32.toInt64 32 &&& 63)) ||| (Int32.toInt64 (ys (4 * (j : Int) + 2).toNat) &&& 4294967295))) hT
  refine hj11 _ (inv_text (I := I) (R := R) (σ' := σ) (π' := π) (σs' := σs) (V' := V) (Vs' := Vs) (fl' := fl) (pl' := pl) hBB hRC hR (cr_same hc fun a k h1 h2 => by rw [f2 _ _ (by omega) (by omega) (by omega), f1 _ _ (by omega) (by omega)]) (rmq_congr hq fun k hk => by rw [f2 _ _ (by omega) (by omega) (by omega), f1 _ _ (by omega) (by omega)]) hw hn (by omega) (cr_same hcs fun a k h1 h2 => by rw [f2 _ _ (by omega) (by omega) (by omega), f1 _ _ (by omega) (by omega)]) hws ⟨(f2 _ _ (by omega) (by omega) (by omega)).trans g1.1, fun i hi => (f2 _ _ (by omega) (by omega) (by omega)).trans (g1.2 i hi), ?_, ?_, g2, fun i hi => ?_, ?_, ?_, hot⟩ him (fun a k h1 h2 => by rw [f2 _ _ (by omega) (by omega) (by omega), f1 _ _ (by omega) (by omega)]) (fun k => by rw [f2 _ _ (by omega) (by omega) (by omega), f1 _ _ (by omega) (by omega)]) (fun k h1 h2 => by rw [f2 _ _ (by omega) (by omega) (by omega), f1 _ _ (by omega) (by omega)]) (fun k h1 => by rw [f2 _ _ (by omega) (by omega) (by omega), f1 _ _ (by omega) (by omega)]) (fun _ _ _ _ => rfl))
  · exact ((f2 143 2 (by omega) (by omega) (by omega)).trans (f1 _ _ (by omega) (by omega))).trans t3
  · exact ((f2 143 3 (by omega) (by omega) (by omega)).trans (f1 _ _ (by omega) (by omega))).trans t4
  · rw [Nat.mul_zero, Nat.zero_add]
    exact g3 i hi
  · exact ((f2 374 986 (by omega) (by omega) (by omega)).trans (f1 _ _ (by omega) (by omega))).trans t7
  · exact ((f2 374 987 (by omega) (by omega) (by omega)).trans (f1 _ _ (by omega) (by omega))).trans t8
set_option maxHeartbeats 4000000 in
theorem law_1 (hL : L ≤ 2048) (hj : 4 * (j : Int) + 3 < L) (hI : INV (80 * (j : Int)) S) {j11 : St → Option Unit} (hj11 : ∀ S, INV (80 * ((j + 1 : Nat) : Int)) S → En (fun _ => True) (j11 S)) : En (fun _ => True) (
      ck_ S 0 8 <| cI_ (f_X8_ring S 0) fun v36 S35 =>
      ck_ S35 373 9 <| cI_ (f_X9_ring S35 373) fun v38 S37 =>
      if v36 = v38 then
        j11 (S37)
      else
        none) := by
  obtain ⟨I, J, R, σ, π, σs, V, Vs, T, n, fl, pl, rfl, hRC, hR, hc, hq, hw, hn, hb, hcs, hws, ht, him⟩ := hI
  have k0 := kd_0
  have k374 := kd_374
  obtain ⟨t1, t2, t3, t4, t5, t6, t7, t8, hT⟩ := id ht
  have hx : TXC I T n := ⟨t1, t2⟩
  have hBB : 80 * (j : Int) ≤ 80 * ((j + 1 : Nat) : Int) := by omega
  have hwn := wn_rin (P := pS0 T n 0 3) hn
  refine w_ck (by omega) k0 ?_
  refine w_cI (ring_X (J := J) hRC hc hx hT) ?_
  rintro v S ⟨hv, I1, rfl, hc1, f1, g1, g2, g3⟩
  refine w_ck (by omega) k374 ?_
  refine w_cI (ring_Y (J := J) (I := I1) (T := T) (n := n) (V := V) (π := π) hR (rmq_congr hq fun k hk => f1 _ _ (by omega)) ⟨(f1 _ _ (by omega)).trans t5, fun i hi => by rw [f1 _ _ (by omega)]; have := t6 i hi; rw [Nat.mul_zero, Nat.zero_add] at this; exact this⟩ hT) ?_
  rintro v2 S ⟨hv2, I2, J2, π2, rfl, hq2, hK, m1, m2, m3⟩
  refine w_pos (hv.trans hv2.symm) ?_
  exact hj11 _ (inv_text (I := I) (R := R) (σ' := σ) (σs' := σs) (Vs' := Vs) (T' := T) (n' := 0) hBB hRC hR (cr_same hc1 fun a k h1 h2 => hK.1 _ _ (by omega)) hq2 (wr_rin hT hw) hwn.1 (by have := hwn.2; omega) (cr_same hcs fun a k h1 h2 => by rw [hK.1 _ _ (by omega), f1 _ _ (by omega)]) hws ⟨(hK.1 _ _ (by omega)).trans g1, fun i hi => absurd hi (Nat.not_lt_zero i), (hK.1 _ _ (by omega)).trans g2, (hK.1 _ _ (by omega)).trans g3, m1, fun i hi => absurd hi (Nat.not_lt_zero i), m2, m3, ⟨by omega, fun i hi => absurd hi (Nat.not_lt_zero i)⟩⟩ him (fun a k h1 h2 => by rw [hK.1 _ _ (by omega), f1 _ _ (by omega)]) (fun k => by rw [hK.1 _ _ (by omega), f1 _ _ (by omega)]) (fun k h1 h2 => by rw [hK.2 _ (by omega), f1 _ _ (by omega)]) (fun k h1 => by rw [hK.1 _ _ (by omega), f1 _ _ (by omega)]) (fun _ _ _ _ => rfl))
set_option maxHeartbeats 4000000 in
theorem law_2 (hL : L ≤ 2048) (hj : 4 * (j : Int) + 3 < L) (hI : INV (80 * (j : Int)) S) {j11 : St → Option Unit} (hj11 : ∀ S, INV (80 * ((j + 1 : Nat) : Int)) S → En (fun _ => True) (j11 S)) : En (fun _ => True) (
      ck_ S 0 8 <| cI_ (f_X8_script S 0) fun v40 S39 =>
      ck_ S39 373 9 <| cI_ (f_X9_script S39 373) fun v42 S41 =>
      if v40 = v42 then
        j11 (S41)
      else
        none) := by
  obtain ⟨I, J, R, σ, π, σs, V, Vs, T, n, fl, pl, rfl, hRC, hR, hc, hq, hw, hn, hb, hcs, hws, ht, him⟩ := hI
  have k0 := kd_0
  have k374 := kd_374
  obtain ⟨t1, t2, t3, t4, t5, t6, t7, t8, hT⟩ := id ht
  have hx : TXC I T n := ⟨t1, t2⟩
  have hBB : 80 * (j : Int) ≤ 80 * ((j + 1 : Nat) : Int) := by omega
  have hsc := scr_ok hT hw hn
  refine w_ck (by omega) k0 ?_
  refine w_cI (script_X (J := J) hRC hc hw hx hT) ?_
  rintro v S ⟨hv, I1, R1, σ1, rfl, hc1, f1, hRF, g1, g2, g3⟩
  have hR1 := hR.m (r := 1) (by omega) hRF
  refine w_ck (by omega) k374 ?_
  refine w_cI (script_Y (J := J) (I := I1) (T := T) (n := n) (V := V) (π := π) hR1 (rmq_congr hq fun k hk => f1 _ _ (by omega)) hw ⟨(f1 _ _ (by omega)).trans t5, fun i hi => by rw [f1 _ _ (by omega)]; have := t6 i hi; rw [Nat.mul_zero, Nat.zero_add] at this; exact this⟩ hT (fun _ => pS_80 hT (by omega))) ?_
  rintro v2 S ⟨hv2, I2, J2, π2, rfl, hq2, hK, m1, m2, m3⟩
  refine w_pos (hv.trans hv2.symm) ?_
  exact hj11 _ (inv_text (I := I) (R := R) (σ' := σ1) (σs' := σs) (Vs' := Vs) (T' := T) (n' := 0) hBB (hRC.m (Or.inl rfl) hRF) hR1 (cr_same hc1 fun a k h1 h2 => hK.1 _ _ (by omega)) hq2 hsc.1 hsc.2.1 (by have := hsc.2.2; omega) (cr_both hcs (fun a k h1 h2 => by rw [hK.1 _ _ (by omega), f1 _ _ (by omega)]) (fun a k h1 h2 => hRF _ _ (by omega))) hws ⟨(hK.1 _ _ (by omega)).trans g1, fun i hi => absurd hi (Nat.not_lt_zero i), (hK.1 _ _ (by omega)).trans g2, (hK.1 _ _ (by omega)).trans g3, m1, fun i hi => absurd hi (Nat.not_lt_zero i), m2, m3, ⟨by omega, fun i hi => absurd hi (Nat.not_lt_zero i)⟩⟩ him (fun a k h1 h2 => by rw [hK.1 _ _ (by omega), f1 _ _ (by omega)]) (fun k => by rw [hK.1 _ _ (by omega), f1 _ _ (by omega)]) (fun k h1 h2 => by rw [hK.2 _ (by omega), f1 _ _ (by omega)]) (fun k h1 => by rw [hK.1 _ _ (by omega), f1 _ _ (by omega)]) (fun a k h1 h2 => hRF _ _ (by omega)))
set_option maxHeartbeats 4000000 in
theorem law_28 (hL : L ≤ 2048) (hj : 4 * (j : Int) + 3 < L) (hI : INV (80 * (j : Int)) S) {j11 : St → Option Unit} (hj11 : ∀ S, INV (80 * ((j + 1 : Nat) : Int)) S → En (fun _ => True) (j11 S)) : En (fun _ => True) (
      lt_ ((iI (4 * (j : Int))) + 1 : Int32) fun v303 =>
      sc_ ys L v303 fun v304 =>
      ck_ S 0 8 <| cI_ (f_X8_image S 0 v304) fun v306 S305 =>
      lt_ ((iI (4 * (j : Int))) + 1 : Int32) fun v307 =>
      sc_ ys L v307 fun v308 =>
      ck_ S305 373 9 <| cI_ (f_X9_image S305 373 v308) fun v310 S309 =>
      if v306 = v310 then
        j11 (S309)
      else
        none) := by
  obtain ⟨I, J, R, σ, π, σs, V, Vs, T, n, fl, pl, rfl, hRC, hR, hc, hq, hw, hn, hb, hcs, hws, ht, him⟩ := hI
  have k0 := kd_0
  have k374 := kd_374
  obtain ⟨t1, t2, t3, t4, t5, t6, t7, t8, hT⟩ := id ht
  have hx : TXC I T n := ⟨t1, t2⟩
  have hBB : 80 * (j : Int) ≤ 80 * ((j + 1 : Nat) : Int) := by omega
  obtain ⟨a1, ha1, e1⟩ := iI_of (ys (4 * (j : Int) + 1).toNat)
  refine w_l1 ?_
  refine w_sc (by omega) (by omega) hL ?_
  rw [e1]
  have hck : 0 ≤ a1 → a1 < 3 → ∃ σk Vk, CR I R (152 + 74 * a1.toNat) σk Vk := fun h1 h2 => by
    obtain ⟨σk, Vk, h, -⟩ := him a1.toNat (by omega)
    exact ⟨σk, Vk, h⟩
  obtain ⟨σk, Vk, hck⟩ : ∃ σk Vk, 0 ≤ a1 → a1 < 3 → CR I R (152 + 74 * a1.toNat) σk Vk := by
    by_cases h : 0 ≤ a1 ∧ a1 < 3
    · obtain ⟨σk, Vk, h2⟩ := hck h.1 h.2
      exact ⟨σk, Vk, fun _ _ => h2⟩
    · exact ⟨fun p => p, V, fun h1 h2 => absurd ⟨h1, h2⟩ h⟩
  refine w_ck (by omega) k0 ?_
  refine w_cI (image_X (J := J) hRC hc hw ha1.1 ha1.2 hck) ?_
  rintro v S (⟨hno, he⟩ | ⟨h1, h2, hv, I1, rfl, hci, i2, x1, x2, x3, x4, f1⟩)
  · cases he
    refine w_l1 ?_
    refine w_sc (by omega) (by omega) hL ?_
    rw [e1]
    refine w_ck (by omega) k374 ?_
    refine w_cI (image_Y (J := J) hR ha1.1 ha1.2) ?_
    rintro v2 S (⟨-, he⟩ | ⟨h1, h2, -⟩)
    · cases he
      refine w_pos rfl ?_
      exact hj11 _ (inv_ask hBB hRC hR hc hq hw hn (by omega) hcs hws ht him (fb_374 (f374_u f374_r)))
    · exact absurd ⟨h1, h2⟩ hno
  · have hv : v = iI 1 := hv
    subst hv
    refine w_l1 ?_
    refine w_sc (by omega) (by omega) hL ?_
    rw [e1]
    refine w_ck (by omega) k374 ?_
    refine w_cI (image_Y (J := J) (I := I1) hR ha1.1 ha1.2) ?_
    rintro v2 S (⟨hno, -⟩ | ⟨-, -, he⟩)
    · exact absurd ⟨h1, h2⟩ hno
    · cases he
      refine w_pos rfl ?_
      have hq3 : a1.toNat < 3 := by omega
      generalize a1.toNat = q at *
      have g : ∀ a k, a ≠ 373 → a ≠ 374 → a ≠ 375 → a ≠ 376 → up (tpS (cpS (up I1 373 0 (iI 0)) 0 (q + 1) 988) 0 (q + 1) 400) 376 q (iI 1) a k = I1 a k := fun a k h1 h2 h3 h4 => by rw [up_ne (by omega), tpS_ne (by omega), cpS_ne (by omega), up_ne (by omega)]
      have g5 : ∀ k, ¬ (988 * (q + 1) ≤ k ∧ k < 988 * (q + 2)) → up (tpS (cpS (up I1 373 0 (iI 0)) 0 (q + 1) 988) 0 (q + 1) 400) 376 q (iI 1) 374 k = I1 374 k := fun k hk => by rw [up_ne (by omega), tpS_ne (by omega), cpS_ne (by omega), up_ne (by omega)]
      have g5i : ∀ k, k < 988 → up (tpS (cpS (up I1 373 0 (iI 0)) 0 (q + 1) 988) 0 (q + 1) 400) 376 q (iI 1) 374 (988 * (q + 1) + k) = I1 374 k := fun k hk => by rw [up_ne (by omega), tpS_ne (by omega), cpS_in hk, up_ne (by omega), Nat.mul_zero, Nat.zero_add]
      have g6 : ∀ k, ¬ (400 * (q + 1) ≤ k ∧ k < 400 * (q + 2)) → up (tpS (cpS (up I1 373 0 (iI 0)) 0 (q + 1) 988) 0 (q + 1) 400) 376 q (iI 1) 375 k = I1 375 k := fun k hk => by rw [up_ne (by omega), tpS_ne (by omega), cpS_ne (by omega), up_ne (by omega)]
      have g6i : ∀ k, k < 400 → up (tpS (cpS (up I1 373 0 (iI 0)) 0 (q + 1) 988) 0 (q + 1) 400) 376 q (iI 1) 375 (400 * (q + 1) + k) = vp_nar .byte (I1 375 k) := fun k hk => by rw [up_ne (by omega), tpS_in hk, cpS_ne (by omega), up_ne (by omega), Nat.mul_zero, Nat.zero_add]
      have g7 : ∀ k, k ≠ q → up (tpS (cpS (up I1 373 0 (iI 0)) 0 (q + 1) 988) 0 (q + 1) 400) 376 q (iI 1) 376 k = I1 376 k := fun k hk => by rw [up_ne (by omega), tpS_ne (by omega), cpS_ne (by omega), up_ne (by omega)]
      have g7i : up (tpS (cpS (up I1 373 0 (iI 0)) 0 (q + 1) 988) 0 (q + 1) 400) 376 q (iI 1) 376 q = iI 1 := up_eq _ _ _ _
      generalize up (tpS (cpS (up I1 373 0 (iI 0)) 0 (q + 1) 988) 0 (q + 1) 400) 376 q (iI 1) = I2 at *
      have hn4 := hT.1
      refine hj11 _ ⟨I2, J, R, σ, π, σs, V, Vs, T, n, fl, pl, rfl, hRC, hR, cr_same hc (fun a k h1 h2 => by rw [g _ _ (by omega) (by omega) (by omega) (by omega), f1 _ _ (by omega)]), rmq_congr hq (fun k hk => by rw [g5 _ (by omega), f1 _ _ (by omega)]), hw, hn, by omega, cr_same hcs (fun a k h1 h2 => by rw [g _ _ (by omega) (by omega) (by omega) (by omega), f1 _ _ (by omega)]), hws, txg_keep ht (fun a k ha => by rw [g _ _ (by omega) (by omega) (by omega) (by omega), f1 _ _ (by omega)]) (fun k h1 h2 => by rw [g5 _ (by omega), f1 _ _ (by omega)]) (fun k hk => by rw [g6 _ (by omega), f1 _ _ (by omega)]), fun k hk => ?_⟩
      by_cases hkq : k = q
      · subst hkq
        refine ⟨σk, V, cr_same hci (fun a j h1 h2 => g _ _ (by omega) (by omega) (by omega) (by omega)), hw, Or.inr ⟨(g _ _ (by omega) (by omega) (by omega) (by omega)).trans i2, g7i, hn, by omega, π, T, n, fl, pl, rmq_congr hq (fun i hi => ?_), ?_, fun i hi => ?_, ?_, ?_, ?_, fun i hi => ?_, ?_, ?_, hT⟩⟩
        · rw [slI_5, g5i _ (by omega), f1 _ _ (by omega)]
        · rw [g _ _ (by omega) (by omega) (by omega) (by omega), x1]
          exact t1
        · rw [g _ _ (by omega) (by omega) (by omega) (by omega), x4 _ (by omega)]
          exact t2 i hi
        · rw [g _ _ (by omega) (by omega) (by omega) (by omega), x2]
          exact t3
        · rw [g _ _ (by omega) (by omega) (by omega) (by omega), x3]
          exact t4
        · rw [g5i _ (by omega), f1 _ _ (by omega)]
          exact t5
        · rw [g6i _ (by omega), nar_and, f1 _ _ (by omega)]
          have := t6 i hi
          rw [Nat.mul_zero, Nat.zero_add] at this
          exact this
        · rw [g5i _ (by omega), f1 _ _ (by omega)]
          exact t7
        · rw [g5i _ (by omega), f1 _ _ (by omega)]
          exact t8
      · exact img_keep1 hBB (him k hk) (fun a i h1 h2 => by rw [g _ _ (by omega) (by omega) (by omega) (by omega), f1 _ _ (by omega)]) (by rw [g7 _ hkq, f1 _ _ (by omega)]) (fun i h1 h2 => by rw [g5 _ (by omega), f1 _ _ (by omega)]) (fun i h1 h2 => by rw [g6 _ (by omega), f1 _ _ (by omega)]) (fun _ _ _ _ => rfl)
set_option maxHeartbeats 4000000 in
theorem law_29 (hL : L ≤ 2048) (hj : 4 * (j : Int) + 3 < L) (hI : INV (80 * (j : Int)) S) {j11 : St → Option Unit} (hj11 : ∀ S, INV (80 * ((j + 1 : Nat) : Int)) S → En (fun _ => True) (j11 S)) : En (fun _ => True) (
      lt_ ((iI (4 * (j : Int))) + 1 : Int32) fun v311 =>
      sc_ ys L v311 fun v312 =>
      ck_ S 0 8 <| cI_ (f_X8_again S 0 v312) fun v314 S313 =>
      lt_ ((iI (4 * (j : Int))) + 1 : Int32) fun v315 =>
      sc_ ys L v315 fun v316 =>
      ck_ S313 373 9 <| cI_ (f_X9_again S313 373 v316) fun v318 S317 =>
      if v314 = v318 then
        j11 (S317)
      else
        none) := by
  obtain ⟨I, J, R, σ, π, σs, V, Vs, T, n, fl, pl, rfl, hRC, hR, hc, hq, hw, hn, hb, hcs, hws, ht, him⟩ := hI
  have k0 := kd_0
  have k374 := kd_374
  obtain ⟨t1, t2, t3, t4, t5, t6, t7, t8, hT⟩ := id ht
  have hx : TXC I T n := ⟨t1, t2⟩
  have hBB : 80 * (j : Int) ≤ 80 * ((j + 1 : Nat) : Int) := by omega
  obtain ⟨a1, ha1, e1⟩ := iI_of (ys (4 * (j : Int) + 1).toNat)
  refine w_l1 ?_
  refine w_sc (by omega) (by omega) hL ?_
  rw [e1]
  have hmk : 0 ≤ a1 ∧ a1 < 3 → IMG I R (80 * (j : Int)) a1.toNat := fun h => him a1.toNat (by omega)
  obtain ⟨σk, Vk, hck, hkk⟩ : ∃ σk Vk, (0 ≤ a1 → a1 < 3 → CR I R (152 + 74 * a1.toNat) σk Vk ∧ WR Vk) ∧ (0 ≤ a1 → a1 < 3 → (I (151 + 74 * a1.toNat) 2 = iI 0 ∧ I 376 a1.toNat = iI 0) ∨ (I (151 + 74 * a1.toNat) 2 = iI 1 ∧ I 376 a1.toNat = iI 1 ∧ WN Vk ∧ Vk.2 5 6 ≤ 80 * (j : Int) ∧ ∃ π T n fl pl, RMQ (slI I (a1.toNat + 1)) π Vk ∧ TXg I (223 + 74 * a1.toNat) (a1.toNat + 1) T n fl pl)) := by
    by_cases h : 0 ≤ a1 ∧ a1 < 3
    · obtain ⟨σk, Vk, h1, h2, h3⟩ := hmk h
      exact ⟨σk, Vk, fun _ _ => ⟨h1, h2⟩, fun _ _ => h3⟩
    · exact ⟨fun p => p, V, fun h1 h2 => absurd ⟨h1, h2⟩ h, fun h1 h2 => absurd ⟨h1, h2⟩ h⟩
  refine w_ck (by omega) k0 ?_
  refine w_cI (again_X (J := J) hRC hc ha1.1 ha1.2 hck (fun h1 h2 => by rcases hkk h1 h2 with h | h; exact Or.inl h.1; exact Or.inr h.1)) ?_
  rintro v S (⟨hno, he⟩ | ⟨h1, h2, hs, hv, I1, rfl, hci, x1, x2, x3, x4, f1⟩)
  · cases he
    refine w_l1 ?_
    refine w_sc (by omega) (by omega) hL ?_
    rw [e1]
    refine w_ck (by omega) k374 ?_
    refine w_cI (again_Y (J := J) hR ha1.1 ha1.2 (fun h1 h2 => by rcases hkk h1 h2 with h | h; exact Or.inl h.2; exact Or.inr h.2.1)) ?_
    rintro v2 S (⟨-, he⟩ | ⟨h1, h2, hs, -⟩)
    · cases he
      refine w_pos rfl ?_
      exact hj11 _ (inv_ask hBB hRC hR hc hq hw hn (by omega) hcs hws ht him (fb_374 (f374_u f374_r)))
    · rcases hkk h1 h2 with h | h
      · rw [h.2] at hs
        exact absurd hs (by decide)
      · exact absurd ⟨h1, h2, h.1⟩ hno
  · have hv : v = iI 1 := hv
    subst hv
    refine w_l1 ?_
    refine w_sc (by omega) (by omega) hL ?_
    rw [e1]
    have hkk1 := hkk h1 h2
    rcases hkk1 with h | ⟨-, h377, hnk, hbk, πk, Tk, nk, flk, plk, hqk, htk⟩
    · rw [h.1] at hs
      exact absurd hs (by decide)
    refine w_ck (by omega) k374 ?_
    refine w_cI (again_Y (J := J) (I := I1) hR ha1.1 ha1.2 (fun _ _ => Or.inr (by rw [f1 _ _ (by omega) (by omega) (by omega)]; exact h377))) ?_
    rintro v2 S (⟨hno, -⟩ | ⟨-, -, -, he⟩)
    · exact absurd ⟨h1, h2, by rw [f1 _ _ (by omega) (by omega) (by omega)]; exact h377⟩ hno
    · cases he
      refine w_pos rfl ?_
      have hq3 : a1.toNat < 3 := by omega
      have hwk := (hck h1 h2).2
      generalize a1.toNat = q at *
      obtain ⟨s1, s2, s3, s4, s5, s6, s7, s8, s9⟩ := htk
      have hn4 := s9.1
      have g : ∀ a k, a ≠ 373 → a ≠ 374 → a ≠ 375 → tpS (cpS (up I1 373 0 (iI 0)) (q + 1) 0 988) (q + 1) 0 400 a k = I1 a k := fun a k h1 h2 h3 => by rw [tpS_ne (by omega), cpS_ne (by omega), up_ne (by omega)]
      have g5 : ∀ k, 988 ≤ k → tpS (cpS (up I1 373 0 (iI 0)) (q + 1) 0 988) (q + 1) 0 400 374 k = I1 374 k := fun k hk => by rw [tpS_ne (by omega), cpS_ne (by omega), up_ne (by omega)]
      have g5i : ∀ k, k < 988 → tpS (cpS (up I1 373 0 (iI 0)) (q + 1) 0 988) (q + 1) 0 400 374 k = I1 374 (988 * (q + 1) + k) := fun k hk => by
        have e := cpS_in (I := up I1 373 0 (iI 0)) (s := q + 1) (t := 0) (n := 988) hk
        rw [Nat.mul_zero, Nat.zero_add] at e
        rw [tpS_ne (by omega), e, up_ne (by omega)]
      have g6 : ∀ k, 400 ≤ k → tpS (cpS (up I1 373 0 (iI 0)) (q + 1) 0 988) (q + 1) 0 400 375 k = I1 375 k := fun k hk => by rw [tpS_ne (by omega), cpS_ne (by omega), up_ne (by omega)]
      have g6i : ∀ k, k < 400 → tpS (cpS (up I1 373 0 (iI 0)) (q + 1) 0 988) (q + 1) 0 400 375 k = vp_nar .byte (I1 375 (400 * (q + 1) + k)) := fun k hk => by
        have e := tpS_in (I := cpS (up I1 373 0 (iI 0)) (q + 1) 0 988) (s := q + 1) (t := 0) (n := 400) hk
        rw [Nat.mul_zero, Nat.zero_add] at e
        rw [e, cpS_ne (by omega), up_ne (by omega)]
      generalize tpS (cpS (up I1 373 0 (iI 0)) (q + 1) 0 988) (q + 1) 0 400 = I2 at *
      refine hj11 _ (inv_text (I := I) (R := R) (σ' := σ) (π' := πk) (σs' := σs) (V' := Vk) (Vs' := Vs) (T' := Tk) (n' := nk) (fl' := flk) (pl' := plk) hBB hRC hR (cr_same hci fun a k h1 h2 => g _ _ (by omega) (by omega) (by omega)) (rmq_congr hqk fun k hk => by rw [g5i _ (by omega), slI_5, f1 _ _ (by omega) (by omega) (by omega)]) hwk hnk (by omega) (cr_same hcs fun a k h1 h2 => by rw [g _ _ (by omega) (by omega) (by omega), f1 _ _ (by omega) (by omega) (by omega)]) hws ⟨?_, fun i hi => ?_, ?_, ?_, ?_, fun i hi => ?_, ?_, ?_, s9⟩ him (fun a k h1 h2 => by rw [g _ _ (by omega) (by omega) (by omega), f1 _ _ (by omega) (by omega) (by omega)]) (fun k => by rw [g _ _ (by omega) (by omega) (by omega), f1 _ _ (by omega) (by omega) (by omega)]) (fun k h1 h2 => by rw [g5 _ h1, f1 _ _ (by omega) (by omega) (by omega)]) (fun k h1 => by rw [g6 _ h1, f1 _ _ (by omega) (by omega) (by omega)]) (fun _ _ _ _ => rfl))
      · rw [g _ _ (by omega) (by omega) (by omega), x1]
        exact s1
      · rw [g _ _ (by omega) (by omega) (by omega), x4 _ (by omega)]
        exact s2 i hi
      · rw [g _ _ (by omega) (by omega) (by omega), x2]
        exact s3
      · rw [g _ _ (by omega) (by omega) (by omega), x3]
        exact s4
      · rw [Nat.mul_zero, Nat.zero_add, g5i _ (by omega), f1 _ _ (by omega) (by omega) (by omega)]
        exact s5
      · rw [Nat.mul_zero, Nat.zero_add, g6i _ (by omega), nar_and, f1 _ _ (by omega) (by omega) (by omega)]
        exact s6 i hi
      · rw [Nat.mul_zero, Nat.zero_add, g5i _ (by omega), f1 _ _ (by omega) (by omega) (by omega)]
        exact s7
      · rw [Nat.mul_zero, Nat.zero_add, g5i _ (by omega), f1 _ _ (by omega) (by omega) (by omega)]
        exact s8
end LAW
theorem law_ok (ys : Nat → Int32) (L : Nat) (hL : L ≤ 2048) : f_law ys L S0 = some () := by
  have main : En (fun _ : Unit => True) (f_law ys L S0) := by
    have z0 : Zr 0 (fun _ _ => 0 : MI) (fun _ _ => 0 : MJ) (fun _ _ => none : MR) := fun a _ k => ⟨rfl, rfl, rfl⟩
    unfold f_law S0
    refine n_nw kd_0 z0 ?_
    intro _
    refine w_cV (class_init z0) ?_
    rintro S ⟨I1, R1, rfl, z1, hRC1, c1, c72, t1, t2, t3, him⟩
    refine n_nw kd_374 z1 ?_
    intro _
    refine w_cV (ref_init z1) ?_
    rintro S ⟨I2, J2, R2, rfl, hR2, hq2, f1, f2, f3, f4⟩
    have hinv : INV (80 * ((0 : Nat) : Int)) (381, I2, J2, R2) := by
      refine ⟨I2, J2, R2, σ00, fun p => p, σ00, V00, V00, fun _ => 0, 0, 0, -1, rfl, ?_, hR2, cr_both c1 (fun a k h1 h2 => f1 _ _ (by omega)) (fun a k h1 h2 => f4 _ _ (by omega)), hq2, wr_00, wn_00, by show (0 : Int) ≤ _; omega, cr_both c72 (fun a k h1 h2 => f1 _ _ (by omega)) (fun a k h1 h2 => f4 _ _ (by omega)), wr_00, ⟨(f1 _ _ (by omega)).trans t1, fun i hi => absurd hi (Nat.not_lt_zero i), (f1 _ _ (by omega)).trans t2, (f1 _ _ (by omega)).trans t3, ?_, fun i hi => absurd hi (Nat.not_lt_zero i), ?_, f3, ⟨by omega, fun i hi => absurd hi (Nat.not_lt_zero i)⟩⟩, fun k hk => ?_⟩
      · obtain ⟨a1, a2, a3, a4, a5, a6, a7, a8, a9, a10, a11⟩ := hRC1
        refine ⟨(f4 _ _ (by omega)).trans a1, (f4 _ _ (by omega)).trans a2, (f4 _ _ (by omega)).trans a3, (f4 _ _ (by omega)).trans a4, (f4 _ _ (by omega)).trans a5, (f4 _ _ (by omega)).trans a6, (f4 _ _ (by omega)).trans a7, (f4 _ _ (by omega)).trans a8, (f4 _ _ (by omega)).trans a9, (f4 _ _ (by omega)).trans a10, fun k hk => ?_⟩
        have := a11 k hk
        exact ⟨(f4 _ _ (by omega)).trans this.1, (f4 _ _ (by omega)).trans this.2.1, (f4 _ _ (by omega)).trans this.2.2.1, (f4 _ _ (by omega)).trans this.2.2.2⟩
      · rw [f2 _ (by omega) (by omega)]
        exact (z1 374 (by omega) _).1
      · rw [f2 _ (by omega) (by omega)]
        exact (z1 374 (by omega) _).1
      · have := him k hk
        exact ⟨σ00, V00, cr_both this.1 (fun a k h1 h2 => f1 _ _ (by omega)) (fun a k h1 h2 => f4 _ _ (by omega)), wr_00, Or.inl ⟨(f1 _ _ (by omega)).trans this.2, (f1 _ _ (by omega)).trans (z1 376 (by omega) _).1⟩⟩
    refine w_lp 512 (fun j y => 4 * j ≤ L ∧ ∃ S, y = (iI (4 * (j : Int)), S) ∧ INV (80 * (j : Int)) S) ⟨by omega, _, rfl, hinv⟩ (by rw [FU_eq]; omega) (fun i y h => by omega) ?_
    rintro j y self ⟨hj, S, rfl, hI⟩ ih
    try dsimp only
    have eL : (Int32.ofNat L - 4 : Int32) = iI ((L : Int) - 4) := by
      rw [iI_nI']
      exact iI_sub _ 4
    refine w_lt ?_
    rw [eL]
    by_cases hend : (L : Int) - 4 < 4 * (j : Int)
    · refine w_pos ((ilt (by omega) (by omega) (by omega) (by omega)).2 hend) ?_
      exact w_rt trivial
    refine w_neg (mt (ilt (by omega) (by omega) (by omega) (by omega)).1 hend) ?_
    refine w_sc (by omega) (by omega) hL ?_
    refine w_lt ?_
    refine w_jnP (fun S => INV (80 * ((j + 1 : Nat) : Int)) S) ?_ ?_
    · intro S hS
      refine w_l4 ?_
      rw [show 4 * (j : Int) + 4 = 4 * ((j + 1 : Nat) : Int) by omega]
      exact ih _ ⟨by omega, S, rfl, hS⟩
    intro j11 hj11
    generalize (ys (4 * (j : Int)).toNat &&& 31 : Int32) = v10
    by_cases h0 : v10 = 0
    · exact w_pos h0 (law_0 hL (by omega) hI hj11)
    refine w_neg h0 ?_
    by_cases h1 : v10 = 1
    · exact w_pos h1 (law_1 hL (by omega) hI hj11)
    refine w_neg h1 ?_
    by_cases h2 : v10 = 2
    · exact w_pos h2 (law_2 hL (by omega) hI hj11)
    refine w_neg h2 ?_
    by_cases h3 : v10 = 3
    · exact w_pos h3 (law_3 hL (by omega) hI hj11)
    refine w_neg h3 ?_
    by_cases h4 : v10 = 4
    · exact w_pos h4 (law_4 hL (by omega) hI hj11)
    refine w_neg h4 ?_
    by_cases h5 : v10 = 5
    · exact w_pos h5 (law_5 hL (by omega) hI hj11)
    refine w_neg h5 ?_
    by_cases h6 : v10 = 6
    · exact w_pos h6 (law_6 hL (by omega) hI hj11)
    refine w_neg h6 ?_
    by_cases h7 : v10 = 7
    · exact w_pos h7 (law_7 hL (by omega) hI hj11)
    refine w_neg h7 ?_
    by_cases h8 : v10 = 8
    · exact w_pos h8 (law_8 hL (by omega) hI hj11)
    refine w_neg h8 ?_
    by_cases h9 : v10 = 9
    · exact w_pos h9 (law_9 hL (by omega) hI hj11)
    refine w_neg h9 ?_
    by_cases h10 : v10 = 10
    · exact w_pos h10 (law_10 hL (by omega) hI hj11)
    refine w_neg h10 ?_
    by_cases h11 : v10 = 11
    · exact w_pos h11 (law_11 hL (by omega) hI hj11)
    refine w_neg h11 ?_
    by_cases h12 : v10 = 12
    · exact w_pos h12 (law_12 hL (by omega) hI hj11)
    refine w_neg h12 ?_
    by_cases h13 : v10 = 13
    · exact w_pos h13 (law_13 hL (by omega) hI hj11)
    refine w_neg h13 ?_
    by_cases h14 : v10 = 14
    · exact w_pos h14 (law_14 hL (by omega) hI hj11)
    refine w_neg h14 ?_
    by_cases h15 : v10 = 15
    · exact w_pos h15 (law_15 hL (by omega) hI hj11)
    refine w_neg h15 ?_
    by_cases h16 : v10 = 16
    · exact w_pos h16 (law_16 hL (by omega) hI hj11)
    refine w_neg h16 ?_
    by_cases h17 : v10 = 17
    · exact w_pos h17 (law_17 hL (by omega) hI hj11)
    refine w_neg h17 ?_
    by_cases h18 : v10 = 18
    · exact w_pos h18 (law_18 hL (by omega) hI hj11)
    refine w_neg h18 ?_
    by_cases h19 : v10 = 19
    · exact w_pos h19 (law_19 hL (by omega) hI hj11)
    refine w_neg h19 ?_
    by_cases h20 : v10 = 20
    · exact w_pos h20 (law_20 hL (by omega) hI hj11)
    refine w_neg h20 ?_
    by_cases h21 : v10 = 21
    · exact w_pos h21 (law_21 hL (by omega) hI hj11)
    refine w_neg h21 ?_
    by_cases h22 : v10 = 22
    · exact w_pos h22 (law_22 hL (by omega) hI hj11)
    refine w_neg h22 ?_
    by_cases h23 : v10 = 23
    · exact w_pos h23 (law_23 hL (by omega) hI hj11)
    refine w_neg h23 ?_
    by_cases h24 : v10 = 24
    · exact w_pos h24 (law_24 hL (by omega) hI hj11)
    refine w_neg h24 ?_
    by_cases h25 : v10 = 25
    · exact w_pos h25 (law_25 hL (by omega) hI hj11)
    refine w_neg h25 ?_
    by_cases h26 : v10 = 26
    · exact w_pos h26 (law_26 hL (by omega) hI hj11)
    refine w_neg h26 ?_
    by_cases h27 : v10 = 27
    · exact w_pos h27 (law_27 hL (by omega) hI hj11)
    refine w_neg h27 ?_
    by_cases h28 : v10 = 28
    · exact w_pos h28 (law_28 hL (by omega) hI hj11)
    refine w_neg h28 ?_
    by_cases h29 : v10 = 29
    · exact w_pos h29 (law_29 hL (by omega) hI hj11)
    refine w_neg h29 ?_
    refine hj11 _ ?_
    obtain ⟨I, J, R, σ, π, σs, V, Vs, T, n, fl, pl, rfl, hRC, hR, hc, hq, hw, hn, hb, hcs, hws, ht, him⟩ := hI
    exact inv_ask (by omega) hRC hR hc hq hw hn (by omega) hcs hws ht him ⟨fun _ _ _ _ _ => rfl, fun _ _ => rfl⟩
  obtain ⟨x, h, -⟩ := main
  rw [h]
