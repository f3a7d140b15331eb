/-! THE REFERENCE: resize -/
section RFM
variable {I I0 : MI} {J : MJ} {R : MR} {π : Nat → Nat} {γ : Type} {Q : γ → Prop} {V : RV} {P k i f l m n : Int} {x : Int32}
def uW (π : Nat → Nat) (W : RV) (k : Nat) : Nat := if k = 0 then π 6 else π (plc W ((k - 1 : Nat) : Int)).toNat
theorem uW_7 {W : RV} (hq : RMQ I π W) (hw : WR W) {k : Nat} (hk : (k : Int) < W.2 0 13 + 1) : uW π W k < 7 := by
  have hb := hw.1
  unfold WB at hb
  unfold uW
  split
  · exact hq.l (by omega)
  · have := plc_live hw.1 (k := ((k - 1 : Nat) : Int)) (by omega) (by omega)
    exact hq.l (by omega)
theorem uW_i {W : RV} (hq : RMQ I π W) (hw : WR W) {k k' : Nat} (hk : (k : Int) < W.2 0 13 + 1) (hk' : (k' : Int) < W.2 0 13 + 1) (he : uW π W k = uW π W k') : k = k' := by
  have hb := hw.1
  unfold WB at hb
  have hinj := hq.2.1
  have hp : ∀ j : Nat, j ≠ 0 → (j : Int) < W.2 0 13 + 1 → 0 ≤ plc W ((j - 1 : Nat) : Int) ∧ plc W ((j - 1 : Nat) : Int) < 6 := fun j h0 hj => by
    have := plc_live hw.1 (k := ((j - 1 : Nat) : Int)) (by omega) (by omega)
    omega
  unfold uW at he
  by_cases c1 : k = 0
  · rw [if_pos c1] at he
    by_cases c2 : k' = 0
    · omega
    · rw [if_neg c2] at he
      have h1 := hp k' c2 hk'
      have := hinj _ _ (by omega) (by omega) he
      omega
  · rw [if_neg c1] at he
    have h1 := hp k c1 hk
    by_cases c2 : k' = 0
    · rw [if_pos c2] at he
      have := hinj _ _ (by omega) (by omega) he
      omega
    · rw [if_neg c2] at he
      have h2 := hp k' c2 hk'
      have := hinj _ _ (by omega) (by omega) he
      have h3 : plc W ((k - 1 : Nat) : Int) = plc W ((k' - 1 : Nat) : Int) := by omega
      unfold plc at h3
      split at h3 <;> split at h3 <;> omega
theorem resized_Q (hR : RQ R) (h : MTo I0 I π V) (hw : WR V) (hn : -2147483648 ≤ n ∧ n < 2147483648) : En (fun y => y.1 = iI (rszV V n).1 ∧ ∃ I' π', y.2 = (381, I', J, R) ∧ MTo I0 I' π' (rszV V n).2) (f_X9_resized (381, I, J, R) 373 (iI n)) := by
  have hq := h.1
  have m12 : I 374 (Int.toNat 12) = iI (V.2 5 8) := hq.s 12 (by decide)
  have k374 := kd_374
  have k375 := kd_375
  have l375 := ln_375
  have k381 := kd_381
  have l381 := ln_381
  have hR0 := hR
  obtain ⟨rq1, rq2, rq3, rq12, rq16, rq17, rq19⟩ := hR
  have m0 : I 374 (Int.toNat 0) = iI (V.2 0 8) := hq.s 0 (by decide)
  have m1 : I 374 (Int.toNat 1) = iI (V.2 0 9) := hq.s 1 (by decide)
  have m2 : I 374 (Int.toNat 2) = iI (V.2 0 10) := hq.s 2 (by decide)
  have m3 : I 374 (Int.toNat 3) = iI (V.2 0 11) := hq.s 3 (by decide)
  have m4 : I 374 (Int.toNat 4) = iI (V.2 0 12) := hq.s 4 (by decide)
  have m5 : I 374 (Int.toNat 5) = iI (plc V (V.2 0 13 - 1)) := hq.t
  have m6 : I 374 (Int.toNat 6) = iI (V.2 0 15) := hq.s 6 (by decide)
  have m7 : I 374 (Int.toNat 7) = iI (π 6) := hq.r
  have m8 : I 374 (Int.toNat 8) = iI (V.2 0 7) := hq.s 8 (by decide)
  have m9 : I 374 (Int.toNat 9) = iI (V.2 0 14) := hq.s 9 (by decide)
  have hbb := hw.1
  unfold WB at hbb
  rw [u_X9_resized]
  unfold rszV
  refine w_in (by omega) (by omega) (by omega) (fun hi => ?_) (fun hi => ?_)
  · rw [if_neg (by omega), if_neg (by omega)]
    by_cases h3 : n = V.2 0 8
    · rw [if_pos h3]
      repeat ((first | (with_reducible first | refine w_ltA ?_ | refine w_ltS ?_ | refine w_ltM ?_ | refine w_ltN ?_ | refine w_lt ?_ | refine w_jn ?_ | refine w_ck (by omega) (by assumption) ?_ | refine w_gI (by omega) (by assumption) ?_ | refine w_gR (by omega) (by assumption) (by assumption) ?_ | refine w_al (by omega) (by assumption) (by assumption) ?_ | refine w_pI (by omega) (by assumption) ?_ | refine w_set (by omega) (by assumption) (by omega) (by omega) ?_ | refine w_at (by omega) (by assumption) (by omega) (by omega) ?_ | refine w_sI (by omega) (by assumption) (by omega) (by omega) ?_ | refine w_aI (by omega) (by assumption) (by omega) (by omega) ?_ | refine w_sZ (by omega) (by assumption) (by omega) (by omega) (by decide) ?_ | refine w_pZ (by omega) (by assumption) (by decide) ?_ | refine w_dv (by omega) (by omega) (by omega) (by omega) ?_ | refine w_rm (by omega) (by omega) (by omega) (by omega) ?_) | ((with_reducible refine w_pos ?_ ?_); focus (first | assumption | trivial | exact (ile (by omega) (by omega) (by omega) (by omega)).2 (by omega) | exact (ilt (by omega) (by omega) (by omega) (by omega)).2 (by omega) | exact (ieq (by omega) (by omega) (by omega) (by omega)).2 (by omega))) | ((with_reducible refine w_neg ?_ ?_); focus (first | assumption | exact not_false | trivial | exact mt (ile (by omega) (by omega) (by omega) (by omega)).1 (by omega) | exact mt (ilt (by omega) (by omega) (by omega) (by omega)).1 (by omega) | exact mt (ieq (by omega) (by omega) (by omega) (by omega)).1 (by omega)))); try simp (disch := omega) only [m0, m6, m12])
      exact w_rt ⟨rfl, I, π, rfl, h⟩
    rw [if_neg h3]
    by_cases h4 : V.2 0 15 ≤ 0
    · rw [if_pos h4]
      have h15 : V.2 0 15 = 0 := by omega
      repeat ((first | (with_reducible first | refine w_ltA ?_ | refine w_ltS ?_ | refine w_ltM ?_ | refine w_ltN ?_ | refine w_lt ?_ | refine w_jn ?_ | refine w_ck (by omega) (by assumption) ?_ | refine w_gI (by omega) (by assumption) ?_ | refine w_gR (by omega) (by assumption) (by assumption) ?_ | refine w_al (by omega) (by assumption) (by assumption) ?_ | refine w_pI (by omega) (by assumption) ?_ | refine w_set (by omega) (by assumption) (by omega) (by omega) ?_ | refine w_at (by omega) (by assumption) (by omega) (by omega) ?_ | refine w_sI (by omega) (by assumption) (by omega) (by omega) ?_ | refine w_aI (by omega) (by assumption) (by omega) (by omega) ?_ | refine w_sZ (by omega) (by assumption) (by omega) (by omega) (by decide) ?_ | refine w_pZ (by omega) (by assumption) (by decide) ?_ | refine w_dv (by omega) (by omega) (by omega) (by omega) ?_ | refine w_rm (by omega) (by omega) (by omega) (by omega) ?_) | ((with_reducible refine w_pos ?_ ?_); focus (first | assumption | trivial | exact (ile (by omega) (by omega) (by omega) (by omega)).2 (by omega) | exact (ilt (by omega) (by omega) (by omega) (by omega)).2 (by omega) | exact (ieq (by omega) (by omega) (by omega) (by omega)).2 (by omega))) | ((with_reducible refine w_neg ?_ ?_); focus (first | assumption | exact not_false | trivial | exact mt (ile (by omega) (by omega) (by omega) (by omega)).1 (by omega) | exact mt (ilt (by omega) (by omega) (by omega) (by omega)).1 (by omega) | exact mt (ieq (by omega) (by omega) (by omega) (by omega)).1 (by omega)))); try simp (disch := omega) only [m0, m6, m12])
      generalize hK : (V.2 0 13 - n).toNat = K at *
      refine w_lp K (fun j y => ∃ I' W, y = (381, I', J, R) ∧ MTo I0 I' π W ∧ WR W ∧ W.2 0 13 = V.2 0 13 - j ∧ W.2 0 15 = 0 ∧ j ≤ K ∧ ovwN K V = ovwN (K - j) W) ⟨I, V, rfl, h, hw, by omega, h15, by omega, rfl⟩ (by rw [FU_eq]; omega) (fun i y h => by obtain ⟨_, _, _, _, _, _, _, h, _⟩ := h; exact h) ?_
      rintro j y self ⟨I1, W, rfl, g, hwW, w13, w15, hj, hs⟩ ih
      try dsimp only
      have hli := live_Q (J := J) hR0 g.1 hwW
      by_cases hlt : j < K
      · obtain ⟨d, hd⟩ : ∃ d, K - j = d + 1 := ⟨K - j - 1, by omega⟩
        rw [hd] at hs
        repeat ((first | (with_reducible first | refine w_ltA ?_ | refine w_ltS ?_ | refine w_ltM ?_ | refine w_ltN ?_ | refine w_lt ?_ | refine w_jn ?_ | refine w_ck (by omega) (by assumption) ?_ | refine w_gI (by omega) (by assumption) ?_ | refine w_gR (by omega) (by assumption) (by assumption) ?_ | refine w_al (by omega) (by assumption) (by assumption) ?_ | refine w_pI (by omega) (by assumption) ?_ | refine w_set (by omega) (by assumption) (by omega) (by omega) ?_ | refine w_at (by omega) (by assumption) (by omega) (by omega) ?_ | refine w_sI (by omega) (by assumption) (by omega) (by omega) ?_ | refine w_aI (by omega) (by assumption) (by omega) (by omega) ?_ | refine w_sZ (by omega) (by assumption) (by omega) (by omega) (by decide) ?_ | refine w_pZ (by omega) (by assumption) (by decide) ?_ | refine w_dv (by omega) (by omega) (by omega) (by omega) ?_ | refine w_rm (by omega) (by omega) (by omega) (by omega) ?_) | ((with_reducible refine w_pos ?_ ?_); focus (first | assumption | trivial | exact (ile (by omega) (by omega) (by omega) (by omega)).2 (by omega) | exact (ilt (by omega) (by omega) (by omega) (by omega)).2 (by omega) | exact (ieq (by omega) (by omega) (by omega) (by omega)).2 (by omega))) | ((with_reducible refine w_neg ?_ ?_); focus (first | assumption | exact not_false | trivial | exact mt (ile (by omega) (by omega) (by omega) (by omega)).1 (by omega) | exact mt (ilt (by omega) (by omega) (by omega) (by omega)).1 (by omega) | exact mt (ieq (by omega) (by omega) (by omega) (by omega)).1 (by omega)))); skip)
        refine w_cP hli ?_
        repeat ((first | (with_reducible first | refine w_ltA ?_ | refine w_ltS ?_ | refine w_ltM ?_ | refine w_ltN ?_ | refine w_lt ?_ | refine w_jn ?_ | refine w_ck (by omega) (by assumption) ?_ | refine w_gI (by omega) (by assumption) ?_ | refine w_gR (by omega) (by assumption) (by assumption) ?_ | refine w_al (by omega) (by assumption) (by assumption) ?_ | refine w_pI (by omega) (by assumption) ?_ | refine w_set (by omega) (by assumption) (by omega) (by omega) ?_ | refine w_at (by omega) (by assumption) (by omega) (by omega) ?_ | refine w_sI (by omega) (by assumption) (by omega) (by omega) ?_ | refine w_aI (by omega) (by assumption) (by omega) (by omega) ?_ | refine w_sZ (by omega) (by assumption) (by omega) (by omega) (by decide) ?_ | refine w_pZ (by omega) (by assumption) (by decide) ?_ | refine w_dv (by omega) (by omega) (by omega) (by omega) ?_ | refine w_rm (by omega) (by omega) (by omega) (by omega) ?_) | ((with_reducible refine w_pos ?_ ?_); focus (first | assumption | trivial | exact (ile (by omega) (by omega) (by omega) (by omega)).2 (by omega) | exact (ilt (by omega) (by omega) (by omega) (by omega)).2 (by omega) | exact (ieq (by omega) (by omega) (by omega) (by omega)).2 (by omega))) | ((with_reducible refine w_neg ?_ ?_); focus (first | assumption | exact not_false | trivial | exact mt (ile (by omega) (by omega) (by omega) (by omega)).1 (by omega) | exact mt (ilt (by omega) (by omega) (by omega) (by omega)).1 (by omega) | exact mt (ieq (by omega) (by omega) (by omega) (by omega)).1 (by omega)))); skip)
        refine w_cV (overwrites_Q (J := J) hR0 g hwW (by omega)) ?_
        rintro S ⟨I2, rfl, g2⟩
        refine ih _ ⟨I2, ovwV W, rfl, g2, wr_ovw hwW (by omega) (op_no (by omega)), ?_, ?_, by omega, ?_⟩
        · show W.2 0 13 - 1 = _
          omega
        · rw [ovw_g (by omega) (by omega) (by omega)]
          exact w15
        · rw [hs, show K - (j + 1) = d by omega]
          rfl
      · rw [show K - j = 0 by omega] at hs
        have hs : ovwN K V = W := hs
        have hn13 : W.2 0 13 ≤ n := by omega
        have hbW := hwW.1
        unfold WB at hbW
        have t7 : I1 374 (Int.toNat 7) = iI (π 6) := g.1.r
        have hp6 := g.1.l (p := 6) (by omega)
        have e7 := msk_0 (π 6) hp6
        repeat ((first | (with_reducible first | refine w_ltA ?_ | refine w_ltS ?_ | refine w_ltM ?_ | refine w_ltN ?_ | refine w_lt ?_ | refine w_jn ?_ | refine w_ck (by omega) (by assumption) ?_ | refine w_gI (by omega) (by assumption) ?_ | refine w_gR (by omega) (by assumption) (by assumption) ?_ | refine w_al (by omega) (by assumption) (by assumption) ?_ | refine w_pI (by omega) (by assumption) ?_ | refine w_set (by omega) (by assumption) (by omega) (by omega) ?_ | refine w_at (by omega) (by assumption) (by omega) (by omega) ?_ | refine w_sI (by omega) (by assumption) (by omega) (by omega) ?_ | refine w_aI (by omega) (by assumption) (by omega) (by omega) ?_ | refine w_sZ (by omega) (by assumption) (by omega) (by omega) (by decide) ?_ | refine w_pZ (by omega) (by assumption) (by decide) ?_ | refine w_dv (by omega) (by omega) (by omega) (by omega) ?_ | refine w_rm (by omega) (by omega) (by omega) (by omega) ?_) | ((with_reducible refine w_pos ?_ ?_); focus (first | assumption | trivial | exact (ile (by omega) (by omega) (by omega) (by omega)).2 (by omega) | exact (ilt (by omega) (by omega) (by omega) (by omega)).2 (by omega) | exact (ieq (by omega) (by omega) (by omega) (by omega)).2 (by omega))) | ((with_reducible refine w_neg ?_ ?_); focus (first | assumption | exact not_false | trivial | exact mt (ile (by omega) (by omega) (by omega) (by omega)).1 (by omega) | exact mt (ilt (by omega) (by omega) (by omega) (by omega)).1 (by omega) | exact mt (ieq (by omega) (by omega) (by omega) (by omega)).1 (by omega)))); try simp (disch := omega) only [t7])
        refine w_cP hli ?_
        repeat ((first | (with_reducible first | refine w_ltA ?_ | refine w_ltS ?_ | refine w_ltM ?_ | refine w_ltN ?_ | refine w_lt ?_ | refine w_jn ?_ | refine w_ck (by omega) (by assumption) ?_ | refine w_gI (by omega) (by assumption) ?_ | refine w_gR (by omega) (by assumption) (by assumption) ?_ | refine w_al (by omega) (by assumption) (by assumption) ?_ | refine w_pI (by omega) (by assumption) ?_ | refine w_set (by omega) (by assumption) (by omega) (by omega) ?_ | refine w_at (by omega) (by assumption) (by omega) (by omega) ?_ | refine w_sI (by omega) (by assumption) (by omega) (by omega) ?_ | refine w_aI (by omega) (by assumption) (by omega) (by omega) ?_ | refine w_sZ (by omega) (by assumption) (by omega) (by omega) (by decide) ?_ | refine w_pZ (by omega) (by assumption) (by decide) ?_ | refine w_dv (by omega) (by omega) (by omega) (by omega) ?_ | refine w_rm (by omega) (by omega) (by omega) (by omega) ?_) | ((with_reducible refine w_pos ?_ ?_); focus (first | assumption | trivial | exact (ile (by omega) (by omega) (by omega) (by omega)).2 (by omega) | exact (ilt (by omega) (by omega) (by omega) (by omega)).2 (by omega) | exact (ieq (by omega) (by omega) (by omega) (by omega)).2 (by omega))) | ((with_reducible refine w_neg ?_ ?_); focus (first | assumption | exact not_false | trivial | exact mt (ile (by omega) (by omega) (by omega) (by omega)).1 (by omega) | exact mt (ilt (by omega) (by omega) (by omega) (by omega)).1 (by omega) | exact mt (ieq (by omega) (by omega) (by omega) (by omega)).1 (by omega)))); try simp (disch := omega) only [t7])
        refine w_cP hli ?_
        repeat ((first | (with_reducible first | refine w_ltA ?_ | refine w_ltS ?_ | refine w_ltM ?_ | refine w_ltN ?_ | refine w_lt ?_ | refine w_jn ?_ | refine w_ck (by omega) (by assumption) ?_ | refine w_gI (by omega) (by assumption) ?_ | refine w_gR (by omega) (by assumption) (by assumption) ?_ | refine w_al (by omega) (by assumption) (by assumption) ?_ | refine w_pI (by omega) (by assumption) ?_ | refine w_set (by omega) (by assumption) (by omega) (by omega) ?_ | refine w_at (by omega) (by assumption) (by omega) (by omega) ?_ | refine w_sI (by omega) (by assumption) (by omega) (by omega) ?_ | refine w_aI (by omega) (by assumption) (by omega) (by omega) ?_ | refine w_sZ (by omega) (by assumption) (by omega) (by omega) (by decide) ?_ | refine w_pZ (by omega) (by assumption) (by decide) ?_ | refine w_dv (by omega) (by omega) (by omega) (by omega) ?_ | refine w_rm (by omega) (by omega) (by omega) (by omega) ?_) | ((with_reducible refine w_pos ?_ ?_); focus (first | assumption | trivial | exact (ile (by omega) (by omega) (by omega) (by omega)).2 (by omega) | exact (ilt (by omega) (by omega) (by omega) (by omega)).2 (by omega) | exact (ieq (by omega) (by omega) (by omega) (by omega)).2 (by omega))) | ((with_reducible refine w_neg ?_ ?_); focus (first | assumption | exact not_false | trivial | exact mt (ile (by omega) (by omega) (by omega) (by omega)).1 (by omega) | exact mt (ilt (by omega) (by omega) (by omega) (by omega)).1 (by omega) | exact mt (ieq (by omega) (by omega) (by omega) (by omega)).1 (by omega)))); try simp (disch := omega) only [t7])
        obtain ⟨L, hL⟩ : ∃ L : Nat, W.2 0 13 = L := ⟨(W.2 0 13).toNat, by omega⟩
        rw [hL, e7]
        refine w_lp L (fun q y => ∃ I2 mk, y = (iI q, iI ((mk : Nat) : Int), (381, I2, J, R)) ∧ MTo I0 I2 π W ∧ (∀ i, i < q → I2 380 i = iI (uW π W (i + 1))) ∧ mk < 128 ∧ (∀ i, i < 7 → Nat.testBit mk i = !(unB (uW π W) (q + 1) i)) ∧ q ≤ L) ⟨I1, 2 ^ π 6, rfl, g, fun i hi => by omega, ?_, fun i hi => ?_, by omega⟩ (by rw [FU_eq]; omega) (fun i y h => by obtain ⟨_, _, _, _, _, _, _, h⟩ := h; exact h) ?_
        · have := msk_lt 0 (by omega) (π 6) hp6
          rw [Nat.zero_or] at this
          exact this
        · rw [msk_tb _ hp6 i hi, unB_s, unB_0]
          show _ = !(true && decide (uW π W 0 ≠ i))
          have e0 : uW π W 0 = π 6 := if_pos rfl
          rw [e0]
          by_cases hx : π 6 = i
          · simp [hx]
          · simp [hx]
        rintro q y self2 ⟨I2, mk, rfl, g2, hor, hmk, hbit, hqL⟩ ih2
        try dsimp only
        have k381 := kd_381
        have l381 := ln_381
        by_cases hql : q < L
        · have hlp := livePage_Q (J := J) hR0 g2.1 hwW (k := q) ⟨by omega, by omega⟩
          have hpq := plc_live hwW.1 (k := q) (by omega) (by omega)
          have hu7 := g2.1.l (p := (plc W q).toNat) (by omega)
          have hor1 := msk_or mk hmk (π (plc W q).toNat) hu7
          repeat ((first | (with_reducible first | refine w_ltA ?_ | refine w_ltS ?_ | refine w_ltM ?_ | refine w_ltN ?_ | refine w_lt ?_ | refine w_jn ?_ | refine w_ck (by omega) (by assumption) ?_ | refine w_gI (by omega) (by assumption) ?_ | refine w_gR (by omega) (by assumption) (by assumption) ?_ | refine w_al (by omega) (by assumption) (by assumption) ?_ | refine w_pI (by omega) (by assumption) ?_ | refine w_set (by omega) (by assumption) (by omega) (by omega) ?_ | refine w_at (by omega) (by assumption) (by omega) (by omega) ?_ | refine w_sI (by omega) (by assumption) (by omega) (by omega) ?_ | refine w_aI (by omega) (by assumption) (by omega) (by omega) ?_ | refine w_sZ (by omega) (by assumption) (by omega) (by omega) (by decide) ?_ | refine w_pZ (by omega) (by assumption) (by decide) ?_ | refine w_dv (by omega) (by omega) (by omega) (by omega) ?_ | refine w_rm (by omega) (by omega) (by omega) (by omega) ?_) | ((with_reducible refine w_pos ?_ ?_); focus (first | assumption | trivial | exact (ile (by omega) (by omega) (by omega) (by omega)).2 (by omega) | exact (ilt (by omega) (by omega) (by omega) (by omega)).2 (by omega) | exact (ieq (by omega) (by omega) (by omega) (by omega)).2 (by omega))) | ((with_reducible refine w_neg ?_ ?_); focus (first | assumption | exact not_false | trivial | exact mt (ile (by omega) (by omega) (by omega) (by omega)).1 (by omega) | exact mt (ilt (by omega) (by omega) (by omega) (by omega)).1 (by omega) | exact mt (ieq (by omega) (by omega) (by omega) (by omega)).1 (by omega)))); skip)
          refine w_cP hlp ?_
          repeat ((first | (with_reducible first | refine w_ltA ?_ | refine w_ltS ?_ | refine w_ltM ?_ | refine w_ltN ?_ | refine w_lt ?_ | refine w_jn ?_ | refine w_ck (by omega) (by assumption) ?_ | refine w_gI (by omega) (by assumption) ?_ | refine w_gR (by omega) (by assumption) (by assumption) ?_ | refine w_al (by omega) (by assumption) (by assumption) ?_ | refine w_pI (by omega) (by assumption) ?_ | refine w_set (by omega) (by assumption) (by omega) (by omega) ?_ | refine w_at (by omega) (by assumption) (by omega) (by omega) ?_ | refine w_sI (by omega) (by assumption) (by omega) (by omega) ?_ | refine w_aI (by omega) (by assumption) (by omega) (by omega) ?_ | refine w_sZ (by omega) (by assumption) (by omega) (by omega) (by decide) ?_ | refine w_pZ (by omega) (by assumption) (by decide) ?_ | refine w_dv (by omega) (by omega) (by omega) (by omega) ?_ | refine w_rm (by omega) (by omega) (by omega) (by omega) ?_) | ((with_reducible refine w_pos ?_ ?_); focus (first | assumption | trivial | exact (ile (by omega) (by omega) (by omega) (by omega)).2 (by omega) | exact (ilt (by omega) (by omega) (by omega) (by omega)).2 (by omega) | exact (ieq (by omega) (by omega) (by omega) (by omega)).2 (by omega))) | ((with_reducible refine w_neg ?_ ?_); focus (first | assumption | exact not_false | trivial | exact mt (ile (by omega) (by omega) (by omega) (by omega)).1 (by omega) | exact mt (ilt (by omega) (by omega) (by omega) (by omega)).1 (by omega) | exact mt (ieq (by omega) (by omega) (by omega) (by omega)).1 (by omega)))); try simp (disch := omega) only [up_eq])
          rw [Int.toNat_natCast, hor1]
          have eq1 : (q : Int) + 1 = ((q + 1 : Nat) : Int) := by omega
          rw [eq1]
          have eu : uW π W (q + 1) = π (plc W q).toNat := by
            unfold uW
            rw [if_neg (by omega), Nat.add_sub_cancel]
          refine ih2 _ ⟨_, _, rfl, mto_381 g2, fun i hi => ?_, msk_lt mk hmk _ hu7, fun i hi => ?_, by omega⟩
          · by_cases hx : i = q
            · rw [hx, up_eq, eu]
            · rw [up_ne (by omega)]
              exact hor i (by omega)
          · rw [Nat.testBit_or, hbit i hi, msk_tb _ hu7 i hi, unB_s (m := q + 1), eu]
            by_cases hx : π (plc W q).toNat = i
            · simp [hx]
            · simp [hx]
        · have hqe : q = L := by omega
          subst hqe
          repeat ((first | (with_reducible first | refine w_ltA ?_ | refine w_ltS ?_ | refine w_ltM ?_ | refine w_ltN ?_ | refine w_lt ?_ | refine w_jn ?_ | refine w_ck (by omega) (by assumption) ?_ | refine w_gI (by omega) (by assumption) ?_ | refine w_gR (by omega) (by assumption) (by assumption) ?_ | refine w_al (by omega) (by assumption) (by assumption) ?_ | refine w_pI (by omega) (by assumption) ?_ | refine w_set (by omega) (by assumption) (by omega) (by omega) ?_ | refine w_at (by omega) (by assumption) (by omega) (by omega) ?_ | refine w_sI (by omega) (by assumption) (by omega) (by omega) ?_ | refine w_aI (by omega) (by assumption) (by omega) (by omega) ?_ | refine w_sZ (by omega) (by assumption) (by omega) (by omega) (by decide) ?_ | refine w_pZ (by omega) (by assumption) (by decide) ?_ | refine w_dv (by omega) (by omega) (by omega) (by omega) ?_ | refine w_rm (by omega) (by omega) (by omega) (by omega) ?_) | ((with_reducible refine w_pos ?_ ?_); focus (first | assumption | trivial | exact (ile (by omega) (by omega) (by omega) (by omega)).2 (by omega) | exact (ilt (by omega) (by omega) (by omega) (by omega)).2 (by omega) | exact (ieq (by omega) (by omega) (by omega) (by omega)).2 (by omega))) | ((with_reducible refine w_neg ?_ ?_); focus (first | assumption | exact not_false | trivial | exact mt (ile (by omega) (by omega) (by omega) (by omega)).1 (by omega) | exact mt (ilt (by omega) (by omega) (by omega) (by omega)).1 (by omega) | exact mt (ieq (by omega) (by omega) (by omega) (by omega)).1 (by omega)))); skip)
          have hc7 := unB_cnt (u := uW π W) (m := q + 1) (fun k hk => uW_7 g2.1 hwW (by omega)) (fun k k' hk hk' he => uW_i g2.1 hwW (by omega) (by omega) he)
          refine w_lp 7 (fun r y => ∃ kk : Nat, ∃ I3 : MI, ∃ o : Nat → Nat, y = (iI kk, iI r, (381, I3, J, R)) ∧ MTo I0 I3 π W ∧ (kk : Int) = q + cnt (unB (uW π W) (q + 1)) r ∧ (∀ i, i < kk → I3 380 i = iI (o i)) ∧ (∀ i, i < q → o i = uW π W (i + 1)) ∧ (∀ i, q ≤ i → i < kk → unB (uW π W) (q + 1) (o i) = true ∧ o i < r) ∧ (∀ i i', q ≤ i → i < i' → i' < kk → o i < o i') ∧ r ≤ 7) ⟨q, I2, fun i => uW π W (i + 1), rfl, g2, by show (q : Int) = q + 0; omega, hor, fun i hi => rfl, fun i h1 h2 => by omega, fun i i' h1 h2 h3 => by omega, by omega⟩ (by rw [FU_eq]; omega) (fun i y h => by obtain ⟨_, _, _, _, _, _, _, _, _, _, h⟩ := h; exact h) ?_
          rintro r y self3 ⟨kk, I3, o, rfl, g3, hkk, ho, ho1, ho2, ho3, hr7⟩ ih3
          try dsimp only
          have hm7 := cnt_mono (unB (uW π W) (q + 1)) hr7
          have hcl := cnt_le (unB (uW π W) (q + 1)) r
          by_cases hr : r < 7
          · have hb1 := msk_bit mk hmk r hr
            rw [hbit r hr] at hb1
            have hm1 := cnt_mono (unB (uW π W) (q + 1)) (show r + 1 ≤ 7 by omega)
            have er : (r : Int) + 1 = ((r + 1 : Nat) : Int) := by omega
            have ek : (kk : Int) + 1 = ((kk + 1 : Nat) : Int) := by omega
            have ecn : cnt (unB (uW π W) (q + 1)) (r + 1) = cnt (unB (uW π W) (q + 1)) r + (if unB (uW π W) (q + 1) r then 1 else 0) := rfl
            ((first | (with_reducible first | refine w_ltA ?_ | refine w_ltS ?_ | refine w_ltM ?_ | refine w_ltN ?_ | refine w_lt ?_ | refine w_jn ?_ | refine w_ck (by omega) (by assumption) ?_ | refine w_gI (by omega) (by assumption) ?_ | refine w_gR (by omega) (by assumption) (by assumption) ?_ | refine w_al (by omega) (by assumption) (by assumption) ?_ | refine w_pI (by omega) (by assumption) ?_ | refine w_set (by omega) (by assumption) (by omega) (by omega) ?_ | refine w_at (by omega) (by assumption) (by omega) (by omega) ?_ | refine w_sI (by omega) (by assumption) (by omega) (by omega) ?_ | refine w_aI (by omega) (by assumption) (by omega) (by omega) ?_ | refine w_sZ (by omega) (by assumption) (by omega) (by omega) (by decide) ?_ | refine w_pZ (by omega) (by assumption) (by decide) ?_ | refine w_dv (by omega) (by omega) (by omega) (by omega) ?_ | refine w_rm (by omega) (by omega) (by omega) (by omega) ?_) | ((with_reducible refine w_pos ?_ ?_); focus (first | assumption | trivial | exact (ile (by omega) (by omega) (by omega) (by omega)).2 (by omega) | exact (ilt (by omega) (by omega) (by omega) (by omega)).2 (by omega) | exact (ieq (by omega) (by omega) (by omega) (by omega)).2 (by omega))) | ((with_reducible refine w_neg ?_ ?_); focus (first | assumption | exact not_false | trivial | exact mt (ile (by omega) (by omega) (by omega) (by omega)).1 (by omega) | exact mt (ilt (by omega) (by omega) (by omega) (by omega)).1 (by omega) | exact mt (ieq (by omega) (by omega) (by omega) (by omega)).1 (by omega)))); skip)
            ((first | (with_reducible first | refine w_ltA ?_ | refine w_ltS ?_ | refine w_ltM ?_ | refine w_ltN ?_ | refine w_lt ?_ | refine w_jn ?_ | refine w_ck (by omega) (by assumption) ?_ | refine w_gI (by omega) (by assumption) ?_ | refine w_gR (by omega) (by assumption) (by assumption) ?_ | refine w_al (by omega) (by assumption) (by assumption) ?_ | refine w_pI (by omega) (by assumption) ?_ | refine w_set (by omega) (by assumption) (by omega) (by omega) ?_ | refine w_at (by omega) (by assumption) (by omega) (by omega) ?_ | refine w_sI (by omega) (by assumption) (by omega) (by omega) ?_ | refine w_aI (by omega) (by assumption) (by omega) (by omega) ?_ | refine w_sZ (by omega) (by assumption) (by omega) (by omega) (by decide) ?_ | refine w_pZ (by omega) (by assumption) (by decide) ?_ | refine w_dv (by omega) (by omega) (by omega) (by omega) ?_ | refine w_rm (by omega) (by omega) (by omega) (by omega) ?_) | ((with_reducible refine w_pos ?_ ?_); focus (first | assumption | trivial | exact (ile (by omega) (by omega) (by omega) (by omega)).2 (by omega) | exact (ilt (by omega) (by omega) (by omega) (by omega)).2 (by omega) | exact (ieq (by omega) (by omega) (by omega) (by omega)).2 (by omega))) | ((with_reducible refine w_neg ?_ ?_); focus (first | assumption | exact not_false | trivial | exact mt (ile (by omega) (by omega) (by omega) (by omega)).1 (by omega) | exact mt (ilt (by omega) (by omega) (by omega) (by omega)).1 (by omega) | exact mt (ieq (by omega) (by omega) (by omega) (by omega)).1 (by omega)))); skip)
            ((first | (with_reducible first | refine w_ltA ?_ | refine w_ltS ?_ | refine w_ltM ?_ | refine w_ltN ?_ | refine w_lt ?_ | refine w_jn ?_ | refine w_ck (by omega) (by assumption) ?_ | refine w_gI (by omega) (by assumption) ?_ | refine w_gR (by omega) (by assumption) (by assumption) ?_ | refine w_al (by omega) (by assumption) (by assumption) ?_ | refine w_pI (by omega) (by assumption) ?_ | refine w_set (by omega) (by assumption) (by omega) (by omega) ?_ | refine w_at (by omega) (by assumption) (by omega) (by omega) ?_ | refine w_sI (by omega) (by assumption) (by omega) (by omega) ?_ | refine w_aI (by omega) (by assumption) (by omega) (by omega) ?_ | refine w_sZ (by omega) (by assumption) (by omega) (by omega) (by decide) ?_ | refine w_pZ (by omega) (by assumption) (by decide) ?_ | refine w_dv (by omega) (by omega) (by omega) (by omega) ?_ | refine w_rm (by omega) (by omega) (by omega) (by omega) ?_) | ((with_reducible refine w_pos ?_ ?_); focus (first | assumption | trivial | exact (ile (by omega) (by omega) (by omega) (by omega)).2 (by omega) | exact (ilt (by omega) (by omega) (by omega) (by omega)).2 (by omega) | exact (ieq (by omega) (by omega) (by omega) (by omega)).2 (by omega))) | ((with_reducible refine w_neg ?_ ?_); focus (first | assumption | exact not_false | trivial | exact mt (ile (by omega) (by omega) (by omega) (by omega)).1 (by omega) | exact mt (ilt (by omega) (by omega) (by omega) (by omega)).1 (by omega) | exact mt (ieq (by omega) (by omega) (by omega) (by omega)).1 (by omega)))); skip)
            rw [hb1]
            rcases hx : unB (uW π W) (q + 1) r with _ | _
            · rw [hx, if_neg (show ¬ (false = true) by decide)] at ecn
              simp only [Bool.not_false, if_true]
              repeat ((first | (with_reducible first | refine w_ltA ?_ | refine w_ltS ?_ | refine w_ltM ?_ | refine w_ltN ?_ | refine w_lt ?_ | refine w_jn ?_ | refine w_ck (by omega) (by assumption) ?_ | refine w_gI (by omega) (by assumption) ?_ | refine w_gR (by omega) (by assumption) (by assumption) ?_ | refine w_al (by omega) (by assumption) (by assumption) ?_ | refine w_pI (by omega) (by assumption) ?_ | refine w_set (by omega) (by assumption) (by omega) (by omega) ?_ | refine w_at (by omega) (by assumption) (by omega) (by omega) ?_ | refine w_sI (by omega) (by assumption) (by omega) (by omega) ?_ | refine w_aI (by omega) (by assumption) (by omega) (by omega) ?_ | refine w_sZ (by omega) (by assumption) (by omega) (by omega) (by decide) ?_ | refine w_pZ (by omega) (by assumption) (by decide) ?_ | refine w_dv (by omega) (by omega) (by omega) (by omega) ?_ | refine w_rm (by omega) (by omega) (by omega) (by omega) ?_) | ((with_reducible refine w_pos ?_ ?_); focus (first | assumption | trivial | exact (ile (by omega) (by omega) (by omega) (by omega)).2 (by omega) | exact (ilt (by omega) (by omega) (by omega) (by omega)).2 (by omega) | exact (ieq (by omega) (by omega) (by omega) (by omega)).2 (by omega))) | ((with_reducible refine w_neg ?_ ?_); focus (first | assumption | exact not_false | trivial | exact mt (ile (by omega) (by omega) (by omega) (by omega)).1 (by omega) | exact mt (ilt (by omega) (by omega) (by omega) (by omega)).1 (by omega) | exact mt (ieq (by omega) (by omega) (by omega) (by omega)).1 (by omega)))); skip)
              rw [er]
              refine ih3 _ ⟨kk, I3, o, rfl, g3, ?_, ho, ho1, fun i h1 h2 => ⟨(ho2 i h1 h2).1, by have := (ho2 i h1 h2).2; omega⟩, ho3, by omega⟩
              rw [ecn, Int.add_zero]
              exact hkk
            · rw [hx, if_pos rfl] at ecn
              simp only [Bool.not_true, if_neg (show ¬ (false = true) by decide)]
              repeat ((first | (with_reducible first | refine w_ltA ?_ | refine w_ltS ?_ | refine w_ltM ?_ | refine w_ltN ?_ | refine w_lt ?_ | refine w_jn ?_ | refine w_ck (by omega) (by assumption) ?_ | refine w_gI (by omega) (by assumption) ?_ | refine w_gR (by omega) (by assumption) (by assumption) ?_ | refine w_al (by omega) (by assumption) (by assumption) ?_ | refine w_pI (by omega) (by assumption) ?_ | refine w_set (by omega) (by assumption) (by omega) (by omega) ?_ | refine w_at (by omega) (by assumption) (by omega) (by omega) ?_ | refine w_sI (by omega) (by assumption) (by omega) (by omega) ?_ | refine w_aI (by omega) (by assumption) (by omega) (by omega) ?_ | refine w_sZ (by omega) (by assumption) (by omega) (by omega) (by decide) ?_ | refine w_pZ (by omega) (by assumption) (by decide) ?_ | refine w_dv (by omega) (by omega) (by omega) (by omega) ?_ | refine w_rm (by omega) (by omega) (by omega) (by omega) ?_) | ((with_reducible refine w_pos ?_ ?_); focus (first | assumption | trivial | exact (ile (by omega) (by omega) (by omega) (by omega)).2 (by omega) | exact (ilt (by omega) (by omega) (by omega) (by omega)).2 (by omega) | exact (ieq (by omega) (by omega) (by omega) (by omega)).2 (by omega))) | ((with_reducible refine w_neg ?_ ?_); focus (first | assumption | exact not_false | trivial | exact mt (ile (by omega) (by omega) (by omega) (by omega)).1 (by omega) | exact mt (ilt (by omega) (by omega) (by omega) (by omega)).1 (by omega) | exact mt (ieq (by omega) (by omega) (by omega) (by omega)).1 (by omega)))); skip)
              rw [er, ek, Int.toNat_natCast]
              refine ih3 _ ⟨kk + 1, _, fun i => if i = kk then r else o i, rfl, mto_381 g3, ?_, fun i hi => ?_, fun i hi => ?_, fun i h1 h2 => ?_, fun i i' h1 h2 h3 => ?_, by omega⟩
              · rw [ecn]
                omega
              · dsimp only
                by_cases hz : i = kk
                · rw [if_pos hz, hz, up_eq]
                · rw [if_neg hz, up_ne (by omega)]
                  exact ho i (by omega)
              · dsimp only
                rw [if_neg (by omega)]
                exact ho1 i hi
              · dsimp only
                by_cases hz : i = kk
                · rw [if_pos hz]
                  exact ⟨hx, by omega⟩
                · rw [if_neg hz]
                  have := ho2 i h1 (by omega)
                  exact ⟨this.1, by omega⟩
              · dsimp only
                rw [if_neg (by omega)]
                by_cases hz : i' = kk
                · rw [if_pos hz]
                  exact (ho2 i h1 (by omega)).2
                · rw [if_neg hz]
                  exact ho3 i i' h1 h2 (by omega)
          · have hre : r = 7 := by omega
            subst hre
            have hk6 : kk = 6 := by omega
            subst hk6
            repeat ((first | (with_reducible first | refine w_ltA ?_ | refine w_ltS ?_ | refine w_ltM ?_ | refine w_ltN ?_ | refine w_lt ?_ | refine w_jn ?_ | refine w_ck (by omega) (by assumption) ?_ | refine w_gI (by omega) (by assumption) ?_ | refine w_gR (by omega) (by assumption) (by assumption) ?_ | refine w_al (by omega) (by assumption) (by assumption) ?_ | refine w_pI (by omega) (by assumption) ?_ | refine w_set (by omega) (by assumption) (by omega) (by omega) ?_ | refine w_at (by omega) (by assumption) (by omega) (by omega) ?_ | refine w_sI (by omega) (by assumption) (by omega) (by omega) ?_ | refine w_aI (by omega) (by assumption) (by omega) (by omega) ?_ | refine w_sZ (by omega) (by assumption) (by omega) (by omega) (by decide) ?_ | refine w_pZ (by omega) (by assumption) (by decide) ?_ | refine w_dv (by omega) (by omega) (by omega) (by omega) ?_ | refine w_rm (by omega) (by omega) (by omega) (by omega) ?_) | ((with_reducible refine w_pos ?_ ?_); focus (first | assumption | trivial | exact (ile (by omega) (by omega) (by omega) (by omega)).2 (by omega) | exact (ilt (by omega) (by omega) (by omega) (by omega)).2 (by omega) | exact (ieq (by omega) (by omega) (by omega) (by omega)).2 (by omega))) | ((with_reducible refine w_neg ?_ ?_); focus (first | assumption | exact not_false | trivial | exact mt (ile (by omega) (by omega) (by omega) (by omega)).1 (by omega) | exact mt (ilt (by omega) (by omega) (by omega) (by omega)).1 (by omega) | exact mt (ieq (by omega) (by omega) (by omega) (by omega)).1 (by omega)))); skip)
            let T : Nat → MI := fun s a k => if a = 374 ∧ 55 ≤ k ∧ k < 55 + s then I3 380 (k - 55) else I3 a k
            refine w_lp 6 (fun s y => s ≤ 6 ∧ y = (iI s, (381, T s, J, R))) ⟨by omega, ?_⟩ (by rw [FU_eq]; omega) (fun i y h => h.1) ?_
            · have : T 0 = I3 := by
                funext a k
                exact if_neg (by omega)
              rw [this]
              rfl
            rintro s y self4 ⟨hs6, rfl⟩ ih4
            try dsimp only
            by_cases hs' : s < 6
            · repeat ((first | (with_reducible first | refine w_ltA ?_ | refine w_ltS ?_ | refine w_ltM ?_ | refine w_ltN ?_ | refine w_lt ?_ | refine w_jn ?_ | refine w_ck (by omega) (by assumption) ?_ | refine w_gI (by omega) (by assumption) ?_ | refine w_gR (by omega) (by assumption) (by assumption) ?_ | refine w_al (by omega) (by assumption) (by assumption) ?_ | refine w_pI (by omega) (by assumption) ?_ | refine w_set (by omega) (by assumption) (by omega) (by omega) ?_ | refine w_at (by omega) (by assumption) (by omega) (by omega) ?_ | refine w_sI (by omega) (by assumption) (by omega) (by omega) ?_ | refine w_aI (by omega) (by assumption) (by omega) (by omega) ?_ | refine w_sZ (by omega) (by assumption) (by omega) (by omega) (by decide) ?_ | refine w_pZ (by omega) (by assumption) (by decide) ?_ | refine w_dv (by omega) (by omega) (by omega) (by omega) ?_ | refine w_rm (by omega) (by omega) (by omega) (by omega) ?_) | ((with_reducible refine w_pos ?_ ?_); focus (first | assumption | trivial | exact (ile (by omega) (by omega) (by omega) (by omega)).2 (by omega) | exact (ilt (by omega) (by omega) (by omega) (by omega)).2 (by omega) | exact (ieq (by omega) (by omega) (by omega) (by omega)).2 (by omega))) | ((with_reducible refine w_neg ?_ ?_); focus (first | assumption | exact not_false | trivial | exact mt (ile (by omega) (by omega) (by omega) (by omega)).1 (by omega) | exact mt (ilt (by omega) (by omega) (by omega) (by omega)).1 (by omega) | exact mt (ieq (by omega) (by omega) (by omega) (by omega)).1 (by omega)))); skip)
              have es : (s : Int) + 1 = ((s + 1 : Nat) : Int) := by omega
              rw [es]
              refine ih4 _ ⟨by omega, ?_⟩
              have eT : up (T s) 374 (55 + (s : Int)).toNat (T s 380 ((s : Nat) : Int).toNat) = T (s + 1) := by
                funext a k
                have e1 : T s 380 ((s : Nat) : Int).toNat = I3 380 s := by
                  rw [Int.toNat_natCast]
                  exact if_neg (by omega)
                rw [e1, show (55 + (s : Int)).toNat = 55 + s by omega]
                show (if a = 374 ∧ k = 55 + s then I3 380 s else if a = 374 ∧ 55 ≤ k ∧ k < 55 + s then I3 380 (k - 55) else I3 a k) = if a = 374 ∧ 55 ≤ k ∧ k < 55 + (s + 1) then I3 380 (k - 55) else I3 a k
                by_cases c1 : a = 374 ∧ k = 55 + s
                · rw [if_pos c1, if_pos (show a = 374 ∧ 55 ≤ k ∧ k < 55 + (s + 1) by omega), show k - 55 = s by omega]
                · rw [if_neg c1]
                  by_cases c2 : a = 374 ∧ 55 ≤ k ∧ k < 55 + s
                  · rw [if_pos c2, if_pos (show a = 374 ∧ 55 ≤ k ∧ k < 55 + (s + 1) by omega)]
                  · rw [if_neg c2, if_neg (by omega)]
              rw [eT]
            · have hse : s = 6 := by omega
              subst hse
              have d12 : T 6 374 (Int.toNat 12) = iI (W.2 5 8) := by
                show (if _ then _ else I3 374 12) = _
                rw [if_neg (by omega)]
                exact g3.1.s 12 (by decide)
              repeat ((first | (with_reducible first | refine w_ltA ?_ | refine w_ltS ?_ | refine w_ltM ?_ | refine w_ltN ?_ | refine w_lt ?_ | refine w_jn ?_ | refine w_ck (by omega) (by assumption) ?_ | refine w_gI (by omega) (by assumption) ?_ | refine w_gR (by omega) (by assumption) (by assumption) ?_ | refine w_al (by omega) (by assumption) (by assumption) ?_ | refine w_pI (by omega) (by assumption) ?_ | refine w_set (by omega) (by assumption) (by omega) (by omega) ?_ | refine w_at (by omega) (by assumption) (by omega) (by omega) ?_ | refine w_sI (by omega) (by assumption) (by omega) (by omega) ?_ | refine w_aI (by omega) (by assumption) (by omega) (by omega) ?_ | refine w_sZ (by omega) (by assumption) (by omega) (by omega) (by decide) ?_ | refine w_pZ (by omega) (by assumption) (by decide) ?_ | refine w_dv (by omega) (by omega) (by omega) (by omega) ?_ | refine w_rm (by omega) (by omega) (by omega) (by omega) ?_) | ((with_reducible refine w_pos ?_ ?_); focus (first | assumption | trivial | exact (ile (by omega) (by omega) (by omega) (by omega)).2 (by omega) | exact (ilt (by omega) (by omega) (by omega) (by omega)).2 (by omega) | exact (ieq (by omega) (by omega) (by omega) (by omega)).2 (by omega))) | ((with_reducible refine w_neg ?_ ?_); focus (first | assumption | exact not_false | trivial | exact mt (ile (by omega) (by omega) (by omega) (by omega)).1 (by omega) | exact mt (ilt (by omega) (by omega) (by omega) (by omega)).1 (by omega) | exact mt (ieq (by omega) (by omega) (by omega) (by omega)).1 (by omega)))); try simp (disch := omega) only [up_ne, d12])
              refine w_rt ⟨?_, _, (fun p => if p < 6 then o p else π 6), rfl, ?_⟩
              · have e8 : W.2 5 8 - V.2 5 8 = ovwS K V := by
                  rw [← hs, ovwN_8]
                  omega
                show iI (W.2 5 8 - V.2 5 8) = iI (ovwS K V)
                rw [e8]
              · rw [hs]
                refine mto_rsz (o := o) g3 hwW w15 hi hn13 (fun a k h1 h2 => ?_) ?_ ?_ ?_ (fun p hp => ?_) (fun p hp => ?_) (fun p p' hp hp' he => ?_) (fun p hp => ?_)
                · rw [up_ne (by omega), up_ne (by omega), up_ne (by omega)]
                  exact if_neg (by omega)
                · rw [up_ne (by omega), up_ne (by omega)]
                  exact up_eq _ _ _ _
                · rw [up_ne (by omega)]
                  exact up_eq _ _ _ _
                · rw [hL]
                  exact up_eq _ _ _ _
                · rw [up_ne (by omega), up_ne (by omega), up_ne (by omega)]
                  show (if 374 = 374 ∧ 55 ≤ 55 + p ∧ 55 + p < 55 + 6 then I3 380 (55 + p - 55) else _) = _
                  rw [if_pos (by omega), show 55 + p - 55 = p by omega]
                  exact ho p hp
                · by_cases hpq : p < q
                  · rw [ho1 p hpq]
                    refine ⟨uW_7 g3.1 hwW (by omega), fun he => ?_⟩
                    have e0 : uW π W 0 = π 6 := if_pos rfl
                    have := uW_i g3.1 hwW (k := p + 1) (k' := 0) (by omega) (by omega) (he.trans e0.symm)
                    omega
                  · have := ho2 p (by omega) hp
                    refine ⟨this.2, fun he => ?_⟩
                    have := unB_iff.1 this.1 0 (by omega)
                    exact this he.symm
                · by_cases h1 : p < q
                  · by_cases h2 : p' < q
                    · rw [ho1 p h1, ho1 p' h2] at he
                      have := uW_i g3.1 hwW (k := p + 1) (k' := p' + 1) (by omega) (by omega) he
                      omega
                    · have h3 := unB_iff.1 (ho2 p' (by omega) hp').1 (p + 1) (by omega)
                      rw [ho1 p h1] at he
                      exact absurd he h3
                  · by_cases h2 : p' < q
                    · have h3 := unB_iff.1 (ho2 p (by omega) hp).1 (p' + 1) (by omega)
                      rw [ho1 p' h2] at he
                      exact absurd he.symm h3
                    · rcases Nat.lt_trichotomy p p' with hlt | hlt | hlt
                      · have := ho3 p p' (by omega) hlt hp'
                        omega
                      · exact hlt
                      · have := ho3 p' p (by omega) hlt hp
                        omega
                · rw [ho1 p (by omega)]
                  unfold uW
                  rw [if_neg (by omega), Nat.add_sub_cancel]
    · rw [if_neg h4]
      repeat ((first | (with_reducible first | refine w_ltA ?_ | refine w_ltS ?_ | refine w_ltM ?_ | refine w_ltN ?_ | refine w_lt ?_ | refine w_jn ?_ | refine w_ck (by omega) (by assumption) ?_ | refine w_gI (by omega) (by assumption) ?_ | refine w_gR (by omega) (by assumption) (by assumption) ?_ | refine w_al (by omega) (by assumption) (by assumption) ?_ | refine w_pI (by omega) (by assumption) ?_ | refine w_set (by omega) (by assumption) (by omega) (by omega) ?_ | refine w_at (by omega) (by assumption) (by omega) (by omega) ?_ | refine w_sI (by omega) (by assumption) (by omega) (by omega) ?_ | refine w_aI (by omega) (by assumption) (by omega) (by omega) ?_ | refine w_sZ (by omega) (by assumption) (by omega) (by omega) (by decide) ?_ | refine w_pZ (by omega) (by assumption) (by decide) ?_ | refine w_dv (by omega) (by omega) (by omega) (by omega) ?_ | refine w_rm (by omega) (by omega) (by omega) (by omega) ?_) | ((with_reducible refine w_pos ?_ ?_); focus (first | assumption | trivial | exact (ile (by omega) (by omega) (by omega) (by omega)).2 (by omega) | exact (ilt (by omega) (by omega) (by omega) (by omega)).2 (by omega) | exact (ieq (by omega) (by omega) (by omega) (by omega)).2 (by omega))) | ((with_reducible refine w_neg ?_ ?_); focus (first | assumption | exact not_false | trivial | exact mt (ile (by omega) (by omega) (by omega) (by omega)).1 (by omega) | exact mt (ilt (by omega) (by omega) (by omega) (by omega)).1 (by omega) | exact mt (ieq (by omega) (by omega) (by omega) (by omega)).1 (by omega)))); try simp (disch := omega) only [m0, m6, m12])
      exact w_rt ⟨rfl, I, π, rfl, h⟩
  · have e : (if n < 2 then ((-1 : Int), V) else if 6 < n then (-1, V) else if n = V.2 0 8 then (-1, V) else if V.2 0 15 ≤ 0 then (ovwS (V.2 0 13 - n).toNat V, rsz2 (ovwN (V.2 0 13 - n).toNat V) n) else (-1, V)) = (-1, V) := by
      by_cases h1 : n < 2
      · rw [if_pos h1]
      · rw [if_neg h1, if_pos (by omega)]
    rw [e]
    repeat ((first | (with_reducible first | refine w_ltA ?_ | refine w_ltS ?_ | refine w_ltM ?_ | refine w_ltN ?_ | refine w_lt ?_ | refine w_jn ?_ | refine w_ck (by omega) (by assumption) ?_ | refine w_gI (by omega) (by assumption) ?_ | refine w_gR (by omega) (by assumption) (by assumption) ?_ | refine w_al (by omega) (by assumption) (by assumption) ?_ | refine w_pI (by omega) (by assumption) ?_ | refine w_set (by omega) (by assumption) (by omega) (by omega) ?_ | refine w_at (by omega) (by assumption) (by omega) (by omega) ?_ | refine w_sI (by omega) (by assumption) (by omega) (by omega) ?_ | refine w_aI (by omega) (by assumption) (by omega) (by omega) ?_ | refine w_sZ (by omega) (by assumption) (by omega) (by omega) (by decide) ?_ | refine w_pZ (by omega) (by assumption) (by decide) ?_ | refine w_dv (by omega) (by omega) (by omega) (by omega) ?_ | refine w_rm (by omega) (by omega) (by omega) (by omega) ?_) | ((with_reducible refine w_pos ?_ ?_); focus (first | assumption | trivial | exact (ile (by omega) (by omega) (by omega) (by omega)).2 (by omega) | exact (ilt (by omega) (by omega) (by omega) (by omega)).2 (by omega) | exact (ieq (by omega) (by omega) (by omega) (by omega)).2 (by omega))) | ((with_reducible refine w_neg ?_ ?_); focus (first | assumption | exact not_false | trivial | exact mt (ile (by omega) (by omega) (by omega) (by omega)).1 (by omega) | exact mt (ilt (by omega) (by omega) (by omega) (by omega)).1 (by omega) | exact mt (ieq (by omega) (by omega) (by omega) (by omega)).1 (by omega)))); skip)
    exact w_rt ⟨rfl, I, π, rfl, h⟩
end RFM
