/-! THE REFERENCE: taken -/
section RFD
variable {I I0 : MI} {J : MJ} {R : MR} {π : Nat → Nat} {γ : Type} {Q : γ → Prop} {V : RV} {P k i f n l : Int} {x : Int32}
theorem lay_Q (hR : RQ R) (hP : 0 ≤ P ∧ P < 7) (hk : 0 ≤ k ∧ k < 132) : f_X9_lay (381, I, J, R) 373 (iI P) (iI k) x = some (381, up I 374 (61 + 132 * P + k).toNat x, J, R) := by
  have k374 := kd_374
  have k375 := kd_375
  have l375 := ln_375
  obtain ⟨rq1, -⟩ := hR
  refine en_eq ?_
  rw [u_X9_lay]
  repeat ((first | (with_reducible first | refine w_ltA ?_ | refine w_ltS ?_ | refine w_ltM ?_ | refine w_ltN ?_ | refine w_lt ?_ | refine w_jn ?_ | refine w_ck (by omega) (by assumption) ?_ | refine w_gI (by omega) (by assumption) ?_ | refine w_gR (by omega) (by assumption) (by assumption) ?_ | refine w_al (by omega) (by assumption) (by assumption) ?_ | refine w_pI (by omega) (by assumption) ?_ | refine w_set (by omega) (by assumption) (by omega) (by omega) ?_ | refine w_at (by omega) (by assumption) (by omega) (by omega) ?_ | refine w_sI (by omega) (by assumption) (by omega) (by omega) ?_ | refine w_aI (by omega) (by assumption) (by omega) (by omega) ?_ | refine w_sZ (by omega) (by assumption) (by omega) (by omega) (by decide) ?_ | refine w_pZ (by omega) (by assumption) (by decide) ?_ | refine w_dv (by omega) (by omega) (by omega) (by omega) ?_ | refine w_rm (by omega) (by omega) (by omega) (by omega) ?_) | ((with_reducible refine w_pos ?_ ?_); focus (first | assumption | trivial | exact (ile (by omega) (by omega) (by omega) (by omega)).2 (by omega) | exact (ilt (by omega) (by omega) (by omega) (by omega)).2 (by omega) | exact (ieq (by omega) (by omega) (by omega) (by omega)).2 (by omega))) | ((with_reducible refine w_neg ?_ ?_); focus (first | assumption | exact not_false | trivial | exact mt (ile (by omega) (by omega) (by omega) (by omega)).1 (by omega) | exact mt (ilt (by omega) (by omega) (by omega) (by omega)).1 (by omega) | exact mt (ieq (by omega) (by omega) (by omega) (by omega)).1 (by omega)))); skip)
  exact w_rt rfl
theorem w_lay {K : St → Option γ} (hR : RQ R) (hP : 0 ≤ P ∧ P < 7) (hk : 0 ≤ k ∧ k < 132) (h : En Q (K (381, up I 374 (61 + 132 * P + k).toNat x, J, R))) : En Q (cV_ (f_X9_lay (381, I, J, R) 373 (iI P) (iI k) x) K) := by
  rw [lay_Q hR hP hk]
  exact h
theorem w_cell {K : St → Option γ} (hR : RQ R) (hP : 0 ≤ P ∧ P < 7) (hk : 0 ≤ k ∧ k < 128) (h : En Q (K (381, up I 374 (61 + 132 * P + (4 + k)).toNat x, J, R))) : En Q (cV_ (f_X9_cellIs (381, I, J, R) 373 (iI P) (iI k) x) K) := by
  have k374 := kd_374
  have e : f_X9_cellIs (381, I, J, R) 373 (iI P) (iI k) x = some (381, up I 374 (61 + 132 * P + (4 + k)).toNat x, J, R) := by
    refine en_eq ?_
    rw [u_X9_cellIs]
    repeat ((first | (with_reducible first | refine w_ltA ?_ | refine w_ltS ?_ | refine w_ltM ?_ | refine w_ltN ?_ | refine w_lt ?_ | refine w_jn ?_ | refine w_ck (by omega) (by assumption) ?_ | refine w_gI (by omega) (by assumption) ?_ | refine w_gR (by omega) (by assumption) (by assumption) ?_ | refine w_al (by omega) (by assumption) (by assumption) ?_ | refine w_pI (by omega) (by assumption) ?_ | refine w_set (by omega) (by assumption) (by omega) (by omega) ?_ | refine w_at (by omega) (by assumption) (by omega) (by omega) ?_ | refine w_sI (by omega) (by assumption) (by omega) (by omega) ?_ | refine w_aI (by omega) (by assumption) (by omega) (by omega) ?_ | refine w_sZ (by omega) (by assumption) (by omega) (by omega) (by decide) ?_ | refine w_pZ (by omega) (by assumption) (by decide) ?_ | refine w_dv (by omega) (by omega) (by omega) (by omega) ?_ | refine w_rm (by omega) (by omega) (by omega) (by omega) ?_) | ((with_reducible refine w_pos ?_ ?_); focus (first | assumption | trivial | exact (ile (by omega) (by omega) (by omega) (by omega)).2 (by omega) | exact (ilt (by omega) (by omega) (by omega) (by omega)).2 (by omega) | exact (ieq (by omega) (by omega) (by omega) (by omega)).2 (by omega))) | ((with_reducible refine w_neg ?_ ?_); focus (first | assumption | exact not_false | trivial | exact mt (ile (by omega) (by omega) (by omega) (by omega)).1 (by omega) | exact mt (ilt (by omega) (by omega) (by omega) (by omega)).1 (by omega) | exact mt (ieq (by omega) (by omega) (by omega) (by omega)).1 (by omega)))); skip)
    refine w_lay hR hP (by omega) ?_
    exact w_rt rfl
  rw [e]
  exact h
theorem empties_Q {p : Nat} (hR : RQ R) (h : MTo I0 I π V) (hp : p < 7) : En (fun y => ∃ I', y = (381, I', J, R) ∧ MTo I0 I' π (upP V p (clP (V.1 p)))) (f_X9_empties (381, I, J, R) 373 (iI (π p))) := by
  have hpl := h.1.l hp
  have k374 := kd_374
  rw [u_X9_empties]
  refine w_lp 132 (fun j y => j ≤ 132 ∧ y = (iI j, (381, zr I 374 (61 + 132 * π p) j, J, R))) ⟨by omega, ?_⟩ (by rw [FU_eq]; omega) (fun i y h => h.1) ?_
  · rw [zr_0]
    rfl
  rintro j y self ⟨hj, rfl⟩ ih
  try dsimp only
  by_cases hn : j < 132
  · repeat ((first | (with_reducible first | refine w_lay hR (by omega) (by omega) ?_ | refine w_ltA ?_ | refine w_ltS ?_ | refine w_ltM ?_ | refine w_ltN ?_ | refine w_lt ?_ | refine w_jn ?_ | refine w_ck (by omega) (by assumption) ?_ | refine w_gI (by omega) (by assumption) ?_ | refine w_gR (by omega) (by assumption) (by assumption) ?_ | refine w_al (by omega) (by assumption) (by assumption) ?_ | refine w_pI (by omega) (by assumption) ?_ | refine w_set (by omega) (by assumption) (by omega) (by omega) ?_ | refine w_at (by omega) (by assumption) (by omega) (by omega) ?_ | refine w_sI (by omega) (by assumption) (by omega) (by omega) ?_ | refine w_aI (by omega) (by assumption) (by omega) (by omega) ?_ | refine w_sZ (by omega) (by assumption) (by omega) (by omega) (by decide) ?_ | refine w_pZ (by omega) (by assumption) (by decide) ?_ | refine w_dv (by omega) (by omega) (by omega) (by omega) ?_ | refine w_rm (by omega) (by omega) (by omega) (by omega) ?_) | ((with_reducible refine w_pos ?_ ?_); focus (first | assumption | trivial | exact (ile (by omega) (by omega) (by omega) (by omega)).2 (by omega) | exact (ilt (by omega) (by omega) (by omega) (by omega)).2 (by omega) | exact (ieq (by omega) (by omega) (by omega) (by omega)).2 (by omega))) | ((with_reducible refine w_neg ?_ ?_); focus (first | assumption | exact not_false | trivial | exact mt (ile (by omega) (by omega) (by omega) (by omega)).1 (by omega) | exact mt (ilt (by omega) (by omega) (by omega) (by omega)).1 (by omega) | exact mt (ieq (by omega) (by omega) (by omega) (by omega)).1 (by omega)))); skip)
    refine ih _ ⟨by omega, ?_⟩
    have e2 : (j : Int) + 1 = ((j + 1 : Nat) : Int) := by omega
    rw [show (61 + 132 * (π p : Int) + j).toNat = 61 + 132 * π p + j by omega, zr_up, e2]
  · repeat ((first | (with_reducible first | refine w_lay hR (by omega) (by omega) ?_ | refine w_ltA ?_ | refine w_ltS ?_ | refine w_ltM ?_ | refine w_ltN ?_ | refine w_lt ?_ | refine w_jn ?_ | refine w_ck (by omega) (by assumption) ?_ | refine w_gI (by omega) (by assumption) ?_ | refine w_gR (by omega) (by assumption) (by assumption) ?_ | refine w_al (by omega) (by assumption) (by assumption) ?_ | refine w_pI (by omega) (by assumption) ?_ | refine w_set (by omega) (by assumption) (by omega) (by omega) ?_ | refine w_at (by omega) (by assumption) (by omega) (by omega) ?_ | refine w_sI (by omega) (by assumption) (by omega) (by omega) ?_ | refine w_aI (by omega) (by assumption) (by omega) (by omega) ?_ | refine w_sZ (by omega) (by assumption) (by omega) (by omega) (by decide) ?_ | refine w_pZ (by omega) (by assumption) (by decide) ?_ | refine w_dv (by omega) (by omega) (by omega) (by omega) ?_ | refine w_rm (by omega) (by omega) (by omega) (by omega) ?_) | ((with_reducible refine w_pos ?_ ?_); focus (first | assumption | trivial | exact (ile (by omega) (by omega) (by omega) (by omega)).2 (by omega) | exact (ilt (by omega) (by omega) (by omega) (by omega)).2 (by omega) | exact (ieq (by omega) (by omega) (by omega) (by omega)).2 (by omega))) | ((with_reducible refine w_neg ?_ ?_); focus (first | assumption | exact not_false | trivial | exact mt (ile (by omega) (by omega) (by omega) (by omega)).1 (by omega) | exact mt (ilt (by omega) (by omega) (by omega) (by omega)).1 (by omega) | exact mt (ieq (by omega) (by omega) (by omega) (by omega)).1 (by omega)))); skip)
    refine w_rt ⟨_, rfl, ?_⟩
    have ej : j = 132 := by omega
    subst ej
    obtain ⟨x1, x2, x3, x4⟩ := ep_cl (P := V.1 p)
    refine mto_pg h hp ⟨⟨?_, ?_, ?_, fun k hk => ?_, fun i f hi h16 hf6 => by omega⟩, fun a k hn => ?_⟩ ?_
    · rw [up_ne (by omega), zr, if_pos (by omega), x2]
    · rw [up_ne (by omega), zr, if_pos (by omega), x3]
    · rw [up_ne (by omega), zr, if_pos (by omega), x1]
    · rw [up_ne (by omega), zr, if_pos (by omega), x4 k hk]
    · rw [up_ne (by omega), zr, if_neg (by omega)]
    · rw [show (61 + 132 * (π p : Int) + 0).toNat = 61 + 132 * π p by omega, up_eq, if_pos x1]
theorem ovw_comm (V : RV) {y : Int} : upG (upG (upP (upG V 5 8 y) (V.2 0 12).toNat (clP (V.1 (V.2 0 12).toNat))) 0 12 (plc V 1)) 0 13 (V.2 0 13 - 1) = upG (upG (upG (upP V (V.2 0 12).toNat (clP (V.1 (V.2 0 12).toNat))) 0 12 (plc V 1)) 0 13 (V.2 0 13 - 1)) 5 8 y := by
  refine Prod.ext rfl ?_
  funext a b
  show (if a = 0 ∧ b = 13 then _ else if a = 0 ∧ b = 12 then _ else if a = 5 ∧ b = 8 then y else V.2 a b) = if a = 5 ∧ b = 8 then y else if a = 0 ∧ b = 13 then _ else if a = 0 ∧ b = 12 then _ else V.2 a b
  by_cases h1 : a = 5 ∧ b = 8
  · rw [if_pos h1, if_neg (by omega), if_neg (by omega), if_pos h1]
  · rw [if_neg h1, if_neg h1]
theorem recs_is {P : PV} : recs P = cnt (fun i => decide (P 8 i = 0)) (P 0 8).toNat := rfl
theorem overwrites_Q (hR : RQ R) (h : MTo I0 I π V) (hw : WR V) (hl : 2 ≤ V.2 0 13) : En (fun y => ∃ I', y = (381, I', J, R) ∧ MTo I0 I' π (ovwV V)) (f_X9_overwrites (381, I, J, R) 373) := by
  have hq := h.1
  have hb0 := hw.1
  unfold WB at hb0
  have hpa := pageAt_Q (J := J) hR hq (p := V.2 0 12) ⟨by omega, by omega⟩
  have hre := recordsIn_Q (J := J) (p := (V.2 0 12).toNat) (g := 0) hR hq hw (by omega) (Or.inl rfl)
  rw [← recs_is] at hre
  have m12 : I 374 (Int.toNat 12) = iI (V.2 5 8) := hq.s 12 (by decide)
  have hsub : ∀ I1, MTo I0 I1 π (upP (upG V 5 8 (V.2 5 8 + recs (V.1 (V.2 0 12).toNat))) (V.2 0 12).toNat (clP (V.1 (V.2 0 12).toNat))) → f_X9_behind (381, I1, J, R) 373 (iI (V.2 0 12)) = some (iI (plc V 1)) ∧ I1 374 (Int.toNat 4) = iI (V.2 0 12) ∧ I1 374 5 = iI (plc V (V.2 0 13 - 1)) := fun I1 h1 => by
    have hq := h1.1
    have m4 : I1 374 (Int.toNat 4) = iI (V.2 0 12) := hq.s 4 (by decide)
    have m0 : I1 374 (Int.toNat 0) = iI (V.2 0 8) := hq.s 0 (by decide)
    have k374 := kd_374
    have k375 := kd_375
    have l375 := ln_375
    have rq1 := hR.1
    refine ⟨?_, m4, hq.t⟩
    refine en_eq ?_
    rw [u_X9_behind]
    by_cases h : V.2 0 12 + 1 = V.2 0 8
    · repeat ((first | (with_reducible first | refine w_ltA ?_ | refine w_ltS ?_ | refine w_ltM ?_ | refine w_ltN ?_ | refine w_lt ?_ | refine w_jn ?_ | refine w_ck (by omega) (by assumption) ?_ | refine w_gI (by omega) (by assumption) ?_ | refine w_gR (by omega) (by assumption) (by assumption) ?_ | refine w_al (by omega) (by assumption) (by assumption) ?_ | refine w_pI (by omega) (by assumption) ?_ | refine w_set (by omega) (by assumption) (by omega) (by omega) ?_ | refine w_at (by omega) (by assumption) (by omega) (by omega) ?_ | refine w_sI (by omega) (by assumption) (by omega) (by omega) ?_ | refine w_aI (by omega) (by assumption) (by omega) (by omega) ?_ | refine w_sZ (by omega) (by assumption) (by omega) (by omega) (by decide) ?_ | refine w_pZ (by omega) (by assumption) (by decide) ?_ | refine w_dv (by omega) (by omega) (by omega) (by omega) ?_ | refine w_rm (by omega) (by omega) (by omega) (by omega) ?_) | ((with_reducible refine w_pos ?_ ?_); focus (first | assumption | trivial | exact (ile (by omega) (by omega) (by omega) (by omega)).2 (by omega) | exact (ilt (by omega) (by omega) (by omega) (by omega)).2 (by omega) | exact (ieq (by omega) (by omega) (by omega) (by omega)).2 (by omega))) | ((with_reducible refine w_neg ?_ ?_); focus (first | assumption | exact not_false | trivial | exact mt (ile (by omega) (by omega) (by omega) (by omega)).1 (by omega) | exact mt (ilt (by omega) (by omega) (by omega) (by omega)).1 (by omega) | exact mt (ieq (by omega) (by omega) (by omega) (by omega)).1 (by omega)))); try simp (disch := omega) only [m0])
      refine w_rt ?_
      unfold plc
      rw [if_pos (by omega)]
      congr 1
      omega
    · repeat ((first | (with_reducible first | refine w_ltA ?_ | refine w_ltS ?_ | refine w_ltM ?_ | refine w_ltN ?_ | refine w_lt ?_ | refine w_jn ?_ | refine w_ck (by omega) (by assumption) ?_ | refine w_gI (by omega) (by assumption) ?_ | refine w_gR (by omega) (by assumption) (by assumption) ?_ | refine w_al (by omega) (by assumption) (by assumption) ?_ | refine w_pI (by omega) (by assumption) ?_ | refine w_set (by omega) (by assumption) (by omega) (by omega) ?_ | refine w_at (by omega) (by assumption) (by omega) (by omega) ?_ | refine w_sI (by omega) (by assumption) (by omega) (by omega) ?_ | refine w_aI (by omega) (by assumption) (by omega) (by omega) ?_ | refine w_sZ (by omega) (by assumption) (by omega) (by omega) (by decide) ?_ | refine w_pZ (by omega) (by assumption) (by decide) ?_ | refine w_dv (by omega) (by omega) (by omega) (by omega) ?_ | refine w_rm (by omega) (by omega) (by omega) (by omega) ?_) | ((with_reducible refine w_pos ?_ ?_); focus (first | assumption | trivial | exact (ile (by omega) (by omega) (by omega) (by omega)).2 (by omega) | exact (ilt (by omega) (by omega) (by omega) (by omega)).2 (by omega) | exact (ieq (by omega) (by omega) (by omega) (by omega)).2 (by omega))) | ((with_reducible refine w_neg ?_ ?_); focus (first | assumption | exact not_false | trivial | exact mt (ile (by omega) (by omega) (by omega) (by omega)).1 (by omega) | exact mt (ilt (by omega) (by omega) (by omega) (by omega)).1 (by omega) | exact mt (ieq (by omega) (by omega) (by omega) (by omega)).1 (by omega)))); try simp (disch := omega) only [m0])
      refine w_rt ?_
      unfold plc
      rw [if_neg (by omega)]
  have k374 := kd_374
  have k375 := kd_375
  have l375 := ln_375
  have k381 := kd_381
  have l381 := ln_381
  have hR0 := hR
  obtain ⟨rq1, rq2, rq3, rq12, rq16, rq17, rq19⟩ := hR
  have m0 : I 374 (Int.toNat 0) = iI (V.2 0 8) := hq.s 0 (by decide)
  have m1 : I 374 (Int.toNat 1) = iI (V.2 0 9) := hq.s 1 (by decide)
  have m2 : I 374 (Int.toNat 2) = iI (V.2 0 10) := hq.s 2 (by decide)
  have m3 : I 374 (Int.toNat 3) = iI (V.2 0 11) := hq.s 3 (by decide)
  have m4 : I 374 (Int.toNat 4) = iI (V.2 0 12) := hq.s 4 (by decide)
  have m5 : I 374 (Int.toNat 5) = iI (plc V (V.2 0 13 - 1)) := hq.t
  have m6 : I 374 (Int.toNat 6) = iI (V.2 0 15) := hq.s 6 (by decide)
  have m7 : I 374 (Int.toNat 7) = iI (π 6) := hq.r
  have m8 : I 374 (Int.toNat 8) = iI (V.2 0 7) := hq.s 8 (by decide)
  have m9 : I 374 (Int.toNat 9) = iI (V.2 0 14) := hq.s 9 (by decide)
  have hbb := hw.1
  unfold WB at hbb
  rw [u_X9_overwrites]
  repeat ((first | (with_reducible first | refine w_ltA ?_ | refine w_ltS ?_ | refine w_ltM ?_ | refine w_ltN ?_ | refine w_lt ?_ | refine w_jn ?_ | refine w_ck (by omega) (by assumption) ?_ | refine w_gI (by omega) (by assumption) ?_ | refine w_gR (by omega) (by assumption) (by assumption) ?_ | refine w_al (by omega) (by assumption) (by assumption) ?_ | refine w_pI (by omega) (by assumption) ?_ | refine w_set (by omega) (by assumption) (by omega) (by omega) ?_ | refine w_at (by omega) (by assumption) (by omega) (by omega) ?_ | refine w_sI (by omega) (by assumption) (by omega) (by omega) ?_ | refine w_aI (by omega) (by assumption) (by omega) (by omega) ?_ | refine w_sZ (by omega) (by assumption) (by omega) (by omega) (by decide) ?_ | refine w_pZ (by omega) (by assumption) (by decide) ?_ | refine w_dv (by omega) (by omega) (by omega) (by omega) ?_ | refine w_rm (by omega) (by omega) (by omega) (by omega) ?_) | ((with_reducible refine w_pos ?_ ?_); focus (first | assumption | trivial | exact (ile (by omega) (by omega) (by omega) (by omega)).2 (by omega) | exact (ilt (by omega) (by omega) (by omega) (by omega)).2 (by omega) | exact (ieq (by omega) (by omega) (by omega) (by omega)).2 (by omega))) | ((with_reducible refine w_neg ?_ ?_); focus (first | assumption | exact not_false | trivial | exact mt (ile (by omega) (by omega) (by omega) (by omega)).1 (by omega) | exact mt (ilt (by omega) (by omega) (by omega) (by omega)).1 (by omega) | exact mt (ieq (by omega) (by omega) (by omega) (by omega)).1 (by omega)))); try simp (disch := omega) only [m4])
  refine w_cP hpa ?_
  repeat ((first | (with_reducible first | refine w_ltA ?_ | refine w_ltS ?_ | refine w_ltM ?_ | refine w_ltN ?_ | refine w_lt ?_ | refine w_jn ?_ | refine w_ck (by omega) (by assumption) ?_ | refine w_gI (by omega) (by assumption) ?_ | refine w_gR (by omega) (by assumption) (by assumption) ?_ | refine w_al (by omega) (by assumption) (by assumption) ?_ | refine w_pI (by omega) (by assumption) ?_ | refine w_set (by omega) (by assumption) (by omega) (by omega) ?_ | refine w_at (by omega) (by assumption) (by omega) (by omega) ?_ | refine w_sI (by omega) (by assumption) (by omega) (by omega) ?_ | refine w_aI (by omega) (by assumption) (by omega) (by omega) ?_ | refine w_sZ (by omega) (by assumption) (by omega) (by omega) (by decide) ?_ | refine w_pZ (by omega) (by assumption) (by decide) ?_ | refine w_dv (by omega) (by omega) (by omega) (by omega) ?_ | refine w_rm (by omega) (by omega) (by omega) (by omega) ?_) | ((with_reducible refine w_pos ?_ ?_); focus (first | assumption | trivial | exact (ile (by omega) (by omega) (by omega) (by omega)).2 (by omega) | exact (ilt (by omega) (by omega) (by omega) (by omega)).2 (by omega) | exact (ieq (by omega) (by omega) (by omega) (by omega)).2 (by omega))) | ((with_reducible refine w_neg ?_ ?_); focus (first | assumption | exact not_false | trivial | exact mt (ile (by omega) (by omega) (by omega) (by omega)).1 (by omega) | exact mt (ilt (by omega) (by omega) (by omega) (by omega)).1 (by omega) | exact mt (ieq (by omega) (by omega) (by omega) (by omega)).1 (by omega)))); try simp (disch := omega) only [m12, m4])
  refine w_cP hre ?_
  repeat ((first | (with_reducible first | refine w_ltA ?_ | refine w_ltS ?_ | refine w_ltM ?_ | refine w_ltN ?_ | refine w_lt ?_ | refine w_jn ?_ | refine w_ck (by omega) (by assumption) ?_ | refine w_gI (by omega) (by assumption) ?_ | refine w_gR (by omega) (by assumption) (by assumption) ?_ | refine w_al (by omega) (by assumption) (by assumption) ?_ | refine w_pI (by omega) (by assumption) ?_ | refine w_set (by omega) (by assumption) (by omega) (by omega) ?_ | refine w_at (by omega) (by assumption) (by omega) (by omega) ?_ | refine w_sI (by omega) (by assumption) (by omega) (by omega) ?_ | refine w_aI (by omega) (by assumption) (by omega) (by omega) ?_ | refine w_sZ (by omega) (by assumption) (by omega) (by omega) (by decide) ?_ | refine w_pZ (by omega) (by assumption) (by decide) ?_ | refine w_dv (by omega) (by omega) (by omega) (by omega) ?_ | refine w_rm (by omega) (by omega) (by omega) (by omega) ?_) | ((with_reducible refine w_pos ?_ ?_); focus (first | assumption | trivial | exact (ile (by omega) (by omega) (by omega) (by omega)).2 (by omega) | exact (ilt (by omega) (by omega) (by omega) (by omega)).2 (by omega) | exact (ieq (by omega) (by omega) (by omega) (by omega)).2 (by omega))) | ((with_reducible refine w_neg ?_ ?_); focus (first | assumption | exact not_false | trivial | exact mt (ile (by omega) (by omega) (by omega) (by omega)).1 (by omega) | exact mt (ilt (by omega) (by omega) (by omega) (by omega)).1 (by omega) | exact mt (ieq (by omega) (by omega) (by omega) (by omega)).1 (by omega)))); try simp (disch := omega) only [m12, m4])
  have h1 := mto_s h 12 (g := 5) (k := 8) rfl (V.2 5 8 + recs (V.1 (V.2 0 12).toNat)) (by decide) (by decide)
  refine w_cV (empties_Q (J := J) (p := (V.2 0 12).toNat) hR0 h1 (by omega)) ?_
  rintro S ⟨I2, rfl, h2⟩
  obtain ⟨x1, x2, x3⟩ := hsub I2 h2
  repeat ((first | (with_reducible first | refine w_ltA ?_ | refine w_ltS ?_ | refine w_ltM ?_ | refine w_ltN ?_ | refine w_lt ?_ | refine w_jn ?_ | refine w_ck (by omega) (by assumption) ?_ | refine w_gI (by omega) (by assumption) ?_ | refine w_gR (by omega) (by assumption) (by assumption) ?_ | refine w_al (by omega) (by assumption) (by assumption) ?_ | refine w_pI (by omega) (by assumption) ?_ | refine w_set (by omega) (by assumption) (by omega) (by omega) ?_ | refine w_at (by omega) (by assumption) (by omega) (by omega) ?_ | refine w_sI (by omega) (by assumption) (by omega) (by omega) ?_ | refine w_aI (by omega) (by assumption) (by omega) (by omega) ?_ | refine w_sZ (by omega) (by assumption) (by omega) (by omega) (by decide) ?_ | refine w_pZ (by omega) (by assumption) (by decide) ?_ | refine w_dv (by omega) (by omega) (by omega) (by omega) ?_ | refine w_rm (by omega) (by omega) (by omega) (by omega) ?_) | ((with_reducible refine w_pos ?_ ?_); focus (first | assumption | trivial | exact (ile (by omega) (by omega) (by omega) (by omega)).2 (by omega) | exact (ilt (by omega) (by omega) (by omega) (by omega)).2 (by omega) | exact (ieq (by omega) (by omega) (by omega) (by omega)).2 (by omega))) | ((with_reducible refine w_neg ?_ ?_); focus (first | assumption | exact not_false | trivial | exact mt (ile (by omega) (by omega) (by omega) (by omega)).1 (by omega) | exact mt (ilt (by omega) (by omega) (by omega) (by omega)).1 (by omega) | exact mt (ieq (by omega) (by omega) (by omega) (by omega)).1 (by omega)))); try simp (disch := omega) only [x2])
  refine w_cP x1 ?_
  repeat ((first | (with_reducible first | refine w_ltA ?_ | refine w_ltS ?_ | refine w_ltM ?_ | refine w_ltN ?_ | refine w_lt ?_ | refine w_jn ?_ | refine w_ck (by omega) (by assumption) ?_ | refine w_gI (by omega) (by assumption) ?_ | refine w_gR (by omega) (by assumption) (by assumption) ?_ | refine w_al (by omega) (by assumption) (by assumption) ?_ | refine w_pI (by omega) (by assumption) ?_ | refine w_set (by omega) (by assumption) (by omega) (by omega) ?_ | refine w_at (by omega) (by assumption) (by omega) (by omega) ?_ | refine w_sI (by omega) (by assumption) (by omega) (by omega) ?_ | refine w_aI (by omega) (by assumption) (by omega) (by omega) ?_ | refine w_sZ (by omega) (by assumption) (by omega) (by omega) (by decide) ?_ | refine w_pZ (by omega) (by assumption) (by decide) ?_ | refine w_dv (by omega) (by omega) (by omega) (by omega) ?_ | refine w_rm (by omega) (by omega) (by omega) (by omega) ?_) | ((with_reducible refine w_pos ?_ ?_); focus (first | assumption | trivial | exact (ile (by omega) (by omega) (by omega) (by omega)).2 (by omega) | exact (ilt (by omega) (by omega) (by omega) (by omega)).2 (by omega) | exact (ieq (by omega) (by omega) (by omega) (by omega)).2 (by omega))) | ((with_reducible refine w_neg ?_ ?_); focus (first | assumption | exact not_false | trivial | exact mt (ile (by omega) (by omega) (by omega) (by omega)).1 (by omega) | exact mt (ilt (by omega) (by omega) (by omega) (by omega)).1 (by omega) | exact mt (ieq (by omega) (by omega) (by omega) (by omega)).1 (by omega)))); try simp (disch := omega) only [x2])
  refine w_rt ⟨_, rfl, ?_⟩
  have hx := mto_ht (I' := up I2 374 (Int.toNat 4) (iI (plc V 1))) (hd := plc V 1) (lv := V.2 0 13 - 1) (tl := plc V (V.2 0 13 - 1)) h2 (fun j j4 j5 => up_ne (fun h => j4 h.2)) (fun a k ha => up_ne (fun h => ha h.1)) (up_eq _ _ _ _) (by rw [up_ne (by omega)]; exact x3) (by
    unfold plc
    rw [upG_ne (by omega), upG_ne (by omega), upG_ne (g' := 0) (k' := 12) (by omega), upG_eq, upP_2, upG_ne (by omega)]
    split <;> split <;> omega)
  have e := ovw_comm V (y := V.2 5 8 + recs (V.1 (V.2 0 12).toNat))
  rw [upG_1, e] at hx
  exact hx
end RFD
