/-! THE START: both objects; what holds between the calls -/
theorem kd_st : kd 0 = 8 ∧ kd 1 = 4 ∧ kd 72 = 4 ∧ kd 143 = 6 ∧ kd 144 = 11 ∧ ln 144 = 400 ∧ kd 145 = 2 ∧ kd 149 = 5 ∧ kd 150 = 14 ∧ ln 150 = 3 ∧ kd 373 = 9 := by decide +kernel
theorem kd_rf : kd 374 = 11 ∧ ln 374 = 4940 ∧ kd 375 = 10 ∧ ln 375 = 2000 ∧ kd 376 = 13 ∧ ln 376 = 3 ∧ kd 377 = 11 ∧ ln 377 = 3 ∧ kd 378 = 12 ∧ ln 378 = 100 ∧ kd 379 = 11 ∧ ln 379 = 200 ∧ kd 380 = 11 ∧ ln 380 = 7 := by decide +kernel
theorem kd_i0 : ∀ k, k < 3 → kd (151 + 74 * k) = 0 ∧ kd (151 + 74 * k + 1) = 4 ∧ kd (151 + 74 * k + 72) = 6 ∧ kd (151 + 74 * k + 73) = 11 ∧ ln (151 + 74 * k + 73) = 400 := by decide +kernel
section NIX
variable {α β : Type} {Q : β → Prop} {I : MI} {J : MJ} {R : MR} {a b c cb k n i r q : Nat} {x : Int32}
theorem lines_init (hz : Zr 145 I J R) : En (fun S => ∃ R', S = (149, I, J, R') ∧ Zr 149 I J R' ∧ R' 145 0 = some 146 ∧ R' 145 1 = some 147 ∧ R' 145 2 = some 148 ∧ ∀ b j, b ≠ 145 → R' b j = R b j) (f_X2_init (146, I, J, R) 145) := by
  obtain ⟨k146, k147, k148, l146, l147, l148⟩ := kd_146
  have k145 := kd_145
  unfold f_X2_init
  refine n_na k146 l146 (hz.le (by omega)) ?_
  intro z0
  refine n_pRo (by omega) k145 z0 ?_
  intro R0 y0 e0 f0
  refine n_na k147 l147 y0 ?_
  intro z1
  refine n_pRo (by omega) k145 z1 ?_
  intro R1 y1 e1 f1
  refine n_na k148 l148 y1 ?_
  intro z2
  refine n_pRo (by omega) k145 z2 ?_
  intro R2 y2 e2 f2
  refine w_rt ⟨R2, rfl, y2, ?_, ?_, e2, fun b j h1 => ?_⟩
  · rw [f2 _ _ (by omega), f1 _ _ (by omega)]
    exact e0
  · rw [f2 _ _ (by omega)]
    exact e1
  · rw [f2 _ _ (by omega), f1 _ _ (by omega), f0 _ _ (by omega)]
set_option maxHeartbeats 8000000 in
theorem class_init (hz : Zr 0 I J R) : En (fun S => ∃ I' R', S = (373, I', J, R') ∧ Zr 373 I' J R' ∧ RC R' ∧ CR I' R' 1 σ00 V00 ∧ CR I' R' 72 σ00 V00 ∧ I' 143 1 = iI 0 ∧ I' 143 2 = iI 0 ∧ I' 143 3 = iI (-1) ∧ ∀ k, k < 3 → CR I' R' (152 + 74 * k) σ00 V00 ∧ I' (151 + 74 * k) 2 = iI 0) (f_X8_init (1, I, J, R) 0) := by
  obtain ⟨k0, k1, k72, k143, k144, l144, k145, k150, k151, l151, -⟩ := kd_st
  unfold f_X8_init
  refine n_nw k1 (hz.le (by omega)) ?_
  intro _
  refine w_cV (ring_init rg_1 (hz.le (by omega))) ?_
  rintro S ⟨I1, R1, rfl, y1, c1, p1, f1⟩
  refine n_pRo (by omega) k0 y1 ?_
  intro R2 y2 e2 f2
  refine n_nw k72 y2 ?_
  intro _
  refine w_cV (ring_init rg_72 y2) ?_
  rintro S ⟨I3, R3, rfl, y3, c3, p3, f3⟩
  refine n_pRo (by omega) k0 y3 ?_
  intro R4 y4 e4 f4
  refine n_nw k143 y4 ?_
  intro _
  refine w_cV (text_init (a := 143) ⟨k143, k144, l144⟩ y4) ?_
  rintro S ⟨I5, R5, rfl, y5, e5, t1, t2, t3, p5, f5⟩
  refine n_pRo (by omega) k0 y5 ?_
  intro R6 y6 e6 f6
  refine n_nw k145 y6 ?_
  intro _
  refine w_cV (lines_init y6) ?_
  rintro S ⟨R7, rfl, y7, m0, m1, m2, f7⟩
  refine n_pRo (by omega) k0 y7 ?_
  intro R8 y8 e8 f8
  refine n_nw k150 y8 ?_
  intro z9
  refine w_cV (Q' := fun S => S = (150, I5, J, R8)) ⟨_, rfl, rfl⟩ ?_
  rintro S rfl
  refine n_pRo (by omega) k0 z9 ?_
  intro R9 y9 e9 f9
  refine n_na k151 l151 y9 ?_
  intro z10
  refine n_pRo (by omega) k0 z10 ?_
  intro R10 y10 e10 f10
  refine n_gR (by omega) k0 e10 ?_
  refine n_ck (by omega) k151 ?_
  refine n_gR (by omega) k0 e10 ?_
  have ki0 := kd_i0 0 (by omega)
  refine n_nw ki0.1 y10 ?_
  intro _
  refine w_cV (image_init (a := 151) ki0 (rg_im 0 (by omega)) y10) ?_
  rintro S ⟨I11, R11, rfl, y11, i0a, i0b, i0c, i0z, c11, p11, f11⟩
  refine n_sRo (i := 0) rfl (by omega) k151 (by omega) (by omega) ki0.1 y11 ?_
  intro R12 y12 e12 f12
  have h05_0 : R12 0 5 = some 150 := by
    rw [f12 _ _ (by omega), f11 _ _ (by omega)]
    exact e10
  refine n_gR (by omega) k0 h05_0 ?_
  refine n_ck (by omega) k151 ?_
  refine n_gR (by omega) k0 h05_0 ?_
  have ki1 := kd_i0 1 (by omega)
  refine n_nw ki1.1 y12 ?_
  intro _
  refine w_cV (image_init (a := 225) ki1 (rg_im 1 (by omega)) y12) ?_
  rintro S ⟨I13, R13, rfl, y13, i1a, i1b, i1c, i1z, c13, p13, f13⟩
  refine n_sRo (i := 1) rfl (by omega) k151 (by omega) (by omega) ki1.1 y13 ?_
  intro R14 y14 e14 f14
  have h05_1 : R14 0 5 = some 150 := by
    rw [f14 _ _ (by omega), f13 _ _ (by omega), f12 _ _ (by omega), f11 _ _ (by omega)]
    exact e10
  refine n_gR (by omega) k0 h05_1 ?_
  refine n_ck (by omega) k151 ?_
  refine n_gR (by omega) k0 h05_1 ?_
  have ki2 := kd_i0 2 (by omega)
  refine n_nw ki2.1 y14 ?_
  intro _
  refine w_cV (image_init (a := 299) ki2 (rg_im 2 (by omega)) y14) ?_
  rintro S ⟨I15, R15, rfl, y15, i2a, i2b, i2c, i2z, c15, p15, f15⟩
  refine n_sRo (i := 2) rfl (by omega) k151 (by omega) (by omega) ki2.1 y15 ?_
  intro R16 y16 e16 f16
  have q0 : R16 0 0 = some 1 := by
    rw [f16 _ _ (by omega), f15 _ _ (by omega), f14 _ _ (by omega), f13 _ _ (by omega), f12 _ _ (by omega), f11 _ _ (by omega), f10 _ _ (by omega), f9 _ _ (by omega), f8 _ _ (by omega), f7 _ _ (by omega), f6 _ _ (by omega), f5 _ _ (by omega), f4 _ _ (by omega), f3 _ _ (by omega)]
    exact e2
  have q1 : R16 0 1 = some 72 := by
    rw [f16 _ _ (by omega), f15 _ _ (by omega), f14 _ _ (by omega), f13 _ _ (by omega), f12 _ _ (by omega), f11 _ _ (by omega), f10 _ _ (by omega), f9 _ _ (by omega), f8 _ _ (by omega), f7 _ _ (by omega), f6 _ _ (by omega), f5 _ _ (by omega)]
    exact e4
  have q2 : R16 0 2 = some 143 := by
    rw [f16 _ _ (by omega), f15 _ _ (by omega), f14 _ _ (by omega), f13 _ _ (by omega), f12 _ _ (by omega), f11 _ _ (by omega), f10 _ _ (by omega), f9 _ _ (by omega), f8 _ _ (by omega), f7 _ _ (by omega)]
    exact e6
  have q3 : R16 0 3 = some 145 := by
    rw [f16 _ _ (by omega), f15 _ _ (by omega), f14 _ _ (by omega), f13 _ _ (by omega), f12 _ _ (by omega), f11 _ _ (by omega), f10 _ _ (by omega), f9 _ _ (by omega)]
    exact e8
  have q4 : R16 0 4 = some 149 := by
    rw [f16 _ _ (by omega), f15 _ _ (by omega), f14 _ _ (by omega), f13 _ _ (by omega), f12 _ _ (by omega), f11 _ _ (by omega), f10 _ _ (by omega)]
    exact e9
  have q5 : R16 0 5 = some 150 := by
    rw [f16 _ _ (by omega), f15 _ _ (by omega), f14 _ _ (by omega), f13 _ _ (by omega), f12 _ _ (by omega), f11 _ _ (by omega)]
    exact e10
  have q6 : R16 143 0 = some 144 := by
    rw [f16 _ _ (by omega), f15 _ _ (by omega), f14 _ _ (by omega), f13 _ _ (by omega), f12 _ _ (by omega), f11 _ _ (by omega), f10 _ _ (by omega), f9 _ _ (by omega), f8 _ _ (by omega), f7 _ _ (by omega), f6 _ _ (by omega)]
    exact e5
  have q7 : R16 145 0 = some 146 := by
    rw [f16 _ _ (by omega), f15 _ _ (by omega), f14 _ _ (by omega), f13 _ _ (by omega), f12 _ _ (by omega), f11 _ _ (by omega), f10 _ _ (by omega), f9 _ _ (by omega), f8 _ _ (by omega)]
    exact m0
  have q8 : R16 145 1 = some 147 := by
    rw [f16 _ _ (by omega), f15 _ _ (by omega), f14 _ _ (by omega), f13 _ _ (by omega), f12 _ _ (by omega), f11 _ _ (by omega), f10 _ _ (by omega), f9 _ _ (by omega), f8 _ _ (by omega)]
    exact m1
  have q9 : R16 145 2 = some 148 := by
    rw [f16 _ _ (by omega), f15 _ _ (by omega), f14 _ _ (by omega), f13 _ _ (by omega), f12 _ _ (by omega), f11 _ _ (by omega), f10 _ _ (by omega), f9 _ _ (by omega), f8 _ _ (by omega)]
    exact m2
  have x0a : R16 150 0 = some 151 := by
    rw [f16 _ _ (by omega), f15 _ _ (by omega), f14 _ _ (by omega), f13 _ _ (by omega)]
    exact e12
  have x0b : R16 151 0 = some 152 := by
    rw [f16 _ _ (by omega), f15 _ _ (by omega), f14 _ _ (by omega), f13 _ _ (by omega), f12 _ _ (by omega)]
    exact i0a
  have x0c : R16 151 1 = some 223 := by
    rw [f16 _ _ (by omega), f15 _ _ (by omega), f14 _ _ (by omega), f13 _ _ (by omega), f12 _ _ (by omega)]
    exact i0b
  have x0d : R16 223 0 = some 224 := by
    rw [f16 _ _ (by omega), f15 _ _ (by omega), f14 _ _ (by omega), f13 _ _ (by omega), f12 _ _ (by omega)]
    exact i0c
  have x1a : R16 150 1 = some 225 := by
    rw [f16 _ _ (by omega), f15 _ _ (by omega)]
    exact e14
  have x1b : R16 225 0 = some 226 := by
    rw [f16 _ _ (by omega), f15 _ _ (by omega), f14 _ _ (by omega)]
    exact i1a
  have x1c : R16 225 1 = some 297 := by
    rw [f16 _ _ (by omega), f15 _ _ (by omega), f14 _ _ (by omega)]
    exact i1b
  have x1d : R16 297 0 = some 298 := by
    rw [f16 _ _ (by omega), f15 _ _ (by omega), f14 _ _ (by omega)]
    exact i1c
  have x2a : R16 150 2 = some 299 := by
    exact e16
  have x2b : R16 299 0 = some 300 := by
    rw [f16 _ _ (by omega)]
    exact i2a
  have x2c : R16 299 1 = some 371 := by
    rw [f16 _ _ (by omega)]
    exact i2b
  have x2d : R16 371 0 = some 372 := by
    rw [f16 _ _ (by omega)]
    exact i2c
  refine w_rt ⟨I15, R16, rfl, y16, ⟨q0, q1, q2, q3, q4, q5, q6, q7, q8, q9, fun k hk => ?_⟩, cr_both c1 (fun a k h1 h2 => by rw [p15 _ _ (by omega), p13 _ _ (by omega), p11 _ _ (by omega), p5 _ _ (by omega), p3 _ _ (by omega)]) (fun a k h1 h2 => by rw [f16 _ _ (by omega), f15 _ _ (by omega), f14 _ _ (by omega), f13 _ _ (by omega), f12 _ _ (by omega), f11 _ _ (by omega), f10 _ _ (by omega), f9 _ _ (by omega), f8 _ _ (by omega), f7 _ _ (by omega), f6 _ _ (by omega), f5 _ _ (by omega), f4 _ _ (by omega), f3 _ _ (by omega), f2 _ _ (by omega)]), cr_both c3 (fun a k h1 h2 => by rw [p15 _ _ (by omega), p13 _ _ (by omega), p11 _ _ (by omega), p5 _ _ (by omega)]) (fun a k h1 h2 => by rw [f16 _ _ (by omega), f15 _ _ (by omega), f14 _ _ (by omega), f13 _ _ (by omega), f12 _ _ (by omega), f11 _ _ (by omega), f10 _ _ (by omega), f9 _ _ (by omega), f8 _ _ (by omega), f7 _ _ (by omega), f6 _ _ (by omega), f5 _ _ (by omega), f4 _ _ (by omega)]), ?_, ?_, ?_, fun k hk => ?_⟩
  · rcases (show k = 0 ∨ k = 1 ∨ k = 2 by omega) with rfl | rfl | rfl
    · exact ⟨x0a, x0b, x0c, x0d⟩
    · exact ⟨x1a, x1b, x1c, x1d⟩
    · exact ⟨x2a, x2b, x2c, x2d⟩
  · rw [p15 _ _ (by omega), p13 _ _ (by omega), p11 _ _ (by omega)]
    exact t1
  · rw [p15 _ _ (by omega), p13 _ _ (by omega), p11 _ _ (by omega)]
    exact t2
  · rw [p15 _ _ (by omega), p13 _ _ (by omega), p11 _ _ (by omega)]
    exact t3
  · rcases (show k = 0 ∨ k = 1 ∨ k = 2 by omega) with rfl | rfl | rfl
    · refine ⟨cr_both c11 (fun a k h1 h2 => by rw [p15 _ _ (by omega), p13 _ _ (by omega)]) (fun a k h1 h2 => by rw [f16 _ _ (by omega), f15 _ _ (by omega), f14 _ _ (by omega), f13 _ _ (by omega), f12 _ _ (by omega)]), ?_⟩
      rw [p15 _ _ (by omega), p13 _ _ (by omega)]
      exact i0z
    · refine ⟨cr_both c13 (fun a k h1 h2 => by rw [p15 _ _ (by omega)]) (fun a k h1 h2 => by rw [f16 _ _ (by omega), f15 _ _ (by omega), f14 _ _ (by omega)]), ?_⟩
      rw [p15 _ _ (by omega)]
      exact i1z
    · refine ⟨cr_both c15 (fun _ _ _ _ => rfl) (fun a k h1 h2 => by rw [f16 _ _ (by omega)]), ?_⟩
      exact i2z
theorem ref_init (hz : Zr 373 I J R) : En (fun S => ∃ I' J' R', S = (381, I', J', R') ∧ RQ R' ∧ RMQ I' (fun p => p) V00 ∧ (∀ a k, a < 373 ∨ a = 375 ∨ a = 376 → I' a k = I a k) ∧ (∀ k, 985 ≤ k → k ≠ 987 → I' 374 k = I 374 k) ∧ I' 374 987 = iI (-1) ∧ ∀ a k, a ≠ 373 → R' a k = R a k) (f_X9_init (374, I, J, R) 373) := by
  obtain ⟨k375, l375, k376, l376, k377, l377, k378, l378, k379, l379, k380, l380, k381, l381⟩ := kd_rf
  have k374 := kd_374
  unfold f_X9_init
  refine n_na k375 l375 (hz.le (by omega)) ?_
  intro z0
  refine n_pRo (by omega) k374 z0 ?_
  intro R0 y0 e0 f0
  refine n_na k376 l376 y0 ?_
  intro z1
  refine n_pRo (by omega) k374 z1 ?_
  intro R1 y1 e1 f1
  refine n_na k377 l377 y1 ?_
  intro z2
  refine n_pRo (by omega) k374 z2 ?_
  intro R2 y2 e2 f2
  refine n_na k378 l378 y2 ?_
  intro z3
  refine n_pRo (by omega) k374 z3 ?_
  intro R3 y3 e3 f3
  refine n_na k379 l379 y3 ?_
  intro z4
  refine n_pRo (by omega) k374 z4 ?_
  intro R4 y4 e4 f4
  refine n_na k380 l380 y4 ?_
  intro z5
  refine n_pRo (by omega) k374 z5 ?_
  intro R5 y5 e5 f5
  refine n_na k381 l381 y5 ?_
  intro z6
  refine n_pRo (by omega) k374 z6 ?_
  intro R6 y6 e6 f6
  have hR : RQ R6 := by
    refine ⟨?_, ?_, ?_, ?_, ?_, ?_, e6⟩
    · rw [f6 _ _ (by omega), f5 _ _ (by omega), f4 _ _ (by omega), f3 _ _ (by omega), f2 _ _ (by omega), f1 _ _ (by omega)]
      exact e0
    · rw [f6 _ _ (by omega), f5 _ _ (by omega), f4 _ _ (by omega), f3 _ _ (by omega), f2 _ _ (by omega)]
      exact e1
    · rw [f6 _ _ (by omega), f5 _ _ (by omega), f4 _ _ (by omega), f3 _ _ (by omega)]
      exact e2
    · rw [f6 _ _ (by omega), f5 _ _ (by omega), f4 _ _ (by omega)]
      exact e3
    · rw [f6 _ _ (by omega), f5 _ _ (by omega)]
      exact e4
    · rw [f6 _ _ (by omega)]
      exact e5
  have rq1 := hR.1
  refine n_gR (by omega) k374 rq1 ?_
  refine n_sI (i := 987) (by omega) k375 (by omega) (by omega) ?_
  refine n_ck (by omega) k374 ?_
  rw [u_X9_atFirst]
  refine w_cV (Q' := fun S => S = (381, up (up (up (up I 374 (Int.toNat 987) (-1)) 373 13 (iI 3)) 373 14 (iI 16)) 373 15 (iI 1), J, R6)) ?_ ?_
  · refine n_pI (by omega) k374 ?_
    refine n_pI (by omega) k374 ?_
    refine n_pI (by omega) k374 ?_
    exact w_rt rfl
  rintro S rfl
  refine w_gI (by omega) k374 ?_
  refine w_gI (by omega) k374 ?_
  refine w_gI (by omega) k374 ?_
  refine w_ck (by omega) k374 ?_
  rw [up_ne (show ¬ (373 = 373 ∧ 13 = 15) by omega), up_ne (show ¬ (373 = 373 ∧ 13 = 14) by omega), up_eq, up_ne (show ¬ (373 = 373 ∧ 14 = 15) by omega), up_eq, up_eq]
  refine w_cV (begins_Q (J := J) (n := 3) (c := 16) (o := 1) hR (by omega)) ?_
  rintro S ⟨I2, rfl, h2⟩
  have h2 := h2 Vz
  refine w_rt ⟨I2, J, R6, rfl, hR, h2.1, fun a k ha => ?_, fun k h1 h3 => ?_, ?_, fun a k ha => ?_⟩
  · rw [h2.2.1 _ _ (by omega) (by omega), up_ne (by omega), up_ne (by omega), up_ne (by omega), up_ne (by omega)]
  · rw [h2.2.2 _ h1, up_ne (by omega), up_ne (by omega), up_ne (by omega), up_ne (show ¬ (374 = 374 ∧ k = Int.toNat 987) by omega)]
  · rw [h2.2.2 _ (by omega), up_ne (by omega), up_ne (by omega), up_ne (by omega)]
    exact up_eq _ _ _ _
  · rw [f6 _ _ (by omega), f5 _ _ (by omega), f4 _ _ (by omega), f3 _ _ (by omega), f2 _ _ (by omega), f1 _ _ (by omega), f0 _ _ (by omega)]
end NIX
/-- what holds between the calls -/
def INV (B : Int) (S : St) : Prop := ∃ (I : MI) (J : MJ) (R : MR) (σ π σs : Nat → Nat) (V Vs : RV) (T : TX) (n : Nat) (fl pl : Int), S = (381, I, J, R) ∧ RC R ∧ RQ R ∧ CR I R 1 σ V ∧ RMQ I π V ∧ WR V ∧ WN V ∧ V.2 5 6 ≤ B ∧ CR I R 72 σs Vs ∧ WR Vs ∧ TXg I 143 0 T n fl pl ∧ ∀ k, k < 3 → IMG I R B k
section INVS
variable {I I1 I2 : MI} {J J1 J2 : MJ} {R R1 : MR} {σ σ' σs σs' π π' : Nat → Nat} {V V' Vs Vs' : RV} {T T' : TX} {n n' : Nat} {fl pl fl' pl' B B' : Int}
theorem img_keep1 {k : Nat} (hB : B ≤ B') (h : IMG I R B k) (f1 : ∀ a j, 151 + 74 * k ≤ a → a ≤ 224 + 74 * k → I2 a j = I a j) (f2 : I2 376 k = I 376 k) (f3 : ∀ j, 988 * (k + 1) ≤ j → j < 988 * (k + 2) → I2 374 j = I 374 j) (f4 : ∀ j, 400 * (k + 1) ≤ j → j < 400 * (k + 2) → I2 375 j = I 375 j) (f5 : ∀ a j, 151 + 74 * k ≤ a → a ≤ 224 + 74 * k → R1 a j = R a j) : IMG I2 R1 B' k := by
  obtain ⟨σ, V, hc, hw, h⟩ := h
  refine ⟨σ, V, cr_both hc (fun a j h1 h2 => f1 _ _ (by omega) (by omega)) (fun a j h1 h2 => f5 _ _ (by omega) (by omega)), hw, ?_⟩
  rcases h with ⟨h1, h2⟩ | ⟨h1, h2, hn, hb, π, T, n, fl, pl, hq, ht⟩
  · exact Or.inl ⟨(f1 _ _ (by omega) (by omega)).trans h1, f2.trans h2⟩
  · obtain ⟨t1, t2, t3, t4, t5, t6, t7, t8, t9⟩ := ht
    have hn4 := t9.1
    exact Or.inr ⟨(f1 _ _ (by omega) (by omega)).trans h1, f2.trans h2, hn, by omega, π, T, n, fl, pl, rmq_congr hq (fun j hj => by
      rw [slI_5, slI_5]
      exact f3 _ (by omega) (by omega)), (f1 _ _ (by omega) (by omega)).trans t1, fun i hi => (f1 _ _ (by omega) (by omega)).trans (t2 i hi), (f1 _ _ (by omega) (by omega)).trans t3, (f1 _ _ (by omega) (by omega)).trans t4, (f3 _ (by omega) (by omega)).trans t5, fun i hi => by
      rw [f4 _ (by omega) (by omega)]
      exact t6 i hi, (f3 _ (by omega) (by omega)).trans t7, (f3 _ (by omega) (by omega)).trans t8, t9⟩
theorem img_keep {k : Nat} (hB : B ≤ B') (hk : k < 3) (h : IMG I R B k) (f1 : ∀ a j, 150 ≤ a → a ≤ 372 → I2 a j = I a j) (f2 : ∀ j, I2 376 j = I 376 j) (f3 : ∀ j, 988 ≤ j → j < 3952 → I2 374 j = I 374 j) (f4 : ∀ j, 400 ≤ j → I2 375 j = I 375 j) (f5 : ∀ a j, 150 ≤ a → a ≤ 372 → R1 a j = R a j) : IMG I2 R1 B' k :=
  img_keep1 hB h (fun a j h1 h2 => f1 a j (by omega) (by omega)) (f2 k) (fun j h1 h2 => f3 j (by omega) (by omega)) (fun j h1 h2 => f4 j (by omega)) (fun a j h1 h2 => f5 a j (by omega) (by omega))
theorem txg_keep (h : TXg I 143 0 T n fl pl) (f1 : ∀ a k, a = 143 ∨ a = 144 → I2 a k = I a k) (f2 : ∀ k, 985 ≤ k → k < 988 → I2 374 k = I 374 k) (f3 : ∀ k, k < 400 → I2 375 k = I 375 k) : TXg I2 143 0 T n fl pl := by
  obtain ⟨t1, t2, t3, t4, t5, t6, t7, t8, t9⟩ := h
  have hn4 := t9.1
  exact ⟨(f1 _ _ (by omega)).trans t1, fun i hi => (f1 _ _ (by omega)).trans (t2 i hi), (f1 _ _ (by omega)).trans t3, (f1 _ _ (by omega)).trans t4, (f2 _ (by omega) (by omega)).trans t5, fun i hi => by
    rw [f3 _ (by omega)]
    exact t6 i hi, (f2 _ (by omega) (by omega)).trans t7, (f2 _ (by omega) (by omega)).trans t8, t9⟩
theorem inv_act (hB : B ≤ B') (hRC : RC R) (hR : RQ R) (hcs : CR I R 72 σs Vs) (hws : WR Vs) (ht : TXg I 143 0 T n fl pl) (him : ∀ k, k < 3 → IMG I R B k) (hc1 : CR I1 R1 1 σ' V') (hF : FC 1 I I1) (hRF : RFr 1 R R1) (hq2 : RMQ I2 π' V') (hK : KR I1 I2) (hw : WR V') (hn : WN V') (hb : V'.2 5 6 ≤ B') : INV B' (381, I2, J, R1) :=
  ⟨I2, J, R1, σ', π', σs, V', Vs, T, n, fl, pl, rfl, hRC.m (Or.inl rfl) hRF, hR.m (by omega) hRF, cr_same hc1 (fun a k h1 h2 => hK.1 a k (by omega) (by omega) (by omega)), hq2, hw, hn, hb,
    cr_same (cr_far hcs (by omega) (by omega) hF hRF) (fun a k h1 h2 => hK.1 a k (by omega) (by omega) (by omega)), hws,
    txg_keep ht (fun a k ha => (hK.1 a k (by omega) (by omega) (by omega)).trans (hF a k (by omega) (by omega))) (fun k h1 h2 => (hK.2 k (by omega) (by omega)).trans (hF _ _ (by omega) (by omega))) (fun k hk => (hK.1 _ _ (by omega) (by omega) (by omega)).trans (hF _ _ (by omega) (by omega))),
    fun k hk => img_keep hB hk (him k hk) (fun a j h1 h2 => (hK.1 a j (by omega) (by omega) (by omega)).trans (hF a j (by omega) (by omega))) (fun j => (hK.1 _ _ (by omega) (by omega) (by omega)).trans (hF _ _ (by omega) (by omega))) (fun j h1 h2 => (hK.2 _ (by omega) (by omega)).trans (hF _ _ (by omega) (by omega))) (fun j h1 => (hK.1 _ _ (by omega) (by omega) (by omega)).trans (hF _ _ (by omega) (by omega))) (fun a j h1 h2 => hRF a j (by omega))⟩
theorem inv_try (hB : B ≤ B') (hRC : RC R) (hR : RQ R) (hc : CR I R 1 σ V) (hq : RMQ I π V) (hw : WR V) (hn : WN V) (hb : V.2 5 6 ≤ B') (ht : TXg I 143 0 T n fl pl) (him : ∀ k, k < 3 → IMG I R B k) (hcs1 : CR I1 R1 72 σs' Vs') (hws' : WR Vs') (hF : FC 72 I I1) (hRF : RFr 72 R R1) (hK : FB I1 I2) : INV B' (381, I2, J, R1) :=
  ⟨I2, J, R1, σ, π, σs', V, Vs', T, n, fl, pl, rfl, hRC.m (Or.inr rfl) hRF, hR.m (by omega) hRF, cr_same (cr_far hc (by omega) (by omega) hF hRF) (fun a k h1 h2 => hK.1 a k (by omega) (by omega) (by omega)), rmq_congr hq (fun k hk => (hK.2 k (by omega)).trans (hF _ _ (by omega) (by omega))), hw, hn, hb,
    cr_same hcs1 (fun a k h1 h2 => hK.1 a k (by omega) (by omega) (by omega)), hws',
    txg_keep ht (fun a k ha => (hK.1 a k (by omega) (by omega) (by omega)).trans (hF a k (by omega) (by omega))) (fun k h1 h2 => (hK.2 k (by omega)).trans (hF _ _ (by omega) (by omega))) (fun k hk => (hK.1 _ _ (by omega) (by omega) (by omega)).trans (hF _ _ (by omega) (by omega))),
    fun k hk => img_keep hB hk (him k hk) (fun a j h1 h2 => (hK.1 a j (by omega) (by omega) (by omega)).trans (hF a j (by omega) (by omega))) (fun j => (hK.1 _ _ (by omega) (by omega) (by omega)).trans (hF _ _ (by omega) (by omega))) (fun j h1 h2 => (hK.2 _ (by omega)).trans (hF _ _ (by omega) (by omega))) (fun j h1 => (hK.1 _ _ (by omega) (by omega) (by omega)).trans (hF _ _ (by omega) (by omega))) (fun a j h1 h2 => hRF a j (by omega))⟩
theorem inv_ask (hB : B ≤ B') (hRC : RC R) (hR : RQ R) (hc : CR I R 1 σ V) (hq : RMQ I π V) (hw : WR V) (hn : WN V) (hb : V.2 5 6 ≤ B') (hcs : CR I R 72 σs Vs) (hws : WR Vs) (ht : TXg I 143 0 T n fl pl) (him : ∀ k, k < 3 → IMG I R B k) (hK : FB I I2) : INV B' (381, I2, J, R) :=
  inv_try hB hRC hR hc hq hw hn hb ht him hcs hws (fun _ _ _ _ => rfl) (fun _ _ _ => rfl) hK
/-- an act on the texts too -/
theorem inv_text (hB : B ≤ B') (hRC1 : RC R1) (hR1 : RQ R1) (hc2 : CR I2 R1 1 σ' V') (hq2 : RMQ I2 π' V') (hw : WR V') (hn : WN V') (hb : V'.2 5 6 ≤ B') (hcs2 : CR I2 R1 72 σs' Vs') (hws' : WR Vs') (ht : TXg I2 143 0 T' n' fl' pl') (him : ∀ k, k < 3 → IMG I R B k) (f1 : ∀ a j, 150 ≤ a → a ≤ 372 → I2 a j = I a j) (f2 : ∀ j, I2 376 j = I 376 j) (f3 : ∀ j, 988 ≤ j → j < 3952 → I2 374 j = I 374 j) (f4 : ∀ j, 400 ≤ j → I2 375 j = I 375 j) (f5 : ∀ a j, 150 ≤ a → a ≤ 372 → R1 a j = R a j) : INV B' (381, I2, J2, R1) :=
  ⟨I2, J2, R1, σ', π', σs', V', Vs', T', n', fl', pl', rfl, hRC1, hR1, hc2, hq2, hw, hn, hb, hcs2, hws', ht, fun k hk => img_keep hB hk (him k hk) f1 f2 f3 f4 f5⟩
end INVS
