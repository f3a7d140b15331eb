/-! THE CALLS: images -/
def tpS (I : MI) (s t n : Nat) : MI := fun a k => if a = 375 ∧ 400 * t ≤ k ∧ k < 400 * t + n then vp_nar .byte (I 375 (400 * s + (k - 400 * t))) else I a k
theorem tpS_0 {I : MI} {s t : Nat} : tpS I s t 0 = I := by
  funext a k
  unfold tpS
  rw [if_neg (by omega)]
theorem tpS_up {I : MI} {s t n : Nat} : up (tpS I s t n) 375 (400 * t + n) (vp_nar .byte (I 375 (400 * s + n))) = tpS I s t (n + 1) := by
  funext a k
  unfold up tpS
  by_cases h : a = 375 ∧ k = 400 * t + n
  · rw [if_pos h, if_pos (by omega), h.2, show 400 * t + n - 400 * t = n by omega]
  · rw [if_neg h]
    by_cases h2 : a = 375 ∧ 400 * t ≤ k ∧ k < 400 * t + n
    · rw [if_pos h2, if_pos (by omega)]
    · rw [if_neg h2, if_neg (by omega)]
theorem tpS_ne {I : MI} {s t n a k : Nat} (h : ¬ (a = 375 ∧ 400 * t ≤ k ∧ k < 400 * t + n)) : tpS I s t n a k = I a k := if_neg h
theorem tpS_in {I : MI} {s t n k : Nat} (h : k < n) : tpS I s t n 375 (400 * t + k) = vp_nar .byte (I 375 (400 * s + k)) := by
  unfold tpS
  rw [if_pos (by omega), show 400 * t + k - 400 * t = k by omega]
/-- a text in both, at its places -/
def TXg (I : MI) (a s : Nat) (T : TX) (n : Nat) (fl pl : Int) : Prop := I a 1 = iI (n : Nat) ∧ (∀ i, i < n → I (a + 1) i = iI (T i)) ∧ I a 2 = iI fl ∧ I a 3 = iI pl ∧ I 374 (988 * s + 985) = iI (n : Nat) ∧ (∀ i, i < n → I 375 (400 * s + i) &&& iI 255 = iI (T i)) ∧ I 374 (988 * s + 986) = iI fl ∧ I 374 (988 * s + 987) = iI pl ∧ Tok T n
def slI (I : MI) (s : Nat) : MI := fun a k => if a = 374 then I 374 (988 * s + k) else I a k
theorem slI_5 {I : MI} {s k : Nat} : slI I s 374 k = I 374 (988 * s + k) := if_pos rfl
/-- an image -/
def IMG (I : MI) (R : MR) (B : Int) (k : Nat) : Prop := ∃ σ V, CR I R (152 + 74 * k) σ V ∧ WR V ∧ ((I (151 + 74 * k) 2 = iI 0 ∧ I 376 k = iI 0) ∨ (I (151 + 74 * k) 2 = iI 1 ∧ I 376 k = iI 1 ∧ WN V ∧ V.2 5 6 ≤ B ∧ ∃ π T n fl pl, RMQ (slI I (k + 1)) π V ∧ TXg I (223 + 74 * k) (k + 1) T n fl pl))
theorem rg_im : ∀ k, k < 3 → isRg (152 + 74 * k) := fun k hk => isRg_all _ (by
  rcases (show k = 0 ∨ k = 1 ∨ k = 2 by omega) with rfl | rfl | rfl <;> decide)
theorem kd_im : ∀ k, k < 3 → kd (151 + 74 * k) = 0 ∧ kd (223 + 74 * k) = 6 ∧ kd (223 + 74 * k + 1) = 11 ∧ ln (223 + 74 * k + 1) = 400 := by decide +kernel
theorem kd_151 : kd 150 = 14 ∧ ln 150 = 3 ∧ kd 376 = 13 ∧ ln 376 = 3 := by decide +kernel
section IMS
variable {I I0 : MI} {J : MJ} {R : MR} {α γ : Type} {Q : γ → Prop} {σ σs σk π : Nat → Nat} {V Vk : RV} {T : TX} {n a b k : Nat} {fl pl : Int}
theorem tcopy_C (ha : a < 379 ∧ kd a = 6 ∧ kd (a + 1) = 11 ∧ ln (a + 1) = 400) (hb : b < 379 ∧ kd b = 6 ∧ kd (b + 1) = 11 ∧ ln (b + 1) = 400) (ra : R a 0 = some (a + 1)) (rb : R b 0 = some (b + 1)) (hab : a + 1 < b ∨ b + 1 < a) : f_X6_copyFrom (381, I, J, R) a b = some (381, up (up (up (cpI I (b + 1) (a + 1) 400) a 1 (I b 1)) a 2 (I b 2)) a 3 (I b 3), J, R) := by
  obtain ⟨a1, a2, a3, a4⟩ := ha
  obtain ⟨b1, b2, b3, b4⟩ := hb
  refine en_eq ?_
  rw [u_X6_copyFrom]
  refine w_gR (by omega) b2 rb ?_
  refine w_gR (by omega) a2 ra ?_
  refine w_cpr (n := 400) (by omega) b3 b4 (by omega) a3 a4 ?_
  refine w_gI (by omega) b2 ?_
  refine w_pI (by omega) a2 ?_
  refine w_gI (by omega) b2 ?_
  refine w_pI (by omega) a2 ?_
  refine w_gI (by omega) b2 ?_
  refine w_pI (by omega) a2 ?_
  refine w_rt ?_
  rw [up_ne (by omega), up_ne (by omega), up_ne (by omega), cpI_ne (by omega), cpI_ne (by omega), cpI_ne (by omega)]
theorem imageOf_C {k : Int} (hRC : RC R) (hk1 : -2147483648 ≤ k) (hk2 : k < 2147483648) : f_X8_imageOf (381, I, J, R) 0 (iI k) = some (if 0 ≤ k ∧ k < 3 then some (151 + 74 * k.toNat) else none) := by
  have k0 := kd_0
  obtain ⟨k151, l151, -⟩ := kd_151
  obtain ⟨-, -, -, -, -, r5, -, -, -, -, ri⟩ := id hRC
  refine en_eq ?_
  rw [u_X8_imageOf]
  by_cases h1 : k < 0
  · rw [if_neg (by omega)]
    repeat ((first | (with_reducible first | refine w_ltA ?_ | refine w_ltS ?_ | refine w_ltM ?_ | refine w_ltN ?_ | refine w_lt ?_ | refine w_jn ?_ | refine w_ck (by omega) (by assumption) ?_ | refine w_gI (by omega) (by assumption) ?_ | refine w_gR (by omega) (by assumption) (by assumption) ?_ | refine w_al (by omega) (by assumption) (by assumption) ?_ | refine w_pI (by omega) (by assumption) ?_ | refine w_set (by omega) (by assumption) (by omega) (by omega) ?_ | refine w_at (by omega) (by assumption) (by omega) (by omega) ?_ | refine w_sI (by omega) (by assumption) (by omega) (by omega) ?_ | refine w_aI (by omega) (by assumption) (by omega) (by omega) ?_ | refine w_sZ (by omega) (by assumption) (by omega) (by omega) (by decide) ?_ | refine w_pZ (by omega) (by assumption) (by decide) ?_ | refine w_dv (by omega) (by omega) (by omega) (by omega) ?_ | refine w_rm (by omega) (by omega) (by omega) (by omega) ?_) | ((with_reducible refine w_pos ?_ ?_); focus (first | assumption | trivial | exact (ile (by omega) (by omega) (by omega) (by omega)).2 (by omega) | exact (ilt (by omega) (by omega) (by omega) (by omega)).2 (by omega) | exact (ieq (by omega) (by omega) (by omega) (by omega)).2 (by omega))) | ((with_reducible refine w_neg ?_ ?_); focus (first | assumption | exact not_false | trivial | exact mt (ile (by omega) (by omega) (by omega) (by omega)).1 (by omega) | exact mt (ilt (by omega) (by omega) (by omega) (by omega)).1 (by omega) | exact mt (ieq (by omega) (by omega) (by omega) (by omega)).1 (by omega)))); skip)
    exact w_rt rfl
  by_cases h2 : k < 3
  · have := (ri k.toNat (by omega)).1
    rw [if_pos (by omega)]
    repeat ((first | (with_reducible first | refine w_ltA ?_ | refine w_ltS ?_ | refine w_ltM ?_ | refine w_ltN ?_ | refine w_lt ?_ | refine w_jn ?_ | refine w_ck (by omega) (by assumption) ?_ | refine w_gI (by omega) (by assumption) ?_ | refine w_gR (by omega) (by assumption) (by assumption) ?_ | refine w_al (by omega) (by assumption) (by assumption) ?_ | refine w_pI (by omega) (by assumption) ?_ | refine w_set (by omega) (by assumption) (by omega) (by omega) ?_ | refine w_at (by omega) (by assumption) (by omega) (by omega) ?_ | refine w_sI (by omega) (by assumption) (by omega) (by omega) ?_ | refine w_aI (by omega) (by assumption) (by omega) (by omega) ?_ | refine w_sZ (by omega) (by assumption) (by omega) (by omega) (by decide) ?_ | refine w_pZ (by omega) (by assumption) (by decide) ?_ | refine w_dv (by omega) (by omega) (by omega) (by omega) ?_ | refine w_rm (by omega) (by omega) (by omega) (by omega) ?_) | ((with_reducible refine w_pos ?_ ?_); focus (first | assumption | trivial | exact (ile (by omega) (by omega) (by omega) (by omega)).2 (by omega) | exact (ilt (by omega) (by omega) (by omega) (by omega)).2 (by omega) | exact (ieq (by omega) (by omega) (by omega) (by omega)).2 (by omega))) | ((with_reducible refine w_neg ?_ ?_); focus (first | assumption | exact not_false | trivial | exact mt (ile (by omega) (by omega) (by omega) (by omega)).1 (by omega) | exact mt (ilt (by omega) (by omega) (by omega) (by omega)).1 (by omega) | exact mt (ieq (by omega) (by omega) (by omega) (by omega)).1 (by omega)))); skip)
    refine w_aR (by omega) k151 (by omega) (by omega) this ?_
    repeat ((first | (with_reducible first | refine w_ltA ?_ | refine w_ltS ?_ | refine w_ltM ?_ | refine w_ltN ?_ | refine w_lt ?_ | refine w_jn ?_ | refine w_ck (by omega) (by assumption) ?_ | refine w_gI (by omega) (by assumption) ?_ | refine w_gR (by omega) (by assumption) (by assumption) ?_ | refine w_al (by omega) (by assumption) (by assumption) ?_ | refine w_pI (by omega) (by assumption) ?_ | refine w_set (by omega) (by assumption) (by omega) (by omega) ?_ | refine w_at (by omega) (by assumption) (by omega) (by omega) ?_ | refine w_sI (by omega) (by assumption) (by omega) (by omega) ?_ | refine w_aI (by omega) (by assumption) (by omega) (by omega) ?_ | refine w_sZ (by omega) (by assumption) (by omega) (by omega) (by decide) ?_ | refine w_pZ (by omega) (by assumption) (by decide) ?_ | refine w_dv (by omega) (by omega) (by omega) (by omega) ?_ | refine w_rm (by omega) (by omega) (by omega) (by omega) ?_) | ((with_reducible refine w_pos ?_ ?_); focus (first | assumption | trivial | exact (ile (by omega) (by omega) (by omega) (by omega)).2 (by omega) | exact (ilt (by omega) (by omega) (by omega) (by omega)).2 (by omega) | exact (ieq (by omega) (by omega) (by omega) (by omega)).2 (by omega))) | ((with_reducible refine w_neg ?_ ?_); focus (first | assumption | exact not_false | trivial | exact mt (ile (by omega) (by omega) (by omega) (by omega)).1 (by omega) | exact mt (ilt (by omega) (by omega) (by omega) (by omega)).1 (by omega) | exact mt (ieq (by omega) (by omega) (by omega) (by omega)).1 (by omega)))); skip)
    exact w_rt rfl
  · rw [if_neg (by omega)]
    repeat ((first | (with_reducible first | refine w_ltA ?_ | refine w_ltS ?_ | refine w_ltM ?_ | refine w_ltN ?_ | refine w_lt ?_ | refine w_jn ?_ | refine w_ck (by omega) (by assumption) ?_ | refine w_gI (by omega) (by assumption) ?_ | refine w_gR (by omega) (by assumption) (by assumption) ?_ | refine w_al (by omega) (by assumption) (by assumption) ?_ | refine w_pI (by omega) (by assumption) ?_ | refine w_set (by omega) (by assumption) (by omega) (by omega) ?_ | refine w_at (by omega) (by assumption) (by omega) (by omega) ?_ | refine w_sI (by omega) (by assumption) (by omega) (by omega) ?_ | refine w_aI (by omega) (by assumption) (by omega) (by omega) ?_ | refine w_sZ (by omega) (by assumption) (by omega) (by omega) (by decide) ?_ | refine w_pZ (by omega) (by assumption) (by decide) ?_ | refine w_dv (by omega) (by omega) (by omega) (by omega) ?_ | refine w_rm (by omega) (by omega) (by omega) (by omega) ?_) | ((with_reducible refine w_pos ?_ ?_); focus (first | assumption | trivial | exact (ile (by omega) (by omega) (by omega) (by omega)).2 (by omega) | exact (ilt (by omega) (by omega) (by omega) (by omega)).2 (by omega) | exact (ieq (by omega) (by omega) (by omega) (by omega)).2 (by omega))) | ((with_reducible refine w_neg ?_ ?_); focus (first | assumption | exact not_false | trivial | exact mt (ile (by omega) (by omega) (by omega) (by omega)).1 (by omega) | exact mt (ilt (by omega) (by omega) (by omega) (by omega)).1 (by omega) | exact mt (ieq (by omega) (by omega) (by omega) (by omega)).1 (by omega)))); skip)
    exact w_rt rfl
theorem copiesText_Q {s t : Nat} (hR : RQ R) (hs : s ≤ 3) (ht : t ≤ 3) (hst : s ≠ t) : f_X9_copiesText (381, I, J, R) 373 (iI s) (iI t) = some (381, tpS (cpS I s t 988) s t 400, J, R) := by
  have k374 := kd_374
  have k376 := kd_376
  have l376 := ln_376
  have rq2 := hR.2.1
  have hcp := copies_Q (I := I) (J := J) (s := s) (t := t) hR (by omega) (by omega) hst
  refine en_eq ?_
  rw [u_X9_copiesText]
  repeat ((first | (with_reducible first | refine w_ltA ?_ | refine w_ltS ?_ | refine w_ltM ?_ | refine w_ltN ?_ | refine w_lt ?_ | refine w_jn ?_ | refine w_ck (by omega) (by assumption) ?_ | refine w_gI (by omega) (by assumption) ?_ | refine w_gR (by omega) (by assumption) (by assumption) ?_ | refine w_al (by omega) (by assumption) (by assumption) ?_ | refine w_pI (by omega) (by assumption) ?_ | refine w_set (by omega) (by assumption) (by omega) (by omega) ?_ | refine w_at (by omega) (by assumption) (by omega) (by omega) ?_ | refine w_sI (by omega) (by assumption) (by omega) (by omega) ?_ | refine w_aI (by omega) (by assumption) (by omega) (by omega) ?_ | refine w_sZ (by omega) (by assumption) (by omega) (by omega) (by decide) ?_ | refine w_pZ (by omega) (by assumption) (by decide) ?_ | refine w_dv (by omega) (by omega) (by omega) (by omega) ?_ | refine w_rm (by omega) (by omega) (by omega) (by omega) ?_) | ((with_reducible refine w_pos ?_ ?_); focus (first | assumption | trivial | exact (ile (by omega) (by omega) (by omega) (by omega)).2 (by omega) | exact (ilt (by omega) (by omega) (by omega) (by omega)).2 (by omega) | exact (ieq (by omega) (by omega) (by omega) (by omega)).2 (by omega))) | ((with_reducible refine w_neg ?_ ?_); focus (first | assumption | exact not_false | trivial | exact mt (ile (by omega) (by omega) (by omega) (by omega)).1 (by omega) | exact mt (ilt (by omega) (by omega) (by omega) (by omega)).1 (by omega) | exact mt (ieq (by omega) (by omega) (by omega) (by omega)).1 (by omega)))); skip)
  refine w_cV (Q' := fun S => S = _) ⟨_, hcp, rfl⟩ ?_
  rintro S rfl
  generalize cpS I s t 988 = I1
  refine w_lp 400 (fun j y => j ≤ 400 ∧ y = (iI (j : Int), (381, tpS I1 s t j, J, R))) ⟨by omega, by rw [tpS_0]; rfl⟩ (by rw [FU_eq]; omega) (fun i y h => h.1) ?_
  rintro j y self ⟨hj, rfl⟩ ih
  try dsimp only
  by_cases hlt : j < 400
  · repeat ((first | (with_reducible first | refine w_sB (by omega) (by assumption) (by omega) (by omega) ?_ | refine w_ltA ?_ | refine w_ltS ?_ | refine w_ltM ?_ | refine w_ltN ?_ | refine w_lt ?_ | refine w_jn ?_ | refine w_ck (by omega) (by assumption) ?_ | refine w_gI (by omega) (by assumption) ?_ | refine w_gR (by omega) (by assumption) (by assumption) ?_ | refine w_al (by omega) (by assumption) (by assumption) ?_ | refine w_pI (by omega) (by assumption) ?_ | refine w_set (by omega) (by assumption) (by omega) (by omega) ?_ | refine w_at (by omega) (by assumption) (by omega) (by omega) ?_ | refine w_sI (by omega) (by assumption) (by omega) (by omega) ?_ | refine w_aI (by omega) (by assumption) (by omega) (by omega) ?_ | refine w_sZ (by omega) (by assumption) (by omega) (by omega) (by decide) ?_ | refine w_pZ (by omega) (by assumption) (by decide) ?_ | refine w_dv (by omega) (by omega) (by omega) (by omega) ?_ | refine w_rm (by omega) (by omega) (by omega) (by omega) ?_) | ((with_reducible refine w_pos ?_ ?_); focus (first | assumption | trivial | exact (ile (by omega) (by omega) (by omega) (by omega)).2 (by omega) | exact (ilt (by omega) (by omega) (by omega) (by omega)).2 (by omega) | exact (ieq (by omega) (by omega) (by omega) (by omega)).2 (by omega))) | ((with_reducible refine w_neg ?_ ?_); focus (first | assumption | exact not_false | trivial | exact mt (ile (by omega) (by omega) (by omega) (by omega)).1 (by omega) | exact mt (ilt (by omega) (by omega) (by omega) (by omega)).1 (by omega) | exact mt (ieq (by omega) (by omega) (by omega) (by omega)).1 (by omega)))); skip)
    rw [show (400 * (t : Int) + j).toNat = 400 * t + j by omega, show (400 * (s : Int) + j).toNat = 400 * s + j by omega, tpS_ne (by omega), tpS_up, show (j : Int) + 1 = ((j + 1 : Nat) : Int) by omega]
    exact ih _ ⟨by omega, rfl⟩
  · have : j = 400 := by omega
    subst this
    repeat ((first | (with_reducible first | refine w_ltA ?_ | refine w_ltS ?_ | refine w_ltM ?_ | refine w_ltN ?_ | refine w_lt ?_ | refine w_jn ?_ | refine w_ck (by omega) (by assumption) ?_ | refine w_gI (by omega) (by assumption) ?_ | refine w_gR (by omega) (by assumption) (by assumption) ?_ | refine w_al (by omega) (by assumption) (by assumption) ?_ | refine w_pI (by omega) (by assumption) ?_ | refine w_set (by omega) (by assumption) (by omega) (by omega) ?_ | refine w_at (by omega) (by assumption) (by omega) (by omega) ?_ | refine w_sI (by omega) (by assumption) (by omega) (by omega) ?_ | refine w_aI (by omega) (by assumption) (by omega) (by omega) ?_ | refine w_sZ (by omega) (by assumption) (by omega) (by omega) (by decide) ?_ | refine w_pZ (by omega) (by assumption) (by decide) ?_ | refine w_dv (by omega) (by omega) (by omega) (by omega) ?_ | refine w_rm (by omega) (by omega) (by omega) (by omega) ?_) | ((with_reducible refine w_pos ?_ ?_); focus (first | assumption | trivial | exact (ile (by omega) (by omega) (by omega) (by omega)).2 (by omega) | exact (ilt (by omega) (by omega) (by omega) (by omega)).2 (by omega) | exact (ieq (by omega) (by omega) (by omega) (by omega)).2 (by omega))) | ((with_reducible refine w_neg ?_ ?_); focus (first | assumption | exact not_false | trivial | exact mt (ile (by omega) (by omega) (by omega) (by omega)).1 (by omega) | exact mt (ilt (by omega) (by omega) (by omega) (by omega)).1 (by omega) | exact mt (ieq (by omega) (by omega) (by omega) (by omega)).1 (by omega)))); skip)
    exact w_rt rfl
theorem image_X {k : Int} (hRC : RC R) (hc : CR I R 1 σ V) (hw : WR V) (hk1 : -2147483648 ≤ k) (hk2 : k < 2147483648) (hck : 0 ≤ k → k < 3 → CR I R (152 + 74 * k.toNat) σk Vk) : En (fun y => (¬ (0 ≤ k ∧ k < 3) ∧ y = (iI 0, (381, I, J, R))) ∨ (0 ≤ k ∧ k < 3 ∧ y.1 = iI 1 ∧ ∃ I', y.2 = (381, I', J, R) ∧ CR I' R (152 + 74 * k.toNat) σk V ∧ I' (151 + 74 * k.toNat) 2 = iI 1 ∧ I' (223 + 74 * k.toNat) 1 = I 143 1 ∧ I' (223 + 74 * k.toNat) 2 = I 143 2 ∧ I' (223 + 74 * k.toNat) 3 = I 143 3 ∧ (∀ i, i < 400 → I' (223 + 74 * k.toNat + 1) i = I 144 i) ∧ ∀ a j, ¬ (151 + 74 * k.toNat ≤ a ∧ a ≤ 224 + 74 * k.toNat) → I' a j = I a j)) (f_X8_image (381, I, J, R) 0 (iI k)) := by
  have k0 := kd_0
  have k1 := rg_1.2.1
  obtain ⟨r0, -, r2, -, -, -, r143, -, -, -, ri⟩ := id hRC
  rw [u_X8_image]
  refine w_ck (by omega) k0 ?_
  refine w_cP (imageOf_C (J := J) hRC hk1 hk2) ?_
  by_cases h : 0 ≤ k ∧ k < 3
  · rw [if_pos h]
    have hk3 : k.toNat < 3 := by omega
    have hcc := hck h.1 h.2
    obtain ⟨i1, i2, i3, i4⟩ := ri k.toNat hk3
    obtain ⟨m1, m2, m3, m4⟩ := kd_im k.toNat hk3
    have hrg := rg_im k.toNat hk3
    have krg := hrg.2.1
    have hkk : k = ((k.toNat : Nat) : Int) := by omega
    generalize k.toNat = q at *
    refine w_io1 rfl ?_
    refine w_gR (by omega) m1 i2 ?_
    refine w_gR (by omega) k0 r0 ?_
    refine w_ck (by omega) krg ?_
    refine w_cV (copy_C (J := J) hrg hcc rg_1 hc hw (by omega)) ?_
    rintro S ⟨I1, rfl, h1⟩
    refine w_gR (by omega) m1 i3 ?_
    refine w_gR (by omega) k0 r2 ?_
    refine w_ck (by omega) m2 ?_
    have htc := tcopy_C (I := I1) (J := J) (a := 223 + 74 * q) (b := 143) ⟨by omega, m2, m3, m4⟩ ⟨by omega, kd_143, kd_144, ln_144⟩ (i4.trans (congrArg some (by omega))) r143 (by omega)
    refine w_cV (Q' := fun S => S = _) ⟨_, htc, rfl⟩ ?_
    rintro S rfl
    refine w_pZ (by omega) m1 (Or.inr rfl) ?_
    refine w_rz1 (Or.inr ⟨h.1, h.2, rfl, _, rfl, cr_same h1.1 fun a j a1 a2 => ?_, up_eq _ _ _ _, ?_, ?_, ?_, fun i hi => ?_, fun a j ha => ?_⟩)
    · rw [up_ne (by omega), up_ne (by omega), up_ne (by omega), up_ne (by omega), cpI_ne (by omega)]
    · rw [up_ne (by omega), up_ne (by omega), up_ne (by omega), up_eq]
      exact h1.2.1 _ _ (by omega)
    · rw [up_ne (by omega), up_ne (by omega), up_eq]
      exact h1.2.1 _ _ (by omega)
    · rw [up_ne (by omega), up_eq]
      exact h1.2.1 _ _ (by omega)
    · rw [up_ne (by omega), up_ne (by omega), up_ne (by omega), up_ne (by omega), cpI_in hi]
      exact h1.2.1 _ _ (by omega)
    · rw [up_ne (by omega), up_ne (by omega), up_ne (by omega), up_ne (by omega), cpI_ne (by omega)]
      exact h1.2.1 _ _ (by omega)
  · rw [if_neg h]
    refine w_io0 rfl ?_
    exact w_rz0 (Or.inl ⟨h, rfl⟩)
theorem again_X {k : Int} (hRC : RC R) (hc : CR I R 1 σ V) (hk1 : -2147483648 ≤ k) (hk2 : k < 2147483648) (hck : 0 ≤ k → k < 3 → CR I R (152 + 74 * k.toNat) σk Vk ∧ WR Vk) (h01 : 0 ≤ k → k < 3 → I (151 + 74 * k.toNat) 2 = iI 0 ∨ I (151 + 74 * k.toNat) 2 = iI 1) : En (fun y => (¬ (0 ≤ k ∧ k < 3 ∧ I (151 + 74 * k.toNat) 2 = iI 1) ∧ y = (iI 0, (381, I, J, R))) ∨ (0 ≤ k ∧ k < 3 ∧ I (151 + 74 * k.toNat) 2 = iI 1 ∧ y.1 = iI 1 ∧ ∃ I', y.2 = (381, I', J, R) ∧ CR I' R 1 σ Vk ∧ I' 143 1 = I (223 + 74 * k.toNat) 1 ∧ I' 143 2 = I (223 + 74 * k.toNat) 2 ∧ I' 143 3 = I (223 + 74 * k.toNat) 3 ∧ (∀ i, i < 400 → I' 144 i = I (223 + 74 * k.toNat + 1) i) ∧ ∀ a j, ¬ (1 ≤ a ∧ a ≤ 71) → a ≠ 143 → a ≠ 144 → I' a j = I a j)) (f_X8_again (381, I, J, R) 0 (iI k)) := by
  have k0 := kd_0
  have k1 := rg_1.2.1
  obtain ⟨r0, -, r2, -, -, -, r143, -, -, -, ri⟩ := id hRC
  rw [u_X8_again]
  refine w_ck (by omega) k0 ?_
  refine w_cP (imageOf_C (J := J) hRC hk1 hk2) ?_
  by_cases h : 0 ≤ k ∧ k < 3
  · rw [if_pos h]
    have hk3 : k.toNat < 3 := by omega
    obtain ⟨hcc, hwk⟩ := hck h.1 h.2
    have h01 := h01 h.1 h.2
    obtain ⟨i1, i2, i3, i4⟩ := ri k.toNat hk3
    obtain ⟨m1, m2, m3, m4⟩ := kd_im k.toNat hk3
    have hrg := rg_im k.toNat hk3
    have krg := hrg.2.1
    have hkk : k = ((k.toNat : Nat) : Int) := by omega
    generalize k.toNat = q at *
    refine w_jn ?_
    refine w_io1 rfl ?_
    refine w_gI (by omega) m1 ?_
    rcases h01 with hs | hs
    · refine w_pos hs ?_
      refine w_rz0 (Or.inl ⟨fun hh => ?_, rfl⟩)
      rw [hs] at hh
      exact absurd hh.2.2 (by decide)
    · refine w_neg (by rw [hs]; decide) ?_
      refine w_gR (by omega) k0 r0 ?_
      refine w_gR (by omega) m1 i2 ?_
      refine w_ck (by omega) k1 ?_
      refine w_cV (copy_C (J := J) rg_1 hc hrg hcc hwk (by omega)) ?_
      rintro S ⟨I1, rfl, h1⟩
      refine w_gR (by omega) k0 r2 ?_
      refine w_gR (by omega) m1 i3 ?_
      refine w_ck (by omega) kd_143 ?_
      have htc := tcopy_C (I := I1) (J := J) (a := 143) (b := 223 + 74 * q) ⟨by omega, kd_143, kd_144, ln_144⟩ ⟨by omega, m2, m3, m4⟩ r143 (i4.trans (congrArg some (by omega))) (by omega)
      refine w_cV (Q' := fun S => S = _) ⟨_, htc, rfl⟩ ?_
      rintro S rfl
      refine w_rz1 (Or.inr ⟨h.1, h.2, hs, rfl, _, rfl, cr_same h1.1 fun a j a1 a2 => ?_, ?_, ?_, ?_, fun i hi => ?_, fun a j a1 a2 a3 => ?_⟩)
      · rw [up_ne (by omega), up_ne (by omega), up_ne (by omega), cpI_ne (by omega)]
      · rw [up_ne (by omega), up_ne (by omega), up_eq]
        exact h1.2.1 _ _ (by omega)
      · rw [up_ne (by omega), up_eq]
        exact h1.2.1 _ _ (by omega)
      · rw [up_eq]
        exact h1.2.1 _ _ (by omega)
      · rw [up_ne (by omega), up_ne (by omega), up_ne (by omega), cpI_in hi]
        exact h1.2.1 _ _ (by omega)
      · rw [up_ne (by omega), up_ne (by omega), up_ne (by omega), cpI_ne (by omega)]
        exact h1.2.1 _ _ (by omega)
  · rw [if_neg h]
    refine w_jn ?_
    refine w_io0 rfl ?_
    exact w_rz0 (Or.inl ⟨fun hh => h ⟨hh.1, hh.2.1⟩, rfl⟩)
theorem image_Y {k : Int} (hR : RQ R) (hk1 : -2147483648 ≤ k) (hk2 : k < 2147483648) : En (fun y => (¬ (0 ≤ k ∧ k < 3) ∧ y = (iI 0, (381, up I 373 0 (iI 0), J, R))) ∨ (0 ≤ k ∧ k < 3 ∧ y = (iI 1, (381, up (tpS (cpS (up I 373 0 (iI 0)) 0 (k.toNat + 1) 988) 0 (k.toNat + 1) 400) 376 k.toNat (iI 1), J, R)))) (f_X9_image (381, I, J, R) 373 (iI k)) := by
  have k374 := kd_374
  obtain ⟨-, -, k377, l377⟩ := kd_151
  have rq3 := hR.2.2.1
  rw [u_X9_image]
  refine w_pI (by omega) k374 ?_
  generalize up I 373 0 (iI 0) = I0 at *
  refine w_in (by omega) (by omega) (by omega) (fun h => ?_) (fun h => ?_)
  · have hct := copiesText_Q (I := I0) (J := J) (s := 0) (t := k.toNat + 1) hR (by omega) (by omega) (by omega)
    rw [show ((k.toNat + 1 : Nat) : Int) = k + 1 by omega] at hct
    refine w_neg (by decide) ?_
    refine w_ltA ?_
    refine w_ck (by omega) k374 ?_
    refine w_cV (Q' := fun S => S = _) ⟨_, hct, rfl⟩ ?_
    rintro S rfl
    refine w_gR (by omega) k374 rq3 ?_
    refine w_sZ (by omega) k377 (by omega) (by omega) (Or.inr rfl) ?_
    exact w_rz1 (Or.inr ⟨by omega, by omega, rfl⟩)
  · refine w_pos rfl ?_
    exact w_rz0 (Or.inl ⟨by omega, rfl⟩)
theorem again_Y {k : Int} (hR : RQ R) (hk1 : -2147483648 ≤ k) (hk2 : k < 2147483648) (h01 : 0 ≤ k → k < 3 → I 376 k.toNat = iI 0 ∨ I 376 k.toNat = iI 1) : En (fun y => (¬ (0 ≤ k ∧ k < 3 ∧ I 376 k.toNat = iI 1) ∧ y = (iI 0, (381, up I 373 0 (iI 0), J, R))) ∨ (0 ≤ k ∧ k < 3 ∧ I 376 k.toNat = iI 1 ∧ y = (iI 1, (381, tpS (cpS (up I 373 0 (iI 0)) (k.toNat + 1) 0 988) (k.toNat + 1) 0 400, J, R)))) (f_X9_again (381, I, J, R) 373 (iI k)) := by
  have k374 := kd_374
  obtain ⟨-, -, k377, l377⟩ := kd_151
  have rq3 := hR.2.2.1
  rw [u_X9_again]
  refine w_pI (by omega) k374 ?_
  have e377 : up I 373 0 (iI 0) 376 k.toNat = I 376 k.toNat := up_ne (by omega)
  generalize up I 373 0 (iI 0) = I0 at *
  refine w_in (by omega) (by omega) (by omega) (fun h => ?_) (fun h => ?_)
  · have hct := copiesText_Q (I := I0) (J := J) (s := k.toNat + 1) (t := 0) hR (by omega) (by omega) (by omega)
    rw [show ((k.toNat + 1 : Nat) : Int) = k + 1 by omega] at hct
    refine w_jn ?_
    refine w_neg (by decide) ?_
    refine w_gR (by omega) k374 rq3 ?_
    refine w_aI (by omega) k377 (by omega) (by omega) ?_
    rcases h01 h.1 (by omega) with hs | hs
    · refine w_pos (e377.trans hs) ?_
      refine w_rz0 (Or.inl ⟨fun hh => ?_, rfl⟩)
      rw [hs] at hh
      exact absurd hh.2.2 (by decide)
    · refine w_neg (by rw [e377, hs]; decide) ?_
      refine w_ltA ?_
      refine w_ck (by omega) k374 ?_
      refine w_cV (Q' := fun S => S = _) ⟨_, hct, rfl⟩ ?_
      rintro S rfl
      exact w_rz1 (Or.inr ⟨by omega, by omega, hs, rfl⟩)
  · refine w_jn ?_
    refine w_pos rfl ?_
    exact w_rz0 (Or.inl ⟨by omega, rfl⟩)
end IMS
