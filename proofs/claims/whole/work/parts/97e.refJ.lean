/-! THE REFERENCE: swap -/
theorem mto_xch {I0 I : MI} {π : Nat → Nat} {V : RV} {hd : Nat} (h : MTo I0 I π V) (hh : hd < 6) (hno : ∀ k : Nat, (k : Int) < V.2 0 15 → V.2 2 k ≠ hd ∧ 0 ≤ V.2 2 k ∧ V.2 2 k < 6) : MTo I0 (up (up I 374 (55 + hd) (iI (π 6))) 374 7 (iI (π hd))) (fun p => if p = hd then π 6 else if p = 6 then π hd else π p) (xchV V hd (V.1 6) (V.1 hd)) := by
  obtain ⟨⟨b1, b2, b3, b4, b5, b6, b7, b8, b9⟩, f1, f2⟩ := h
  have p6 := b1 6 (by omega)
  have ph := b1 hd (by omega)
  refine ⟨⟨fun p hp => ?_, fun p p' hp hp' he => ?_, fun j' hj' => ?_, ?_, ?_, fun d h1 h2 => ?_, fun k' h1 h2 => ?_, fun q hq => ?_, fun q hq => ?_⟩, fun a k' h1 h2 => ?_, fun k' hk => ?_⟩
  · have := b1 p hp
    dsimp only
    repeat' split
    all_goals assumption
  · dsimp only at he
    have h6 := fun q hq => b2 q 6 hq (by omega)
    have h6' := fun q hq => b2 6 q (by omega) hq
    have hD := fun q hq => b2 q hd hq (by omega)
    have hD' := fun q hq => b2 hd q (by omega) hq
    have := b2 p p' hp hp'
    by_cases c1 : p = hd
    · rw [if_pos c1] at he
      by_cases c2 : p' = hd
      · omega
      · rw [if_neg c2] at he
        by_cases c3 : p' = 6
        · rw [if_pos c3] at he
          have := hD' 6 (by omega) he.symm
          omega
        · rw [if_neg c3] at he
          have := h6' p' hp' he
          omega
    · rw [if_neg c1] at he
      by_cases c2 : p = 6
      · rw [if_pos c2] at he
        by_cases c3 : p' = hd
        · rw [if_pos c3] at he
          have := hD' 6 (by omega) he
          omega
        · rw [if_neg c3] at he
          by_cases c4 : p' = 6
          · omega
          · rw [if_neg c4] at he
            have := hD' p' hp' he
            omega
      · rw [if_neg c2] at he
        by_cases c3 : p' = hd
        · rw [if_pos c3] at he
          have := h6 p hp he
          omega
        · rw [if_neg c3] at he
          by_cases c4 : p' = 6
          · rw [if_pos c4] at he
            have := hD p hp he
            omega
          · rw [if_neg c4] at he
            exact this he
  · have := hj'.1
    have := hj'.2
    rw [up_ne (by omega), up_ne (by omega)]
    exact b3 j' hj'
  · rw [up_ne (by omega), up_ne (by omega)]
    exact b4
  · rw [up_eq]
    dsimp only
    rw [if_neg (by omega), if_pos rfl]
  · rw [up_ne (by omega), up_ne (by omega)]
    exact b6 d h1 h2
  · have hn := hno k' h2
    have hx := b7 k' h1 h2
    rw [up_ne (by omega), up_ne (by omega), up_ne (by omega), up_ne (by omega), up_ne (by omega), up_ne (by omega)]
    dsimp only
    have e2 : (xchV V hd (V.1 6) (V.1 hd)).2 2 k' = V.2 2 k' := rfl
    rw [e2, if_neg (by omega), if_neg (by omega)]
    exact hx
  · by_cases c1 : q = hd
    · rw [up_ne (by omega), c1, up_eq]
      dsimp only
      rw [if_pos rfl]
    · rw [up_ne (by omega), up_ne (by omega)]
      dsimp only
      rw [if_neg c1, if_neg (by omega)]
      exact b8 q hq
  · have hc : ∀ P b, PM I (61 + 132 * b) P → PM (up (up I 374 (55 + hd) (iI (π 6))) 374 7 (iI (π hd))) (61 + 132 * b) P := fun P b hP => pm_congr hP fun k h1 h2 => by rw [up_ne (by omega), up_ne (by omega)]
    show PM _ (61 + 132 * (if q = hd then π 6 else if q = 6 then π hd else π q)) (if q = hd then V.1 6 else if q = 6 then V.1 hd else V.1 q)
    by_cases c1 : q = hd
    · rw [if_pos c1, if_pos c1]
      exact hc _ _ (b9 6 (by omega))
    · rw [if_neg c1, if_neg c1]
      by_cases c2 : q = 6
      · rw [if_pos c2, if_pos c2]
        exact hc _ _ (b9 hd (by omega))
      · rw [if_neg c2, if_neg c2]
        exact hc _ _ (b9 q hq)
  · rw [up_ne (by omega), up_ne (by omega)]
    exact f1 a k' h1 h2
  · rw [up_ne (by omega), up_ne (by omega)]
    exact f2 k' hk
section RFJ
variable {I I0 : MI} {J : MJ} {R : MR} {π : Nat → Nat} {γ : Type} {Q : γ → Prop} {V : RV} {P k i f n l m : Int} {x : Int32}
theorem behind_R {c p : Int} (hR : RQ R) (m0 : I 374 (Int.toNat 0) = iI c) (hc : 2 ≤ c ∧ c ≤ 6) (hp : 0 ≤ p ∧ p < c) : f_X9_behind (381, I, J, R) 373 (iI p) = some (iI (if p + 1 = c then 0 else p + 1)) := by
  have k374 := kd_374
  have k375 := kd_375
  have l375 := ln_375
  have rq1 := hR.1
  refine en_eq ?_
  rw [u_X9_behind]
  by_cases h : p + 1 = c
  · rw [if_pos h]
    repeat ((first | (with_reducible first | refine w_ltA ?_ | refine w_ltS ?_ | refine w_ltM ?_ | refine w_ltN ?_ | refine w_lt ?_ | refine w_jn ?_ | refine w_ck (by omega) (by assumption) ?_ | refine w_gI (by omega) (by assumption) ?_ | refine w_gR (by omega) (by assumption) (by assumption) ?_ | refine w_al (by omega) (by assumption) (by assumption) ?_ | refine w_pI (by omega) (by assumption) ?_ | refine w_set (by omega) (by assumption) (by omega) (by omega) ?_ | refine w_at (by omega) (by assumption) (by omega) (by omega) ?_ | refine w_sI (by omega) (by assumption) (by omega) (by omega) ?_ | refine w_aI (by omega) (by assumption) (by omega) (by omega) ?_ | refine w_sZ (by omega) (by assumption) (by omega) (by omega) (by decide) ?_ | refine w_pZ (by omega) (by assumption) (by decide) ?_ | refine w_dv (by omega) (by omega) (by omega) (by omega) ?_ | refine w_rm (by omega) (by omega) (by omega) (by omega) ?_) | ((with_reducible refine w_pos ?_ ?_); focus (first | assumption | trivial | exact (ile (by omega) (by omega) (by omega) (by omega)).2 (by omega) | exact (ilt (by omega) (by omega) (by omega) (by omega)).2 (by omega) | exact (ieq (by omega) (by omega) (by omega) (by omega)).2 (by omega))) | ((with_reducible refine w_neg ?_ ?_); focus (first | assumption | exact not_false | trivial | exact mt (ile (by omega) (by omega) (by omega) (by omega)).1 (by omega) | exact mt (ilt (by omega) (by omega) (by omega) (by omega)).1 (by omega) | exact mt (ieq (by omega) (by omega) (by omega) (by omega)).1 (by omega)))); try simp (disch := omega) only [m0])
    exact w_rt rfl
  · rw [if_neg h]
    repeat ((first | (with_reducible first | refine w_ltA ?_ | refine w_ltS ?_ | refine w_ltM ?_ | refine w_ltN ?_ | refine w_lt ?_ | refine w_jn ?_ | refine w_ck (by omega) (by assumption) ?_ | refine w_gI (by omega) (by assumption) ?_ | refine w_gR (by omega) (by assumption) (by assumption) ?_ | refine w_al (by omega) (by assumption) (by assumption) ?_ | refine w_pI (by omega) (by assumption) ?_ | refine w_set (by omega) (by assumption) (by omega) (by omega) ?_ | refine w_at (by omega) (by assumption) (by omega) (by omega) ?_ | refine w_sI (by omega) (by assumption) (by omega) (by omega) ?_ | refine w_aI (by omega) (by assumption) (by omega) (by omega) ?_ | refine w_sZ (by omega) (by assumption) (by omega) (by omega) (by decide) ?_ | refine w_pZ (by omega) (by assumption) (by decide) ?_ | refine w_dv (by omega) (by omega) (by omega) (by omega) ?_ | refine w_rm (by omega) (by omega) (by omega) (by omega) ?_) | ((with_reducible refine w_pos ?_ ?_); focus (first | assumption | trivial | exact (ile (by omega) (by omega) (by omega) (by omega)).2 (by omega) | exact (ilt (by omega) (by omega) (by omega) (by omega)).2 (by omega) | exact (ieq (by omega) (by omega) (by omega) (by omega)).2 (by omega))) | ((with_reducible refine w_neg ?_ ?_); focus (first | assumption | exact not_false | trivial | exact mt (ile (by omega) (by omega) (by omega) (by omega)).1 (by omega) | exact mt (ilt (by omega) (by omega) (by omega) (by omega)).1 (by omega) | exact mt (ieq (by omega) (by omega) (by omega) (by omega)).1 (by omega)))); try simp (disch := omega) only [m0])
    exact w_rt rfl
theorem swp_comm : (if V.2 0 13 ≤ 1 then upG (upG (xchV (upP (upG V 5 10 (V.2 5 10 + recF (V.1 6) (V.2 0 7).toNat)) 6 (clP (V.1 6))) (V.2 0 12).toNat (clP (V.1 6)) (V.1 (V.2 0 12).toNat)) 0 7 0) 5 14 (V.2 5 14 + 1) else upG (upG (upG (upG (xchV (upP (upG V 5 10 (V.2 5 10 + recF (V.1 6) (V.2 0 7).toNat)) 6 (clP (V.1 6))) (V.2 0 12).toNat (clP (V.1 6)) (V.1 (V.2 0 12).toNat)) 0 7 0) 0 12 (plc V 1)) 0 13 (V.2 0 13 - 1)) 5 14 (V.2 5 14 + 1)) = swp3 V := by
  have e1 : ∀ p, (if p = (V.2 0 12).toNat then clP (V.1 6) else if p = 6 then V.1 (V.2 0 12).toNat else if p = 6 then clP (V.1 6) else V.1 p) = if p = (V.2 0 12).toNat then clP (V.1 6) else if p = 6 then V.1 (V.2 0 12).toNat else V.1 p := fun p => by
    by_cases c1 : p = (V.2 0 12).toNat
    · rw [if_pos c1, if_pos c1]
    · rw [if_neg c1, if_neg c1]
      by_cases c2 : p = 6
      · rw [if_pos c2, if_pos c2]
      · rw [if_neg c2, if_neg c2, if_neg c2]
  unfold swp3
  by_cases h : V.2 0 13 ≤ 1
  · rw [if_pos h, if_pos h]
    refine Prod.ext (funext e1) ?_
    funext a b
    show (if a = 5 ∧ b = 14 then V.2 5 14 + 1 else if a = 0 ∧ b = 7 then 0 else if a = 5 ∧ b = 10 then _ else V.2 a b) = (if a = 0 ∧ b = 7 then 0 else if a = 5 ∧ b = 14 then V.2 5 14 + 1 else if a = 5 ∧ b = 10 then _ else V.2 a b)
    by_cases c1 : a = 0 ∧ b = 7
    · rw [if_neg (by omega), if_pos c1, if_pos c1]
    · rw [if_neg c1, if_neg c1]
  · rw [if_neg h, if_neg h]
    refine Prod.ext (funext e1) ?_
    funext a b
    show (if a = 5 ∧ b = 14 then V.2 5 14 + 1 else if a = 0 ∧ b = 13 then _ else if a = 0 ∧ b = 12 then _ else if a = 0 ∧ b = 7 then 0 else if a = 5 ∧ b = 10 then _ else V.2 a b) = (if a = 0 ∧ b = 13 then _ else if a = 0 ∧ b = 12 then _ else if a = 0 ∧ b = 7 then 0 else if a = 5 ∧ b = 14 then V.2 5 14 + 1 else if a = 5 ∧ b = 10 then _ else V.2 a b)
    by_cases c1 : a = 5 ∧ b = 14
    · rw [if_pos c1, if_neg (by omega), if_neg (by omega), if_neg (by omega), if_pos c1]
    · rw [if_neg c1, if_neg c1]
theorem swapped_Q (hR : RQ R) (h : MTo I0 I π V) (hw : WR V) (hf : f = 0 ∨ f = 1) : En (fun y => y.1 = iI (swpV V f).1 ∧ ∃ I' π', y.2 = (381, I', J, R) ∧ MTo I0 I' π' (swpV V f).2) (f_X9_swapped (381, I, J, R) 373 (iI f)) := by
  have hq := h.1
  have hb0 := hw.1
  unfold WB at hb0
  have hpa := pageAt_Q (J := J) hR hq (p := V.2 0 12) ⟨by omega, by omega⟩
  have hop := isOpenIn_Q (J := J) (p := (V.2 0 12).toNat) hR hq hw (by omega)
  rw [show (((V.2 0 12).toNat : Nat) : Int) = V.2 0 12 by omega] at hop
  have hpl := hq.l (p := (V.2 0 12).toNat) (by omega)
  have hp6 := hq.l (p := 6) (by omega)
  have hPh := hq.g (p := (V.2 0 12).toNat) (by omega)
  have huh := pm_u hPh
  have hw6 := hw.2.1 6 (by omega)
  have hwh := hw.2.1 (V.2 0 12).toNat (by omega)
  have w86 := hw6.1
  have w9h := hwh.2.2.1
  have w8h := hwh.1
  have htl : plc V (V.2 0 13 - 1) = V.2 0 12 ↔ V.2 0 13 ≤ 1 := by
    unfold plc
    split <;> omega
  have hplb := plc_live hw.1 (k := V.2 0 13 - 1) (by omega) (by omega)
  have k374 := kd_374
  have k375 := kd_375
  have l375 := ln_375
  have k381 := kd_381
  have l381 := ln_381
  have hR0 := hR
  obtain ⟨rq1, rq2, rq3, rq12, rq16, rq17, rq19⟩ := hR
  have m0 : I 374 (Int.toNat 0) = iI (V.2 0 8) := hq.s 0 (by decide)
  have m1 : I 374 (Int.toNat 1) = iI (V.2 0 9) := hq.s 1 (by decide)
  have m2 : I 374 (Int.toNat 2) = iI (V.2 0 10) := hq.s 2 (by decide)
  have m3 : I 374 (Int.toNat 3) = iI (V.2 0 11) := hq.s 3 (by decide)
  have m4 : I 374 (Int.toNat 4) = iI (V.2 0 12) := hq.s 4 (by decide)
  have m5 : I 374 (Int.toNat 5) = iI (plc V (V.2 0 13 - 1)) := hq.t
  have m6 : I 374 (Int.toNat 6) = iI (V.2 0 15) := hq.s 6 (by decide)
  have m7 : I 374 (Int.toNat 7) = iI (π 6) := hq.r
  have m8 : I 374 (Int.toNat 8) = iI (V.2 0 7) := hq.s 8 (by decide)
  have m9 : I 374 (Int.toNat 9) = iI (V.2 0 14) := hq.s 9 (by decide)
  have hbb := hw.1
  unfold WB at hbb
  rw [u_X9_swapped]
  unfold swpV
  repeat ((first | (with_reducible first | refine w_ltA ?_ | refine w_ltS ?_ | refine w_ltM ?_ | refine w_ltN ?_ | refine w_lt ?_ | refine w_jn ?_ | refine w_ck (by omega) (by assumption) ?_ | refine w_gI (by omega) (by assumption) ?_ | refine w_gR (by omega) (by assumption) (by assumption) ?_ | refine w_al (by omega) (by assumption) (by assumption) ?_ | refine w_pI (by omega) (by assumption) ?_ | refine w_set (by omega) (by assumption) (by omega) (by omega) ?_ | refine w_at (by omega) (by assumption) (by omega) (by omega) ?_ | refine w_sI (by omega) (by assumption) (by omega) (by omega) ?_ | refine w_aI (by omega) (by assumption) (by omega) (by omega) ?_ | refine w_sZ (by omega) (by assumption) (by omega) (by omega) (by decide) ?_ | refine w_pZ (by omega) (by assumption) (by decide) ?_ | refine w_dv (by omega) (by omega) (by omega) (by omega) ?_ | refine w_rm (by omega) (by omega) (by omega) (by omega) ?_) | ((with_reducible refine w_pos ?_ ?_); focus (first | assumption | trivial | exact (ile (by omega) (by omega) (by omega) (by omega)).2 (by omega) | exact (ilt (by omega) (by omega) (by omega) (by omega)).2 (by omega) | exact (ieq (by omega) (by omega) (by omega) (by omega)).2 (by omega))) | ((with_reducible refine w_neg ?_ ?_); focus (first | assumption | exact not_false | trivial | exact mt (ile (by omega) (by omega) (by omega) (by omega)).1 (by omega) | exact mt (ilt (by omega) (by omega) (by omega) (by omega)).1 (by omega) | exact mt (ieq (by omega) (by omega) (by omega) (by omega)).1 (by omega)))); try simp (disch := omega) only [m4, m5])
  refine w_cP hpa ?_
  repeat (first | with_reducible refine w_jnP (fun x => x = if V.2 0 13 ≤ 1 then iI 1 else iI 0) ?_ ?_ | ((first | (with_reducible first | refine w_ltA ?_ | refine w_ltS ?_ | refine w_ltM ?_ | refine w_ltN ?_ | refine w_lt ?_ | refine w_jn ?_ | refine w_ck (by omega) (by assumption) ?_ | refine w_gI (by omega) (by assumption) ?_ | refine w_gR (by omega) (by assumption) (by assumption) ?_ | refine w_al (by omega) (by assumption) (by assumption) ?_ | refine w_pI (by omega) (by assumption) ?_ | refine w_set (by omega) (by assumption) (by omega) (by omega) ?_ | refine w_at (by omega) (by assumption) (by omega) (by omega) ?_ | refine w_sI (by omega) (by assumption) (by omega) (by omega) ?_ | refine w_aI (by omega) (by assumption) (by omega) (by omega) ?_ | refine w_sZ (by omega) (by assumption) (by omega) (by omega) (by decide) ?_ | refine w_pZ (by omega) (by assumption) (by decide) ?_ | refine w_dv (by omega) (by omega) (by omega) (by omega) ?_ | refine w_rm (by omega) (by omega) (by omega) (by omega) ?_) | ((with_reducible refine w_pos ?_ ?_); focus (first | assumption | trivial | exact (ile (by omega) (by omega) (by omega) (by omega)).2 (by omega) | exact (ilt (by omega) (by omega) (by omega) (by omega)).2 (by omega) | exact (ieq (by omega) (by omega) (by omega) (by omega)).2 (by omega))) | ((with_reducible refine w_neg ?_ ?_); focus (first | assumption | exact not_false | trivial | exact mt (ile (by omega) (by omega) (by omega) (by omega)).1 (by omega) | exact mt (ilt (by omega) (by omega) (by omega) (by omega)).1 (by omega) | exact mt (ieq (by omega) (by omega) (by omega) (by omega)).1 (by omega)))); try simp (disch := omega) only [m4, m5]))
  · rintro x rfl
    repeat ((first | (with_reducible first | refine w_ltA ?_ | refine w_ltS ?_ | refine w_ltM ?_ | refine w_ltN ?_ | refine w_lt ?_ | refine w_jn ?_ | refine w_ck (by omega) (by assumption) ?_ | refine w_gI (by omega) (by assumption) ?_ | refine w_gR (by omega) (by assumption) (by assumption) ?_ | refine w_al (by omega) (by assumption) (by assumption) ?_ | refine w_pI (by omega) (by assumption) ?_ | refine w_set (by omega) (by assumption) (by omega) (by omega) ?_ | refine w_at (by omega) (by assumption) (by omega) (by omega) ?_ | refine w_sI (by omega) (by assumption) (by omega) (by omega) ?_ | refine w_aI (by omega) (by assumption) (by omega) (by omega) ?_ | refine w_sZ (by omega) (by assumption) (by omega) (by omega) (by decide) ?_ | refine w_pZ (by omega) (by assumption) (by decide) ?_ | refine w_dv (by omega) (by omega) (by omega) (by omega) ?_ | refine w_rm (by omega) (by omega) (by omega) (by omega) ?_) | ((with_reducible refine w_pos ?_ ?_); focus (first | assumption | trivial | exact (ile (by omega) (by omega) (by omega) (by omega)).2 (by omega) | exact (ilt (by omega) (by omega) (by omega) (by omega)).2 (by omega) | exact (ieq (by omega) (by omega) (by omega) (by omega)).2 (by omega))) | ((with_reducible refine w_neg ?_ ?_); focus (first | assumption | exact not_false | trivial | exact mt (ile (by omega) (by omega) (by omega) (by omega)).1 (by omega) | exact mt (ilt (by omega) (by omega) (by omega) (by omega)).1 (by omega) | exact mt (ieq (by omega) (by omega) (by omega) (by omega)).1 (by omega)))); try simp (disch := omega) only [m4, m5])
    refine w_cP hop ?_
    with_reducible refine w_jnP (fun _ => ¬ hadV V f) ?_ ?_
    · intro _ hno
      rw [if_neg hno]
      exact w_rt ⟨rfl, I, π, rfl, h⟩
    · intro j10 hj10
      by_cases ho : opIn V (V.2 0 12) = true
      · rw [if_pos ho]
        have hno : ¬ hadV V f := by
          rintro (hh | hh)
          · have := op_no (V := V) (p := V.2 0 12) (by omega)
            rw [ho] at this
            cases this
          · rw [ho] at hh
            cases hh.2
        repeat ((first | (with_reducible first | refine w_ltA ?_ | refine w_ltS ?_ | refine w_ltM ?_ | refine w_ltN ?_ | refine w_lt ?_ | refine w_jn ?_ | refine w_ck (by omega) (by assumption) ?_ | refine w_gI (by omega) (by assumption) ?_ | refine w_gR (by omega) (by assumption) (by assumption) ?_ | refine w_al (by omega) (by assumption) (by assumption) ?_ | refine w_pI (by omega) (by assumption) ?_ | refine w_set (by omega) (by assumption) (by omega) (by omega) ?_ | refine w_at (by omega) (by assumption) (by omega) (by omega) ?_ | refine w_sI (by omega) (by assumption) (by omega) (by omega) ?_ | refine w_aI (by omega) (by assumption) (by omega) (by omega) ?_ | refine w_sZ (by omega) (by assumption) (by omega) (by omega) (by decide) ?_ | refine w_pZ (by omega) (by assumption) (by decide) ?_ | refine w_dv (by omega) (by omega) (by omega) (by omega) ?_ | refine w_rm (by omega) (by omega) (by omega) (by omega) ?_) | ((with_reducible refine w_pos ?_ ?_); focus (first | assumption | trivial | exact (ile (by omega) (by omega) (by omega) (by omega)).2 (by omega) | exact (ilt (by omega) (by omega) (by omega) (by omega)).2 (by omega) | exact (ieq (by omega) (by omega) (by omega) (by omega)).2 (by omega))) | ((with_reducible refine w_neg ?_ ?_); focus (first | assumption | exact not_false | trivial | exact mt (ile (by omega) (by omega) (by omega) (by omega)).1 (by omega) | exact mt (ilt (by omega) (by omega) (by omega) (by omega)).1 (by omega) | exact mt (ieq (by omega) (by omega) (by omega) (by omega)).1 (by omega)))); try simp (disch := omega) only [m4, m5])
        exact hj10 _ hno
      · have hof : opIn V (V.2 0 12) = false := by
          cases hx : opIn V (V.2 0 12)
          · rfl
          · exact absurd hx ho
        rw [if_neg ho]
        ((first | (with_reducible first | refine w_ltA ?_ | refine w_ltS ?_ | refine w_ltM ?_ | refine w_ltN ?_ | refine w_lt ?_ | refine w_jn ?_ | refine w_ck (by omega) (by assumption) ?_ | refine w_gI (by omega) (by assumption) ?_ | refine w_gR (by omega) (by assumption) (by assumption) ?_ | refine w_al (by omega) (by assumption) (by assumption) ?_ | refine w_pI (by omega) (by assumption) ?_ | refine w_set (by omega) (by assumption) (by omega) (by omega) ?_ | refine w_at (by omega) (by assumption) (by omega) (by omega) ?_ | refine w_sI (by omega) (by assumption) (by omega) (by omega) ?_ | refine w_aI (by omega) (by assumption) (by omega) (by omega) ?_ | refine w_sZ (by omega) (by assumption) (by omega) (by omega) (by decide) ?_ | refine w_pZ (by omega) (by assumption) (by decide) ?_ | refine w_dv (by omega) (by omega) (by omega) (by omega) ?_ | refine w_rm (by omega) (by omega) (by omega) (by omega) ?_) | ((with_reducible refine w_pos ?_ ?_); focus (first | assumption | trivial | exact (ile (by omega) (by omega) (by omega) (by omega)).2 (by omega) | exact (ilt (by omega) (by omega) (by omega) (by omega)).2 (by omega) | exact (ieq (by omega) (by omega) (by omega) (by omega)).2 (by omega))) | ((with_reducible refine w_neg ?_ ?_); focus (first | assumption | exact not_false | trivial | exact mt (ile (by omega) (by omega) (by omega) (by omega)).1 (by omega) | exact mt (ilt (by omega) (by omega) (by omega) (by omega)).1 (by omega) | exact mt (ieq (by omega) (by omega) (by omega) (by omega)).1 (by omega)))); skip)
        with_reducible refine w_jnP (fun _ => hadV V f) ?_ ?_
        · intro _ hyes
          have hno := had_no hw hyes
          rw [if_pos hyes]
          have hw3 := wr_swp3 hw hyes
          have m14 : I 374 (Int.toNat 14) = iI (V.2 5 10) := hq.s 14 (by decide)
          repeat ((first | (with_reducible first | refine w_ltA ?_ | refine w_ltS ?_ | refine w_ltM ?_ | refine w_ltN ?_ | refine w_lt ?_ | refine w_jn ?_ | refine w_ck (by omega) (by assumption) ?_ | refine w_gI (by omega) (by assumption) ?_ | refine w_gR (by omega) (by assumption) (by assumption) ?_ | refine w_al (by omega) (by assumption) (by assumption) ?_ | refine w_pI (by omega) (by assumption) ?_ | refine w_set (by omega) (by assumption) (by omega) (by omega) ?_ | refine w_at (by omega) (by assumption) (by omega) (by omega) ?_ | refine w_sI (by omega) (by assumption) (by omega) (by omega) ?_ | refine w_aI (by omega) (by assumption) (by omega) (by omega) ?_ | refine w_sZ (by omega) (by assumption) (by omega) (by omega) (by decide) ?_ | refine w_pZ (by omega) (by assumption) (by decide) ?_ | refine w_dv (by omega) (by omega) (by omega) (by omega) ?_ | refine w_rm (by omega) (by omega) (by omega) (by omega) ?_) | ((with_reducible refine w_pos ?_ ?_); focus (first | assumption | trivial | exact (ile (by omega) (by omega) (by omega) (by omega)).2 (by omega) | exact (ilt (by omega) (by omega) (by omega) (by omega)).2 (by omega) | exact (ieq (by omega) (by omega) (by omega) (by omega)).2 (by omega))) | ((with_reducible refine w_neg ?_ ?_); focus (first | assumption | exact not_false | trivial | exact mt (ile (by omega) (by omega) (by omega) (by omega)).1 (by omega) | exact mt (ilt (by omega) (by omega) (by omega) (by omega)).1 (by omega) | exact mt (ieq (by omega) (by omega) (by omega) (by omega)).1 (by omega)))); try simp (disch := omega) only [m7, m8])
          refine w_lp (V.1 6 0 8 - V.2 0 7).toNat (fun q y => q ≤ (V.1 6 0 8 - V.2 0 7).toNat ∧ ∃ I1, y = (iI (V.2 0 7 + q), (381, I1, J, R)) ∧ MTo I0 I1 π (upG V 5 10 (V.2 5 10 + (cnt (isR (V.1 6)) ((V.2 0 7).toNat + q) - cnt (isR (V.1 6)) (V.2 0 7).toNat)))) ⟨by omega, I, ?_, ?_⟩ (by rw [FU_eq]; omega) (fun i y h => h.1) ?_
          · show _ = (iI (V.2 0 7 + 0), _)
            rw [Int.add_zero]
          · rw [Nat.add_zero, Int.sub_self, Int.add_zero, upG_same rfl]
            exact h
          rintro q y self ⟨hqq, I1, rfl, g1⟩ ih
          try dsimp only
          have hP1 := g1.1.g (p := 6) (by omega)
          have n3 := pm_n hP1
          rw [upG_1] at n3
          have n14 : I1 374 (Int.toNat 14) = iI (V.2 5 10 + (cnt (isR (V.1 6)) ((V.2 0 7).toNat + q) - cnt (isR (V.1 6)) (V.2 0 7).toNat)) := by
            have := g1.1.s 14 (by decide)
            rw [show sg 14 = (5, 10) from rfl, upG_eq] at this
            exact this
          by_cases hn : q < (V.1 6 0 8 - V.2 0 7).toNat
          · have hx : I1 374 (61 + 132 * (π 6 : Int) + (36 + 6 * (V.2 0 7 + (q : Int)) + 0)).toNat = iI (V.1 6 8 (V.2 0 7 + (q : Int)).toNat) := pm_i hP1 (by omega) (by rw [upG_1]; omega) (by omega) (by omega)
            have h8 := hw6.2.2.2.2.2.2.2 (V.2 0 7 + (q : Int)).toNat (by omega)
            repeat (first | with_reducible refine w_jnP (fun x => x = iI (if V.1 6 8 (V.2 0 7 + (q : Int)).toNat = 0 then 1 else 0)) ?_ ?_ | ((first | (with_reducible first | refine w_of hR0 (by omega) (by omega) ?_ | refine w_it hR0 (by omega) (by omega) (by omega) ?_ | refine w_ltA ?_ | refine w_ltS ?_ | refine w_ltM ?_ | refine w_ltN ?_ | refine w_lt ?_ | refine w_jn ?_ | refine w_ck (by omega) (by assumption) ?_ | refine w_gI (by omega) (by assumption) ?_ | refine w_gR (by omega) (by assumption) (by assumption) ?_ | refine w_al (by omega) (by assumption) (by assumption) ?_ | refine w_pI (by omega) (by assumption) ?_ | refine w_set (by omega) (by assumption) (by omega) (by omega) ?_ | refine w_at (by omega) (by assumption) (by omega) (by omega) ?_ | refine w_sI (by omega) (by assumption) (by omega) (by omega) ?_ | refine w_aI (by omega) (by assumption) (by omega) (by omega) ?_ | refine w_sZ (by omega) (by assumption) (by omega) (by omega) (by decide) ?_ | refine w_pZ (by omega) (by assumption) (by decide) ?_ | refine w_dv (by omega) (by omega) (by omega) (by omega) ?_ | refine w_rm (by omega) (by omega) (by omega) (by omega) ?_) | ((with_reducible refine w_pos ?_ ?_); focus (first | assumption | trivial | exact (ile (by omega) (by omega) (by omega) (by omega)).2 (by omega) | exact (ilt (by omega) (by omega) (by omega) (by omega)).2 (by omega) | exact (ieq (by omega) (by omega) (by omega) (by omega)).2 (by omega))) | ((with_reducible refine w_neg ?_ ?_); focus (first | assumption | exact not_false | trivial | exact mt (ile (by omega) (by omega) (by omega) (by omega)).1 (by omega) | exact mt (ilt (by omega) (by omega) (by omega) (by omega)).1 (by omega) | exact mt (ieq (by omega) (by omega) (by omega) (by omega)).1 (by omega)))); try simp (disch := omega) only [n3, n14, hx]))
            · rintro x rfl
              have g2 := mto_s g1 14 (g := 5) (k := 10) rfl (V.2 5 10 + (cnt (isR (V.1 6)) ((V.2 0 7).toNat + q) - cnt (isR (V.1 6)) (V.2 0 7).toNat) + (if V.1 6 8 (V.2 0 7 + (q : Int)).toNat = 0 then 1 else 0)) (by decide) (by decide)
              repeat ((first | (with_reducible first | refine w_of hR0 (by omega) (by omega) ?_ | refine w_it hR0 (by omega) (by omega) (by omega) ?_ | refine w_ltA ?_ | refine w_ltS ?_ | refine w_ltM ?_ | refine w_ltN ?_ | refine w_lt ?_ | refine w_jn ?_ | refine w_ck (by omega) (by assumption) ?_ | refine w_gI (by omega) (by assumption) ?_ | refine w_gR (by omega) (by assumption) (by assumption) ?_ | refine w_al (by omega) (by assumption) (by assumption) ?_ | refine w_pI (by omega) (by assumption) ?_ | refine w_set (by omega) (by assumption) (by omega) (by omega) ?_ | refine w_at (by omega) (by assumption) (by omega) (by omega) ?_ | refine w_sI (by omega) (by assumption) (by omega) (by omega) ?_ | refine w_aI (by omega) (by assumption) (by omega) (by omega) ?_ | refine w_sZ (by omega) (by assumption) (by omega) (by omega) (by decide) ?_ | refine w_pZ (by omega) (by assumption) (by decide) ?_ | refine w_dv (by omega) (by omega) (by omega) (by omega) ?_ | refine w_rm (by omega) (by omega) (by omega) (by omega) ?_) | ((with_reducible refine w_pos ?_ ?_); focus (first | assumption | trivial | exact (ile (by omega) (by omega) (by omega) (by omega)).2 (by omega) | exact (ilt (by omega) (by omega) (by omega) (by omega)).2 (by omega) | exact (ieq (by omega) (by omega) (by omega) (by omega)).2 (by omega))) | ((with_reducible refine w_neg ?_ ?_); focus (first | assumption | exact not_false | trivial | exact mt (ile (by omega) (by omega) (by omega) (by omega)).1 (by omega) | exact mt (ilt (by omega) (by omega) (by omega) (by omega)).1 (by omega) | exact mt (ieq (by omega) (by omega) (by omega) (by omega)).1 (by omega)))); skip)
              have eq1 : V.2 0 7 + (q : Int) + 1 = V.2 0 7 + ((q + 1 : Nat) : Int) := by omega
              rw [eq1]
              refine ih _ ⟨by omega, _, rfl, ?_⟩
              have e2 : upG (upG V 5 10 (V.2 5 10 + (cnt (isR (V.1 6)) ((V.2 0 7).toNat + q) - cnt (isR (V.1 6)) (V.2 0 7).toNat))) 5 10 (V.2 5 10 + (cnt (isR (V.1 6)) ((V.2 0 7).toNat + q) - cnt (isR (V.1 6)) (V.2 0 7).toNat) + (if V.1 6 8 (V.2 0 7 + (q : Int)).toNat = 0 then 1 else 0)) = upG V 5 10 (V.2 5 10 + (cnt (isR (V.1 6)) ((V.2 0 7).toNat + (q + 1)) - cnt (isR (V.1 6)) (V.2 0 7).toNat)) := by
                have e3 : cnt (isR (V.1 6)) ((V.2 0 7).toNat + (q + 1)) = cnt (isR (V.1 6)) ((V.2 0 7).toNat + q) + (if V.1 6 8 (V.2 0 7 + (q : Int)).toNat = 0 then 1 else 0) := by
                  show cnt _ _ + (if decide (V.1 6 8 ((V.2 0 7).toNat + q) = 0) = true then 1 else 0) = _
                  rw [show (V.2 0 7 + (q : Int)).toNat = (V.2 0 7).toNat + q by omega]
                  congr 1
                  by_cases hz : V.1 6 8 ((V.2 0 7).toNat + q) = 0
                  · rw [if_pos hz, if_pos (by rw [decide_eq_true hz])]
                  · rw [if_neg hz, if_neg (by rw [decide_eq_false hz]; decide)]
                refine Prod.ext rfl ?_
                funext a b
                show (if a = 5 ∧ b = 10 then _ else if a = 5 ∧ b = 10 then _ else V.2 a b) = if a = 5 ∧ b = 10 then _ else V.2 a b
                by_cases hz : a = 5 ∧ b = 10
                · rw [if_pos hz, if_pos hz, e3]
                  omega
                · rw [if_neg hz, if_neg hz, if_neg hz]
              rw [e2] at g2
              exact g2
            · intro jx hjx
              by_cases hz : V.1 6 8 (V.2 0 7 + (q : Int)).toNat = 0
              · rw [if_pos hz] at hjx
                repeat ((first | (with_reducible first | refine w_of hR0 (by omega) (by omega) ?_ | refine w_it hR0 (by omega) (by omega) (by omega) ?_ | refine w_ltA ?_ | refine w_ltS ?_ | refine w_ltM ?_ | refine w_ltN ?_ | refine w_lt ?_ | refine w_jn ?_ | refine w_ck (by omega) (by assumption) ?_ | refine w_gI (by omega) (by assumption) ?_ | refine w_gR (by omega) (by assumption) (by assumption) ?_ | refine w_al (by omega) (by assumption) (by assumption) ?_ | refine w_pI (by omega) (by assumption) ?_ | refine w_set (by omega) (by assumption) (by omega) (by omega) ?_ | refine w_at (by omega) (by assumption) (by omega) (by omega) ?_ | refine w_sI (by omega) (by assumption) (by omega) (by omega) ?_ | refine w_aI (by omega) (by assumption) (by omega) (by omega) ?_ | refine w_sZ (by omega) (by assumption) (by omega) (by omega) (by decide) ?_ | refine w_pZ (by omega) (by assumption) (by decide) ?_ | refine w_dv (by omega) (by omega) (by omega) (by omega) ?_ | refine w_rm (by omega) (by omega) (by omega) (by omega) ?_) | ((with_reducible refine w_pos ?_ ?_); focus (first | assumption | trivial | exact (ile (by omega) (by omega) (by omega) (by omega)).2 (by omega) | exact (ilt (by omega) (by omega) (by omega) (by omega)).2 (by omega) | exact (ieq (by omega) (by omega) (by omega) (by omega)).2 (by omega))) | ((with_reducible refine w_neg ?_ ?_); focus (first | assumption | exact not_false | trivial | exact mt (ile (by omega) (by omega) (by omega) (by omega)).1 (by omega) | exact mt (ilt (by omega) (by omega) (by omega) (by omega)).1 (by omega) | exact mt (ieq (by omega) (by omega) (by omega) (by omega)).1 (by omega)))); skip)
                exact hjx _ rfl
              · rw [if_neg hz] at hjx
                repeat ((first | (with_reducible first | refine w_of hR0 (by omega) (by omega) ?_ | refine w_it hR0 (by omega) (by omega) (by omega) ?_ | refine w_ltA ?_ | refine w_ltS ?_ | refine w_ltM ?_ | refine w_ltN ?_ | refine w_lt ?_ | refine w_jn ?_ | refine w_ck (by omega) (by assumption) ?_ | refine w_gI (by omega) (by assumption) ?_ | refine w_gR (by omega) (by assumption) (by assumption) ?_ | refine w_al (by omega) (by assumption) (by assumption) ?_ | refine w_pI (by omega) (by assumption) ?_ | refine w_set (by omega) (by assumption) (by omega) (by omega) ?_ | refine w_at (by omega) (by assumption) (by omega) (by omega) ?_ | refine w_sI (by omega) (by assumption) (by omega) (by omega) ?_ | refine w_aI (by omega) (by assumption) (by omega) (by omega) ?_ | refine w_sZ (by omega) (by assumption) (by omega) (by omega) (by decide) ?_ | refine w_pZ (by omega) (by assumption) (by decide) ?_ | refine w_dv (by omega) (by omega) (by omega) (by omega) ?_ | refine w_rm (by omega) (by omega) (by omega) (by omega) ?_) | ((with_reducible refine w_pos ?_ ?_); focus (first | assumption | trivial | exact (ile (by omega) (by omega) (by omega) (by omega)).2 (by omega) | exact (ilt (by omega) (by omega) (by omega) (by omega)).2 (by omega) | exact (ieq (by omega) (by omega) (by omega) (by omega)).2 (by omega))) | ((with_reducible refine w_neg ?_ ?_); focus (first | assumption | exact not_false | trivial | exact mt (ile (by omega) (by omega) (by omega) (by omega)).1 (by omega) | exact mt (ilt (by omega) (by omega) (by omega) (by omega)).1 (by omega) | exact mt (ieq (by omega) (by omega) (by omega) (by omega)).1 (by omega)))); skip)
                exact hjx _ rfl
          · have hqe : (V.2 0 7).toNat + q = (V.1 6 0 8).toNat := by omega
            rw [hqe] at g1
            have g1 : MTo I0 I1 π (upG V 5 10 (V.2 5 10 + recF (V.1 6) (V.2 0 7).toNat)) := g1
            repeat ((first | (with_reducible first | refine w_of hR0 (by omega) (by omega) ?_ | refine w_it hR0 (by omega) (by omega) (by omega) ?_ | refine w_ltA ?_ | refine w_ltS ?_ | refine w_ltM ?_ | refine w_ltN ?_ | refine w_lt ?_ | refine w_jn ?_ | refine w_ck (by omega) (by assumption) ?_ | refine w_gI (by omega) (by assumption) ?_ | refine w_gR (by omega) (by assumption) (by assumption) ?_ | refine w_al (by omega) (by assumption) (by assumption) ?_ | refine w_pI (by omega) (by assumption) ?_ | refine w_set (by omega) (by assumption) (by omega) (by omega) ?_ | refine w_at (by omega) (by assumption) (by omega) (by omega) ?_ | refine w_sI (by omega) (by assumption) (by omega) (by omega) ?_ | refine w_aI (by omega) (by assumption) (by omega) (by omega) ?_ | refine w_sZ (by omega) (by assumption) (by omega) (by omega) (by decide) ?_ | refine w_pZ (by omega) (by assumption) (by decide) ?_ | refine w_dv (by omega) (by omega) (by omega) (by omega) ?_ | refine w_rm (by omega) (by omega) (by omega) (by omega) ?_) | ((with_reducible refine w_pos ?_ ?_); focus (first | assumption | trivial | exact (ile (by omega) (by omega) (by omega) (by omega)).2 (by omega) | exact (ilt (by omega) (by omega) (by omega) (by omega)).2 (by omega) | exact (ieq (by omega) (by omega) (by omega) (by omega)).2 (by omega))) | ((with_reducible refine w_neg ?_ ?_); focus (first | assumption | exact not_false | trivial | exact mt (ile (by omega) (by omega) (by omega) (by omega)).1 (by omega) | exact mt (ilt (by omega) (by omega) (by omega) (by omega)).1 (by omega) | exact mt (ieq (by omega) (by omega) (by omega) (by omega)).1 (by omega)))); try simp (disch := omega) only [n3])
            refine w_cV (empties_Q (J := J) (p := 6) hR0 g1 (by omega)) ?_
            rintro S ⟨I2, rfl, g2⟩
            have v4 : I2 374 (Int.toNat 4) = iI (V.2 0 12) := g2.1.s 4 (by decide)
            have v17 : I2 374 (Int.toNat 17) = iI (V.2 5 14) := g2.1.s 17 (by decide)
            have g3 := mto_xch (hd := (V.2 0 12).toNat) g2 (by omega) (fun k hk => by
              have h1 := hno k hk
              have h2 := hw.o (k := k) hk
              have e2 : (upP (upG V 5 10 (V.2 5 10 + recF (V.1 6) (V.2 0 7).toNat)) 6 (clP ((upG V 5 10 (V.2 5 10 + recF (V.1 6) (V.2 0 7).toNat)).1 6))).2 2 k = V.2 2 k := rfl
              rw [e2]
              omega)
            have g4 := mto_s g3 8 (g := 0) (k := 7) rfl 0 (by decide) (by decide)
            have e55 : (55 + V.2 0 12).toNat = 55 + (V.2 0 12).toNat := by omega
            have exx : upG (xchV (upP (upG V 5 10 (V.2 5 10 + recF (V.1 6) (V.2 0 7).toNat)) 6 (clP ((upG V 5 10 (V.2 5 10 + recF (V.1 6) (V.2 0 7).toNat)).1 6))) (V.2 0 12).toNat ((upP (upG V 5 10 (V.2 5 10 + recF (V.1 6) (V.2 0 7).toNat)) 6 (clP ((upG V 5 10 (V.2 5 10 + recF (V.1 6) (V.2 0 7).toNat)).1 6))).1 6) ((upP (upG V 5 10 (V.2 5 10 + recF (V.1 6) (V.2 0 7).toNat)) 6 (clP ((upG V 5 10 (V.2 5 10 + recF (V.1 6) (V.2 0 7).toNat)).1 6))).1 (V.2 0 12).toNat)) 0 7 0 = upG (xchV (upP (upG V 5 10 (V.2 5 10 + recF (V.1 6) (V.2 0 7).toNat)) 6 (clP (V.1 6))) (V.2 0 12).toNat (clP (V.1 6)) (V.1 (V.2 0 12).toNat)) 0 7 0 := by
              have a1 : (upP (upG V 5 10 (V.2 5 10 + recF (V.1 6) (V.2 0 7).toNat)) 6 (clP ((upG V 5 10 (V.2 5 10 + recF (V.1 6) (V.2 0 7).toNat)).1 6))).1 6 = clP (V.1 6) := rfl
              have a2 : (upP (upG V 5 10 (V.2 5 10 + recF (V.1 6) (V.2 0 7).toNat)) 6 (clP ((upG V 5 10 (V.2 5 10 + recF (V.1 6) (V.2 0 7).toNat)).1 6))).1 (V.2 0 12).toNat = V.1 (V.2 0 12).toNat := by
                show (if (V.2 0 12).toNat = 6 then _ else _) = _
                rw [if_neg (by omega)]
                rfl
              rw [a1, a2, upG_1]
            rw [exx] at g4
            repeat (first | with_reducible refine w_jnP (fun x => x = if V.2 0 13 ≤ 1 then iI (V.2 0 12) else iI (plc V 1)) ?_ ?_ | ((first | (with_reducible first | refine w_ltA ?_ | refine w_ltS ?_ | refine w_ltM ?_ | refine w_ltN ?_ | refine w_lt ?_ | refine w_jn ?_ | refine w_ck (by omega) (by assumption) ?_ | refine w_gI (by omega) (by assumption) ?_ | refine w_gR (by omega) (by assumption) (by assumption) ?_ | refine w_al (by omega) (by assumption) (by assumption) ?_ | refine w_pI (by omega) (by assumption) ?_ | refine w_set (by omega) (by assumption) (by omega) (by omega) ?_ | refine w_at (by omega) (by assumption) (by omega) (by omega) ?_ | refine w_sI (by omega) (by assumption) (by omega) (by omega) ?_ | refine w_aI (by omega) (by assumption) (by omega) (by omega) ?_ | refine w_sZ (by omega) (by assumption) (by omega) (by omega) (by decide) ?_ | refine w_pZ (by omega) (by assumption) (by decide) ?_ | refine w_dv (by omega) (by omega) (by omega) (by omega) ?_ | refine w_rm (by omega) (by omega) (by omega) (by omega) ?_) | ((with_reducible refine w_pos ?_ ?_); focus (first | assumption | trivial | exact (ile (by omega) (by omega) (by omega) (by omega)).2 (by omega) | exact (ilt (by omega) (by omega) (by omega) (by omega)).2 (by omega) | exact (ieq (by omega) (by omega) (by omega) (by omega)).2 (by omega))) | ((with_reducible refine w_neg ?_ ?_); focus (first | assumption | exact not_false | trivial | exact mt (ile (by omega) (by omega) (by omega) (by omega)).1 (by omega) | exact mt (ilt (by omega) (by omega) (by omega) (by omega)).1 (by omega) | exact mt (ieq (by omega) (by omega) (by omega) (by omega)).1 (by omega)))); try simp (disch := omega) only [v4, e55, up_ne]))
            · rintro x rfl
              have hsx : (fun p => if p = (V.2 0 12).toNat then π 6 else if p = 6 then π (V.2 0 12).toNat else π p) 6 = π (V.2 0 12).toNat := by
                dsimp only
                rw [if_neg (by omega), if_pos rfl]
              have fin : ∀ I6 π', π' 6 = π (V.2 0 12).toNat → MTo I0 I6 π' (swp3 V) → En (fun y => y.1 = iI (recs (V.1 (V.2 0 12).toNat)) ∧ ∃ I' π', y.2 = (381, I', J, R) ∧ MTo I0 I' π' (swp3 V)) (ck_ (381, I6, J, R) 373 9 (cP_ (f_X9_recordsIn (381, I6, J, R) 373 (iI (π (V.2 0 12).toNat)) (iI 0)) fun v35 => rt_ (v35, (381, I6, J, R)))) := by
                intro I6 π' hπ g6
                have e1 : (swp3 V).1 6 = V.1 (V.2 0 12).toNat := by
                  unfold swp3
                  split
                  · rw [swp2_p, if_neg (by omega), if_pos rfl]
                  · rw [upG_1, upG_1, swp2_p, if_neg (by omega), if_pos rfl]
                have hre := recordsIn_Q (J := J) (p := 6) (g := 0) hR0 g6.1 hw3 (by omega) (Or.inl rfl)
                rw [← recs_is, e1, hπ] at hre
                repeat ((first | (with_reducible first | refine w_ltA ?_ | refine w_ltS ?_ | refine w_ltM ?_ | refine w_ltN ?_ | refine w_lt ?_ | refine w_jn ?_ | refine w_ck (by omega) (by assumption) ?_ | refine w_gI (by omega) (by assumption) ?_ | refine w_gR (by omega) (by assumption) (by assumption) ?_ | refine w_al (by omega) (by assumption) (by assumption) ?_ | refine w_pI (by omega) (by assumption) ?_ | refine w_set (by omega) (by assumption) (by omega) (by omega) ?_ | refine w_at (by omega) (by assumption) (by omega) (by omega) ?_ | refine w_sI (by omega) (by assumption) (by omega) (by omega) ?_ | refine w_aI (by omega) (by assumption) (by omega) (by omega) ?_ | refine w_sZ (by omega) (by assumption) (by omega) (by omega) (by decide) ?_ | refine w_pZ (by omega) (by assumption) (by decide) ?_ | refine w_dv (by omega) (by omega) (by omega) (by omega) ?_ | refine w_rm (by omega) (by omega) (by omega) (by omega) ?_) | ((with_reducible refine w_pos ?_ ?_); focus (first | assumption | trivial | exact (ile (by omega) (by omega) (by omega) (by omega)).2 (by omega) | exact (ilt (by omega) (by omega) (by omega) (by omega)).2 (by omega) | exact (ieq (by omega) (by omega) (by omega) (by omega)).2 (by omega))) | ((with_reducible refine w_neg ?_ ?_); focus (first | assumption | exact not_false | trivial | exact mt (ile (by omega) (by omega) (by omega) (by omega)).1 (by omega) | exact mt (ilt (by omega) (by omega) (by omega) (by omega)).1 (by omega) | exact mt (ieq (by omega) (by omega) (by omega) (by omega)).1 (by omega)))); skip)
                refine w_cP hre ?_
                exact w_rt ⟨rfl, I6, π', rfl, g6⟩
              have hcomm := swp_comm (V := V)
              by_cases hl : V.2 0 13 ≤ 1
              · rw [if_pos hl] at hcomm ⊢
                have g5 := mto_same (j := 4) (x := iI (V.2 0 12)) g4 (by
                  have := g4.1.s 4 (by decide)
                  exact this)
                have g6 := mto_s g5 17 (g := 5) (k := 14) rfl (V.2 5 14 + 1) (by decide) (by decide)
                rw [hcomm] at g6
                repeat (first | exact fin _ _ hsx g6 | ((first | (with_reducible first | refine w_ltA ?_ | refine w_ltS ?_ | refine w_ltM ?_ | refine w_ltN ?_ | refine w_lt ?_ | refine w_jn ?_ | refine w_ck (by omega) (by assumption) ?_ | refine w_gI (by omega) (by assumption) ?_ | refine w_gR (by omega) (by assumption) (by assumption) ?_ | refine w_al (by omega) (by assumption) (by assumption) ?_ | refine w_pI (by omega) (by assumption) ?_ | refine w_set (by omega) (by assumption) (by omega) (by omega) ?_ | refine w_at (by omega) (by assumption) (by omega) (by omega) ?_ | refine w_sI (by omega) (by assumption) (by omega) (by omega) ?_ | refine w_aI (by omega) (by assumption) (by omega) (by omega) ?_ | refine w_sZ (by omega) (by assumption) (by omega) (by omega) (by decide) ?_ | refine w_pZ (by omega) (by assumption) (by decide) ?_ | refine w_dv (by omega) (by omega) (by omega) (by omega) ?_ | refine w_rm (by omega) (by omega) (by omega) (by omega) ?_) | ((with_reducible refine w_pos ?_ ?_); focus (first | assumption | trivial | exact (ile (by omega) (by omega) (by omega) (by omega)).2 (by omega) | exact (ilt (by omega) (by omega) (by omega) (by omega)).2 (by omega) | exact (ieq (by omega) (by omega) (by omega) (by omega)).2 (by omega))) | ((with_reducible refine w_neg ?_ ?_); focus (first | assumption | exact not_false | trivial | exact mt (ile (by omega) (by omega) (by omega) (by omega)).1 (by omega) | exact mt (ilt (by omega) (by omega) (by omega) (by omega)).1 (by omega) | exact mt (ieq (by omega) (by omega) (by omega) (by omega)).1 (by omega)))); try simp (disch := omega) only [v4, e55, up_ne, v17]))
              · rw [if_neg hl] at hcomm ⊢
                have g5 := mto_ht (I' := up (up (up (up I2 374 (55 + (V.2 0 12).toNat) (iI (π 6))) 374 7 (iI (π (V.2 0 12).toNat))) 374 8 (iI 0)) 374 4 (iI (plc V 1))) (hd := plc V 1) (lv := V.2 0 13 - 1) (tl := plc V (V.2 0 13 - 1)) g4 (fun j j4 j5 => up_ne (fun h => j4 h.2)) (fun a k ha => up_ne (fun h => ha h.1)) (up_eq _ _ _ _) (by rw [up_ne (by omega)]; exact g4.1.t) (by
                  unfold plc
                  rw [upG_ne (by omega), upG_ne (by omega), upG_ne (g' := 0) (k' := 12) (by omega), upG_eq, upG_ne (by omega)]
                  show (if V.2 0 8 ≤ _ then _ - V.2 0 8 else _) = _
                  split <;> split <;> split <;> omega)
                have g6 := mto_s g5 17 (g := 5) (k := 14) rfl (V.2 5 14 + 1) (by decide) (by decide)
                rw [hcomm] at g6
                repeat (first | exact fin _ _ hsx g6 | ((first | (with_reducible first | refine w_ltA ?_ | refine w_ltS ?_ | refine w_ltM ?_ | refine w_ltN ?_ | refine w_lt ?_ | refine w_jn ?_ | refine w_ck (by omega) (by assumption) ?_ | refine w_gI (by omega) (by assumption) ?_ | refine w_gR (by omega) (by assumption) (by assumption) ?_ | refine w_al (by omega) (by assumption) (by assumption) ?_ | refine w_pI (by omega) (by assumption) ?_ | refine w_set (by omega) (by assumption) (by omega) (by omega) ?_ | refine w_at (by omega) (by assumption) (by omega) (by omega) ?_ | refine w_sI (by omega) (by assumption) (by omega) (by omega) ?_ | refine w_aI (by omega) (by assumption) (by omega) (by omega) ?_ | refine w_sZ (by omega) (by assumption) (by omega) (by omega) (by decide) ?_ | refine w_pZ (by omega) (by assumption) (by decide) ?_ | refine w_dv (by omega) (by omega) (by omega) (by omega) ?_ | refine w_rm (by omega) (by omega) (by omega) (by omega) ?_) | ((with_reducible refine w_pos ?_ ?_); focus (first | assumption | trivial | exact (ile (by omega) (by omega) (by omega) (by omega)).2 (by omega) | exact (ilt (by omega) (by omega) (by omega) (by omega)).2 (by omega) | exact (ieq (by omega) (by omega) (by omega) (by omega)).2 (by omega))) | ((with_reducible refine w_neg ?_ ?_); focus (first | assumption | exact not_false | trivial | exact mt (ile (by omega) (by omega) (by omega) (by omega)).1 (by omega) | exact mt (ilt (by omega) (by omega) (by omega) (by omega)).1 (by omega) | exact mt (ieq (by omega) (by omega) (by omega) (by omega)).1 (by omega)))); try simp (disch := omega) only [v4, e55, up_ne, v17]))
            · intro jx hjx
              have c0 := g2.1.s 0 (by decide)
              by_cases hl : V.2 0 13 ≤ 1
              · rw [if_pos hl] at hjx ⊢
                repeat ((first | (with_reducible first | refine w_ltA ?_ | refine w_ltS ?_ | refine w_ltM ?_ | refine w_ltN ?_ | refine w_lt ?_ | refine w_jn ?_ | refine w_ck (by omega) (by assumption) ?_ | refine w_gI (by omega) (by assumption) ?_ | refine w_gR (by omega) (by assumption) (by assumption) ?_ | refine w_al (by omega) (by assumption) (by assumption) ?_ | refine w_pI (by omega) (by assumption) ?_ | refine w_set (by omega) (by assumption) (by omega) (by omega) ?_ | refine w_at (by omega) (by assumption) (by omega) (by omega) ?_ | refine w_sI (by omega) (by assumption) (by omega) (by omega) ?_ | refine w_aI (by omega) (by assumption) (by omega) (by omega) ?_ | refine w_sZ (by omega) (by assumption) (by omega) (by omega) (by decide) ?_ | refine w_pZ (by omega) (by assumption) (by decide) ?_ | refine w_dv (by omega) (by omega) (by omega) (by omega) ?_ | refine w_rm (by omega) (by omega) (by omega) (by omega) ?_) | ((with_reducible refine w_pos ?_ ?_); focus (first | assumption | trivial | exact (ile (by omega) (by omega) (by omega) (by omega)).2 (by omega) | exact (ilt (by omega) (by omega) (by omega) (by omega)).2 (by omega) | exact (ieq (by omega) (by omega) (by omega) (by omega)).2 (by omega))) | ((with_reducible refine w_neg ?_ ?_); focus (first | assumption | exact not_false | trivial | exact mt (ile (by omega) (by omega) (by omega) (by omega)).1 (by omega) | exact mt (ilt (by omega) (by omega) (by omega) (by omega)).1 (by omega) | exact mt (ieq (by omega) (by omega) (by omega) (by omega)).1 (by omega)))); try simp (disch := omega) only [v4, e55, up_ne])
                exact hjx _ rfl
              · rw [if_neg hl] at hjx ⊢
                have hbe := behind_R (J := J) (I := up (up (up I2 374 (55 + (V.2 0 12).toNat) (iI (π 6))) 374 (Int.toNat 7) (iI (π (V.2 0 12).toNat))) 374 (Int.toNat 8) (iI 0)) (c := V.2 0 8) (p := V.2 0 12) hR0 (by rw [up_ne (by omega), up_ne (by omega), up_ne (by omega)]; exact c0) (by omega) (by omega)
                have ep : (if V.2 0 12 + 1 = V.2 0 8 then 0 else V.2 0 12 + 1) = plc V 1 := by
                  unfold plc
                  split <;> split <;> omega
                rw [ep] at hbe
                repeat ((first | (with_reducible first | refine w_ltA ?_ | refine w_ltS ?_ | refine w_ltM ?_ | refine w_ltN ?_ | refine w_lt ?_ | refine w_jn ?_ | refine w_ck (by omega) (by assumption) ?_ | refine w_gI (by omega) (by assumption) ?_ | refine w_gR (by omega) (by assumption) (by assumption) ?_ | refine w_al (by omega) (by assumption) (by assumption) ?_ | refine w_pI (by omega) (by assumption) ?_ | refine w_set (by omega) (by assumption) (by omega) (by omega) ?_ | refine w_at (by omega) (by assumption) (by omega) (by omega) ?_ | refine w_sI (by omega) (by assumption) (by omega) (by omega) ?_ | refine w_aI (by omega) (by assumption) (by omega) (by omega) ?_ | refine w_sZ (by omega) (by assumption) (by omega) (by omega) (by decide) ?_ | refine w_pZ (by omega) (by assumption) (by decide) ?_ | refine w_dv (by omega) (by omega) (by omega) (by omega) ?_ | refine w_rm (by omega) (by omega) (by omega) (by omega) ?_) | ((with_reducible refine w_pos ?_ ?_); focus (first | assumption | trivial | exact (ile (by omega) (by omega) (by omega) (by omega)).2 (by omega) | exact (ilt (by omega) (by omega) (by omega) (by omega)).2 (by omega) | exact (ieq (by omega) (by omega) (by omega) (by omega)).2 (by omega))) | ((with_reducible refine w_neg ?_ ?_); focus (first | assumption | exact not_false | trivial | exact mt (ile (by omega) (by omega) (by omega) (by omega)).1 (by omega) | exact mt (ilt (by omega) (by omega) (by omega) (by omega)).1 (by omega) | exact mt (ieq (by omega) (by omega) (by omega) (by omega)).1 (by omega)))); try simp (disch := omega) only [v4, e55, up_ne])
                refine w_cP hbe ?_
                exact hjx _ rfl
        · intro j11 hj11
          by_cases hl : V.2 0 13 ≤ 1
          · rw [if_pos hl]
            by_cases hf0 : f = 0
            · repeat ((first | (with_reducible first | refine w_of hR0 (by omega) (by omega) ?_ | refine w_ltA ?_ | refine w_ltS ?_ | refine w_ltM ?_ | refine w_ltN ?_ | refine w_lt ?_ | refine w_jn ?_ | refine w_ck (by omega) (by assumption) ?_ | refine w_gI (by omega) (by assumption) ?_ | refine w_gR (by omega) (by assumption) (by assumption) ?_ | refine w_al (by omega) (by assumption) (by assumption) ?_ | refine w_pI (by omega) (by assumption) ?_ | refine w_set (by omega) (by assumption) (by omega) (by omega) ?_ | refine w_at (by omega) (by assumption) (by omega) (by omega) ?_ | refine w_sI (by omega) (by assumption) (by omega) (by omega) ?_ | refine w_aI (by omega) (by assumption) (by omega) (by omega) ?_ | refine w_sZ (by omega) (by assumption) (by omega) (by omega) (by decide) ?_ | refine w_pZ (by omega) (by assumption) (by decide) ?_ | refine w_dv (by omega) (by omega) (by omega) (by omega) ?_ | refine w_rm (by omega) (by omega) (by omega) (by omega) ?_) | ((with_reducible refine w_pos ?_ ?_); focus (first | assumption | trivial | exact (ile (by omega) (by omega) (by omega) (by omega)).2 (by omega) | exact (ilt (by omega) (by omega) (by omega) (by omega)).2 (by omega) | exact (ieq (by omega) (by omega) (by omega) (by omega)).2 (by omega))) | ((with_reducible refine w_neg ?_ ?_); focus (first | assumption | exact not_false | trivial | exact mt (ile (by omega) (by omega) (by omega) (by omega)).1 (by omega) | exact mt (ilt (by omega) (by omega) (by omega) (by omega)).1 (by omega) | exact mt (ieq (by omega) (by omega) (by omega) (by omega)).1 (by omega)))); try simp (disch := omega) only [huh, m6])
              exact hj10 _ (by rintro (hh | hh); exact hh.2.1 hf0; exact hh.1 hl)
            · by_cases hu0 : V.1 (V.2 0 12).toNat 0 9 = 0
              · repeat ((first | (with_reducible first | refine w_of hR0 (by omega) (by omega) ?_ | refine w_ltA ?_ | refine w_ltS ?_ | refine w_ltM ?_ | refine w_ltN ?_ | refine w_lt ?_ | refine w_jn ?_ | refine w_ck (by omega) (by assumption) ?_ | refine w_gI (by omega) (by assumption) ?_ | refine w_gR (by omega) (by assumption) (by assumption) ?_ | refine w_al (by omega) (by assumption) (by assumption) ?_ | refine w_pI (by omega) (by assumption) ?_ | refine w_set (by omega) (by assumption) (by omega) (by omega) ?_ | refine w_at (by omega) (by assumption) (by omega) (by omega) ?_ | refine w_sI (by omega) (by assumption) (by omega) (by omega) ?_ | refine w_aI (by omega) (by assumption) (by omega) (by omega) ?_ | refine w_sZ (by omega) (by assumption) (by omega) (by omega) (by decide) ?_ | refine w_pZ (by omega) (by assumption) (by decide) ?_ | refine w_dv (by omega) (by omega) (by omega) (by omega) ?_ | refine w_rm (by omega) (by omega) (by omega) (by omega) ?_) | ((with_reducible refine w_pos ?_ ?_); focus (first | assumption | trivial | exact (ile (by omega) (by omega) (by omega) (by omega)).2 (by omega) | exact (ilt (by omega) (by omega) (by omega) (by omega)).2 (by omega) | exact (ieq (by omega) (by omega) (by omega) (by omega)).2 (by omega))) | ((with_reducible refine w_neg ?_ ?_); focus (first | assumption | exact not_false | trivial | exact mt (ile (by omega) (by omega) (by omega) (by omega)).1 (by omega) | exact mt (ilt (by omega) (by omega) (by omega) (by omega)).1 (by omega) | exact mt (ieq (by omega) (by omega) (by omega) (by omega)).1 (by omega)))); try simp (disch := omega) only [huh, m6])
                exact hj10 _ (by rintro (hh | hh); omega; exact hh.1 hl)
              · by_cases ho0 : V.2 0 15 ≤ 0
                · repeat ((first | (with_reducible first | refine w_of hR0 (by omega) (by omega) ?_ | refine w_ltA ?_ | refine w_ltS ?_ | refine w_ltM ?_ | refine w_ltN ?_ | refine w_lt ?_ | refine w_jn ?_ | refine w_ck (by omega) (by assumption) ?_ | refine w_gI (by omega) (by assumption) ?_ | refine w_gR (by omega) (by assumption) (by assumption) ?_ | refine w_al (by omega) (by assumption) (by assumption) ?_ | refine w_pI (by omega) (by assumption) ?_ | refine w_set (by omega) (by assumption) (by omega) (by omega) ?_ | refine w_at (by omega) (by assumption) (by omega) (by omega) ?_ | refine w_sI (by omega) (by assumption) (by omega) (by omega) ?_ | refine w_aI (by omega) (by assumption) (by omega) (by omega) ?_ | refine w_sZ (by omega) (by assumption) (by omega) (by omega) (by decide) ?_ | refine w_pZ (by omega) (by assumption) (by decide) ?_ | refine w_dv (by omega) (by omega) (by omega) (by omega) ?_ | refine w_rm (by omega) (by omega) (by omega) (by omega) ?_) | ((with_reducible refine w_pos ?_ ?_); focus (first | assumption | trivial | exact (ile (by omega) (by omega) (by omega) (by omega)).2 (by omega) | exact (ilt (by omega) (by omega) (by omega) (by omega)).2 (by omega) | exact (ieq (by omega) (by omega) (by omega) (by omega)).2 (by omega))) | ((with_reducible refine w_neg ?_ ?_); focus (first | assumption | exact not_false | trivial | exact mt (ile (by omega) (by omega) (by omega) (by omega)).1 (by omega) | exact mt (ilt (by omega) (by omega) (by omega) (by omega)).1 (by omega) | exact mt (ieq (by omega) (by omega) (by omega) (by omega)).1 (by omega)))); try simp (disch := omega) only [huh, m6])
                  exact hj11 _ (Or.inl ⟨hl, hf0, by omega, by omega⟩)
                · repeat ((first | (with_reducible first | refine w_of hR0 (by omega) (by omega) ?_ | refine w_ltA ?_ | refine w_ltS ?_ | refine w_ltM ?_ | refine w_ltN ?_ | refine w_lt ?_ | refine w_jn ?_ | refine w_ck (by omega) (by assumption) ?_ | refine w_gI (by omega) (by assumption) ?_ | refine w_gR (by omega) (by assumption) (by assumption) ?_ | refine w_al (by omega) (by assumption) (by assumption) ?_ | refine w_pI (by omega) (by assumption) ?_ | refine w_set (by omega) (by assumption) (by omega) (by omega) ?_ | refine w_at (by omega) (by assumption) (by omega) (by omega) ?_ | refine w_sI (by omega) (by assumption) (by omega) (by omega) ?_ | refine w_aI (by omega) (by assumption) (by omega) (by omega) ?_ | refine w_sZ (by omega) (by assumption) (by omega) (by omega) (by decide) ?_ | refine w_pZ (by omega) (by assumption) (by decide) ?_ | refine w_dv (by omega) (by omega) (by omega) (by omega) ?_ | refine w_rm (by omega) (by omega) (by omega) (by omega) ?_) | ((with_reducible refine w_pos ?_ ?_); focus (first | assumption | trivial | exact (ile (by omega) (by omega) (by omega) (by omega)).2 (by omega) | exact (ilt (by omega) (by omega) (by omega) (by omega)).2 (by omega) | exact (ieq (by omega) (by omega) (by omega) (by omega)).2 (by omega))) | ((with_reducible refine w_neg ?_ ?_); focus (first | assumption | exact not_false | trivial | exact mt (ile (by omega) (by omega) (by omega) (by omega)).1 (by omega) | exact mt (ilt (by omega) (by omega) (by omega) (by omega)).1 (by omega) | exact mt (ieq (by omega) (by omega) (by omega) (by omega)).1 (by omega)))); try simp (disch := omega) only [huh, m6])
                  exact hj10 _ (by rintro (hh | hh); omega; exact hh.1 hl)
          · rw [if_neg hl]
            repeat ((first | (with_reducible first | refine w_of hR0 (by omega) (by omega) ?_ | refine w_ltA ?_ | refine w_ltS ?_ | refine w_ltM ?_ | refine w_ltN ?_ | refine w_lt ?_ | refine w_jn ?_ | refine w_ck (by omega) (by assumption) ?_ | refine w_gI (by omega) (by assumption) ?_ | refine w_gR (by omega) (by assumption) (by assumption) ?_ | refine w_al (by omega) (by assumption) (by assumption) ?_ | refine w_pI (by omega) (by assumption) ?_ | refine w_set (by omega) (by assumption) (by omega) (by omega) ?_ | refine w_at (by omega) (by assumption) (by omega) (by omega) ?_ | refine w_sI (by omega) (by assumption) (by omega) (by omega) ?_ | refine w_aI (by omega) (by assumption) (by omega) (by omega) ?_ | refine w_sZ (by omega) (by assumption) (by omega) (by omega) (by decide) ?_ | refine w_pZ (by omega) (by assumption) (by decide) ?_ | refine w_dv (by omega) (by omega) (by omega) (by omega) ?_ | refine w_rm (by omega) (by omega) (by omega) (by omega) ?_) | ((with_reducible refine w_pos ?_ ?_); focus (first | assumption | trivial | exact (ile (by omega) (by omega) (by omega) (by omega)).2 (by omega) | exact (ilt (by omega) (by omega) (by omega) (by omega)).2 (by omega) | exact (ieq (by omega) (by omega) (by omega) (by omega)).2 (by omega))) | ((with_reducible refine w_neg ?_ ?_); focus (first | assumption | exact not_false | trivial | exact mt (ile (by omega) (by omega) (by omega) (by omega)).1 (by omega) | exact mt (ilt (by omega) (by omega) (by omega) (by omega)).1 (by omega) | exact mt (ieq (by omega) (by omega) (by omega) (by omega)).1 (by omega)))); try simp (disch := omega) only [huh, m6])
            exact hj11 _ (Or.inr ⟨hl, hof⟩)
  · intro jx hjx
    by_cases hl : V.2 0 13 ≤ 1
    · rw [if_pos hl] at hjx
      have := htl.2 hl
      repeat ((first | (with_reducible first | refine w_ltA ?_ | refine w_ltS ?_ | refine w_ltM ?_ | refine w_ltN ?_ | refine w_lt ?_ | refine w_jn ?_ | refine w_ck (by omega) (by assumption) ?_ | refine w_gI (by omega) (by assumption) ?_ | refine w_gR (by omega) (by assumption) (by assumption) ?_ | refine w_al (by omega) (by assumption) (by assumption) ?_ | refine w_pI (by omega) (by assumption) ?_ | refine w_set (by omega) (by assumption) (by omega) (by omega) ?_ | refine w_at (by omega) (by assumption) (by omega) (by omega) ?_ | refine w_sI (by omega) (by assumption) (by omega) (by omega) ?_ | refine w_aI (by omega) (by assumption) (by omega) (by omega) ?_ | refine w_sZ (by omega) (by assumption) (by omega) (by omega) (by decide) ?_ | refine w_pZ (by omega) (by assumption) (by decide) ?_ | refine w_dv (by omega) (by omega) (by omega) (by omega) ?_ | refine w_rm (by omega) (by omega) (by omega) (by omega) ?_) | ((with_reducible refine w_pos ?_ ?_); focus (first | assumption | trivial | exact (ile (by omega) (by omega) (by omega) (by omega)).2 (by omega) | exact (ilt (by omega) (by omega) (by omega) (by omega)).2 (by omega) | exact (ieq (by omega) (by omega) (by omega) (by omega)).2 (by omega))) | ((with_reducible refine w_neg ?_ ?_); focus (first | assumption | exact not_false | trivial | exact mt (ile (by omega) (by omega) (by omega) (by omega)).1 (by omega) | exact mt (ilt (by omega) (by omega) (by omega) (by omega)).1 (by omega) | exact mt (ieq (by omega) (by omega) (by omega) (by omega)).1 (by omega)))); skip)
      exact hjx _ rfl
    · rw [if_neg hl] at hjx
      have := mt htl.1 hl
      repeat ((first | (with_reducible first | refine w_ltA ?_ | refine w_ltS ?_ | refine w_ltM ?_ | refine w_ltN ?_ | refine w_lt ?_ | refine w_jn ?_ | refine w_ck (by omega) (by assumption) ?_ | refine w_gI (by omega) (by assumption) ?_ | refine w_gR (by omega) (by assumption) (by assumption) ?_ | refine w_al (by omega) (by assumption) (by assumption) ?_ | refine w_pI (by omega) (by assumption) ?_ | refine w_set (by omega) (by assumption) (by omega) (by omega) ?_ | refine w_at (by omega) (by assumption) (by omega) (by omega) ?_ | refine w_sI (by omega) (by assumption) (by omega) (by omega) ?_ | refine w_aI (by omega) (by assumption) (by omega) (by omega) ?_ | refine w_sZ (by omega) (by assumption) (by omega) (by omega) (by decide) ?_ | refine w_pZ (by omega) (by assumption) (by decide) ?_ | refine w_dv (by omega) (by omega) (by omega) (by omega) ?_ | refine w_rm (by omega) (by omega) (by omega) (by omega) ?_) | ((with_reducible refine w_pos ?_ ?_); focus (first | assumption | trivial | exact (ile (by omega) (by omega) (by omega) (by omega)).2 (by omega) | exact (ilt (by omega) (by omega) (by omega) (by omega)).2 (by omega) | exact (ieq (by omega) (by omega) (by omega) (by omega)).2 (by omega))) | ((with_reducible refine w_neg ?_ ?_); focus (first | assumption | exact not_false | trivial | exact mt (ile (by omega) (by omega) (by omega) (by omega)).1 (by omega) | exact mt (ilt (by omega) (by omega) (by omega) (by omega)).1 (by omega) | exact mt (ieq (by omega) (by omega) (by omega) (by omega)).1 (by omega)))); skip)
      exact hjx _ rfl
end RFJ
