/-! THE REFERENCE: read -/
theorem mto_nt {I0 I I' : MI} {π : Nat → Nat} {V : RV} {it : Nat} (h : MTo I0 I π V) (hn : 0 ≤ V.1 6 7 it) (hI : ∀ a k, ¬ (a = 374 ∧ 30 ≤ k ∧ k < 43) → I' a k = I a k) (e0 : I' 374 30 = iI (V.1 6 2 it)) (e1 : I' 374 31 = iI (V.1 6 3 it)) (e2 : I' 374 32 = iI (V.1 6 4 it)) (e3 : I' 374 33 = iI (V.1 6 7 it)) (e4 : I' 374 34 = iI (V.1 6 2 it - V.2 6 1 - 1)) (e5 : ∀ d : Nat, d < 8 → (d : Int) < V.1 6 7 it → I' 374 (35 + d) = iI (V.1 6 1 (V.1 6 6 it + 1 + d).toNat)) : MTo I0 I' π (noteV V it) := by
  obtain ⟨⟨b1, b2, b3, b4, b5, b6, b7, b8, b9⟩, f1, f2⟩ := h
  unfold noteV
  refine ⟨⟨b1, b2, fun j' hj' => ?_, ?_, ?_, fun d h1 h2 => ?_, fun k' h1 h2 => ?_, fun q hq => ?_, fun q hq => ?_⟩, fun a k' h1 h2 => ?_, fun k' hk => ?_⟩
  · have := hj'.1
    by_cases hj : j' < 30
    · have hg : (sg j').1 ≠ 6 ∧ (sg j').1 ≠ 7 := by
        unfold sg
        repeat' split
        all_goals dsimp only
        all_goals omega
      rw [hI _ _ (by omega), note_g hg]
      exact b3 j' hj'
    · rcases (show j' = 30 ∨ j' = 31 ∨ j' = 32 ∨ j' = 33 ∨ j' = 34 by omega) with h | h | h | h | h
      · rw [h, e0]
        rfl
      · rw [h, e1]
        rfl
      · rw [h, e2]
        rfl
      · rw [h, e3]
        rfl
      · rw [h, e4]
        rfl
  · have hp : plc (noteK V it (V.1 6 7 it).toNat) ((noteK V it (V.1 6 7 it).toNat).2 0 13 - 1) = plc V (V.2 0 13 - 1) := by
      unfold plc
      rw [note_g (by omega), note_g (by omega), note_g (by omega)]
    rw [hI _ _ (by omega), hp]
    exact b4
  · rw [hI _ _ (by omega)]
    exact b5
  · have h3 : (d : Int) < V.1 6 7 it := h2
    rw [e5 d h1 h3]
    have e7 : (noteK V it (V.1 6 7 it).toNat).2 7 d = V.1 6 1 (V.1 6 6 it + 1 + d).toNat := by
      unfold noteK
      dsimp only
      rw [if_neg (by omega), if_pos ⟨rfl, by omega⟩]
    rw [e7]
  · rw [note_g (by omega)] at h2
    rw [hI _ _ (by omega), hI _ _ (by omega), hI _ _ (by omega), note_g (by omega), note_g (by omega), note_g (by omega)]
    exact b7 k' h1 h2
  · rw [hI _ _ (by omega)]
    exact b8 q hq
  · exact pm_congr (b9 q hq) fun k h1 h2 => hI _ _ (by omega)
  · rw [hI _ _ (by omega)]
    exact f1 a k' h1 h2
  · rw [hI _ _ (by omega)]
    exact f2 k' hk
def rdJ (V : RV) (sk nx : Int) : RV := upG (upG V 5 10 (V.2 5 10 + sk)) 0 7 nx
theorem rdn_succ {n : Nat} {V : RV} : rdnV (n + 1) V = if V.1 6 0 8 ≤ V.2 0 7 then (-1, V) else
    if isR (V.1 6) (V.2 0 7).toNat then
      if bitV (V.2 0 14) (V.1 6 3 (V.2 0 7).toNat) then (V.1 6 2 (V.2 0 7).toNat, upG (noteV (upG V 0 7 (V.2 0 7 + 1)) (V.2 0 7).toNat) 5 11 (V.2 5 11 + 1))
      else rdnV n (upG (upG V 0 7 (V.2 0 7 + 1)) 5 10 (V.2 5 10 + 1))
    else rdnV n (upG V 0 7 (V.2 0 7 + 1)) := rfl
theorem rdJ_7 {V : RV} {sk nx : Int} : (rdJ V sk nx).2 0 7 = nx := upG_eq
theorem rdJ_g {V : RV} {sk nx : Int} {g k : Nat} (h : ¬ (g = 5 ∧ k = 10)) (h2 : ¬ (g = 0 ∧ k = 7)) : (rdJ V sk nx).2 g k = V.2 g k := by
  unfold rdJ
  rw [upG_ne h2, upG_ne h]
theorem rdJ_1 {V : RV} {sk nx : Int} : (rdJ V sk nx).1 = V.1 := rfl
theorem rdJ_10 {V : RV} {sk nx : Int} : (rdJ V sk nx).2 5 10 = V.2 5 10 + sk := by
  unfold rdJ
  rw [upG_ne (by omega), upG_eq]
theorem rdJ_n {V : RV} {sk nx : Int} : upG (rdJ V sk nx) 0 7 (nx + 1) = rdJ V sk (nx + 1) := by
  refine Prod.ext rfl ?_
  funext a b
  show (if a = 0 ∧ b = 7 then nx + 1 else if a = 0 ∧ b = 7 then nx else _) = if a = 0 ∧ b = 7 then nx + 1 else _
  by_cases h : a = 0 ∧ b = 7
  · rw [if_pos h, if_pos h]
  · rw [if_neg h, if_neg h, if_neg h]
theorem rdJ_s {V : RV} {sk nx : Int} : upG (rdJ V sk nx) 5 10 (V.2 5 10 + sk + 1) = rdJ V (sk + 1) nx := by
  refine Prod.ext rfl ?_
  funext a b
  show (if a = 5 ∧ b = 10 then V.2 5 10 + sk + 1 else if a = 0 ∧ b = 7 then nx else if a = 5 ∧ b = 10 then V.2 5 10 + sk else V.2 a b) = if a = 0 ∧ b = 7 then nx else if a = 5 ∧ b = 10 then V.2 5 10 + (sk + 1) else V.2 a b
  by_cases h : a = 5 ∧ b = 10
  · rw [if_pos h, if_neg (by omega), if_pos h]
    omega
  · rw [if_neg h, if_neg h, if_neg h]
theorem rdJ_0 {V : RV} : rdJ V 0 (V.2 0 7) = V := by
  unfold rdJ
  rw [Int.add_zero, upG_same rfl, upG_same rfl]
section RFK
variable {I I0 : MI} {J : MJ} {R : MR} {π : Nat → Nat} {γ : Type} {Q : γ → Prop} {V : RV} {P k i f n l m : Int} {x : Int32}
theorem rdJ_note {sk : Int} {it : Nat} : upG (noteV (rdJ V sk (it + 1)) it) 5 11 (V.2 5 11 + 1) = upG (upG (upG (noteV V it) 5 10 (V.2 5 10 + sk)) 0 7 (it + 1)) 5 11 (V.2 5 11 + 1) := by
  refine Prod.ext rfl ?_
  funext a b
  show (if a = 5 ∧ b = 11 then V.2 5 11 + 1 else if a = 6 then (if b = 1 then V.1 6 2 it else if b = 2 then V.1 6 3 it else if b = 3 then V.1 6 4 it else if b = 4 then V.1 6 7 it else if b = 5 then V.1 6 2 it - V.2 6 1 - 1 else (rdJ V sk (it + 1)).2 a b) else if a = 7 ∧ b < (V.1 6 7 it).toNat then V.1 6 1 (V.1 6 6 it + 1 + b).toNat else (rdJ V sk (it + 1)).2 a b) = if a = 5 ∧ b = 11 then V.2 5 11 + 1 else if a = 0 ∧ b = 7 then (it : Int) + 1 else if a = 5 ∧ b = 10 then V.2 5 10 + sk else if a = 6 then (if b = 1 then V.1 6 2 it else if b = 2 then V.1 6 3 it else if b = 3 then V.1 6 4 it else if b = 4 then V.1 6 7 it else if b = 5 then V.1 6 2 it - V.2 6 1 - 1 else V.2 a b) else if a = 7 ∧ b < (V.1 6 7 it).toNat then V.1 6 1 (V.1 6 6 it + 1 + b).toNat else V.2 a b
  by_cases c1 : a = 5 ∧ b = 11
  · rw [if_pos c1, if_pos c1]
  rw [if_neg c1, if_neg c1]
  by_cases c6 : a = 6
  · rw [if_neg (show ¬ (a = 0 ∧ b = 7) by omega), if_neg (show ¬ (a = 5 ∧ b = 10) by omega), if_pos c6, if_pos c6]
    rw [rdJ_g (by omega) (by omega)]
  rw [if_neg c6, if_neg c6]
  by_cases c7 : a = 7 ∧ b < (V.1 6 7 it).toNat
  · rw [if_neg (show ¬ (a = 0 ∧ b = 7) by omega), if_neg (show ¬ (a = 5 ∧ b = 10) by omega), if_pos c7, if_pos c7]
  rw [if_neg c7, if_neg c7]
  rfl
theorem readOne_Q (hR : RQ R) (h : MTo I0 I π V) (hw : WR V) : En (fun y => y.1 = iI (readV V).1 ∧ ∃ I', y.2 = (381, I', J, R) ∧ MTo I0 I' π (readV V).2) (f_X9_readOne (381, I, J, R) 373) := by
  have hq := h.1
  have hpl := hq.l (p := 6) (by omega)
  have hP := hq.g (p := 6) (by omega)
  have hn3 := pm_n hP
  have hw6 := hw.2.1 6 (by omega)
  have w8 := hw6.1
  have m14 : I 374 (Int.toNat 14) = iI (V.2 5 10) := hq.s 14 (by decide)
  have m30 : I 374 (Int.toNat 30) = iI (V.2 6 1) := hq.s 30 (by decide)
  have m15 : I 374 (Int.toNat 15) = iI (V.2 5 11) := hq.s 15 (by decide)
  have k374 := kd_374
  have k375 := kd_375
  have l375 := ln_375
  have k381 := kd_381
  have l381 := ln_381
  have hR0 := hR
  obtain ⟨rq1, rq2, rq3, rq12, rq16, rq17, rq19⟩ := hR
  have m0 : I 374 (Int.toNat 0) = iI (V.2 0 8) := hq.s 0 (by decide)
  have m1 : I 374 (Int.toNat 1) = iI (V.2 0 9) := hq.s 1 (by decide)
  have m2 : I 374 (Int.toNat 2) = iI (V.2 0 10) := hq.s 2 (by decide)
  have m3 : I 374 (Int.toNat 3) = iI (V.2 0 11) := hq.s 3 (by decide)
  have m4 : I 374 (Int.toNat 4) = iI (V.2 0 12) := hq.s 4 (by decide)
  have m5 : I 374 (Int.toNat 5) = iI (plc V (V.2 0 13 - 1)) := hq.t
  have m6 : I 374 (Int.toNat 6) = iI (V.2 0 15) := hq.s 6 (by decide)
  have m7 : I 374 (Int.toNat 7) = iI (π 6) := hq.r
  have m8 : I 374 (Int.toNat 8) = iI (V.2 0 7) := hq.s 8 (by decide)
  have m9 : I 374 (Int.toNat 9) = iI (V.2 0 14) := hq.s 9 (by decide)
  have hbb := hw.1
  unfold WB at hbb
  rw [u_X9_readOne]
  repeat ((first | (with_reducible first | refine w_ltA ?_ | refine w_ltS ?_ | refine w_ltM ?_ | refine w_ltN ?_ | refine w_lt ?_ | refine w_jn ?_ | refine w_ck (by omega) (by assumption) ?_ | refine w_gI (by omega) (by assumption) ?_ | refine w_gR (by omega) (by assumption) (by assumption) ?_ | refine w_al (by omega) (by assumption) (by assumption) ?_ | refine w_pI (by omega) (by assumption) ?_ | refine w_set (by omega) (by assumption) (by omega) (by omega) ?_ | refine w_at (by omega) (by assumption) (by omega) (by omega) ?_ | refine w_sI (by omega) (by assumption) (by omega) (by omega) ?_ | refine w_aI (by omega) (by assumption) (by omega) (by omega) ?_ | refine w_sZ (by omega) (by assumption) (by omega) (by omega) (by decide) ?_ | refine w_pZ (by omega) (by assumption) (by decide) ?_ | refine w_dv (by omega) (by omega) (by omega) (by omega) ?_ | refine w_rm (by omega) (by omega) (by omega) (by omega) ?_) | ((with_reducible refine w_pos ?_ ?_); focus (first | assumption | trivial | exact (ile (by omega) (by omega) (by omega) (by omega)).2 (by omega) | exact (ilt (by omega) (by omega) (by omega) (by omega)).2 (by omega) | exact (ieq (by omega) (by omega) (by omega) (by omega)).2 (by omega))) | ((with_reducible refine w_neg ?_ ?_); focus (first | assumption | exact not_false | trivial | exact mt (ile (by omega) (by omega) (by omega) (by omega)).1 (by omega) | exact mt (ilt (by omega) (by omega) (by omega) (by omega)).1 (by omega) | exact mt (ieq (by omega) (by omega) (by omega) (by omega)).1 (by omega)))); try simp (disch := omega) only [m7, m8])
  refine w_lp 16 (fun j y => ∃ sk nx : Int, y = (iI sk, iI nx) ∧ V.2 0 7 ≤ nx ∧ nx ≤ V.1 6 0 8 ∧ (j : Int) ≤ nx ∧ j ≤ 16 ∧ readV V = rdnV (17 - j) (rdJ V sk nx)) ⟨0, V.2 0 7, rfl, by omega, by omega, by omega, by omega, by rw [rdJ_0]; rfl⟩ (by rw [FU_eq]; omega) (fun i y h => by obtain ⟨_, _, _, _, _, _, h, _⟩ := h; exact h) ?_
  rintro j y self ⟨sk, nx, rfl, hn1, hn2, hj, hj16, hr⟩ ih
  try dsimp only
  obtain ⟨d, hd⟩ : ∃ d, 17 - j = d + 1 := ⟨16 - j, by omega⟩
  rw [hd, rdn_succ, rdJ_7, rdJ_1, rdJ_g (by omega) (by omega), rdJ_g (g := 5) (k := 11) (by omega) (by omega), rdJ_10, rdJ_n] at hr
  by_cases h1 : V.1 6 0 8 ≤ nx
  · rw [if_pos h1] at hr
    have hnx : nx = V.1 6 0 8 := by omega
    repeat ((first | (with_reducible first | refine w_of hR0 (by omega) (by omega) ?_ | refine w_it hR0 (by omega) (by omega) (by omega) ?_ | refine w_ltA ?_ | refine w_ltS ?_ | refine w_ltM ?_ | refine w_ltN ?_ | refine w_lt ?_ | refine w_jn ?_ | refine w_ck (by omega) (by assumption) ?_ | refine w_gI (by omega) (by assumption) ?_ | refine w_gR (by omega) (by assumption) (by assumption) ?_ | refine w_al (by omega) (by assumption) (by assumption) ?_ | refine w_pI (by omega) (by assumption) ?_ | refine w_set (by omega) (by assumption) (by omega) (by omega) ?_ | refine w_at (by omega) (by assumption) (by omega) (by omega) ?_ | refine w_sI (by omega) (by assumption) (by omega) (by omega) ?_ | refine w_aI (by omega) (by assumption) (by omega) (by omega) ?_ | refine w_sZ (by omega) (by assumption) (by omega) (by omega) (by decide) ?_ | refine w_pZ (by omega) (by assumption) (by decide) ?_ | refine w_dv (by omega) (by omega) (by omega) (by omega) ?_ | refine w_rm (by omega) (by omega) (by omega) (by omega) ?_) | ((with_reducible refine w_pos ?_ ?_); focus (first | assumption | trivial | exact (ile (by omega) (by omega) (by omega) (by omega)).2 (by omega) | exact (ilt (by omega) (by omega) (by omega) (by omega)).2 (by omega) | exact (ieq (by omega) (by omega) (by omega) (by omega)).2 (by omega))) | ((with_reducible refine w_neg ?_ ?_); focus (first | assumption | exact not_false | trivial | exact mt (ile (by omega) (by omega) (by omega) (by omega)).1 (by omega) | exact mt (ilt (by omega) (by omega) (by omega) (by omega)).1 (by omega) | exact mt (ieq (by omega) (by omega) (by omega) (by omega)).1 (by omega)))); try simp (disch := omega) only [hn3, m14, up_ne])
    rw [hr]
    refine w_rt ⟨rfl, _, rfl, ?_⟩
    have g1 := mto_s h 14 (g := 5) (k := 10) rfl (V.2 5 10 + sk) (by decide) (by decide)
    have g2 := mto_s g1 8 (g := 0) (k := 7) rfl nx (by decide) (by decide)
    rw [← hnx]
    exact g2
  rw [if_neg h1] at hr
  have hj15 : j ≤ 15 := by omega
  have c8 : I 374 (61 + 132 * (π 6 : Int) + (36 + 6 * nx + 0)).toNat = iI (V.1 6 8 nx.toNat) := pm_i hP (by omega) (by omega) (by omega) (by omega)
  have c2 : I 374 (61 + 132 * (π 6 : Int) + (36 + 6 * nx + 1)).toNat = iI (V.1 6 2 nx.toNat) := pm_i hP (by omega) (by omega) (by omega) (by omega)
  have c3 : I 374 (61 + 132 * (π 6 : Int) + (36 + 6 * nx + 2)).toNat = iI (V.1 6 3 nx.toNat) := pm_i hP (by omega) (by omega) (by omega) (by omega)
  have c4 : I 374 (61 + 132 * (π 6 : Int) + (36 + 6 * nx + 3)).toNat = iI (V.1 6 4 nx.toNat) := pm_i hP (by omega) (by omega) (by omega) (by omega)
  have c7 : I 374 (61 + 132 * (π 6 : Int) + (36 + 6 * nx + 4)).toNat = iI (V.1 6 7 nx.toNat) := pm_i hP (by omega) (by omega) (by omega) (by omega)
  have c6 : I 374 (61 + 132 * (π 6 : Int) + (36 + 6 * nx + 5)).toNat = iI (V.1 6 6 nx.toNat) := pm_i hP (by omega) (by omega) (by omega) (by omega)
  have hwi := hw6.2.2.2.2.2.1 nx.toNat (by omega)
  have hat := hw6.at (i := nx.toNat) (by omega)
  have hlv := hwi.2.2.2.2.2
  have h8 := hw6.2.2.2.2.2.2.2 nx.toNat (by omega)
  have hnxt : ∀ sk', readV V = rdnV d (rdJ V sk' (nx + 1)) → En (fun y => y.1 = iI (readV V).1 ∧ ∃ I', y.2 = (381, I', J, R) ∧ MTo I0 I' π (readV V).2) (self (iI sk', iI (nx + 1))) := fun sk' e =>
    ih _ ⟨sk', nx + 1, rfl, by omega, by omega, by omega, by omega, by rw [e, show 17 - (j + 1) = d by omega]⟩
  by_cases hg : V.1 6 8 nx.toNat = 1
  · have hnr : ¬ isR (V.1 6) nx.toNat = true := by
      unfold isR
      rw [decide_eq_false (by omega)]
      decide
    rw [if_neg hnr] at hr
    repeat ((first | (with_reducible first | refine w_of hR0 (by omega) (by omega) ?_ | refine w_it hR0 (by omega) (by omega) (by omega) ?_ | refine w_ltA ?_ | refine w_ltS ?_ | refine w_ltM ?_ | refine w_ltN ?_ | refine w_lt ?_ | refine w_jn ?_ | refine w_ck (by omega) (by assumption) ?_ | refine w_gI (by omega) (by assumption) ?_ | refine w_gR (by omega) (by assumption) (by assumption) ?_ | refine w_al (by omega) (by assumption) (by assumption) ?_ | refine w_pI (by omega) (by assumption) ?_ | refine w_set (by omega) (by assumption) (by omega) (by omega) ?_ | refine w_at (by omega) (by assumption) (by omega) (by omega) ?_ | refine w_sI (by omega) (by assumption) (by omega) (by omega) ?_ | refine w_aI (by omega) (by assumption) (by omega) (by omega) ?_ | refine w_sZ (by omega) (by assumption) (by omega) (by omega) (by decide) ?_ | refine w_pZ (by omega) (by assumption) (by decide) ?_ | refine w_dv (by omega) (by omega) (by omega) (by omega) ?_ | refine w_rm (by omega) (by omega) (by omega) (by omega) ?_) | ((with_reducible refine w_pos ?_ ?_); focus (first | assumption | trivial | exact (ile (by omega) (by omega) (by omega) (by omega)).2 (by omega) | exact (ilt (by omega) (by omega) (by omega) (by omega)).2 (by omega) | exact (ieq (by omega) (by omega) (by omega) (by omega)).2 (by omega))) | ((with_reducible refine w_neg ?_ ?_); focus (first | assumption | exact not_false | trivial | exact mt (ile (by omega) (by omega) (by omega) (by omega)).1 (by omega) | exact mt (ilt (by omega) (by omega) (by omega) (by omega)).1 (by omega) | exact mt (ieq (by omega) (by omega) (by omega) (by omega)).1 (by omega)))); try simp (disch := omega) only [hn3, c8])
    exact hnxt _ hr
  · have hr1 : isR (V.1 6) nx.toNat = true := by
      unfold isR
      rw [decide_eq_true (by omega)]
    rw [if_pos hr1] at hr
    repeat ((first | (with_reducible first | refine w_of hR0 (by omega) (by omega) ?_ | refine w_it hR0 (by omega) (by omega) (by omega) ?_ | refine w_ltA ?_ | refine w_ltS ?_ | refine w_ltM ?_ | refine w_ltN ?_ | refine w_lt ?_ | refine w_jn ?_ | refine w_ck (by omega) (by assumption) ?_ | refine w_gI (by omega) (by assumption) ?_ | refine w_gR (by omega) (by assumption) (by assumption) ?_ | refine w_al (by omega) (by assumption) (by assumption) ?_ | refine w_pI (by omega) (by assumption) ?_ | refine w_set (by omega) (by assumption) (by omega) (by omega) ?_ | refine w_at (by omega) (by assumption) (by omega) (by omega) ?_ | refine w_sI (by omega) (by assumption) (by omega) (by omega) ?_ | refine w_aI (by omega) (by assumption) (by omega) (by omega) ?_ | refine w_sZ (by omega) (by assumption) (by omega) (by omega) (by decide) ?_ | refine w_pZ (by omega) (by assumption) (by decide) ?_ | refine w_dv (by omega) (by omega) (by omega) (by omega) ?_ | refine w_rm (by omega) (by omega) (by omega) (by omega) ?_) | ((with_reducible refine w_pos ?_ ?_); focus (first | assumption | trivial | exact (ile (by omega) (by omega) (by omega) (by omega)).2 (by omega) | exact (ilt (by omega) (by omega) (by omega) (by omega)).2 (by omega) | exact (ieq (by omega) (by omega) (by omega) (by omega)).2 (by omega))) | ((with_reducible refine w_neg ?_ ?_); focus (first | assumption | exact not_false | trivial | exact mt (ile (by omega) (by omega) (by omega) (by omega)).1 (by omega) | exact mt (ilt (by omega) (by omega) (by omega) (by omega)).1 (by omega) | exact mt (ieq (by omega) (by omega) (by omega) (by omega)).1 (by omega)))); try simp (disch := omega) only [hn3, c8, m9, c3])
    rw [bitV_C (by omega) (by omega)]
    by_cases hbt : bitV (V.2 0 14) (V.1 6 3 nx.toNat) = true
    · rw [if_pos hbt] at hr ⊢
      repeat ((first | (with_reducible first | refine w_of hR0 (by omega) (by omega) ?_ | refine w_it hR0 (by omega) (by omega) (by omega) ?_ | refine w_ltA ?_ | refine w_ltS ?_ | refine w_ltM ?_ | refine w_ltN ?_ | refine w_lt ?_ | refine w_jn ?_ | refine w_ck (by omega) (by assumption) ?_ | refine w_gI (by omega) (by assumption) ?_ | refine w_gR (by omega) (by assumption) (by assumption) ?_ | refine w_al (by omega) (by assumption) (by assumption) ?_ | refine w_pI (by omega) (by assumption) ?_ | refine w_set (by omega) (by assumption) (by omega) (by omega) ?_ | refine w_at (by omega) (by assumption) (by omega) (by omega) ?_ | refine w_sI (by omega) (by assumption) (by omega) (by omega) ?_ | refine w_aI (by omega) (by assumption) (by omega) (by omega) ?_ | refine w_sZ (by omega) (by assumption) (by omega) (by omega) (by decide) ?_ | refine w_pZ (by omega) (by assumption) (by decide) ?_ | refine w_dv (by omega) (by omega) (by omega) (by omega) ?_ | refine w_rm (by omega) (by omega) (by omega) (by omega) ?_) | ((with_reducible refine w_pos ?_ ?_); focus (first | assumption | trivial | exact (ile (by omega) (by omega) (by omega) (by omega)).2 (by omega) | exact (ilt (by omega) (by omega) (by omega) (by omega)).2 (by omega) | exact (ieq (by omega) (by omega) (by omega) (by omega)).2 (by omega))) | ((with_reducible refine w_neg ?_ ?_); focus (first | assumption | exact not_false | trivial | exact mt (ile (by omega) (by omega) (by omega) (by omega)).1 (by omega) | exact mt (ilt (by omega) (by omega) (by omega) (by omega)).1 (by omega) | exact mt (ieq (by omega) (by omega) (by omega) (by omega)).1 (by omega)))); try simp (disch := omega) only [hn3, c2, c3, c4, c6, c7, m30, up_ne])
      let B : MI := up (up (up (up (up I 374 (Int.toNat 34) (iI (V.1 6 2 nx.toNat - V.2 6 1 - 1))) 374 (Int.toNat 30) (iI (V.1 6 2 nx.toNat))) 374 (Int.toNat 31) (iI (V.1 6 3 nx.toNat))) 374 (Int.toNat 32) (iI (V.1 6 4 nx.toNat))) 374 (Int.toNat 33) (iI (V.1 6 7 nx.toNat))
      let T : Nat → MI := fun q a k => if a = 374 ∧ 35 ≤ k ∧ k < 35 + q then (if ((k : Int) - 35) < V.1 6 7 nx.toNat then iI (V.1 6 1 (V.1 6 6 nx.toNat + 1 + ((k : Int) - 35)).toNat) else iI 0) else B a k
      have hBB : ∀ a k, ¬ (a = 374 ∧ 30 ≤ k ∧ k < 43) → B a k = I a k := fun a k hh => by
        show up _ _ _ _ _ _ = _
        rw [up_ne (by omega), up_ne (by omega), up_ne (by omega), up_ne (by omega), up_ne (by omega)]
      have hTB : ∀ q, q ≤ 8 → ∀ a k, ¬ (a = 374 ∧ 30 ≤ k ∧ k < 43) → T q a k = I a k := fun q hq a k hh => by
        show (if _ then _ else B a k) = _
        rw [if_neg (by omega)]
        exact hBB a k hh
      refine w_lp 8 (fun q y => q ≤ 8 ∧ y = (iI q, (381, T q, J, R))) ⟨by omega, ?_⟩ (by rw [FU_eq]; omega) (fun i y h => h.1) ?_
      · have : T 0 = B := by
          funext a k
          exact if_neg (by omega)
        rw [this]
        rfl
      rintro q y self2 ⟨hq8, rfl⟩ ih2
      try dsimp only
      by_cases hq : q < 8
      · have d7 : T q 374 (61 + 132 * (π 6 : Int) + (36 + 6 * nx + 4)).toNat = iI (V.1 6 7 nx.toNat) := by
          rw [hTB q (by omega) _ _ (by omega)]
          exact c7
        have d6 : T q 374 (61 + 132 * (π 6 : Int) + (36 + 6 * nx + 5)).toNat = iI (V.1 6 6 nx.toNat) := by
          rw [hTB q (by omega) _ _ (by omega)]
          exact c6
        have hT1 : ∀ v, ((q : Int) < V.1 6 7 nx.toNat → v = iI (V.1 6 1 (V.1 6 6 nx.toNat + 1 + q).toNat)) → (¬ (q : Int) < V.1 6 7 nx.toNat → v = iI 0) → up (T q) 374 (35 + (q : Int)).toNat v = T (q + 1) := fun v h1 h2 => by
          funext a k
          rw [show (35 + (q : Int)).toNat = 35 + q by omega]
          show (if a = 374 ∧ k = 35 + q then v else if a = 374 ∧ 35 ≤ k ∧ k < 35 + q then _ else B a k) = if a = 374 ∧ 35 ≤ k ∧ k < 35 + (q + 1) then _ else B a k
          by_cases c1 : a = 374 ∧ k = 35 + q
          · rw [if_pos c1, if_pos (by omega)]
            have ek : (k : Int) - 35 = q := by omega
            rw [ek]
            by_cases c2 : (q : Int) < V.1 6 7 nx.toNat
            · rw [if_pos c2]
              exact h1 c2
            · rw [if_neg c2]
              exact h2 c2
          · rw [if_neg c1]
            by_cases c3 : a = 374 ∧ 35 ≤ k ∧ k < 35 + q
            · rw [if_pos c3, if_pos (show a = 374 ∧ 35 ≤ k ∧ k < 35 + (q + 1) by omega)]
            · rw [if_neg c3, if_neg (by omega)]
        have eq1 : (q : Int) + 1 = ((q + 1 : Nat) : Int) := by omega
        by_cases hlt : (q : Int) < V.1 6 7 nx.toNat
        · have dc : T q 374 (61 + 132 * (π 6 : Int) + (4 + V.1 6 6 nx.toNat + 1 + q)).toNat = iI (V.1 6 1 (V.1 6 6 nx.toNat + 1 + q).toNat) := by
            rw [hTB q (by omega) _ _ (by omega), show (61 + 132 * (π 6 : Int) + (4 + V.1 6 6 nx.toNat + 1 + q)).toNat = (61 + 132 * (π 6 : Int) + (4 + (V.1 6 6 nx.toNat + 1 + q))).toNat by omega]
            exact pm_c hP (by omega) (by omega)
          repeat ((first | (with_reducible first | refine w_of hR0 (by omega) (by omega) ?_ | refine w_it hR0 (by omega) (by omega) (by omega) ?_ | refine w_ltA ?_ | refine w_ltS ?_ | refine w_ltM ?_ | refine w_ltN ?_ | refine w_lt ?_ | refine w_jn ?_ | refine w_ck (by omega) (by assumption) ?_ | refine w_gI (by omega) (by assumption) ?_ | refine w_gR (by omega) (by assumption) (by assumption) ?_ | refine w_al (by omega) (by assumption) (by assumption) ?_ | refine w_pI (by omega) (by assumption) ?_ | refine w_set (by omega) (by assumption) (by omega) (by omega) ?_ | refine w_at (by omega) (by assumption) (by omega) (by omega) ?_ | refine w_sI (by omega) (by assumption) (by omega) (by omega) ?_ | refine w_aI (by omega) (by assumption) (by omega) (by omega) ?_ | refine w_sZ (by omega) (by assumption) (by omega) (by omega) (by decide) ?_ | refine w_pZ (by omega) (by assumption) (by decide) ?_ | refine w_dv (by omega) (by omega) (by omega) (by omega) ?_ | refine w_rm (by omega) (by omega) (by omega) (by omega) ?_) | ((with_reducible refine w_pos ?_ ?_); focus (first | assumption | trivial | exact (ile (by omega) (by omega) (by omega) (by omega)).2 (by omega) | exact (ilt (by omega) (by omega) (by omega) (by omega)).2 (by omega) | exact (ieq (by omega) (by omega) (by omega) (by omega)).2 (by omega))) | ((with_reducible refine w_neg ?_ ?_); focus (first | assumption | exact not_false | trivial | exact mt (ile (by omega) (by omega) (by omega) (by omega)).1 (by omega) | exact mt (ilt (by omega) (by omega) (by omega) (by omega)).1 (by omega) | exact mt (ieq (by omega) (by omega) (by omega) (by omega)).1 (by omega)))); try simp (disch := omega) only [d7, d6, dc])
          rw [eq1]
          refine ih2 _ ⟨by omega, ?_⟩
          rw [hT1 _ (fun _ => rfl) (fun hc => absurd hlt hc)]
        · repeat ((first | (with_reducible first | refine w_of hR0 (by omega) (by omega) ?_ | refine w_it hR0 (by omega) (by omega) (by omega) ?_ | refine w_ltA ?_ | refine w_ltS ?_ | refine w_ltM ?_ | refine w_ltN ?_ | refine w_lt ?_ | refine w_jn ?_ | refine w_ck (by omega) (by assumption) ?_ | refine w_gI (by omega) (by assumption) ?_ | refine w_gR (by omega) (by assumption) (by assumption) ?_ | refine w_al (by omega) (by assumption) (by assumption) ?_ | refine w_pI (by omega) (by assumption) ?_ | refine w_set (by omega) (by assumption) (by omega) (by omega) ?_ | refine w_at (by omega) (by assumption) (by omega) (by omega) ?_ | refine w_sI (by omega) (by assumption) (by omega) (by omega) ?_ | refine w_aI (by omega) (by assumption) (by omega) (by omega) ?_ | refine w_sZ (by omega) (by assumption) (by omega) (by omega) (by decide) ?_ | refine w_pZ (by omega) (by assumption) (by decide) ?_ | refine w_dv (by omega) (by omega) (by omega) (by omega) ?_ | refine w_rm (by omega) (by omega) (by omega) (by omega) ?_) | ((with_reducible refine w_pos ?_ ?_); focus (first | assumption | trivial | exact (ile (by omega) (by omega) (by omega) (by omega)).2 (by omega) | exact (ilt (by omega) (by omega) (by omega) (by omega)).2 (by omega) | exact (ieq (by omega) (by omega) (by omega) (by omega)).2 (by omega))) | ((with_reducible refine w_neg ?_ ?_); focus (first | assumption | exact not_false | trivial | exact mt (ile (by omega) (by omega) (by omega) (by omega)).1 (by omega) | exact mt (ilt (by omega) (by omega) (by omega) (by omega)).1 (by omega) | exact mt (ieq (by omega) (by omega) (by omega) (by omega)).1 (by omega)))); try simp (disch := omega) only [d7, d6])
          rw [eq1]
          refine ih2 _ ⟨by omega, ?_⟩
          rw [hT1 _ (fun hc => absurd hc hlt) (fun _ => rfl)]
      · have hq' : q = 8 := by omega
        subst hq'
        have d14 : T 8 374 (Int.toNat 14) = iI (V.2 5 10) := by
          rw [hTB 8 (by omega) _ _ (by omega)]
          exact m14
        have d15 : T 8 374 (Int.toNat 15) = iI (V.2 5 11) := by
          rw [hTB 8 (by omega) _ _ (by omega)]
          exact m15
        have g1 := mto_nt (I' := T 8) (it := nx.toNat) h (by omega) (hTB 8 (by omega)) ?_ ?_ ?_ ?_ ?_ ?_
        · have g2 := mto_s g1 14 (g := 5) (k := 10) rfl (V.2 5 10 + sk) (by decide) (by decide)
          have g3 := mto_s g2 8 (g := 0) (k := 7) rfl (nx + 1) (by decide) (by decide)
          have g4 := mto_s g3 15 (g := 5) (k := 11) rfl (V.2 5 11 + 1) (by decide) (by decide)
          repeat ((first | (with_reducible first | refine w_of hR0 (by omega) (by omega) ?_ | refine w_it hR0 (by omega) (by omega) (by omega) ?_ | refine w_ltA ?_ | refine w_ltS ?_ | refine w_ltM ?_ | refine w_ltN ?_ | refine w_lt ?_ | refine w_jn ?_ | refine w_ck (by omega) (by assumption) ?_ | refine w_gI (by omega) (by assumption) ?_ | refine w_gR (by omega) (by assumption) (by assumption) ?_ | refine w_al (by omega) (by assumption) (by assumption) ?_ | refine w_pI (by omega) (by assumption) ?_ | refine w_set (by omega) (by assumption) (by omega) (by omega) ?_ | refine w_at (by omega) (by assumption) (by omega) (by omega) ?_ | refine w_sI (by omega) (by assumption) (by omega) (by omega) ?_ | refine w_aI (by omega) (by assumption) (by omega) (by omega) ?_ | refine w_sZ (by omega) (by assumption) (by omega) (by omega) (by decide) ?_ | refine w_pZ (by omega) (by assumption) (by decide) ?_ | refine w_dv (by omega) (by omega) (by omega) (by omega) ?_ | refine w_rm (by omega) (by omega) (by omega) (by omega) ?_) | ((with_reducible refine w_pos ?_ ?_); focus (first | assumption | trivial | exact (ile (by omega) (by omega) (by omega) (by omega)).2 (by omega) | exact (ilt (by omega) (by omega) (by omega) (by omega)).2 (by omega) | exact (ieq (by omega) (by omega) (by omega) (by omega)).2 (by omega))) | ((with_reducible refine w_neg ?_ ?_); focus (first | assumption | exact not_false | trivial | exact mt (ile (by omega) (by omega) (by omega) (by omega)).1 (by omega) | exact mt (ilt (by omega) (by omega) (by omega) (by omega)).1 (by omega) | exact mt (ieq (by omega) (by omega) (by omega) (by omega)).1 (by omega)))); try simp (disch := omega) only [d14, d15, up_ne])
          rw [hr]
          refine w_rt ⟨rfl, _, rfl, ?_⟩
          have e := rdJ_note (V := V) (sk := sk) (it := nx.toNat)
          rw [show ((nx.toNat : Nat) : Int) = nx by omega] at e
          rw [e]
          exact g4
        · show (if _ then _ else B 374 30) = _
          rw [if_neg (by omega)]
          show up _ _ _ _ _ _ = _
          rw [up_ne (by omega), up_ne (by omega), up_ne (by omega)]
          exact up_eq _ _ _ _
        · show (if _ then _ else B 374 31) = _
          rw [if_neg (by omega)]
          show up _ _ _ _ _ _ = _
          rw [up_ne (by omega), up_ne (by omega)]
          exact up_eq _ _ _ _
        · show (if _ then _ else B 374 32) = _
          rw [if_neg (by omega)]
          show up _ _ _ _ _ _ = _
          rw [up_ne (by omega)]
          exact up_eq _ _ _ _
        · show (if _ then _ else B 374 33) = _
          rw [if_neg (by omega)]
          exact up_eq _ _ _ _
        · show (if _ then _ else B 374 34) = _
          rw [if_neg (by omega)]
          show up _ _ _ _ _ _ = _
          rw [up_ne (by omega), up_ne (by omega), up_ne (by omega), up_ne (by omega)]
          exact up_eq _ _ _ _
        · intro dd h1 h2
          show (if 374 = 374 ∧ 35 ≤ 35 + dd ∧ 35 + dd < 35 + 8 then (if (((35 + dd : Nat) : Int) - 35) < V.1 6 7 nx.toNat then iI (V.1 6 1 (V.1 6 6 nx.toNat + 1 + (((35 + dd : Nat) : Int) - 35)).toNat) else iI 0) else B 374 (35 + dd)) = _
          rw [if_pos (by omega), if_pos (by omega), show ((35 + dd : Nat) : Int) - 35 = dd by omega]
    · rw [if_neg hbt] at hr ⊢
      rw [rdJ_s] at hr
      repeat ((first | (with_reducible first | refine w_of hR0 (by omega) (by omega) ?_ | refine w_it hR0 (by omega) (by omega) (by omega) ?_ | refine w_ltA ?_ | refine w_ltS ?_ | refine w_ltM ?_ | refine w_ltN ?_ | refine w_lt ?_ | refine w_jn ?_ | refine w_ck (by omega) (by assumption) ?_ | refine w_gI (by omega) (by assumption) ?_ | refine w_gR (by omega) (by assumption) (by assumption) ?_ | refine w_al (by omega) (by assumption) (by assumption) ?_ | refine w_pI (by omega) (by assumption) ?_ | refine w_set (by omega) (by assumption) (by omega) (by omega) ?_ | refine w_at (by omega) (by assumption) (by omega) (by omega) ?_ | refine w_sI (by omega) (by assumption) (by omega) (by omega) ?_ | refine w_aI (by omega) (by assumption) (by omega) (by omega) ?_ | refine w_sZ (by omega) (by assumption) (by omega) (by omega) (by decide) ?_ | refine w_pZ (by omega) (by assumption) (by decide) ?_ | refine w_dv (by omega) (by omega) (by omega) (by omega) ?_ | refine w_rm (by omega) (by omega) (by omega) (by omega) ?_) | ((with_reducible refine w_pos ?_ ?_); focus (first | assumption | trivial | exact (ile (by omega) (by omega) (by omega) (by omega)).2 (by omega) | exact (ilt (by omega) (by omega) (by omega) (by omega)).2 (by omega) | exact (ieq (by omega) (by omega) (by omega) (by omega)).2 (by omega))) | ((with_reducible refine w_neg ?_ ?_); focus (first | assumption | exact not_false | trivial | exact mt (ile (by omega) (by omega) (by omega) (by omega)).1 (by omega) | exact mt (ilt (by omega) (by omega) (by omega) (by omega)).1 (by omega) | exact mt (ieq (by omega) (by omega) (by omega) (by omega)).1 (by omega)))); skip)
      exact hnxt _ hr
end RFK
