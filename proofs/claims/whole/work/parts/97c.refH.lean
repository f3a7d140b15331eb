/-! THE REFERENCE: put, end, drop -/
theorem zrv_0 {P : PV} {s : Nat} : zrv P s 0 = P := by
  funext f k
  exact zrv_ne (by omega)
theorem zrv_up {P : PV} {s n : Nat} : upv (zrv P s n) 1 (s + n) 0 = zrv P s (n + 1) := by
  funext f k
  unfold upv zrv
  by_cases h : f = 1 ∧ k = s + n
  · rw [if_pos h, if_pos (by omega)]
  · rw [if_neg h]
    by_cases h2 : f = 1 ∧ s ≤ k ∧ k < s + n
    · rw [if_pos h2, if_pos (by omega)]
    · rw [if_neg h2, if_neg (by omega)]
section MTU
variable {I0 I I' : MI} {π : Nat → Nat} {V : RV}
theorem mto_pgs {p : Nat} {P : PV} (h : MTo I0 I π V) (hp : p < 7) (hb : PBl I (61 + 132 * π p) I' P) (hs : I' 374 (61 + 132 * π p) = I 374 (61 + 132 * π p)) (e8 : P 0 8 = V.1 p 0 8) (e4 : P 4 0 = V.1 p 4 0) : MTo I0 I' π (upP V p P) := by
  refine mto_pg h hp hb ?_
  rw [hs, e8, e4]
  exact (h.1.g hp).1
theorem mto_4 (h : MTo I0 I π V) {k : Nat} {v : Int} (hk : k < 4) : MTo I0 (up I 374 (45 + 3 * k) (iI v)) π (upG V 4 k v) := by
  obtain ⟨⟨b1, b2, b3, b4, b5, b6, b7, b8, b9⟩, f1, f2⟩ := h
  refine ⟨⟨b1, b2, fun j' hj' => ?_, ?_, ?_, fun d h1 h2 => ?_, fun k' h1 h2 => ?_, fun q hq => ?_, fun q hq => ?_⟩, fun a k' h1 h2 => ?_, fun k' hk => ?_⟩
  · have hi := (sg_is hj').2.2.2.2.2
    have := hj'.1
    rw [up_ne (by omega), upG_ne (by omega)]
    exact b3 j' hj'
  · have hp : plc (upG V 4 k v) ((upG V 4 k v).2 0 13 - 1) = plc V (V.2 0 13 - 1) := by
      unfold plc
      rw [upG_ne (by omega), upG_ne (by omega), upG_ne (by omega)]
    rw [up_ne (by omega), hp]
    exact b4
  · rw [up_ne (by omega)]
    exact b5
  · rw [upG_ne (by omega)] at h2
    rw [up_ne (by omega), upG_ne (by omega)]
    exact b6 d h1 h2
  · rw [upG_ne (by omega)] at h2
    have hx := b7 k' h1 h2
    rw [up_ne (by omega), up_ne (by omega), upG_ne (g' := 2) (by omega), upG_ne (g' := 3) (by omega)]
    refine ⟨hx.1, hx.2.1, ?_⟩
    by_cases he : k' = k
    · rw [he, up_eq, upG_eq]
    · rw [up_ne (by omega), upG_ne (by omega)]
      exact hx.2.2
  · rw [up_ne (by omega)]
    exact b8 q hq
  · rw [upG_1]
    exact pm_congr (b9 q hq) fun k h1 h2 => up_ne (by omega)
  · rw [up_ne (by omega)]
    exact f1 a k' h1 h2
  · rw [up_ne (by omega)]
    exact f2 k' hk
theorem mto_dec (h : MTo I0 I π V) : MTo I0 (up I 374 6 (iI (V.2 0 15 - 1))) π (decV V) := by
  obtain ⟨⟨b1, b2, b3, b4, b5, b6, b7, b8, b9⟩, f1, f2⟩ := h
  have e15 : (decV V).2 0 15 = V.2 0 15 - 1 := upG_eq
  have eg : ∀ g k, ¬ (g = 0 ∧ k = 15) → (decV V).2 g k = V.2 g k := fun g k h => upG_ne h
  refine ⟨⟨b1, b2, fun j' hj' => ?_, ?_, ?_, fun d h1 h2 => ?_, fun k' h1 h2 => ?_, fun q hq => ?_, fun q hq => ?_⟩, fun a k' h1 h2 => ?_, fun k' hk => ?_⟩
  · by_cases he : j' = 6
    · rw [he, up_eq, ← e15]
      rfl
    · have hi := sg_is hj'
      have hne : ¬ ((sg j').1 = 0 ∧ (sg j').2 = 15) := fun h => he (hi.2.2.1 (Prod.ext h.1 h.2))
      rw [up_ne (by omega), eg _ _ hne]
      exact b3 j' hj'
  · have hp : plc (decV V) ((decV V).2 0 13 - 1) = plc V (V.2 0 13 - 1) := by
      unfold plc
      rw [eg _ _ (by omega), eg _ _ (by omega), eg _ _ (by omega)]
    rw [up_ne (by omega), hp]
    exact b4
  · rw [up_ne (by omega)]
    exact b5
  · rw [eg _ _ (by omega)] at h2
    rw [up_ne (by omega), eg _ _ (by omega)]
    exact b6 d h1 h2
  · rw [e15] at h2
    rw [up_ne (by omega), up_ne (by omega), up_ne (by omega), eg _ _ (by omega), eg _ _ (by omega), eg _ _ (by omega)]
    exact b7 k' h1 (by omega)
  · rw [up_ne (by omega)]
    exact b8 q hq
  · exact pm_congr (b9 q hq) fun k h1 h2 => up_ne (by omega)
  · rw [up_ne (by omega)]
    exact f1 a k' h1 h2
  · rw [up_ne (by omega)]
    exact f2 k' hk
end MTU
section RFH
variable {I I0 : MI} {J : MJ} {R : MR} {π : Nat → Nat} {γ : Type} {Q : γ → Prop} {V : RV} {P k i f n l m : Int} {x : Int32}
theorem closes_Q (hR : RQ R) (h : MTo I0 I π V) (hw : WR (decV V)) (h0 : 0 < V.2 0 15) : En (fun y => ∃ I', y = (381, I', J, R) ∧ MTo I0 I' π (clsV V)) (f_X9_closes (381, I, J, R) 373) := by
  have hb0 := hw.1
  unfold WB at hb0
  have g : ∀ g k, ¬ (g = 0 ∧ k = 15) → (decV V).2 g k = V.2 g k := fun g k h => upG_ne h
  have e15 : (decV V).2 0 15 = V.2 0 15 - 1 := upG_eq
  have m6 : I 374 (Int.toNat 6) = iI (V.2 0 15) := h.1.s 6 (by decide)
  have k374 := kd_374
  have k375 := kd_375
  have l375 := ln_375
  have rq1 := hR.1
  have h1 := mto_dec h
  rw [u_X9_closes]
  repeat ((first | (with_reducible first | refine w_ltA ?_ | refine w_ltS ?_ | refine w_ltM ?_ | refine w_ltN ?_ | refine w_lt ?_ | refine w_jn ?_ | refine w_ck (by omega) (by assumption) ?_ | refine w_gI (by omega) (by assumption) ?_ | refine w_gR (by omega) (by assumption) (by assumption) ?_ | refine w_al (by omega) (by assumption) (by assumption) ?_ | refine w_pI (by omega) (by assumption) ?_ | refine w_set (by omega) (by assumption) (by omega) (by omega) ?_ | refine w_at (by omega) (by assumption) (by omega) (by omega) ?_ | refine w_sI (by omega) (by assumption) (by omega) (by omega) ?_ | refine w_aI (by omega) (by assumption) (by omega) (by omega) ?_ | refine w_sZ (by omega) (by assumption) (by omega) (by omega) (by decide) ?_ | refine w_pZ (by omega) (by assumption) (by decide) ?_ | refine w_dv (by omega) (by omega) (by omega) (by omega) ?_ | refine w_rm (by omega) (by omega) (by omega) (by omega) ?_) | ((with_reducible refine w_pos ?_ ?_); focus (first | assumption | trivial | exact (ile (by omega) (by omega) (by omega) (by omega)).2 (by omega) | exact (ilt (by omega) (by omega) (by omega) (by omega)).2 (by omega) | exact (ieq (by omega) (by omega) (by omega) (by omega)).2 (by omega))) | ((with_reducible refine w_neg ?_ ?_); focus (first | assumption | exact not_false | trivial | exact mt (ile (by omega) (by omega) (by omega) (by omega)).1 (by omega) | exact mt (ilt (by omega) (by omega) (by omega) (by omega)).1 (by omega) | exact mt (ieq (by omega) (by omega) (by omega) (by omega)).1 (by omega)))); try simp (disch := omega) only [m6])
  rw [show Int.toNat 6 = 6 from rfl]
  refine w_lp 6 (fun j y => (j : Int) ≤ (decV V).2 0 8 ∧ ∃ I', y = (iI j, (381, I', J, R)) ∧ MTo I0 I' π (pgsV (decV V) j fun p => rdP ((decV V).1 p)) ∧ (V.2 0 15 - 1 ≠ 0 → j = 0)) ⟨by omega, _, rfl, h1, fun _ => rfl⟩ (by rw [FU_eq]; omega) (fun i y h => by omega) ?_
  rintro j y self ⟨hj, I', rfl, hI, hz⟩ ih
  try dsimp only
  have hq := hI.1
  have t0 : I' 374 (Int.toNat 0) = iI ((decV V).2 0 8) := hq.s 0 (by decide)
  have t6 : I' 374 (Int.toNat 6) = iI (V.2 0 15 - 1) := by
    have := hq.s 6 (by decide)
    rw [← e15]
    exact this
  by_cases hn : (j : Int) < (decV V).2 0 8
  · by_cases hx : V.2 0 15 - 1 = 0
    · have hpa := pageAt_Q (J := J) (p := j) hR hq ⟨by omega, by omega⟩
      have hpl := hq.l (p := j) (by omega)
      have hP := hq.g (p := j) (by omega)
      have hu := pm_u hP
      rw [Int.toNat_natCast] at hpa
      repeat ((first | (with_reducible first | refine w_ltA ?_ | refine w_ltS ?_ | refine w_ltM ?_ | refine w_ltN ?_ | refine w_lt ?_ | refine w_jn ?_ | refine w_ck (by omega) (by assumption) ?_ | refine w_gI (by omega) (by assumption) ?_ | refine w_gR (by omega) (by assumption) (by assumption) ?_ | refine w_al (by omega) (by assumption) (by assumption) ?_ | refine w_pI (by omega) (by assumption) ?_ | refine w_set (by omega) (by assumption) (by omega) (by omega) ?_ | refine w_at (by omega) (by assumption) (by omega) (by omega) ?_ | refine w_sI (by omega) (by assumption) (by omega) (by omega) ?_ | refine w_aI (by omega) (by assumption) (by omega) (by omega) ?_ | refine w_sZ (by omega) (by assumption) (by omega) (by omega) (by decide) ?_ | refine w_pZ (by omega) (by assumption) (by decide) ?_ | refine w_dv (by omega) (by omega) (by omega) (by omega) ?_ | refine w_rm (by omega) (by omega) (by omega) (by omega) ?_) | ((with_reducible refine w_pos ?_ ?_); focus (first | assumption | trivial | exact (ile (by omega) (by omega) (by omega) (by omega)).2 (by omega) | exact (ilt (by omega) (by omega) (by omega) (by omega)).2 (by omega) | exact (ieq (by omega) (by omega) (by omega) (by omega)).2 (by omega))) | ((with_reducible refine w_neg ?_ ?_); focus (first | assumption | exact not_false | trivial | exact mt (ile (by omega) (by omega) (by omega) (by omega)).1 (by omega) | exact mt (ilt (by omega) (by omega) (by omega) (by omega)).1 (by omega) | exact mt (ieq (by omega) (by omega) (by omega) (by omega)).1 (by omega)))); try simp (disch := omega) only [t0, t6])
      refine w_cP hpa ?_
      repeat ((first | (with_reducible first | refine w_ltA ?_ | refine w_ltS ?_ | refine w_ltM ?_ | refine w_ltN ?_ | refine w_lt ?_ | refine w_jn ?_ | refine w_ck (by omega) (by assumption) ?_ | refine w_gI (by omega) (by assumption) ?_ | refine w_gR (by omega) (by assumption) (by assumption) ?_ | refine w_al (by omega) (by assumption) (by assumption) ?_ | refine w_pI (by omega) (by assumption) ?_ | refine w_set (by omega) (by assumption) (by omega) (by omega) ?_ | refine w_at (by omega) (by assumption) (by omega) (by omega) ?_ | refine w_sI (by omega) (by assumption) (by omega) (by omega) ?_ | refine w_aI (by omega) (by assumption) (by omega) (by omega) ?_ | refine w_sZ (by omega) (by assumption) (by omega) (by omega) (by decide) ?_ | refine w_pZ (by omega) (by assumption) (by decide) ?_ | refine w_dv (by omega) (by omega) (by omega) (by omega) ?_ | refine w_rm (by omega) (by omega) (by omega) (by omega) ?_) | ((with_reducible refine w_pos ?_ ?_); focus (first | assumption | trivial | exact (ile (by omega) (by omega) (by omega) (by omega)).2 (by omega) | exact (ilt (by omega) (by omega) (by omega) (by omega)).2 (by omega) | exact (ieq (by omega) (by omega) (by omega) (by omega)).2 (by omega))) | ((with_reducible refine w_neg ?_ ?_); focus (first | assumption | exact not_false | trivial | exact mt (ile (by omega) (by omega) (by omega) (by omega)).1 (by omega) | exact mt (ilt (by omega) (by omega) (by omega) (by omega)).1 (by omega) | exact mt (ieq (by omega) (by omega) (by omega) (by omega)).1 (by omega)))); try simp (disch := omega) only [t0, t6])
      refine w_cP hpa ?_
      repeat ((first | (with_reducible first | refine w_of hR (by omega) (by omega) ?_ | refine w_lay hR (by omega) (by omega) ?_ | refine w_ltA ?_ | refine w_ltS ?_ | refine w_ltM ?_ | refine w_ltN ?_ | refine w_lt ?_ | refine w_jn ?_ | refine w_ck (by omega) (by assumption) ?_ | refine w_gI (by omega) (by assumption) ?_ | refine w_gR (by omega) (by assumption) (by assumption) ?_ | refine w_al (by omega) (by assumption) (by assumption) ?_ | refine w_pI (by omega) (by assumption) ?_ | refine w_set (by omega) (by assumption) (by omega) (by omega) ?_ | refine w_at (by omega) (by assumption) (by omega) (by omega) ?_ | refine w_sI (by omega) (by assumption) (by omega) (by omega) ?_ | refine w_aI (by omega) (by assumption) (by omega) (by omega) ?_ | refine w_sZ (by omega) (by assumption) (by omega) (by omega) (by decide) ?_ | refine w_pZ (by omega) (by assumption) (by decide) ?_ | refine w_dv (by omega) (by omega) (by omega) (by omega) ?_ | refine w_rm (by omega) (by omega) (by omega) (by omega) ?_) | ((with_reducible refine w_pos ?_ ?_); focus (first | assumption | trivial | exact (ile (by omega) (by omega) (by omega) (by omega)).2 (by omega) | exact (ilt (by omega) (by omega) (by omega) (by omega)).2 (by omega) | exact (ieq (by omega) (by omega) (by omega) (by omega)).2 (by omega))) | ((with_reducible refine w_neg ?_ ?_); focus (first | assumption | exact not_false | trivial | exact mt (ile (by omega) (by omega) (by omega) (by omega)).1 (by omega) | exact mt (ilt (by omega) (by omega) (by omega) (by omega)).1 (by omega) | exact mt (ieq (by omega) (by omega) (by omega) (by omega)).1 (by omega)))); try simp (disch := omega) only [hu])
      have eP : (pgsV (decV V) j fun p => rdP ((decV V).1 p)).1 j = (decV V).1 j := if_neg (by omega)
      rw [eP] at hP
      have hb := pb_r (v := (decV V).1 j 0 9) (pb_0 hP)
      have hg := mto_pgs hI (show j < 7 by omega) hb (up_ne (by omega)) (by rw [eP, upv_ne (by omega)]) (by rw [eP, upv_ne (by omega)])
      rw [eP]
      have ej1 : (j : Int) + 1 = ((j + 1 : Nat) : Int) := by omega
      rw [ej1]
      refine ih _ ⟨by omega, _, rfl, ?_, fun h => absurd hx h⟩
      · have e : upP (pgsV (decV V) j fun p => rdP ((decV V).1 p)) j (upv ((decV V).1 j) 0 10 ((decV V).1 j 0 9)) = pgsV (decV V) (j + 1) fun p => rdP ((decV V).1 p) := by
          refine Prod.ext ?_ rfl
          funext p
          show (if p = j then rdP ((decV V).1 j) else if p < j then rdP ((decV V).1 p) else (decV V).1 p) = if p < j + 1 then rdP ((decV V).1 p) else (decV V).1 p
          by_cases c1 : p = j
          · rw [if_pos c1, if_pos (by omega), c1]
          · rw [if_neg c1]
            by_cases c2 : p < j
            · rw [if_pos c2, if_pos (by omega)]
            · rw [if_neg c2, if_neg (by omega)]
        rw [e] at hg
        exact hg
    · repeat ((first | (with_reducible first | refine w_ltA ?_ | refine w_ltS ?_ | refine w_ltM ?_ | refine w_ltN ?_ | refine w_lt ?_ | refine w_jn ?_ | refine w_ck (by omega) (by assumption) ?_ | refine w_gI (by omega) (by assumption) ?_ | refine w_gR (by omega) (by assumption) (by assumption) ?_ | refine w_al (by omega) (by assumption) (by assumption) ?_ | refine w_pI (by omega) (by assumption) ?_ | refine w_set (by omega) (by assumption) (by omega) (by omega) ?_ | refine w_at (by omega) (by assumption) (by omega) (by omega) ?_ | refine w_sI (by omega) (by assumption) (by omega) (by omega) ?_ | refine w_aI (by omega) (by assumption) (by omega) (by omega) ?_ | refine w_sZ (by omega) (by assumption) (by omega) (by omega) (by decide) ?_ | refine w_pZ (by omega) (by assumption) (by decide) ?_ | refine w_dv (by omega) (by omega) (by omega) (by omega) ?_ | refine w_rm (by omega) (by omega) (by omega) (by omega) ?_) | ((with_reducible refine w_pos ?_ ?_); focus (first | assumption | trivial | exact (ile (by omega) (by omega) (by omega) (by omega)).2 (by omega) | exact (ilt (by omega) (by omega) (by omega) (by omega)).2 (by omega) | exact (ieq (by omega) (by omega) (by omega) (by omega)).2 (by omega))) | ((with_reducible refine w_neg ?_ ?_); focus (first | assumption | exact not_false | trivial | exact mt (ile (by omega) (by omega) (by omega) (by omega)).1 (by omega) | exact mt (ilt (by omega) (by omega) (by omega) (by omega)).1 (by omega) | exact mt (ieq (by omega) (by omega) (by omega) (by omega)).1 (by omega)))); try simp (disch := omega) only [t0, t6])
      refine w_rt ⟨I', rfl, ?_⟩
      have hj0 := hz hx
      subst hj0
      unfold clsV
      rw [if_neg hx]
      exact hI
  · repeat ((first | (with_reducible first | refine w_ltA ?_ | refine w_ltS ?_ | refine w_ltM ?_ | refine w_ltN ?_ | refine w_lt ?_ | refine w_jn ?_ | refine w_ck (by omega) (by assumption) ?_ | refine w_gI (by omega) (by assumption) ?_ | refine w_gR (by omega) (by assumption) (by assumption) ?_ | refine w_al (by omega) (by assumption) (by assumption) ?_ | refine w_pI (by omega) (by assumption) ?_ | refine w_set (by omega) (by assumption) (by omega) (by omega) ?_ | refine w_at (by omega) (by assumption) (by omega) (by omega) ?_ | refine w_sI (by omega) (by assumption) (by omega) (by omega) ?_ | refine w_aI (by omega) (by assumption) (by omega) (by omega) ?_ | refine w_sZ (by omega) (by assumption) (by omega) (by omega) (by decide) ?_ | refine w_pZ (by omega) (by assumption) (by decide) ?_ | refine w_dv (by omega) (by omega) (by omega) (by omega) ?_ | refine w_rm (by omega) (by omega) (by omega) (by omega) ?_) | ((with_reducible refine w_pos ?_ ?_); focus (first | assumption | trivial | exact (ile (by omega) (by omega) (by omega) (by omega)).2 (by omega) | exact (ilt (by omega) (by omega) (by omega) (by omega)).2 (by omega) | exact (ieq (by omega) (by omega) (by omega) (by omega)).2 (by omega))) | ((with_reducible refine w_neg ?_ ?_); focus (first | assumption | exact not_false | trivial | exact mt (ile (by omega) (by omega) (by omega) (by omega)).1 (by omega) | exact mt (ilt (by omega) (by omega) (by omega) (by omega)).1 (by omega) | exact mt (ieq (by omega) (by omega) (by omega) (by omega)).1 (by omega)))); try simp (disch := omega) only [t0, t6])
    refine w_rt ⟨I', rfl, ?_⟩
    have hx : V.2 0 15 - 1 = 0 := by
      rcases Int.lt_trichotomy (V.2 0 15 - 1) 0 with h | h | h
      · omega
      · exact h
      · have := hz (by omega)
        omega
    unfold clsV
    rw [if_pos hx]
    have e : rdA (decV V) = pgsV (decV V) j fun p => rdP ((decV V).1 p) := by
      refine Prod.ext ?_ rfl
      funext p
      show (if p < 6 then rdP ((decV V).1 p) else (decV V).1 p) = if p < j then rdP ((decV V).1 p) else (decV V).1 p
      by_cases c1 : p < j
      · rw [if_pos c1, if_pos (by omega)]
      · rw [if_neg c1]
        by_cases c2 : p < 6
        · rw [if_pos c2]
          have he := rdP_ep (hw.2.2.1 p c2 (fun hl => by
            unfold liveAt at hl
            omega))
          funext f k
          exact he f k
        · rw [if_neg c2]
    rw [e]
    exact hI
theorem puts_Q (hR : RQ R) (h : MTo I0 I π V) (hw : WR V) (hl1 : -2147483648 ≤ l) (hl2 : l < 2147483648) (hm : 0 ≤ m ∧ m ≤ 255) : En (fun y => y.1 = iI (putV V l m).1 ∧ ∃ I', y.2 = (381, I', J, R) ∧ MTo I0 I' π (putV V l m).2) (f_X9_puts (381, I, J, R) 373 (iI l) (iI m)) := by
  have hq := h.1
  have hin := innermost_Q (J := J) hR hq hw
  have hil := inn_le hw
  have hop := fun (k : Int) h => openPage_Q (J := J) (k := k) hR hq hw h
  have hoi := fun (k : Int) h => openItem_Q (J := J) (k := k) hR hq hw h
  have k374 := kd_374
  have k375 := kd_375
  have l375 := ln_375
  have k381 := kd_381
  have l381 := ln_381
  have hR0 := hR
  obtain ⟨rq1, rq2, rq3, rq12, rq16, rq17, rq19⟩ := hR
  have m0 : I 374 (Int.toNat 0) = iI (V.2 0 8) := hq.s 0 (by decide)
  have m1 : I 374 (Int.toNat 1) = iI (V.2 0 9) := hq.s 1 (by decide)
  have m2 : I 374 (Int.toNat 2) = iI (V.2 0 10) := hq.s 2 (by decide)
  have m3 : I 374 (Int.toNat 3) = iI (V.2 0 11) := hq.s 3 (by decide)
  have m4 : I 374 (Int.toNat 4) = iI (V.2 0 12) := hq.s 4 (by decide)
  have m5 : I 374 (Int.toNat 5) = iI (plc V (V.2 0 13 - 1)) := hq.t
  have m6 : I 374 (Int.toNat 6) = iI (V.2 0 15) := hq.s 6 (by decide)
  have m7 : I 374 (Int.toNat 7) = iI (π 6) := hq.r
  have m8 : I 374 (Int.toNat 8) = iI (V.2 0 7) := hq.s 8 (by decide)
  have m9 : I 374 (Int.toNat 9) = iI (V.2 0 14) := hq.s 9 (by decide)
  have hbb := hw.1
  unfold WB at hbb
  rw [u_X9_puts]
  unfold putV
  rw [if_neg (by omega), if_neg (by omega)]
  repeat ((first | (with_reducible first | refine w_ltA ?_ | refine w_ltS ?_ | refine w_ltM ?_ | refine w_ltN ?_ | refine w_lt ?_ | refine w_jn ?_ | refine w_ck (by omega) (by assumption) ?_ | refine w_gI (by omega) (by assumption) ?_ | refine w_gR (by omega) (by assumption) (by assumption) ?_ | refine w_al (by omega) (by assumption) (by assumption) ?_ | refine w_pI (by omega) (by assumption) ?_ | refine w_set (by omega) (by assumption) (by omega) (by omega) ?_ | refine w_at (by omega) (by assumption) (by omega) (by omega) ?_ | refine w_sI (by omega) (by assumption) (by omega) (by omega) ?_ | refine w_aI (by omega) (by assumption) (by omega) (by omega) ?_ | refine w_sZ (by omega) (by assumption) (by omega) (by omega) (by decide) ?_ | refine w_pZ (by omega) (by assumption) (by decide) ?_ | refine w_dv (by omega) (by omega) (by omega) (by omega) ?_ | refine w_rm (by omega) (by omega) (by omega) (by omega) ?_) | ((with_reducible refine w_pos ?_ ?_); focus (first | assumption | trivial | exact (ile (by omega) (by omega) (by omega) (by omega)).2 (by omega) | exact (ilt (by omega) (by omega) (by omega) (by omega)).2 (by omega) | exact (ieq (by omega) (by omega) (by omega) (by omega)).2 (by omega))) | ((with_reducible refine w_neg ?_ ?_); focus (first | assumption | exact not_false | trivial | exact mt (ile (by omega) (by omega) (by omega) (by omega)).1 (by omega) | exact mt (ilt (by omega) (by omega) (by omega) (by omega)).1 (by omega) | exact mt (ieq (by omega) (by omega) (by omega) (by omega)).1 (by omega)))); try simp (disch := omega) only [m6])
  refine w_cP hin ?_
  by_cases h3 : isIn V l
  · rw [if_pos h3]
    obtain ⟨i1, i2, i3, i4, i5, i6, i7, i8, i9, i10, i11, i12⟩ := hw.i h3.1
    have h15 := h3.1
    have e3 := h3.2
    have hat := i11.at (i := (iIt V).toNat) (by omega)
    have hpl := hq.l (p := (iPl V).toNat) (by omega)
    have hP : PM I (61 + 132 * π (iPl V).toNat) (iPg V) := hq.g (p := (iPl V).toNat) (by omega)
    have c7 : I 374 (61 + 132 * (π (iPl V).toNat : Int) + (36 + 6 * iIt V + 4)).toNat = iI (iPg V 7 (iIt V).toNat) := pm_i hP (by omega) (by omega) (by omega) (by omega)
    have c6 : I 374 (61 + 132 * (π (iPl V).toNat : Int) + (36 + 6 * iIt V + 5)).toNat = iI (iPg V 6 (iIt V).toNat) := pm_i hP (by omega) (by omega) (by omega) (by omega)
    have s4 : I 374 (43 + 3 * (V.2 0 15 - 1) + 2).toNat = iI (iPu V) := (hq.o (by omega) (by omega) (by omega)).2.2
    have hopI : f_X9_openPage (381, I, J, R) 373 (iI (V.2 0 15 - 1)) = some (iI (π (iPl V).toNat)) := hop _ (by omega)
    have hoiI : f_X9_openItem (381, I, J, R) 373 (iI (V.2 0 15 - 1)) = some (iI (iIt V)) := hoi _ (by omega)
    repeat ((first | (with_reducible first | refine w_ltA ?_ | refine w_ltS ?_ | refine w_ltM ?_ | refine w_ltN ?_ | refine w_lt ?_ | refine w_jn ?_ | refine w_ck (by omega) (by assumption) ?_ | refine w_gI (by omega) (by assumption) ?_ | refine w_gR (by omega) (by assumption) (by assumption) ?_ | refine w_al (by omega) (by assumption) (by assumption) ?_ | refine w_pI (by omega) (by assumption) ?_ | refine w_set (by omega) (by assumption) (by omega) (by omega) ?_ | refine w_at (by omega) (by assumption) (by omega) (by omega) ?_ | refine w_sI (by omega) (by assumption) (by omega) (by omega) ?_ | refine w_aI (by omega) (by assumption) (by omega) (by omega) ?_ | refine w_sZ (by omega) (by assumption) (by omega) (by omega) (by decide) ?_ | refine w_pZ (by omega) (by assumption) (by decide) ?_ | refine w_dv (by omega) (by omega) (by omega) (by omega) ?_ | refine w_rm (by omega) (by omega) (by omega) (by omega) ?_) | ((with_reducible refine w_pos ?_ ?_); focus (first | assumption | trivial | exact (ile (by omega) (by omega) (by omega) (by omega)).2 (by omega) | exact (ilt (by omega) (by omega) (by omega) (by omega)).2 (by omega) | exact (ieq (by omega) (by omega) (by omega) (by omega)).2 (by omega))) | ((with_reducible refine w_neg ?_ ?_); focus (first | assumption | exact not_false | trivial | exact mt (ile (by omega) (by omega) (by omega) (by omega)).1 (by omega) | exact mt (ilt (by omega) (by omega) (by omega) (by omega)).1 (by omega) | exact mt (ieq (by omega) (by omega) (by omega) (by omega)).1 (by omega)))); try simp (disch := omega) only [m6])
    refine w_cP hopI ?_
    repeat ((first | (with_reducible first | refine w_ltA ?_ | refine w_ltS ?_ | refine w_ltM ?_ | refine w_ltN ?_ | refine w_lt ?_ | refine w_jn ?_ | refine w_ck (by omega) (by assumption) ?_ | refine w_gI (by omega) (by assumption) ?_ | refine w_gR (by omega) (by assumption) (by assumption) ?_ | refine w_al (by omega) (by assumption) (by assumption) ?_ | refine w_pI (by omega) (by assumption) ?_ | refine w_set (by omega) (by assumption) (by omega) (by omega) ?_ | refine w_at (by omega) (by assumption) (by omega) (by omega) ?_ | refine w_sI (by omega) (by assumption) (by omega) (by omega) ?_ | refine w_aI (by omega) (by assumption) (by omega) (by omega) ?_ | refine w_sZ (by omega) (by assumption) (by omega) (by omega) (by decide) ?_ | refine w_pZ (by omega) (by assumption) (by decide) ?_ | refine w_dv (by omega) (by omega) (by omega) (by omega) ?_ | refine w_rm (by omega) (by omega) (by omega) (by omega) ?_) | ((with_reducible refine w_pos ?_ ?_); focus (first | assumption | trivial | exact (ile (by omega) (by omega) (by omega) (by omega)).2 (by omega) | exact (ilt (by omega) (by omega) (by omega) (by omega)).2 (by omega) | exact (ieq (by omega) (by omega) (by omega) (by omega)).2 (by omega))) | ((with_reducible refine w_neg ?_ ?_); focus (first | assumption | exact not_false | trivial | exact mt (ile (by omega) (by omega) (by omega) (by omega)).1 (by omega) | exact mt (ilt (by omega) (by omega) (by omega) (by omega)).1 (by omega) | exact mt (ieq (by omega) (by omega) (by omega) (by omega)).1 (by omega)))); try simp (disch := omega) only [m6])
    refine w_cP hoiI ?_
    repeat ((first | (with_reducible first | refine w_it hR0 (by omega) (by omega) (by omega) ?_ | refine w_cell hR0 (by omega) (by omega) ?_ | refine w_ltA ?_ | refine w_ltS ?_ | refine w_ltM ?_ | refine w_ltN ?_ | refine w_lt ?_ | refine w_jn ?_ | refine w_ck (by omega) (by assumption) ?_ | refine w_gI (by omega) (by assumption) ?_ | refine w_gR (by omega) (by assumption) (by assumption) ?_ | refine w_al (by omega) (by assumption) (by assumption) ?_ | refine w_pI (by omega) (by assumption) ?_ | refine w_set (by omega) (by assumption) (by omega) (by omega) ?_ | refine w_at (by omega) (by assumption) (by omega) (by omega) ?_ | refine w_sI (by omega) (by assumption) (by omega) (by omega) ?_ | refine w_aI (by omega) (by assumption) (by omega) (by omega) ?_ | refine w_sZ (by omega) (by assumption) (by omega) (by omega) (by decide) ?_ | refine w_pZ (by omega) (by assumption) (by decide) ?_ | refine w_dv (by omega) (by omega) (by omega) (by omega) ?_ | refine w_rm (by omega) (by omega) (by omega) (by omega) ?_) | ((with_reducible refine w_pos ?_ ?_); focus (first | assumption | trivial | exact (ile (by omega) (by omega) (by omega) (by omega)).2 (by omega) | exact (ilt (by omega) (by omega) (by omega) (by omega)).2 (by omega) | exact (ieq (by omega) (by omega) (by omega) (by omega)).2 (by omega))) | ((with_reducible refine w_neg ?_ ?_); focus (first | assumption | exact not_false | trivial | exact mt (ile (by omega) (by omega) (by omega) (by omega)).1 (by omega) | exact mt (ilt (by omega) (by omega) (by omega) (by omega)).1 (by omega) | exact mt (ieq (by omega) (by omega) (by omega) (by omega)).1 (by omega)))); try simp (disch := omega) only [c7, c6, s4])
    by_cases h4 : 1 ≤ iPg V 7 (iIt V).toNat - iPu V
    · rw [if_pos h4]
      repeat ((first | (with_reducible first | refine w_it hR0 (by omega) (by omega) (by omega) ?_ | refine w_cell hR0 (by omega) (by omega) ?_ | refine w_ltA ?_ | refine w_ltS ?_ | refine w_ltM ?_ | refine w_ltN ?_ | refine w_lt ?_ | refine w_jn ?_ | refine w_ck (by omega) (by assumption) ?_ | refine w_gI (by omega) (by assumption) ?_ | refine w_gR (by omega) (by assumption) (by assumption) ?_ | refine w_al (by omega) (by assumption) (by assumption) ?_ | refine w_pI (by omega) (by assumption) ?_ | refine w_set (by omega) (by assumption) (by omega) (by omega) ?_ | refine w_at (by omega) (by assumption) (by omega) (by omega) ?_ | refine w_sI (by omega) (by assumption) (by omega) (by omega) ?_ | refine w_aI (by omega) (by assumption) (by omega) (by omega) ?_ | refine w_sZ (by omega) (by assumption) (by omega) (by omega) (by decide) ?_ | refine w_pZ (by omega) (by assumption) (by decide) ?_ | refine w_dv (by omega) (by omega) (by omega) (by omega) ?_ | refine w_rm (by omega) (by omega) (by omega) (by omega) ?_) | ((with_reducible refine w_pos ?_ ?_); focus (first | assumption | trivial | exact (ile (by omega) (by omega) (by omega) (by omega)).2 (by omega) | exact (ilt (by omega) (by omega) (by omega) (by omega)).2 (by omega) | exact (ieq (by omega) (by omega) (by omega) (by omega)).2 (by omega))) | ((with_reducible refine w_neg ?_ ?_); focus (first | assumption | exact not_false | trivial | exact mt (ile (by omega) (by omega) (by omega) (by omega)).1 (by omega) | exact mt (ilt (by omega) (by omega) (by omega) (by omega)).1 (by omega) | exact mt (ieq (by omega) (by omega) (by omega) (by omega)).1 (by omega)))); try simp (disch := omega) only [c7, c6, s4])
      refine w_cP hoiI ?_
      repeat ((first | (with_reducible first | refine w_it hR0 (by omega) (by omega) (by omega) ?_ | refine w_cell hR0 (by omega) (by omega) ?_ | refine w_ltA ?_ | refine w_ltS ?_ | refine w_ltM ?_ | refine w_ltN ?_ | refine w_lt ?_ | refine w_jn ?_ | refine w_ck (by omega) (by assumption) ?_ | refine w_gI (by omega) (by assumption) ?_ | refine w_gR (by omega) (by assumption) (by assumption) ?_ | refine w_al (by omega) (by assumption) (by assumption) ?_ | refine w_pI (by omega) (by assumption) ?_ | refine w_set (by omega) (by assumption) (by omega) (by omega) ?_ | refine w_at (by omega) (by assumption) (by omega) (by omega) ?_ | refine w_sI (by omega) (by assumption) (by omega) (by omega) ?_ | refine w_aI (by omega) (by assumption) (by omega) (by omega) ?_ | refine w_sZ (by omega) (by assumption) (by omega) (by omega) (by decide) ?_ | refine w_pZ (by omega) (by assumption) (by decide) ?_ | refine w_dv (by omega) (by omega) (by omega) (by omega) ?_ | refine w_rm (by omega) (by omega) (by omega) (by omega) ?_) | ((with_reducible refine w_pos ?_ ?_); focus (first | assumption | trivial | exact (ile (by omega) (by omega) (by omega) (by omega)).2 (by omega) | exact (ilt (by omega) (by omega) (by omega) (by omega)).2 (by omega) | exact (ieq (by omega) (by omega) (by omega) (by omega)).2 (by omega))) | ((with_reducible refine w_neg ?_ ?_); focus (first | assumption | exact not_false | trivial | exact mt (ile (by omega) (by omega) (by omega) (by omega)).1 (by omega) | exact mt (ilt (by omega) (by omega) (by omega) (by omega)).1 (by omega) | exact mt (ieq (by omega) (by omega) (by omega) (by omega)).1 (by omega)))); try simp (disch := omega) only [c7, c6, s4])
      refine w_rt ⟨rfl, _, rfl, ?_⟩
      have hb := pb_c (c := iPg V 6 (iIt V).toNat + 1 + iPu V) (v := m) (pb_0 hP) (by omega) (by omega)
      have hg := mto_pgs h (show (iPl V).toNat < 7 by omega) hb (up_ne (by omega)) (upv_ne (by omega)) (upv_ne (by omega))
      have hg2 := mto_4 hg (k := (V.2 0 15 - 1).toNat) (v := iPu V + 1) (by omega)
      rw [show (43 + 3 * (V.2 0 15 - 1) + 2).toNat = 45 + 3 * (V.2 0 15 - 1).toNat by omega]
      exact hg2
    · rw [if_neg h4]
      repeat ((first | (with_reducible first | refine w_it hR0 (by omega) (by omega) (by omega) ?_ | refine w_cell hR0 (by omega) (by omega) ?_ | refine w_ltA ?_ | refine w_ltS ?_ | refine w_ltM ?_ | refine w_ltN ?_ | refine w_lt ?_ | refine w_jn ?_ | refine w_ck (by omega) (by assumption) ?_ | refine w_gI (by omega) (by assumption) ?_ | refine w_gR (by omega) (by assumption) (by assumption) ?_ | refine w_al (by omega) (by assumption) (by assumption) ?_ | refine w_pI (by omega) (by assumption) ?_ | refine w_set (by omega) (by assumption) (by omega) (by omega) ?_ | refine w_at (by omega) (by assumption) (by omega) (by omega) ?_ | refine w_sI (by omega) (by assumption) (by omega) (by omega) ?_ | refine w_aI (by omega) (by assumption) (by omega) (by omega) ?_ | refine w_sZ (by omega) (by assumption) (by omega) (by omega) (by decide) ?_ | refine w_pZ (by omega) (by assumption) (by decide) ?_ | refine w_dv (by omega) (by omega) (by omega) (by omega) ?_ | refine w_rm (by omega) (by omega) (by omega) (by omega) ?_) | ((with_reducible refine w_pos ?_ ?_); focus (first | assumption | trivial | exact (ile (by omega) (by omega) (by omega) (by omega)).2 (by omega) | exact (ilt (by omega) (by omega) (by omega) (by omega)).2 (by omega) | exact (ieq (by omega) (by omega) (by omega) (by omega)).2 (by omega))) | ((with_reducible refine w_neg ?_ ?_); focus (first | assumption | exact not_false | trivial | exact mt (ile (by omega) (by omega) (by omega) (by omega)).1 (by omega) | exact mt (ilt (by omega) (by omega) (by omega) (by omega)).1 (by omega) | exact mt (ieq (by omega) (by omega) (by omega) (by omega)).1 (by omega)))); try simp (disch := omega) only [c7, c6, s4])
      exact w_rt ⟨rfl, I, rfl, h⟩
  · rw [if_neg h3]
    by_cases e3 : inn V = l
    · have h15 : ¬ 0 < V.2 0 15 := fun hh => h3 ⟨hh, e3⟩
      repeat ((first | (with_reducible first | refine w_ltA ?_ | refine w_ltS ?_ | refine w_ltM ?_ | refine w_ltN ?_ | refine w_lt ?_ | refine w_jn ?_ | refine w_ck (by omega) (by assumption) ?_ | refine w_gI (by omega) (by assumption) ?_ | refine w_gR (by omega) (by assumption) (by assumption) ?_ | refine w_al (by omega) (by assumption) (by assumption) ?_ | refine w_pI (by omega) (by assumption) ?_ | refine w_set (by omega) (by assumption) (by omega) (by omega) ?_ | refine w_at (by omega) (by assumption) (by omega) (by omega) ?_ | refine w_sI (by omega) (by assumption) (by omega) (by omega) ?_ | refine w_aI (by omega) (by assumption) (by omega) (by omega) ?_ | refine w_sZ (by omega) (by assumption) (by omega) (by omega) (by decide) ?_ | refine w_pZ (by omega) (by assumption) (by decide) ?_ | refine w_dv (by omega) (by omega) (by omega) (by omega) ?_ | refine w_rm (by omega) (by omega) (by omega) (by omega) ?_) | ((with_reducible refine w_pos ?_ ?_); focus (first | assumption | trivial | exact (ile (by omega) (by omega) (by omega) (by omega)).2 (by omega) | exact (ilt (by omega) (by omega) (by omega) (by omega)).2 (by omega) | exact (ieq (by omega) (by omega) (by omega) (by omega)).2 (by omega))) | ((with_reducible refine w_neg ?_ ?_); focus (first | assumption | exact not_false | trivial | exact mt (ile (by omega) (by omega) (by omega) (by omega)).1 (by omega) | exact mt (ilt (by omega) (by omega) (by omega) (by omega)).1 (by omega) | exact mt (ieq (by omega) (by omega) (by omega) (by omega)).1 (by omega)))); try simp (disch := omega) only [m6])
      exact w_rt ⟨rfl, I, rfl, h⟩
    · repeat ((first | (with_reducible first | refine w_ltA ?_ | refine w_ltS ?_ | refine w_ltM ?_ | refine w_ltN ?_ | refine w_lt ?_ | refine w_jn ?_ | refine w_ck (by omega) (by assumption) ?_ | refine w_gI (by omega) (by assumption) ?_ | refine w_gR (by omega) (by assumption) (by assumption) ?_ | refine w_al (by omega) (by assumption) (by assumption) ?_ | refine w_pI (by omega) (by assumption) ?_ | refine w_set (by omega) (by assumption) (by omega) (by omega) ?_ | refine w_at (by omega) (by assumption) (by omega) (by omega) ?_ | refine w_sI (by omega) (by assumption) (by omega) (by omega) ?_ | refine w_aI (by omega) (by assumption) (by omega) (by omega) ?_ | refine w_sZ (by omega) (by assumption) (by omega) (by omega) (by decide) ?_ | refine w_pZ (by omega) (by assumption) (by decide) ?_ | refine w_dv (by omega) (by omega) (by omega) (by omega) ?_ | refine w_rm (by omega) (by omega) (by omega) (by omega) ?_) | ((with_reducible refine w_pos ?_ ?_); focus (first | assumption | trivial | exact (ile (by omega) (by omega) (by omega) (by omega)).2 (by omega) | exact (ilt (by omega) (by omega) (by omega) (by omega)).2 (by omega) | exact (ieq (by omega) (by omega) (by omega) (by omega)).2 (by omega))) | ((with_reducible refine w_neg ?_ ?_); focus (first | assumption | exact not_false | trivial | exact mt (ile (by omega) (by omega) (by omega) (by omega)).1 (by omega) | exact mt (ilt (by omega) (by omega) (by omega) (by omega)).1 (by omega) | exact mt (ieq (by omega) (by omega) (by omega) (by omega)).1 (by omega)))); try simp (disch := omega) only [m6])
      exact w_rt ⟨rfl, I, rfl, h⟩
end RFH
