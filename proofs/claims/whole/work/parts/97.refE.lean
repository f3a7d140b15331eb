/-! THE REFERENCE: a record laid -/
section RFE
variable {I I0 I1 : MI} {J : MJ} {R : MR} {π : Nat → Nat} {γ : Type} {Q : γ → Prop} {V : RV} {P k i f n l m t : Int} {x : Int32}
theorem lays1_comm (W : RV) {p k : Nat} {A : PV} {a b c d e g : Int} {w : Nat} (hw : w ≠ 18 ∧ w ≠ 19) :
    upG (upG (upG (upG (upG (upG (upG (upP W p A) 5 18 a) 2 k b) 3 k c) 4 k d) 0 15 e) 5 19 g) 5 w (W.2 5 w + 1) = upG (upG (upG (upG (upG (upG (upP (upG W 2 k b) p A) 3 k c) 4 k d) 0 15 e) 5 w (W.2 5 w + 1)) 5 18 a) 5 19 g := by
  refine Prod.ext rfl ?_
  funext x y
  show (if x = 5 ∧ y = w then W.2 5 w + 1 else if x = 5 ∧ y = 19 then g else if x = 0 ∧ y = 15 then e else if x = 4 ∧ y = k then d else if x = 3 ∧ y = k then c else if x = 2 ∧ y = k then b else if x = 5 ∧ y = 18 then a else W.2 x y) = (if x = 5 ∧ y = 19 then g else if x = 5 ∧ y = 18 then a else if x = 5 ∧ y = w then W.2 5 w + 1 else if x = 0 ∧ y = 15 then e else if x = 4 ∧ y = k then d else if x = 3 ∧ y = k then c else if x = 2 ∧ y = k then b else W.2 x y)
  by_cases h1 : x = 5 ∧ y = w
  · rw [if_pos h1, if_neg (by omega), if_neg (by omega), if_pos h1]
  rw [if_neg h1]
  by_cases h2 : x = 5 ∧ y = 19
  · rw [if_pos h2, if_pos h2]
  rw [if_neg h2, if_neg h2]
  by_cases h3 : x = 5 ∧ y = 18
  · rw [if_pos h3, if_neg (by omega), if_neg (by omega), if_neg (by omega), if_neg (by omega), if_pos h3]
  rw [if_neg h3, if_neg h3, if_neg h1]
/-- the page's part: what is laid behind a gap in time, if any -/
theorem laysA_Q {b : Nat} {P : PV} {v hd : Int} (hb : b < 7) (h0 : PBl I (61 + 132 * b) I1 P) (h8 : 0 ≤ P 0 8 ∧ P 0 8 < 16) (hh : 0 ≤ hd ∧ hd < 32) {P' : PV} (g2 : P' 2 (P 0 8).toNat = m) (g3 : P' 3 (P 0 8).toNat = l) (g4 : P' 4 (P 0 8).toNat = t) (g7 : P' 7 (P 0 8).toNat = n) (g6 : P' 6 (P 0 8).toNat = hd) (gg : P' 8 (P 0 8).toNat = 0) (e8 : P' 0 8 = P 0 8 + 1) (e9 : P' 0 9 = hd + 1 + n) (e10 : P' 0 10 = P 0 10) (ec : ∀ k, k < 32 → P' 1 k = upv P 1 hd.toNat v 1 k) (er : ∀ f i : Nat, 2 ≤ f → i ≠ (P 0 8).toNat → P' f i = P f i) :
    PBl I (61 + 132 * b) (up (up (up (up (up (up (up (up (up I1 374 (61 + 132 * (b : Int) + (4 + hd)).toNat (iI v)) 374 (61 + 132 * (b : Int) + (36 + 6 * P 0 8 + 0)).toNat (iI 0)) 374 (61 + 132 * (b : Int) + (36 + 6 * P 0 8 + 1)).toNat (iI m)) 374 (61 + 132 * (b : Int) + (36 + 6 * P 0 8 + 2)).toNat (iI l)) 374 (61 + 132 * (b : Int) + (36 + 6 * P 0 8 + 3)).toNat (iI t)) 374 (61 + 132 * (b : Int) + (36 + 6 * P 0 8 + 4)).toNat (iI n)) 374 (61 + 132 * (b : Int) + (36 + 6 * P 0 8 + 5)).toNat (iI hd)) 374 (61 + 132 * (b : Int) + 3).toNat (iI (P 0 8 + 1))) 374 (61 + 132 * (b : Int) + 1).toNat (iI (hd + 1 + n))) P' := by
  have h1 := pb_c (v := v) h0 hh.1 hh.2
  have e1 : upv P 1 hd.toNat v 0 8 = P 0 8 := upv_ne (by omega)
  have hx : ∀ I2 : MI, PBl I (61 + 132 * b) I2 (upv P 1 hd.toNat v) → ∀ f : Int, 0 ≤ f ∧ f < 6 → ∀ v2, PBl I (61 + 132 * b) (up I2 374 (61 + 132 * (b : Int) + (36 + 6 * P 0 8 + f)).toNat (iI v2)) (upv P 1 hd.toNat v) := fun I2 h f hf v2 => pb_x h (by rw [e1]; omega) hf
  have h7 := hx _ (hx _ (hx _ (hx _ (hx _ (hx _ h1 0 (by omega) 0) 1 (by omega) m) 2 (by omega) l) 3 (by omega) t) 4 (by omega) n) 5 (by omega) hd
  have h8' := pb_a (c := P 0 8) (P' := upv P' 0 9 (P 0 9)) h7 (by rw [e1]; omega) (fun f hf => ?_) ?_ ?_ ?_ (fun k hk => ?_) (fun f i hf hi => ?_)
  · have h9 := pb_u (v := hd + 1 + n) h8'
    have e : upv (upv P' 0 9 (P 0 9)) 0 9 (hd + 1 + n) = P' := by
      funext x y
      unfold upv
      by_cases hy : x = 0 ∧ y = 9
      · rw [if_pos hy, hy.1, hy.2, e9]
      · rw [if_neg hy, if_neg hy]
    rw [e] at h9
    exact h9
  · have hp := pf_ge f hf
    rw [upv_ne (by omega)]
    rcases (show f = 0 ∨ f = 1 ∨ f = 2 ∨ f = 3 ∨ f = 4 ∨ f = 5 by omega) with h | h | h | h | h | h
    · subst h
      rw [up_ne (by omega), up_ne (by omega), up_ne (by omega), up_ne (by omega), up_ne (by omega)]
      rw [show (61 + 132 * (b : Int) + (36 + 6 * P 0 8 + 0)).toNat = 61 + 132 * b + 36 + 6 * (P 0 8).toNat + 0 by omega, up_eq]
      show iI 0 = iI (P' 8 _)
      rw [gg]
    · subst h
      rw [up_ne (by omega), up_ne (by omega), up_ne (by omega), up_ne (by omega)]
      rw [show (61 + 132 * (b : Int) + (36 + 6 * P 0 8 + 1)).toNat = 61 + 132 * b + 36 + 6 * (P 0 8).toNat + 1 by omega, up_eq]
      show iI m = iI (P' 2 _)
      rw [g2]
    · subst h
      rw [up_ne (by omega), up_ne (by omega), up_ne (by omega)]
      rw [show (61 + 132 * (b : Int) + (36 + 6 * P 0 8 + 2)).toNat = 61 + 132 * b + 36 + 6 * (P 0 8).toNat + 2 by omega, up_eq]
      show iI l = iI (P' 3 _)
      rw [g3]
    · subst h
      rw [up_ne (by omega), up_ne (by omega)]
      rw [show (61 + 132 * (b : Int) + (36 + 6 * P 0 8 + 3)).toNat = 61 + 132 * b + 36 + 6 * (P 0 8).toNat + 3 by omega, up_eq]
      show iI t = iI (P' 4 _)
      rw [g4]
    · subst h
      rw [up_ne (by omega)]
      rw [show (61 + 132 * (b : Int) + (36 + 6 * P 0 8 + 4)).toNat = 61 + 132 * b + 36 + 6 * (P 0 8).toNat + 4 by omega, up_eq]
      show iI n = iI (P' 7 _)
      rw [g7]
    · subst h
      rw [show (61 + 132 * (b : Int) + (36 + 6 * P 0 8 + 5)).toNat = 61 + 132 * b + 36 + 6 * (P 0 8).toNat + 5 by omega, up_eq]
      show iI hd = iI (P' 6 _)
      rw [g6]
  · rw [upv_ne (by omega), e8]
  · rw [upv_eq, upv_ne (by omega)]
  · rw [upv_ne (by omega), upv_ne (by omega), e10]
  · rw [upv_ne (by omega)]
    exact ec k hk
  · rw [upv_ne (by omega), upv_ne (by omega)]
    exact er f i hf hi
/-- behind the page's part -/
theorem laysB_Q {p : Nat} {A : PV} (hR : RQ R) {W : RV} (h : MTo I0 I1 π (upP W p A)) (hw : WR W) (hp : p < 6) (hl : 0 ≤ l ∧ l ≤ 3) (hd : 0 ≤ m ∧ m ≤ 999999) {it : Int} {v41 : Int} (h41 : v41 = 43 + 3 * W.2 0 15) (ho : W.2 0 15 < 4) : En (fun y => ∃ I', y = (381, I', J, R) ∧ MTo I0 I' π (upG (upG (upG (upG (upG (upG (upG (upP W p A) 5 18 (mxI (W.2 5 18) m)) 2 (W.2 0 15).toNat p) 3 (W.2 0 15).toNat it) 4 (W.2 0 15).toNat 0) 0 15 (W.2 0 15 + 1)) 5 19 (mxI (W.2 5 19) (W.2 0 15 + 1))) 5 (20 + l).toNat (W.2 5 (20 + l).toNat + 1)))
    (gR_ (381, I1, J, R) 373 9 1 fun a33 =>
      gR_ (381, I1, J, R) 373 9 1 fun a34 =>
      aI_ (381, I1, J, R) a34 11 (iI 20) fun v35 =>
      cP_ (f_X9_greater (381, I1, J, R) v35 (iI m)) fun v36 =>
      sI_ (381, I1, J, R) a33 (iI 20) v36 fun S37 =>
      gR_ S37 373 9 1 fun a38 =>
      aI_ S37 a38 11 (iI 6) fun v39 =>
      lt_ ((iI 3) * v39 : Int32) fun v40 =>
      lt_ ((iI 43) + v40 : Int32) fun v41 =>
      gR_ S37 373 9 1 fun a42 =>
      sI_ S37 a42 v41 (iI (π p)) fun S43 =>
      gR_ S43 373 9 1 fun a44 =>
      lt_ (v41 + (iI 1) : Int32) fun v45 =>
      sI_ S43 a44 v45 (iI it) fun S46 =>
      gR_ S46 373 9 1 fun a47 =>
      lt_ (v41 + (iI 2) : Int32) fun v48 =>
      sI_ S46 a47 v48 (iI 0) fun S49 =>
      gR_ S49 373 9 1 fun a50 =>
      aI_ S49 a50 11 (iI 6) fun v51 =>
      lt_ (v51 + (iI 1) : Int32) fun v52 =>
      sI_ S49 a50 (iI 6) v52 fun S53 =>
      gR_ S53 373 9 1 fun a54 =>
      gR_ S53 373 9 1 fun a55 =>
      aI_ S53 a55 11 (iI 21) fun v56 =>
      gR_ S53 373 9 1 fun a57 =>
      aI_ S53 a57 11 (iI 6) fun v58 =>
      cP_ (f_X9_greater S53 v56 v58) fun v59 =>
      sI_ S53 a54 (iI 21) v59 fun S60 =>
      gR_ S60 373 9 1 fun a61 =>
      lt_ ((iI 22) + (iI l) : Int32) fun v62 =>
      aI_ S60 a61 11 v62 fun v63 =>
      lt_ (v63 + (iI 1) : Int32) fun v64 =>
      sI_ S60 a61 v62 v64 fun S65 =>
      rt_ S65) := by
  have hbb := hw.1
  unfold WB at hbb
  have k374 := kd_374
  have k375 := kd_375
  have l375 := ln_375
  have rq1 := hR.1
  have hq := h.1
  have m20 : I1 374 (Int.toNat 20) = iI (W.2 5 18) := hq.s 20 (by decide)
  have m21 : I1 374 (Int.toNat 21) = iI (W.2 5 19) := hq.s 21 (by decide)
  have m6 : I1 374 (Int.toNat 6) = iI (W.2 0 15) := hq.s 6 (by decide)
  have m22 : I1 374 (22 + l).toNat = iI (W.2 5 (20 + l).toNat) := by
    have := hq.s (22 + l).toNat (by omega)
    have e : sg (22 + l).toNat = (5, (20 + l).toNat) := by
      unfold sg
      rw [if_neg (by omega), if_neg (by omega), if_neg (by omega), if_neg (by omega), if_neg (by omega), if_neg (by omega), if_pos (by omega)]
      congr 1
      omega
    rw [e] at this
    exact this
  have e22 : sg (22 + l).toNat = (5, (20 + l).toNat) := by
    unfold sg
    rw [if_neg (by omega), if_neg (by omega), if_neg (by omega), if_neg (by omega), if_neg (by omega), if_neg (by omega), if_pos (by omega)]
    congr 1
    omega
  repeat ((first | (with_reducible first | refine w_gt (by omega) (by omega) ?_ | refine w_ltA ?_ | refine w_ltS ?_ | refine w_ltM ?_ | refine w_ltN ?_ | refine w_lt ?_ | refine w_jn ?_ | refine w_ck (by omega) (by assumption) ?_ | refine w_gI (by omega) (by assumption) ?_ | refine w_gR (by omega) (by assumption) (by assumption) ?_ | refine w_al (by omega) (by assumption) (by assumption) ?_ | refine w_pI (by omega) (by assumption) ?_ | refine w_set (by omega) (by assumption) (by omega) (by omega) ?_ | refine w_at (by omega) (by assumption) (by omega) (by omega) ?_ | refine w_sI (by omega) (by assumption) (by omega) (by omega) ?_ | refine w_aI (by omega) (by assumption) (by omega) (by omega) ?_ | refine w_sZ (by omega) (by assumption) (by omega) (by omega) (by decide) ?_ | refine w_pZ (by omega) (by assumption) (by decide) ?_ | refine w_dv (by omega) (by omega) (by omega) (by omega) ?_ | refine w_rm (by omega) (by omega) (by omega) (by omega) ?_) | ((with_reducible refine w_pos ?_ ?_); focus (first | assumption | trivial | exact (ile (by omega) (by omega) (by omega) (by omega)).2 (by omega) | exact (ilt (by omega) (by omega) (by omega) (by omega)).2 (by omega) | exact (ieq (by omega) (by omega) (by omega) (by omega)).2 (by omega))) | ((with_reducible refine w_neg ?_ ?_); focus (first | assumption | exact not_false | trivial | exact mt (ile (by omega) (by omega) (by omega) (by omega)).1 (by omega) | exact mt (ilt (by omega) (by omega) (by omega) (by omega)).1 (by omega) | exact mt (ieq (by omega) (by omega) (by omega) (by omega)).1 (by omega)))); try simp (disch := omega) only [up_ne, up_eq, m20, m21, m6, m22])
  refine w_rt ⟨_, rfl, ?_⟩
  have h1 := mto_s h 20 (g := 5) (k := 18) rfl (mxI (W.2 5 18) m) (by decide) (by decide)
  have z15 : (upG (upP W p A) 5 18 (mxI (W.2 5 18) m)).2 0 15 = W.2 0 15 := upG_ne (by omega)
  have h2 := mto_x (j := (43 + 3 * W.2 0 15).toNat) (x := iI (π p)) h1 (by rw [z15]; omega)
  have h3 := mto_x (j := (43 + 3 * W.2 0 15 + 1).toNat) (x := iI it) h2 (by rw [z15]; omega)
  have h4 := mto_x (j := (43 + 3 * W.2 0 15 + 2).toNat) (x := iI 0) h3 (by rw [z15]; omega)
  have h5 := mto_op (k := (W.2 0 15).toNat) (pl := p) (it := it) (pu := 0) h4 (by rw [z15]; omega) (by omega) (by rw [up_ne (by omega), up_ne (by omega), show (43 + 3 * W.2 0 15).toNat = 43 + 3 * (W.2 0 15).toNat by omega, up_eq, Int.toNat_natCast]) (by rw [up_ne (by omega), show (43 + 3 * W.2 0 15 + 1).toNat = 44 + 3 * (W.2 0 15).toNat by omega, up_eq]) (by rw [show (43 + 3 * W.2 0 15 + 2).toNat = 45 + 3 * (W.2 0 15).toNat by omega, up_eq])
  rw [z15] at h5
  have h6 := mto_s h5 21 (g := 5) (k := 19) rfl (mxI (W.2 5 19) (W.2 0 15 + 1)) (by decide) (by decide)
  have h7 := mto_s h6 (22 + l).toNat e22 (W.2 5 (20 + l).toNat + 1) (by omega) (by omega)
  exact h7
end RFE
