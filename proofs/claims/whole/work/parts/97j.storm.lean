/-! STORMS -/
def drX (x : Int32) : Int32 := x * iI 1103515245 + iI 12345
def shX (x : Int32) : Int32 := (x.toUInt32 >>> (Int32.toUInt32 (iI 16) &&& Int32.toUInt32 31)).toInt32
def shV (x : Int32) : Int := (shX x).toInt
theorem sh_i (x : Int32) : shX x = iI (shV x) := (Int32.ofInt_toInt (shX x)).symm
theorem sh_b (x : Int32) : 0 ≤ shV x ∧ shV x < 65536 := by
  have e16 : (Int32.toUInt32 (iI 16) &&& Int32.toUInt32 31) = (16 : UInt32) := by decide +kernel
  have h1 : (x.toUInt32 >>> (16 : UInt32)).toNat = x.toUInt32.toNat / 65536 := by
    rw [UInt32.toNat_shiftRight, Nat.shiftRight_eq_div_pow]
    rfl
  have h2 := x.toUInt32.toNat_lt
  have h3 : (x.toUInt32 >>> (16 : UInt32)).toBitVec.toNat < 65536 := by
    have : (x.toUInt32 >>> (16 : UInt32)).toBitVec.toNat = (x.toUInt32 >>> (16 : UInt32)).toNat := rfl
    omega
  unfold shV shX
  rw [e16]
  have h4 : (x.toUInt32 >>> (16 : UInt32)).toInt32.toInt = (x.toUInt32 >>> (16 : UInt32)).toBitVec.toInt := rfl
  rw [h4, BitVec.toInt_eq_toNat_of_lt (by omega)]
  omega
def stpK (k a : Int) (x1 x2 : Int32) (V : RV) : Int32 × RV :=
  if k = 0 then (x2, (goV V (1 + a % 40)).2)
  else if k < 5 then (if inn V = 3 then (x1, (endV V 3).2) else (x2, (takV V (inn V + 1) (1 + a % 8)).2))
  else if k = 5 then (x2, (putV V (inn V) (a % 256)).2)
  else if k < 8 then (x1, (endV V (inn V)).2)
  else if k = 8 then (x1, (drpV V (inn V)).2)
  else (x2, (readV (readV (swpV V (if a % 2 = 1 then 1 else 0)).2).2).2)
def stpV (D : Int32 → Int32) (Z : Int32 → Int) (x : Int32) (V : RV) : Int32 × RV := stpK (Z (D x) % 10) (Z (D (D x))) (D x) (D (D x)) V
def stmV (D : Int32 → Int32) (Z : Int32 → Int) : Nat → Int32 → RV → RV
  | 0, _, V => V
  | n + 1, x, V => stmV D Z n (stpV D Z x V).1 (stpV D Z x V).2
theorem wr_stk {k a : Int} {x1 x2 : Int32} {V : RV} (hw : WR V) : WR (stpK k a x1 x2 V).2 := by
  unfold stpK
  split
  · exact wr_go hw
  split
  · split
    · exact wr_end hw
    · exact wr_tak hw
  split
  · exact wr_put hw
  split
  · exact wr_end hw
  split
  · exact wr_drp hw
  · exact wr_read (wr_read (wr_swp hw))
theorem end_6 {V : RV} {l : Int} : (endV V l).2.2 5 6 = V.2 5 6 := by
  unfold endV
  split
  · show (clsV (lgV V)).2 5 6 = _
    have : (lgV V).2 5 6 = V.2 5 6 := by
      unfold lgV
      split
      · rw [upG_ne (by omega), upG_ne (by omega)]
      · rfl
    rw [← this]
    unfold clsV
    split <;> rfl
  · rfl
theorem wn_stk {k a : Int} {x1 x2 : Int32} {V : RV} (hw : WR V) (h : WN V) : WN (stpK k a x1 x2 V).2 ∧ (stpK k a x1 x2 V).2.2 5 6 ≤ V.2 5 6 + 1 := by
  unfold stpK
  split
  · refine ⟨wn_go h, ?_⟩
    have : (goV V (1 + a % 40)).2.2 5 6 = V.2 5 6 := by
      unfold goV
      repeat' split
      all_goals rfl
    show (goV V (1 + a % 40)).2.2 5 6 ≤ _
    omega
  split
  · split
    · refine ⟨wn_end h, ?_⟩
      show (endV V 3).2.2 5 6 ≤ _
      rw [end_6]
      omega
    · have := wn_tak (l := inn V + 1) (n := 1 + a % 8) hw h
      exact ⟨this.1, this.2.2⟩
  split
  · refine ⟨wn_put hw h, ?_⟩
    have : (putV V (inn V) (a % 256)).2.2 5 6 = V.2 5 6 := by
      unfold putV
      repeat' split
      all_goals rfl
    show (putV V (inn V) (a % 256)).2.2 5 6 ≤ _
    omega
  split
  · refine ⟨wn_end h, ?_⟩
    show (endV V (inn V)).2.2 5 6 ≤ _
    rw [end_6]
    omega
  split
  · refine ⟨wn_drp hw h, ?_⟩
    have : (drpV V (inn V)).2.2 5 6 = V.2 5 6 := by
      unfold drpV
      split
      · show (clsV (drp1 V)).2 5 6 = _
        unfold clsV
        split <;> rfl
      · rfl
    show (drpV V (inn V)).2.2 5 6 ≤ _
    omega
  · refine ⟨wn_read (wn_read (wn_swp hw h)), ?_⟩
    have h1 : ∀ W : RV, (readV W).2.2 5 6 = W.2 5 6 := fun W => (rdn_1 17).2
    have h2 : ∀ f, (swpV V f).2.2 5 6 = V.2 5 6 := fun f => by
      unfold swpV
      split
      · show (swp3 V).2 5 6 = _
        unfold swp3
        split <;> rfl
      · rfl
    show (readV (readV (swpV V _).2).2).2.2 5 6 ≤ _
    rw [h1, h1, h2]
    omega
theorem wr_stp {D : Int32 → Int32} {Z : Int32 → Int} {x : Int32} {V : RV} (hw : WR V) : WR (stpV D Z x V).2 := wr_stk hw
theorem wn_stp {D : Int32 → Int32} {Z : Int32 → Int} {x : Int32} {V : RV} (hw : WR V) (h : WN V) : WN (stpV D Z x V).2 ∧ (stpV D Z x V).2.2 5 6 ≤ V.2 5 6 + 1 := wn_stk hw h
theorem wr_stm {D : Int32 → Int32} {Z : Int32 → Int} {n : Nat} {x : Int32} {V : RV} (h : WR V) : WR (stmV D Z n x V) := by
  induction n generalizing x V with
  | zero => exact h
  | succ n ih => exact ih (wr_stp h)
theorem wn_stm {D : Int32 → Int32} {Z : Int32 → Int} {n : Nat} {x : Int32} {V : RV} (hw : WR V) (h : WN V) : WN (stmV D Z n x V) ∧ (stmV D Z n x V).2 5 6 ≤ V.2 5 6 + n := by
  induction n generalizing x V with
  | zero => exact ⟨h, by show V.2 5 6 ≤ V.2 5 6 + 0; omega⟩
  | succ n ih =>
    have h1 := wn_stp (D := D) (Z := Z) (x := x) hw h
    have h2 := ih (x := (stpV D Z x V).1) (wr_stp (x := x) hw) h1.1
    refine ⟨h2.1, ?_⟩
    show (stmV D Z n (stpV D Z x V).1 (stpV D Z x V).2).2 5 6 ≤ _
    omega
theorem up_up {I : MI} {a k : Nat} {x y : Int32} : up (up I a k x) a k y = up I a k y := by
  funext b j
  unfold up
  by_cases h : b = a ∧ j = k
  · rw [if_pos h, if_pos h]
  · rw [if_neg h, if_neg h, if_neg h]
theorem cto_out {r : Nat} {σ : Nat → Nat} {I0 I : MI} {R0 R : MR} {V : RV} {a k : Nat} {x : Int32} (h : CTo r σ I0 R0 I R V) (ha : ¬ (r ≤ a ∧ a ≤ r + 70)) : CTo r σ (up I0 a k x) R0 (up I a k x) R V := by
  obtain ⟨⟨h1, h2, h3⟩, h4, h5⟩ := h
  refine ⟨⟨h1, fun p hp f k' hv => ?_, fun g k' hv => ?_⟩, fun b k' hb => ?_, h5⟩
  · have := vld_f hv
    have := pa_in (r := r) (h1.2.2.2.2.2.2.2.2.2.2.1 p hp)
    rw [up_ne (by omega)]
    exact h2 p hp f k' hv
  · have := vldR_g hv
    rw [up_ne (by omega)]
    exact h3 g k' hv
  · unfold up
    rw [h4 b k' hb]
theorem mto_out {I0 I : MI} {π : Nat → Nat} {V : RV} {a k : Nat} {x : Int32} (h : MTo I0 I π V) (ha : a ≠ 374) : MTo (up I0 a k x) (up I a k x) π V := by
  have e : ∀ k', up I a k x 374 k' = I 374 k' := fun k' => up_ne (by omega)
  have e0 : ∀ k', up I0 a k x 374 k' = I0 374 k' := fun k' => up_ne (by omega)
  obtain ⟨⟨b1, b2, b3, b4, b5, b6, b7, b8, b9⟩, f1, f2⟩ := h
  refine ⟨⟨b1, b2, fun j' hj' => by rw [e]; exact b3 j' hj', by rw [e]; exact b4, by rw [e]; exact b5, fun d h1 h2 => by rw [e]; exact b6 d h1 h2, fun k' h1 h2 => by rw [e, e, e]; exact b7 k' h1 h2, fun q hq => by rw [e]; exact b8 q hq, fun q hq => pm_congr (b9 q hq) fun k h1 h2 => e k⟩, fun b k' h1 h2 => ?_, fun k' hk => by rw [e, e0]; exact f2 k' hk⟩
  unfold up
  rw [f1 b k' h1 h2]
theorem kd_150 : kd 149 = 5 := by decide +kernel
section STM
variable {I I0 : MI} {J : MJ} {R R0 : MR} {r : Nat} {σ π : Nat → Nat} {γ : Type} {Q : γ → Prop} {V : RV} {k : Int} {x : Int32}
theorem draw_C {D : Int32 → Int32} {Z : Int32 → Int} (hD : ∀ x : Int32, x * iI 1103515245 + iI 12345 = D x) (hZ : ∀ x : Int32, (x.toUInt32 >>> (Int32.toUInt32 (iI 16) &&& Int32.toUInt32 31)).toInt32 = iI (Z x)) (hZb : ∀ x, 0 ≤ Z x ∧ Z x < 65536) (hk : 1 ≤ k ∧ k ≤ 256) : f_X5_draw (381, I, J, R) 149 (iI k) = some (iI (Z (D (I 149 0)) % k), (381, up I 149 0 (D (I 149 0)), J, R)) := by
  have k150 := kd_150
  have hb := hZb (D (I 149 0))
  refine en_eq ?_
  rw [u_X5_draw]
  refine w_gI (by omega) k150 ?_
  refine w_lt ?_
  refine w_lt ?_
  rw [hD]
  repeat ((first | (with_reducible first | refine w_ltA ?_ | refine w_ltS ?_ | refine w_ltM ?_ | refine w_ltN ?_ | refine w_lt ?_ | refine w_jn ?_ | refine w_ck (by omega) (by assumption) ?_ | refine w_gI (by omega) (by assumption) ?_ | refine w_gR (by omega) (by assumption) (by assumption) ?_ | refine w_al (by omega) (by assumption) (by assumption) ?_ | refine w_pI (by omega) (by assumption) ?_ | refine w_set (by omega) (by assumption) (by omega) (by omega) ?_ | refine w_at (by omega) (by assumption) (by omega) (by omega) ?_ | refine w_sI (by omega) (by assumption) (by omega) (by omega) ?_ | refine w_aI (by omega) (by assumption) (by omega) (by omega) ?_ | refine w_sZ (by omega) (by assumption) (by omega) (by omega) (by decide) ?_ | refine w_pZ (by omega) (by assumption) (by decide) ?_ | refine w_dv (by omega) (by omega) (by omega) (by omega) ?_ | refine w_rm (by omega) (by omega) (by omega) (by omega) ?_) | ((with_reducible refine w_pos ?_ ?_); focus (first | assumption | trivial | exact (ile (by omega) (by omega) (by omega) (by omega)).2 (by omega) | exact (ilt (by omega) (by omega) (by omega) (by omega)).2 (by omega) | exact (ieq (by omega) (by omega) (by omega) (by omega)).2 (by omega))) | ((with_reducible refine w_neg ?_ ?_); focus (first | assumption | exact not_false | trivial | exact mt (ile (by omega) (by omega) (by omega) (by omega)).1 (by omega) | exact mt (ilt (by omega) (by omega) (by omega) (by omega)).1 (by omega) | exact mt (ieq (by omega) (by omega) (by omega) (by omega)).1 (by omega)))); try simp (disch := omega) only [up_eq, hZ])
  exact w_rt rfl
theorem drawn_Q {D : Int32 → Int32} {Z : Int32 → Int} (hD : ∀ x : Int32, x * iI 1103515245 + iI 12345 = D x) (hZ : ∀ x : Int32, (x.toUInt32 >>> (Int32.toUInt32 (iI 16) &&& Int32.toUInt32 31)).toInt32 = iI (Z x)) (hZb : ∀ x, 0 ≤ Z x ∧ Z x < 65536) (hk : 1 ≤ k ∧ k ≤ 256) : f_X9_drawn (381, I, J, R) 373 (iI k) = some (iI (Z (D (I 373 20)) % k), (381, up I 373 20 (D (I 373 20)), J, R)) := by
  have k374 := kd_374
  have hb := hZb (D (I 373 20))
  refine en_eq ?_
  rw [u_X9_drawn]
  refine w_gI (by omega) k374 ?_
  refine w_lt ?_
  refine w_lt ?_
  rw [hD]
  repeat ((first | (with_reducible first | refine w_ltA ?_ | refine w_ltS ?_ | refine w_ltM ?_ | refine w_ltN ?_ | refine w_lt ?_ | refine w_jn ?_ | refine w_ck (by omega) (by assumption) ?_ | refine w_gI (by omega) (by assumption) ?_ | refine w_gR (by omega) (by assumption) (by assumption) ?_ | refine w_al (by omega) (by assumption) (by assumption) ?_ | refine w_pI (by omega) (by assumption) ?_ | refine w_set (by omega) (by assumption) (by omega) (by omega) ?_ | refine w_at (by omega) (by assumption) (by omega) (by omega) ?_ | refine w_sI (by omega) (by assumption) (by omega) (by omega) ?_ | refine w_aI (by omega) (by assumption) (by omega) (by omega) ?_ | refine w_sZ (by omega) (by assumption) (by omega) (by omega) (by decide) ?_ | refine w_pZ (by omega) (by assumption) (by decide) ?_ | refine w_dv (by omega) (by omega) (by omega) (by omega) ?_ | refine w_rm (by omega) (by omega) (by omega) (by omega) ?_) | ((with_reducible refine w_pos ?_ ?_); focus (first | assumption | trivial | exact (ile (by omega) (by omega) (by omega) (by omega)).2 (by omega) | exact (ilt (by omega) (by omega) (by omega) (by omega)).2 (by omega) | exact (ieq (by omega) (by omega) (by omega) (by omega)).2 (by omega))) | ((with_reducible refine w_neg ?_ ?_); focus (first | assumption | exact not_false | trivial | exact mt (ile (by omega) (by omega) (by omega) (by omega)).1 (by omega) | exact mt (ilt (by omega) (by omega) (by omega) (by omega)).1 (by omega) | exact mt (ieq (by omega) (by omega) (by omega) (by omega)).1 (by omega)))); try simp (disch := omega) only [up_eq, hZ])
  exact w_rt rfl
end STM
