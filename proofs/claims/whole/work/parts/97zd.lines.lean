/-! TEXTS: lines done -/
def dbl (b : Int32) (c : Int) : Bool := !decide (b = iI c)
def doV (V : RV) (x : Nat × Int × Int) : Bool × RV :=
  if x.1 = 4 then (dbl (iI (goV V x.2.1).1) (-1), (goV V x.2.1).2)
  else if x.1 = 5 then (dbl (iI (takV V x.2.1 x.2.2).1) (-2), (takV V x.2.1 x.2.2).2)
  else if x.1 = 6 then (dbl (iI (putV V x.2.1 x.2.2).1) (-1), (putV V x.2.1 x.2.2).2)
  else if x.1 = 7 then (dbl (iI (endV V x.2.1).1) (-1), (endV V x.2.1).2)
  else if x.1 = 8 then (dbl (iI (drpV V x.2.1).1) (-1), (drpV V x.2.1).2)
  else if x.1 = 9 then (dbl (iI (swpV V 0).1) (-1), (swpV V 0).2)
  else if x.1 = 10 then (dbl (iI (swpV V 1).1) (-1), (swpV V 1).2)
  else if x.1 = 11 then (decide (0 < (rdsV x.2.1.toNat V).1), (rdsV x.2.1.toNat V).2)
  else if x.1 = 12 then (decide ((mskV V x.2.1).1 = 1), (mskV V x.2.1).2)
  else (dbl (iI (rszV V x.2.1).1) (-1), (rszV V x.2.1).2)
def runV (L : LN) : Nat → Nat → RV → Nat × RV
  | 0, k, V => (k, V)
  | d + 1, k, V => if (doV V (L k)).1 then runV L d (k + 1) (doV V (L k)).2 else (k, (doV V (L k)).2)
theorem wd_cmp : ∀ v, v < 14 → ∀ v', v' < 14 → (lg_cmp (Wd v) (Wd v') = iI 0 ↔ v = v') := by
  intro v hv v' hv'
  rw [lg_0]
  have : ∀ v, v < 14 → ∀ v', v' < 14 → (Wd v = Wd v' ↔ v = v') := by decide +kernel
  exact this v hv v' hv'
theorem wr_do {V : RV} {x : Nat × Int × Int} (hw : WR V) : WR (doV V x).2 := by
  unfold doV
  split
  · exact wr_go hw
  split
  · exact wr_tak hw
  split
  · exact wr_put hw
  split
  · exact wr_end hw
  split
  · exact wr_drp hw
  split
  · exact wr_swp hw
  split
  · exact wr_swp hw
  split
  · exact wr_rds _ hw
  split
  · exact wr_msk hw
  · exact wr_rsz hw
theorem go_6 {V : RV} {n : Int} : (goV V n).2.2 5 6 = V.2 5 6 := by
  unfold goV
  repeat' split
  all_goals rfl
theorem put_6 {V : RV} {l m : Int} : (putV V l m).2.2 5 6 = V.2 5 6 := by
  unfold putV
  repeat' split
  all_goals rfl
theorem drp_6 {V : RV} {l : Int} : (drpV V l).2.2 5 6 = V.2 5 6 := by
  unfold drpV
  split
  · show (clsV (drp1 V)).2 5 6 = _
    unfold clsV
    split <;> rfl
  · rfl
theorem msk_6 {V : RV} {l : Int} : (mskV V l).2.2 5 6 = V.2 5 6 := by
  unfold mskV
  repeat' split
  all_goals rfl
theorem rsz_6 {V : RV} {n : Int} : (rszV V n).2.2 5 6 = V.2 5 6 := by
  unfold rszV
  split
  · rfl
  split
  · rfl
  split
  · rfl
  split
  · show (rsz2 (ovwN _ V) n).2 5 6 = _
    have h1 : ∀ W : RV, (rsz2 W n).2 5 6 = W.2 5 6 := fun W => by
      show (upG (trnN _ W) 0 8 n).2 5 6 = _
      rw [upG_ne (by omega), trn_g (V := W) (by omega)]
    have h2 : ∀ (k : Nat) (W : RV), (ovwN k W).2 5 6 = W.2 5 6 := by
      intro k
      induction k with
      | zero => intro W; rfl
      | succ k ih =>
        intro W
        show (ovwN k (ovwV W)).2 5 6 = _
        rw [ih, ovw_g (by omega) (by omega) (by omega)]
    rw [h1, h2]
  · rfl
theorem wn_do {V : RV} {x : Nat × Int × Int} (hw : WR V) (h : WN V) : WN (doV V x).2 ∧ (doV V x).2.2 5 6 ≤ V.2 5 6 + 1 := by
  unfold doV
  split
  · exact ⟨wn_go h, by show (goV V x.2.1).2.2 5 6 ≤ _; rw [go_6]; omega⟩
  split
  · have := wn_tak (l := x.2.1) (n := x.2.2) hw h
    exact ⟨this.1, this.2.2⟩
  split
  · exact ⟨wn_put hw h, by show (putV V x.2.1 x.2.2).2.2 5 6 ≤ _; rw [put_6]; omega⟩
  split
  · exact ⟨wn_end h, by show (endV V x.2.1).2.2 5 6 ≤ _; rw [end_6]; omega⟩
  split
  · exact ⟨wn_drp hw h, by show (drpV V x.2.1).2.2 5 6 ≤ _; rw [drp_6]; omega⟩
  split
  · exact ⟨wn_swp hw h, by show (swpV V 0).2.2 5 6 ≤ _; rw [swp_6]; omega⟩
  split
  · exact ⟨wn_swp hw h, by show (swpV V 1).2.2 5 6 ≤ _; rw [swp_6]; omega⟩
  split
  · exact ⟨wn_rds h, by show (rdsV x.2.1.toNat V).2.2 5 6 ≤ _; rw [(rds_1 _).2]; omega⟩
  split
  · exact ⟨wn_msk h, by show (mskV V x.2.1).2.2 5 6 ≤ _; rw [msk_6]; omega⟩
  · exact ⟨wn_rsz hw h, by show (rszV V x.2.1).2.2 5 6 ≤ _; rw [rsz_6]; omega⟩
theorem wr_run {L : LN} : ∀ (d k : Nat) {V : RV}, WR V → WR (runV L d k V).2
  | 0, k, V, h => h
  | d + 1, k, V, h => by
    unfold runV
    split
    · exact wr_run d (k + 1) (wr_do h)
    · exact wr_do h
theorem wn_run {L : LN} : ∀ (d k : Nat) {V : RV}, WR V → WN V → WN (runV L d k V).2 ∧ (runV L d k V).2.2 5 6 ≤ V.2 5 6 + d
  | 0, k, V, h, hn => ⟨hn, by show V.2 5 6 ≤ V.2 5 6 + 0; omega⟩
  | d + 1, k, V, h, hn => by
    have h1 := wn_do (x := L k) h hn
    unfold runV
    split
    · have h2 := wn_run (L := L) d (k + 1) (wr_do (x := L k) h) h1.1
      exact ⟨h2.1, by omega⟩
    · refine ⟨h1.1, ?_⟩
      have := h1.2
      show (doV V (L k)).2.2 5 6 ≤ _
      omega
theorem msk_01 {V : RV} {l : Int} : (mskV V l).1 = 0 ∨ (mskV V l).1 = 1 := by
  unfold mskV
  repeat' split
  all_goals first | exact Or.inl rfl | exact Or.inr rfl
theorem dbl_f {b : Int32} {c : Int} (h : b = iI c) : dbl b c = false := by
  unfold dbl
  rw [decide_eq_true h]
  rfl
theorem dbl_t {b : Int32} {c : Int} (h : ¬ b = iI c) : dbl b c = true := by
  unfold dbl
  rw [decide_eq_false h]
  rfl
section DOL
variable {I I0 : MI} {J : MJ} {R : MR} {α γ : Type} {Q : γ → Prop} {σ π : Nat → Nat} {V : RV} {m k : Nat} {L : LN} {v : Nat} {a b : Int}
theorem RS.ca {S : St} (h : RS 1 J I R S V) : ∃ I' R' σ', S = (381, I', J, R') ∧ CR I' R' 1 σ' V ∧ FC 1 I I' ∧ RFr 1 R R' := by
  obtain ⟨I', R', σ', rfl, h⟩ := h
  exact ⟨I', R', σ', rfl, h.1, h.fc⟩

set_option maxHeartbeats 20000000 in
theorem doLine_C (hRC : RC R) (hc : CR I R 1 σ V) (hw : WR V) (hk : k < m) (hm : m ≤ 80) (hL : LnC I m L) (hok : lnOk 4 13 (L k)) : En (fun y => y.1 = (if (doV V (L k)).1 then iI 1 else iI 0) ∧ ∃ I' R' σ', y.2 = (381, I', J, R') ∧ CR I' R' 1 σ' (doV V (L k)).2 ∧ FC 1 I I' ∧ RFr 1 R R') (f_X2_doLine (381, I, J, R) 145 1 (iI (k : Nat))) := by
  have k145 := kd_145
  have k1 := rg_1.2.1
  obtain ⟨k146, k147, k148, l146, l147, l148⟩ := kd_146
  obtain ⟨-, -, -, -, -, -, -, r2, r3, r4, -⟩ := id hRC
  obtain ⟨h1, h2, h3⟩ := hL k hk
  obtain ⟨o1, o2, o3, o4⟩ := hok
  have hil := inn_le hw
  generalize hx : L k = x at *
  obtain ⟨v, a, b⟩ := x
  have h1 : I 146 k = iI (v : Nat) := h1
  have h2 : 1 ≤ nOf v → I 147 k = iI a := h2
  have h3 : 2 ≤ nOf v → I 148 k = iI b := h3
  have o1 : 4 ≤ v := o1
  have o2 : v ≤ 13 := o2
  have o3 : 1 ≤ nOf v → canB v 0 a := o3
  have o4 : 2 ≤ nOf v → canB v 1 b := o4
  rcases (show v = 4 ∨ v = 5 ∨ v = 6 ∨ v = 7 ∨ v = 8 ∨ v = 9 ∨ v = 10 ∨ v = 11 ∨ v = 12 ∨ v = 13 by omega) with rfl | rfl | rfl | rfl | rfl | rfl | rfl | rfl | rfl | rfl
  · have h2 := h2 (by decide)
    have c0 : 1 ≤ a ∧ a ≤ 5000 := o3 (by decide)
    have p0 : I 146 ((k : Nat) : Int).toNat = iI 4 := h1
    rw [u_X2_doLine]
    repeat (first | with_reducible refine w_pos (by decide) ?_ | with_reducible refine w_neg (by decide) ?_ | ((first | (with_reducible first | refine w_ltA ?_ | refine w_ltS ?_ | refine w_ltM ?_ | refine w_ltN ?_ | refine w_lt ?_ | refine w_jn ?_ | refine w_ck (by omega) (by assumption) ?_ | refine w_gI (by omega) (by assumption) ?_ | refine w_gR (by omega) (by assumption) (by assumption) ?_ | refine w_al (by omega) (by assumption) (by assumption) ?_ | refine w_pI (by omega) (by assumption) ?_ | refine w_set (by omega) (by assumption) (by omega) (by omega) ?_ | refine w_at (by omega) (by assumption) (by omega) (by omega) ?_ | refine w_sI (by omega) (by assumption) (by omega) (by omega) ?_ | refine w_aI (by omega) (by assumption) (by omega) (by omega) ?_ | refine w_sZ (by omega) (by assumption) (by omega) (by omega) (by decide) ?_ | refine w_pZ (by omega) (by assumption) (by decide) ?_ | refine w_dv (by omega) (by omega) (by omega) (by omega) ?_ | refine w_rm (by omega) (by omega) (by omega) (by omega) ?_) | ((with_reducible refine w_pos ?_ ?_); focus (first | assumption | trivial | exact (ile (by omega) (by omega) (by omega) (by omega)).2 (by omega) | exact (ilt (by omega) (by omega) (by omega) (by omega)).2 (by omega) | exact (ieq (by omega) (by omega) (by omega) (by omega)).2 (by omega))) | ((with_reducible refine w_neg ?_ ?_); focus (first | assumption | exact not_false | trivial | exact mt (ile (by omega) (by omega) (by omega) (by omega)).1 (by omega) | exact mt (ilt (by omega) (by omega) (by omega) (by omega)).1 (by omega) | exact mt (ieq (by omega) (by omega) (by omega) (by omega)).1 (by omega)))); try simp (disch := omega) only [h1, Int.toNat_natCast, h2]))
    refine w_cI (go_C (J := J) rg_1 (cto_0 hc) hw (by omega) (by omega)) ?_
    rintro y S ⟨hy, hS⟩
    have hy : y = iI (goV V a).1 := hy
    subst hy
    obtain ⟨I', R', σ', rfl, g1, g2⟩ := RS.ca hS
    show En (fun (y : Int32 × St) => y.1 = (if dbl (iI (goV V a).1) (-1) = true then iI 1 else iI 0) ∧ ∃ I' R' σ', y.2 = (381, I', J, R') ∧ CR I' R' 1 σ' (goV V a).2 ∧ FC 1 I I' ∧ RFr 1 R R') _
    by_cases hz : iI (goV V a).1 = iI (-1)
    · repeat ((first | (with_reducible first | refine w_ltA ?_ | refine w_ltS ?_ | refine w_ltM ?_ | refine w_ltN ?_ | refine w_lt ?_ | refine w_jn ?_ | refine w_ck (by omega) (by assumption) ?_ | refine w_gI (by omega) (by assumption) ?_ | refine w_gR (by omega) (by assumption) (by assumption) ?_ | refine w_al (by omega) (by assumption) (by assumption) ?_ | refine w_pI (by omega) (by assumption) ?_ | refine w_set (by omega) (by assumption) (by omega) (by omega) ?_ | refine w_at (by omega) (by assumption) (by omega) (by omega) ?_ | refine w_sI (by omega) (by assumption) (by omega) (by omega) ?_ | refine w_aI (by omega) (by assumption) (by omega) (by omega) ?_ | refine w_sZ (by omega) (by assumption) (by omega) (by omega) (by decide) ?_ | refine w_pZ (by omega) (by assumption) (by decide) ?_ | refine w_dv (by omega) (by omega) (by omega) (by omega) ?_ | refine w_rm (by omega) (by omega) (by omega) (by omega) ?_) | ((with_reducible refine w_pos ?_ ?_); focus (first | assumption | trivial | exact (ile (by omega) (by omega) (by omega) (by omega)).2 (by omega) | exact (ilt (by omega) (by omega) (by omega) (by omega)).2 (by omega) | exact (ieq (by omega) (by omega) (by omega) (by omega)).2 (by omega))) | ((with_reducible refine w_neg ?_ ?_); focus (first | assumption | exact not_false | trivial | exact mt (ile (by omega) (by omega) (by omega) (by omega)).1 (by omega) | exact mt (ilt (by omega) (by omega) (by omega) (by omega)).1 (by omega) | exact mt (ieq (by omega) (by omega) (by omega) (by omega)).1 (by omega)))); skip)
      exact w_rz0 ⟨by rw [dbl_f hz]; rfl, I', R', σ', rfl, g1, g2⟩
    · repeat ((first | (with_reducible first | refine w_ltA ?_ | refine w_ltS ?_ | refine w_ltM ?_ | refine w_ltN ?_ | refine w_lt ?_ | refine w_jn ?_ | refine w_ck (by omega) (by assumption) ?_ | refine w_gI (by omega) (by assumption) ?_ | refine w_gR (by omega) (by assumption) (by assumption) ?_ | refine w_al (by omega) (by assumption) (by assumption) ?_ | refine w_pI (by omega) (by assumption) ?_ | refine w_set (by omega) (by assumption) (by omega) (by omega) ?_ | refine w_at (by omega) (by assumption) (by omega) (by omega) ?_ | refine w_sI (by omega) (by assumption) (by omega) (by omega) ?_ | refine w_aI (by omega) (by assumption) (by omega) (by omega) ?_ | refine w_sZ (by omega) (by assumption) (by omega) (by omega) (by decide) ?_ | refine w_pZ (by omega) (by assumption) (by decide) ?_ | refine w_dv (by omega) (by omega) (by omega) (by omega) ?_ | refine w_rm (by omega) (by omega) (by omega) (by omega) ?_) | ((with_reducible refine w_pos ?_ ?_); focus (first | assumption | trivial | exact (ile (by omega) (by omega) (by omega) (by omega)).2 (by omega) | exact (ilt (by omega) (by omega) (by omega) (by omega)).2 (by omega) | exact (ieq (by omega) (by omega) (by omega) (by omega)).2 (by omega))) | ((with_reducible refine w_neg ?_ ?_); focus (first | assumption | exact not_false | trivial | exact mt (ile (by omega) (by omega) (by omega) (by omega)).1 (by omega) | exact mt (ilt (by omega) (by omega) (by omega) (by omega)).1 (by omega) | exact mt (ieq (by omega) (by omega) (by omega) (by omega)).1 (by omega)))); skip)
      exact w_rz1 ⟨by rw [dbl_t hz]; rfl, I', R', σ', rfl, g1, g2⟩
  · have h2 := h2 (by decide)
    have c0 : 0 ≤ a ∧ a ≤ 3 := o3 (by decide)
    have h3 := h3 (by decide)
    have c1 : 1 ≤ b ∧ b ≤ 8 := o4 (by decide)
    have n4 : ¬ (I 146 ((k : Nat) : Int).toNat = iI 4) := by rw [Int.toNat_natCast, h1]; decide
    have p0 : I 146 ((k : Nat) : Int).toNat = iI 5 := h1
    rw [u_X2_doLine]
    repeat (first | with_reducible refine w_pos (by decide) ?_ | with_reducible refine w_neg (by decide) ?_ | ((first | (with_reducible first | refine w_ltA ?_ | refine w_ltS ?_ | refine w_ltM ?_ | refine w_ltN ?_ | refine w_lt ?_ | refine w_jn ?_ | refine w_ck (by omega) (by assumption) ?_ | refine w_gI (by omega) (by assumption) ?_ | refine w_gR (by omega) (by assumption) (by assumption) ?_ | refine w_al (by omega) (by assumption) (by assumption) ?_ | refine w_pI (by omega) (by assumption) ?_ | refine w_set (by omega) (by assumption) (by omega) (by omega) ?_ | refine w_at (by omega) (by assumption) (by omega) (by omega) ?_ | refine w_sI (by omega) (by assumption) (by omega) (by omega) ?_ | refine w_aI (by omega) (by assumption) (by omega) (by omega) ?_ | refine w_sZ (by omega) (by assumption) (by omega) (by omega) (by decide) ?_ | refine w_pZ (by omega) (by assumption) (by decide) ?_ | refine w_dv (by omega) (by omega) (by omega) (by omega) ?_ | refine w_rm (by omega) (by omega) (by omega) (by omega) ?_) | ((with_reducible refine w_pos ?_ ?_); focus (first | assumption | trivial | exact (ile (by omega) (by omega) (by omega) (by omega)).2 (by omega) | exact (ilt (by omega) (by omega) (by omega) (by omega)).2 (by omega) | exact (ieq (by omega) (by omega) (by omega) (by omega)).2 (by omega))) | ((with_reducible refine w_neg ?_ ?_); focus (first | assumption | exact not_false | trivial | exact mt (ile (by omega) (by omega) (by omega) (by omega)).1 (by omega) | exact mt (ilt (by omega) (by omega) (by omega) (by omega)).1 (by omega) | exact mt (ieq (by omega) (by omega) (by omega) (by omega)).1 (by omega)))); try simp (disch := omega) only [h1, Int.toNat_natCast, h2, h3]))
    refine w_cI (take_C (J := J) rg_1 (cto_0 hc) hw (by omega) (by omega) (by omega) (by omega)) ?_
    rintro y S ⟨hy, hS⟩
    have hy : y = iI (takV V a b).1 := hy
    subst hy
    obtain ⟨I', R', σ', rfl, g1, g2⟩ := RS.ca hS
    show En (fun (y : Int32 × St) => y.1 = (if dbl (iI (takV V a b).1) (-2) = true then iI 1 else iI 0) ∧ ∃ I' R' σ', y.2 = (381, I', J, R') ∧ CR I' R' 1 σ' (takV V a b).2 ∧ FC 1 I I' ∧ RFr 1 R R') _
    by_cases hz : iI (takV V a b).1 = iI (-2)
    · repeat ((first | (with_reducible first | refine w_ltA ?_ | refine w_ltS ?_ | refine w_ltM ?_ | refine w_ltN ?_ | refine w_lt ?_ | refine w_jn ?_ | refine w_ck (by omega) (by assumption) ?_ | refine w_gI (by omega) (by assumption) ?_ | refine w_gR (by omega) (by assumption) (by assumption) ?_ | refine w_al (by omega) (by assumption) (by assumption) ?_ | refine w_pI (by omega) (by assumption) ?_ | refine w_set (by omega) (by assumption) (by omega) (by omega) ?_ | refine w_at (by omega) (by assumption) (by omega) (by omega) ?_ | refine w_sI (by omega) (by assumption) (by omega) (by omega) ?_ | refine w_aI (by omega) (by assumption) (by omega) (by omega) ?_ | refine w_sZ (by omega) (by assumption) (by omega) (by omega) (by decide) ?_ | refine w_pZ (by omega) (by assumption) (by decide) ?_ | refine w_dv (by omega) (by omega) (by omega) (by omega) ?_ | refine w_rm (by omega) (by omega) (by omega) (by omega) ?_) | ((with_reducible refine w_pos ?_ ?_); focus (first | assumption | trivial | exact (ile (by omega) (by omega) (by omega) (by omega)).2 (by omega) | exact (ilt (by omega) (by omega) (by omega) (by omega)).2 (by omega) | exact (ieq (by omega) (by omega) (by omega) (by omega)).2 (by omega))) | ((with_reducible refine w_neg ?_ ?_); focus (first | assumption | exact not_false | trivial | exact mt (ile (by omega) (by omega) (by omega) (by omega)).1 (by omega) | exact mt (ilt (by omega) (by omega) (by omega) (by omega)).1 (by omega) | exact mt (ieq (by omega) (by omega) (by omega) (by omega)).1 (by omega)))); skip)
      exact w_rz0 ⟨by rw [dbl_f hz]; rfl, I', R', σ', rfl, g1, g2⟩
    · repeat ((first | (with_reducible first | refine w_ltA ?_ | refine w_ltS ?_ | refine w_ltM ?_ | refine w_ltN ?_ | refine w_lt ?_ | refine w_jn ?_ | refine w_ck (by omega) (by assumption) ?_ | refine w_gI (by omega) (by assumption) ?_ | refine w_gR (by omega) (by assumption) (by assumption) ?_ | refine w_al (by omega) (by assumption) (by assumption) ?_ | refine w_pI (by omega) (by assumption) ?_ | refine w_set (by omega) (by assumption) (by omega) (by omega) ?_ | refine w_at (by omega) (by assumption) (by omega) (by omega) ?_ | refine w_sI (by omega) (by assumption) (by omega) (by omega) ?_ | refine w_aI (by omega) (by assumption) (by omega) (by omega) ?_ | refine w_sZ (by omega) (by assumption) (by omega) (by omega) (by decide) ?_ | refine w_pZ (by omega) (by assumption) (by decide) ?_ | refine w_dv (by omega) (by omega) (by omega) (by omega) ?_ | refine w_rm (by omega) (by omega) (by omega) (by omega) ?_) | ((with_reducible refine w_pos ?_ ?_); focus (first | assumption | trivial | exact (ile (by omega) (by omega) (by omega) (by omega)).2 (by omega) | exact (ilt (by omega) (by omega) (by omega) (by omega)).2 (by omega) | exact (ieq (by omega) (by omega) (by omega) (by omega)).2 (by omega))) | ((with_reducible refine w_neg ?_ ?_); focus (first | assumption | exact not_false | trivial | exact mt (ile (by omega) (by omega) (by omega) (by omega)).1 (by omega) | exact mt (ilt (by omega) (by omega) (by omega) (by omega)).1 (by omega) | exact mt (ieq (by omega) (by omega) (by omega) (by omega)).1 (by omega)))); skip)
      exact w_rz1 ⟨by rw [dbl_t hz]; rfl, I', R', σ', rfl, g1, g2⟩
  · have h2 := h2 (by decide)
    have c0 : 0 ≤ a ∧ a ≤ 3 := o3 (by decide)
    have h3 := h3 (by decide)
    have c1 : 0 ≤ b ∧ b ≤ 255 := o4 (by decide)
    have n4 : ¬ (I 146 ((k : Nat) : Int).toNat = iI 4) := by rw [Int.toNat_natCast, h1]; decide
    have n5 : ¬ (I 146 ((k : Nat) : Int).toNat = iI 5) := by rw [Int.toNat_natCast, h1]; decide
    have p0 : I 146 ((k : Nat) : Int).toNat = iI 6 := h1
    rw [u_X2_doLine]
    repeat (first | with_reducible refine w_pos (by decide) ?_ | with_reducible refine w_neg (by decide) ?_ | ((first | (with_reducible first | refine w_ltA ?_ | refine w_ltS ?_ | refine w_ltM ?_ | refine w_ltN ?_ | refine w_lt ?_ | refine w_jn ?_ | refine w_ck (by omega) (by assumption) ?_ | refine w_gI (by omega) (by assumption) ?_ | refine w_gR (by omega) (by assumption) (by assumption) ?_ | refine w_al (by omega) (by assumption) (by assumption) ?_ | refine w_pI (by omega) (by assumption) ?_ | refine w_set (by omega) (by assumption) (by omega) (by omega) ?_ | refine w_at (by omega) (by assumption) (by omega) (by omega) ?_ | refine w_sI (by omega) (by assumption) (by omega) (by omega) ?_ | refine w_aI (by omega) (by assumption) (by omega) (by omega) ?_ | refine w_sZ (by omega) (by assumption) (by omega) (by omega) (by decide) ?_ | refine w_pZ (by omega) (by assumption) (by decide) ?_ | refine w_dv (by omega) (by omega) (by omega) (by omega) ?_ | refine w_rm (by omega) (by omega) (by omega) (by omega) ?_) | ((with_reducible refine w_pos ?_ ?_); focus (first | assumption | trivial | exact (ile (by omega) (by omega) (by omega) (by omega)).2 (by omega) | exact (ilt (by omega) (by omega) (by omega) (by omega)).2 (by omega) | exact (ieq (by omega) (by omega) (by omega) (by omega)).2 (by omega))) | ((with_reducible refine w_neg ?_ ?_); focus (first | assumption | exact not_false | trivial | exact mt (ile (by omega) (by omega) (by omega) (by omega)).1 (by omega) | exact mt (ilt (by omega) (by omega) (by omega) (by omega)).1 (by omega) | exact mt (ieq (by omega) (by omega) (by omega) (by omega)).1 (by omega)))); try simp (disch := omega) only [h1, Int.toNat_natCast, h2, h3]))
    refine w_cI (put_C (J := J) rg_1 (cto_0 hc) hw (by omega) (by omega) (by omega) (by omega)) ?_
    rintro y S ⟨hy, hS⟩
    have hy : y = iI (putV V a b).1 := hy
    subst hy
    obtain ⟨I', R', σ', rfl, g1, g2⟩ := RS.ca hS
    show En (fun (y : Int32 × St) => y.1 = (if dbl (iI (putV V a b).1) (-1) = true then iI 1 else iI 0) ∧ ∃ I' R' σ', y.2 = (381, I', J, R') ∧ CR I' R' 1 σ' (putV V a b).2 ∧ FC 1 I I' ∧ RFr 1 R R') _
    by_cases hz : iI (putV V a b).1 = iI (-1)
    · repeat ((first | (with_reducible first | refine w_ltA ?_ | refine w_ltS ?_ | refine w_ltM ?_ | refine w_ltN ?_ | refine w_lt ?_ | refine w_jn ?_ | refine w_ck (by omega) (by assumption) ?_ | refine w_gI (by omega) (by assumption) ?_ | refine w_gR (by omega) (by assumption) (by assumption) ?_ | refine w_al (by omega) (by assumption) (by assumption) ?_ | refine w_pI (by omega) (by assumption) ?_ | refine w_set (by omega) (by assumption) (by omega) (by omega) ?_ | refine w_at (by omega) (by assumption) (by omega) (by omega) ?_ | refine w_sI (by omega) (by assumption) (by omega) (by omega) ?_ | refine w_aI (by omega) (by assumption) (by omega) (by omega) ?_ | refine w_sZ (by omega) (by assumption) (by omega) (by omega) (by decide) ?_ | refine w_pZ (by omega) (by assumption) (by decide) ?_ | refine w_dv (by omega) (by omega) (by omega) (by omega) ?_ | refine w_rm (by omega) (by omega) (by omega) (by omega) ?_) | ((with_reducible refine w_pos ?_ ?_); focus (first | assumption | trivial | exact (ile (by omega) (by omega) (by omega) (by omega)).2 (by omega) | exact (ilt (by omega) (by omega) (by omega) (by omega)).2 (by omega) | exact (ieq (by omega) (by omega) (by omega) (by omega)).2 (by omega))) | ((with_reducible refine w_neg ?_ ?_); focus (first | assumption | exact not_false | trivial | exact mt (ile (by omega) (by omega) (by omega) (by omega)).1 (by omega) | exact mt (ilt (by omega) (by omega) (by omega) (by omega)).1 (by omega) | exact mt (ieq (by omega) (by omega) (by omega) (by omega)).1 (by omega)))); skip)
      exact w_rz0 ⟨by rw [dbl_f hz]; rfl, I', R', σ', rfl, g1, g2⟩
    · repeat ((first | (with_reducible first | refine w_ltA ?_ | refine w_ltS ?_ | refine w_ltM ?_ | refine w_ltN ?_ | refine w_lt ?_ | refine w_jn ?_ | refine w_ck (by omega) (by assumption) ?_ | refine w_gI (by omega) (by assumption) ?_ | refine w_gR (by omega) (by assumption) (by assumption) ?_ | refine w_al (by omega) (by assumption) (by assumption) ?_ | refine w_pI (by omega) (by assumption) ?_ | refine w_set (by omega) (by assumption) (by omega) (by omega) ?_ | refine w_at (by omega) (by assumption) (by omega) (by omega) ?_ | refine w_sI (by omega) (by assumption) (by omega) (by omega) ?_ | refine w_aI (by omega) (by assumption) (by omega) (by omega) ?_ | refine w_sZ (by omega) (by assumption) (by omega) (by omega) (by decide) ?_ | refine w_pZ (by omega) (by assumption) (by decide) ?_ | refine w_dv (by omega) (by omega) (by omega) (by omega) ?_ | refine w_rm (by omega) (by omega) (by omega) (by omega) ?_) | ((with_reducible refine w_pos ?_ ?_); focus (first | assumption | trivial | exact (ile (by omega) (by omega) (by omega) (by omega)).2 (by omega) | exact (ilt (by omega) (by omega) (by omega) (by omega)).2 (by omega) | exact (ieq (by omega) (by omega) (by omega) (by omega)).2 (by omega))) | ((with_reducible refine w_neg ?_ ?_); focus (first | assumption | exact not_false | trivial | exact mt (ile (by omega) (by omega) (by omega) (by omega)).1 (by omega) | exact mt (ilt (by omega) (by omega) (by omega) (by omega)).1 (by omega) | exact mt (ieq (by omega) (by omega) (by omega) (by omega)).1 (by omega)))); skip)
      exact w_rz1 ⟨by rw [dbl_t hz]; rfl, I', R', σ', rfl, g1, g2⟩
  · have h2 := h2 (by decide)
    have c0 : 0 ≤ a ∧ a ≤ 3 := o3 (by decide)
    have n4 : ¬ (I 146 ((k : Nat) : Int).toNat = iI 4) := by rw [Int.toNat_natCast, h1]; decide
    have n5 : ¬ (I 146 ((k : Nat) : Int).toNat = iI 5) := by rw [Int.toNat_natCast, h1]; decide
    have n6 : ¬ (I 146 ((k : Nat) : Int).toNat = iI 6) := by rw [Int.toNat_natCast, h1]; decide
    have p0 : I 146 ((k : Nat) : Int).toNat = iI 7 := h1
    rw [u_X2_doLine]
    repeat (first | with_reducible refine w_pos (by decide) ?_ | with_reducible refine w_neg (by decide) ?_ | ((first | (with_reducible first | refine w_ltA ?_ | refine w_ltS ?_ | refine w_ltM ?_ | refine w_ltN ?_ | refine w_lt ?_ | refine w_jn ?_ | refine w_ck (by omega) (by assumption) ?_ | refine w_gI (by omega) (by assumption) ?_ | refine w_gR (by omega) (by assumption) (by assumption) ?_ | refine w_al (by omega) (by assumption) (by assumption) ?_ | refine w_pI (by omega) (by assumption) ?_ | refine w_set (by omega) (by assumption) (by omega) (by omega) ?_ | refine w_at (by omega) (by assumption) (by omega) (by omega) ?_ | refine w_sI (by omega) (by assumption) (by omega) (by omega) ?_ | refine w_aI (by omega) (by assumption) (by omega) (by omega) ?_ | refine w_sZ (by omega) (by assumption) (by omega) (by omega) (by decide) ?_ | refine w_pZ (by omega) (by assumption) (by decide) ?_ | refine w_dv (by omega) (by omega) (by omega) (by omega) ?_ | refine w_rm (by omega) (by omega) (by omega) (by omega) ?_) | ((with_reducible refine w_pos ?_ ?_); focus (first | assumption | trivial | exact (ile (by omega) (by omega) (by omega) (by omega)).2 (by omega) | exact (ilt (by omega) (by omega) (by omega) (by omega)).2 (by omega) | exact (ieq (by omega) (by omega) (by omega) (by omega)).2 (by omega))) | ((with_reducible refine w_neg ?_ ?_); focus (first | assumption | exact not_false | trivial | exact mt (ile (by omega) (by omega) (by omega) (by omega)).1 (by omega) | exact mt (ilt (by omega) (by omega) (by omega) (by omega)).1 (by omega) | exact mt (ieq (by omega) (by omega) (by omega) (by omega)).1 (by omega)))); try simp (disch := omega) only [h1, Int.toNat_natCast, h2]))
    refine w_cI (end_C (J := J) rg_1 (cto_0 hc) hw (by omega) (by omega)) ?_
    rintro y S ⟨hy, hS⟩
    have hy : y = iI (endV V a).1 := hy
    subst hy
    obtain ⟨I', R', σ', rfl, g1, g2⟩ := RS.ca hS
    show En (fun (y : Int32 × St) => y.1 = (if dbl (iI (endV V a).1) (-1) = true then iI 1 else iI 0) ∧ ∃ I' R' σ', y.2 = (381, I', J, R') ∧ CR I' R' 1 σ' (endV V a).2 ∧ FC 1 I I' ∧ RFr 1 R R') _
    by_cases hz : iI (endV V a).1 = iI (-1)
    · repeat ((first | (with_reducible first | refine w_ltA ?_ | refine w_ltS ?_ | refine w_ltM ?_ | refine w_ltN ?_ | refine w_lt ?_ | refine w_jn ?_ | refine w_ck (by omega) (by assumption) ?_ | refine w_gI (by omega) (by assumption) ?_ | refine w_gR (by omega) (by assumption) (by assumption) ?_ | refine w_al (by omega) (by assumption) (by assumption) ?_ | refine w_pI (by omega) (by assumption) ?_ | refine w_set (by omega) (by assumption) (by omega) (by omega) ?_ | refine w_at (by omega) (by assumption) (by omega) (by omega) ?_ | refine w_sI (by omega) (by assumption) (by omega) (by omega) ?_ | refine w_aI (by omega) (by assumption) (by omega) (by omega) ?_ | refine w_sZ (by omega) (by assumption) (by omega) (by omega) (by decide) ?_ | refine w_pZ (by omega) (by assumption) (by decide) ?_ | refine w_dv (by omega) (by omega) (by omega) (by omega) ?_ | refine w_rm (by omega) (by omega) (by omega) (by omega) ?_) | ((with_reducible refine w_pos ?_ ?_); focus (first | assumption | trivial | exact (ile (by omega) (by omega) (by omega) (by omega)).2 (by omega) | exact (ilt (by omega) (by omega) (by omega) (by omega)).2 (by omega) | exact (ieq (by omega) (by omega) (by omega) (by omega)).2 (by omega))) | ((with_reducible refine w_neg ?_ ?_); focus (first | assumption | exact not_false | trivial | exact mt (ile (by omega) (by omega) (by omega) (by omega)).1 (by omega) | exact mt (ilt (by omega) (by omega) (by omega) (by omega)).1 (by omega) | exact mt (ieq (by omega) (by omega) (by omega) (by omega)).1 (by omega)))); skip)
      exact w_rz0 ⟨by rw [dbl_f hz]; rfl, I', R', σ', rfl, g1, g2⟩
    · repeat ((first | (with_reducible first | refine w_ltA ?_ | refine w_ltS ?_ | refine w_ltM ?_ | refine w_ltN ?_ | refine w_lt ?_ | refine w_jn ?_ | refine w_ck (by omega) (by assumption) ?_ | refine w_gI (by omega) (by assumption) ?_ | refine w_gR (by omega) (by assumption) (by assumption) ?_ | refine w_al (by omega) (by assumption) (by assumption) ?_ | refine w_pI (by omega) (by assumption) ?_ | refine w_set (by omega) (by assumption) (by omega) (by omega) ?_ | refine w_at (by omega) (by assumption) (by omega) (by omega) ?_ | refine w_sI (by omega) (by assumption) (by omega) (by omega) ?_ | refine w_aI (by omega) (by assumption) (by omega) (by omega) ?_ | refine w_sZ (by omega) (by assumption) (by omega) (by omega) (by decide) ?_ | refine w_pZ (by omega) (by assumption) (by decide) ?_ | refine w_dv (by omega) (by omega) (by omega) (by omega) ?_ | refine w_rm (by omega) (by omega) (by omega) (by omega) ?_) | ((with_reducible refine w_pos ?_ ?_); focus (first | assumption | trivial | exact (ile (by omega) (by omega) (by omega) (by omega)).2 (by omega) | exact (ilt (by omega) (by omega) (by omega) (by omega)).2 (by omega) | exact (ieq (by omega) (by omega) (by omega) (by omega)).2 (by omega))) | ((with_reducible refine w_neg ?_ ?_); focus (first | assumption | exact not_false | trivial | exact mt (ile (by omega) (by omega) (by omega) (by omega)).1 (by omega) | exact mt (ilt (by omega) (by omega) (by omega) (by omega)).1 (by omega) | exact mt (ieq (by omega) (by omega) (by omega) (by omega)).1 (by omega)))); skip)
      exact w_rz1 ⟨by rw [dbl_t hz]; rfl, I', R', σ', rfl, g1, g2⟩
  · have h2 := h2 (by decide)
    have c0 : 0 ≤ a ∧ a ≤ 3 := o3 (by decide)
    have n4 : ¬ (I 146 ((k : Nat) : Int).toNat = iI 4) := by rw [Int.toNat_natCast, h1]; decide
    have n5 : ¬ (I 146 ((k : Nat) : Int).toNat = iI 5) := by rw [Int.toNat_natCast, h1]; decide
    have n6 : ¬ (I 146 ((k : Nat) : Int).toNat = iI 6) := by rw [Int.toNat_natCast, h1]; decide
    have n7 : ¬ (I 146 ((k : Nat) : Int).toNat = iI 7) := by rw [Int.toNat_natCast, h1]; decide
    have p0 : I 146 ((k : Nat) : Int).toNat = iI 8 := h1
    rw [u_X2_doLine]
    repeat (first | with_reducible refine w_pos (by decide) ?_ | with_reducible refine w_neg (by decide) ?_ | ((first | (with_reducible first | refine w_ltA ?_ | refine w_ltS ?_ | refine w_ltM ?_ | refine w_ltN ?_ | refine w_lt ?_ | refine w_jn ?_ | refine w_ck (by omega) (by assumption) ?_ | refine w_gI (by omega) (by assumption) ?_ | refine w_gR (by omega) (by assumption) (by assumption) ?_ | refine w_al (by omega) (by assumption) (by assumption) ?_ | refine w_pI (by omega) (by assumption) ?_ | refine w_set (by omega) (by assumption) (by omega) (by omega) ?_ | refine w_at (by omega) (by assumption) (by omega) (by omega) ?_ | refine w_sI (by omega) (by assumption) (by omega) (by omega) ?_ | refine w_aI (by omega) (by assumption) (by omega) (by omega) ?_ | refine w_sZ (by omega) (by assumption) (by omega) (by omega) (by decide) ?_ | refine w_pZ (by omega) (by assumption) (by decide) ?_ | refine w_dv (by omega) (by omega) (by omega) (by omega) ?_ | refine w_rm (by omega) (by omega) (by omega) (by omega) ?_) | ((with_reducible refine w_pos ?_ ?_); focus (first | assumption | trivial | exact (ile (by omega) (by omega) (by omega) (by omega)).2 (by omega) | exact (ilt (by omega) (by omega) (by omega) (by omega)).2 (by omega) | exact (ieq (by omega) (by omega) (by omega) (by omega)).2 (by omega))) | ((with_reducible refine w_neg ?_ ?_); focus (first | assumption | exact not_false | trivial | exact mt (ile (by omega) (by omega) (by omega) (by omega)).1 (by omega) | exact mt (ilt (by omega) (by omega) (by omega) (by omega)).1 (by omega) | exact mt (ieq (by omega) (by omega) (by omega) (by omega)).1 (by omega)))); try simp (disch := omega) only [h1, Int.toNat_natCast, h2]))
    refine w_cI (drop_C (J := J) rg_1 (cto_0 hc) hw (by omega) (by omega)) ?_
    rintro y S ⟨hy, hS⟩
    have hy : y = iI (drpV V a).1 := hy
    subst hy
    obtain ⟨I', R', σ', rfl, g1, g2⟩ := RS.ca hS
    show En (fun (y : Int32 × St) => y.1 = (if dbl (iI (drpV V a).1) (-1) = true then iI 1 else iI 0) ∧ ∃ I' R' σ', y.2 = (381, I', J, R') ∧ CR I' R' 1 σ' (drpV V a).2 ∧ FC 1 I I' ∧ RFr 1 R R') _
    by_cases hz : iI (drpV V a).1 = iI (-1)
    · repeat ((first | (with_reducible first | refine w_ltA ?_ | refine w_ltS ?_ | refine w_ltM ?_ | refine w_ltN ?_ | refine w_lt ?_ | refine w_jn ?_ | refine w_ck (by omega) (by assumption) ?_ | refine w_gI (by omega) (by assumption) ?_ | refine w_gR (by omega) (by assumption) (by assumption) ?_ | refine w_al (by omega) (by assumption) (by assumption) ?_ | refine w_pI (by omega) (by assumption) ?_ | refine w_set (by omega) (by assumption) (by omega) (by omega) ?_ | refine w_at (by omega) (by assumption) (by omega) (by omega) ?_ | refine w_sI (by omega) (by assumption) (by omega) (by omega) ?_ | refine w_aI (by omega) (by assumption) (by omega) (by omega) ?_ | refine w_sZ (by omega) (by assumption) (by omega) (by omega) (by decide) ?_ | refine w_pZ (by omega) (by assumption) (by decide) ?_ | refine w_dv (by omega) (by omega) (by omega) (by omega) ?_ | refine w_rm (by omega) (by omega) (by omega) (by omega) ?_) | ((with_reducible refine w_pos ?_ ?_); focus (first | assumption | trivial | exact (ile (by omega) (by omega) (by omega) (by omega)).2 (by omega) | exact (ilt (by omega) (by omega) (by omega) (by omega)).2 (by omega) | exact (ieq (by omega) (by omega) (by omega) (by omega)).2 (by omega))) | ((with_reducible refine w_neg ?_ ?_); focus (first | assumption | exact not_false | trivial | exact mt (ile (by omega) (by omega) (by omega) (by omega)).1 (by omega) | exact mt (ilt (by omega) (by omega) (by omega) (by omega)).1 (by omega) | exact mt (ieq (by omega) (by omega) (by omega) (by omega)).1 (by omega)))); skip)
      exact w_rz0 ⟨by rw [dbl_f hz]; rfl, I', R', σ', rfl, g1, g2⟩
    · repeat ((first | (with_reducible first | refine w_ltA ?_ | refine w_ltS ?_ | refine w_ltM ?_ | refine w_ltN ?_ | refine w_lt ?_ | refine w_jn ?_ | refine w_ck (by omega) (by assumption) ?_ | refine w_gI (by omega) (by assumption) ?_ | refine w_gR (by omega) (by assumption) (by assumption) ?_ | refine w_al (by omega) (by assumption) (by assumption) ?_ | refine w_pI (by omega) (by assumption) ?_ | refine w_set (by omega) (by assumption) (by omega) (by omega) ?_ | refine w_at (by omega) (by assumption) (by omega) (by omega) ?_ | refine w_sI (by omega) (by assumption) (by omega) (by omega) ?_ | refine w_aI (by omega) (by assumption) (by omega) (by omega) ?_ | refine w_sZ (by omega) (by assumption) (by omega) (by omega) (by decide) ?_ | refine w_pZ (by omega) (by assumption) (by decide) ?_ | refine w_dv (by omega) (by omega) (by omega) (by omega) ?_ | refine w_rm (by omega) (by omega) (by omega) (by omega) ?_) | ((with_reducible refine w_pos ?_ ?_); focus (first | assumption | trivial | exact (ile (by omega) (by omega) (by omega) (by omega)).2 (by omega) | exact (ilt (by omega) (by omega) (by omega) (by omega)).2 (by omega) | exact (ieq (by omega) (by omega) (by omega) (by omega)).2 (by omega))) | ((with_reducible refine w_neg ?_ ?_); focus (first | assumption | exact not_false | trivial | exact mt (ile (by omega) (by omega) (by omega) (by omega)).1 (by omega) | exact mt (ilt (by omega) (by omega) (by omega) (by omega)).1 (by omega) | exact mt (ieq (by omega) (by omega) (by omega) (by omega)).1 (by omega)))); skip)
      exact w_rz1 ⟨by rw [dbl_t hz]; rfl, I', R', σ', rfl, g1, g2⟩
  · have n4 : ¬ (I 146 ((k : Nat) : Int).toNat = iI 4) := by rw [Int.toNat_natCast, h1]; decide
    have n5 : ¬ (I 146 ((k : Nat) : Int).toNat = iI 5) := by rw [Int.toNat_natCast, h1]; decide
    have n6 : ¬ (I 146 ((k : Nat) : Int).toNat = iI 6) := by rw [Int.toNat_natCast, h1]; decide
    have n7 : ¬ (I 146 ((k : Nat) : Int).toNat = iI 7) := by rw [Int.toNat_natCast, h1]; decide
    have n8 : ¬ (I 146 ((k : Nat) : Int).toNat = iI 8) := by rw [Int.toNat_natCast, h1]; decide
    have p0 : I 146 ((k : Nat) : Int).toNat = iI 9 := h1
    rw [u_X2_doLine]
    repeat (first | with_reducible refine w_pos (by decide) ?_ | with_reducible refine w_neg (by decide) ?_ | ((first | (with_reducible first | refine w_ltA ?_ | refine w_ltS ?_ | refine w_ltM ?_ | refine w_ltN ?_ | refine w_lt ?_ | refine w_jn ?_ | refine w_ck (by omega) (by assumption) ?_ | refine w_gI (by omega) (by assumption) ?_ | refine w_gR (by omega) (by assumption) (by assumption) ?_ | refine w_al (by omega) (by assumption) (by assumption) ?_ | refine w_pI (by omega) (by assumption) ?_ | refine w_set (by omega) (by assumption) (by omega) (by omega) ?_ | refine w_at (by omega) (by assumption) (by omega) (by omega) ?_ | refine w_sI (by omega) (by assumption) (by omega) (by omega) ?_ | refine w_aI (by omega) (by assumption) (by omega) (by omega) ?_ | refine w_sZ (by omega) (by assumption) (by omega) (by omega) (by decide) ?_ | refine w_pZ (by omega) (by assumption) (by decide) ?_ | refine w_dv (by omega) (by omega) (by omega) (by omega) ?_ | refine w_rm (by omega) (by omega) (by omega) (by omega) ?_) | ((with_reducible refine w_pos ?_ ?_); focus (first | assumption | trivial | exact (ile (by omega) (by omega) (by omega) (by omega)).2 (by omega) | exact (ilt (by omega) (by omega) (by omega) (by omega)).2 (by omega) | exact (ieq (by omega) (by omega) (by omega) (by omega)).2 (by omega))) | ((with_reducible refine w_neg ?_ ?_); focus (first | assumption | exact not_false | trivial | exact mt (ile (by omega) (by omega) (by omega) (by omega)).1 (by omega) | exact mt (ilt (by omega) (by omega) (by omega) (by omega)).1 (by omega) | exact mt (ieq (by omega) (by omega) (by omega) (by omega)).1 (by omega)))); try simp (disch := omega) only [h1, Int.toNat_natCast]))
    refine w_cI (swap_C (J := J) rg_1 (cto_0 hc) hw (Or.inl rfl)) ?_
    rintro y S ⟨hy, hS⟩
    have hy : y = iI (swpV V 0).1 := hy
    subst hy
    obtain ⟨I', R', σ', rfl, g1, g2⟩ := RS.ca hS
    show En (fun (y : Int32 × St) => y.1 = (if dbl (iI (swpV V 0).1) (-1) = true then iI 1 else iI 0) ∧ ∃ I' R' σ', y.2 = (381, I', J, R') ∧ CR I' R' 1 σ' (swpV V 0).2 ∧ FC 1 I I' ∧ RFr 1 R R') _
    by_cases hz : iI (swpV V 0).1 = iI (-1)
    · repeat ((first | (with_reducible first | refine w_ltA ?_ | refine w_ltS ?_ | refine w_ltM ?_ | refine w_ltN ?_ | refine w_lt ?_ | refine w_jn ?_ | refine w_ck (by omega) (by assumption) ?_ | refine w_gI (by omega) (by assumption) ?_ | refine w_gR (by omega) (by assumption) (by assumption) ?_ | refine w_al (by omega) (by assumption) (by assumption) ?_ | refine w_pI (by omega) (by assumption) ?_ | refine w_set (by omega) (by assumption) (by omega) (by omega) ?_ | refine w_at (by omega) (by assumption) (by omega) (by omega) ?_ | refine w_sI (by omega) (by assumption) (by omega) (by omega) ?_ | refine w_aI (by omega) (by assumption) (by omega) (by omega) ?_ | refine w_sZ (by omega) (by assumption) (by omega) (by omega) (by decide) ?_ | refine w_pZ (by omega) (by assumption) (by decide) ?_ | refine w_dv (by omega) (by omega) (by omega) (by omega) ?_ | refine w_rm (by omega) (by omega) (by omega) (by omega) ?_) | ((with_reducible refine w_pos ?_ ?_); focus (first | assumption | trivial | exact (ile (by omega) (by omega) (by omega) (by omega)).2 (by omega) | exact (ilt (by omega) (by omega) (by omega) (by omega)).2 (by omega) | exact (ieq (by omega) (by omega) (by omega) (by omega)).2 (by omega))) | ((with_reducible refine w_neg ?_ ?_); focus (first | assumption | exact not_false | trivial | exact mt (ile (by omega) (by omega) (by omega) (by omega)).1 (by omega) | exact mt (ilt (by omega) (by omega) (by omega) (by omega)).1 (by omega) | exact mt (ieq (by omega) (by omega) (by omega) (by omega)).1 (by omega)))); skip)
      exact w_rz0 ⟨by rw [dbl_f hz]; rfl, I', R', σ', rfl, g1, g2⟩
    · repeat ((first | (with_reducible first | refine w_ltA ?_ | refine w_ltS ?_ | refine w_ltM ?_ | refine w_ltN ?_ | refine w_lt ?_ | refine w_jn ?_ | refine w_ck (by omega) (by assumption) ?_ | refine w_gI (by omega) (by assumption) ?_ | refine w_gR (by omega) (by assumption) (by assumption) ?_ | refine w_al (by omega) (by assumption) (by assumption) ?_ | refine w_pI (by omega) (by assumption) ?_ | refine w_set (by omega) (by assumption) (by omega) (by omega) ?_ | refine w_at (by omega) (by assumption) (by omega) (by omega) ?_ | refine w_sI (by omega) (by assumption) (by omega) (by omega) ?_ | refine w_aI (by omega) (by assumption) (by omega) (by omega) ?_ | refine w_sZ (by omega) (by assumption) (by omega) (by omega) (by decide) ?_ | refine w_pZ (by omega) (by assumption) (by decide) ?_ | refine w_dv (by omega) (by omega) (by omega) (by omega) ?_ | refine w_rm (by omega) (by omega) (by omega) (by omega) ?_) | ((with_reducible refine w_pos ?_ ?_); focus (first | assumption | trivial | exact (ile (by omega) (by omega) (by omega) (by omega)).2 (by omega) | exact (ilt (by omega) (by omega) (by omega) (by omega)).2 (by omega) | exact (ieq (by omega) (by omega) (by omega) (by omega)).2 (by omega))) | ((with_reducible refine w_neg ?_ ?_); focus (first | assumption | exact not_false | trivial | exact mt (ile (by omega) (by omega) (by omega) (by omega)).1 (by omega) | exact mt (ilt (by omega) (by omega) (by omega) (by omega)).1 (by omega) | exact mt (ieq (by omega) (by omega) (by omega) (by omega)).1 (by omega)))); skip)
      exact w_rz1 ⟨by rw [dbl_t hz]; rfl, I', R', σ', rfl, g1, g2⟩
  · have n4 : ¬ (I 146 ((k : Nat) : Int).toNat = iI 4) := by rw [Int.toNat_natCast, h1]; decide
    have n5 : ¬ (I 146 ((k : Nat) : Int).toNat = iI 5) := by rw [Int.toNat_natCast, h1]; decide
    have n6 : ¬ (I 146 ((k : Nat) : Int).toNat = iI 6) := by rw [Int.toNat_natCast, h1]; decide
    have n7 : ¬ (I 146 ((k : Nat) : Int).toNat = iI 7) := by rw [Int.toNat_natCast, h1]; decide
    have n8 : ¬ (I 146 ((k : Nat) : Int).toNat = iI 8) := by rw [Int.toNat_natCast, h1]; decide
    have n9 : ¬ (I 146 ((k : Nat) : Int).toNat = iI 9) := by rw [Int.toNat_natCast, h1]; decide
    have p0 : I 146 ((k : Nat) : Int).toNat = iI 10 := h1
    rw [u_X2_doLine]
    repeat (first | with_reducible refine w_pos (by decide) ?_ | with_reducible refine w_neg (by decide) ?_ | ((first | (with_reducible first | refine w_ltA ?_ | refine w_ltS ?_ | refine w_ltM ?_ | refine w_ltN ?_ | refine w_lt ?_ | refine w_jn ?_ | refine w_ck (by omega) (by assumption) ?_ | refine w_gI (by omega) (by assumption) ?_ | refine w_gR (by omega) (by assumption) (by assumption) ?_ | refine w_al (by omega) (by assumption) (by assumption) ?_ | refine w_pI (by omega) (by assumption) ?_ | refine w_set (by omega) (by assumption) (by omega) (by omega) ?_ | refine w_at (by omega) (by assumption) (by omega) (by omega) ?_ | refine w_sI (by omega) (by assumption) (by omega) (by omega) ?_ | refine w_aI (by omega) (by assumption) (by omega) (by omega) ?_ | refine w_sZ (by omega) (by assumption) (by omega) (by omega) (by decide) ?_ | refine w_pZ (by omega) (by assumption) (by decide) ?_ | refine w_dv (by omega) (by omega) (by omega) (by omega) ?_ | refine w_rm (by omega) (by omega) (by omega) (by omega) ?_) | ((with_reducible refine w_pos ?_ ?_); focus (first | assumption | trivial | exact (ile (by omega) (by omega) (by omega) (by omega)).2 (by omega) | exact (ilt (by omega) (by omega) (by omega) (by omega)).2 (by omega) | exact (ieq (by omega) (by omega) (by omega) (by omega)).2 (by omega))) | ((with_reducible refine w_neg ?_ ?_); focus (first | assumption | exact not_false | trivial | exact mt (ile (by omega) (by omega) (by omega) (by omega)).1 (by omega) | exact mt (ilt (by omega) (by omega) (by omega) (by omega)).1 (by omega) | exact mt (ieq (by omega) (by omega) (by omega) (by omega)).1 (by omega)))); try simp (disch := omega) only [h1, Int.toNat_natCast]))
    refine w_cI (swap_C (J := J) rg_1 (cto_0 hc) hw (Or.inr rfl)) ?_
    rintro y S ⟨hy, hS⟩
    have hy : y = iI (swpV V 1).1 := hy
    subst hy
    obtain ⟨I', R', σ', rfl, g1, g2⟩ := RS.ca hS
    show En (fun (y : Int32 × St) => y.1 = (if dbl (iI (swpV V 1).1) (-1) = true then iI 1 else iI 0) ∧ ∃ I' R' σ', y.2 = (381, I', J, R') ∧ CR I' R' 1 σ' (swpV V 1).2 ∧ FC 1 I I' ∧ RFr 1 R R') _
    by_cases hz : iI (swpV V 1).1 = iI (-1)
    · repeat ((first | (with_reducible first | refine w_ltA ?_ | refine w_ltS ?_ | refine w_ltM ?_ | refine w_ltN ?_ | refine w_lt ?_ | refine w_jn ?_ | refine w_ck (by omega) (by assumption) ?_ | refine w_gI (by omega) (by assumption) ?_ | refine w_gR (by omega) (by assumption) (by assumption) ?_ | refine w_al (by omega) (by assumption) (by assumption) ?_ | refine w_pI (by omega) (by assumption) ?_ | refine w_set (by omega) (by assumption) (by omega) (by omega) ?_ | refine w_at (by omega) (by assumption) (by omega) (by omega) ?_ | refine w_sI (by omega) (by assumption) (by omega) (by omega) ?_ | refine w_aI (by omega) (by assumption) (by omega) (by omega) ?_ | refine w_sZ (by omega) (by assumption) (by omega) (by omega) (by decide) ?_ | refine w_pZ (by omega) (by assumption) (by decide) ?_ | refine w_dv (by omega) (by omega) (by omega) (by omega) ?_ | refine w_rm (by omega) (by omega) (by omega) (by omega) ?_) | ((with_reducible refine w_pos ?_ ?_); focus (first | assumption | trivial | exact (ile (by omega) (by omega) (by omega) (by omega)).2 (by omega) | exact (ilt (by omega) (by omega) (by omega) (by omega)).2 (by omega) | exact (ieq (by omega) (by omega) (by omega) (by omega)).2 (by omega))) | ((with_reducible refine w_neg ?_ ?_); focus (first | assumption | exact not_false | trivial | exact mt (ile (by omega) (by omega) (by omega) (by omega)).1 (by omega) | exact mt (ilt (by omega) (by omega) (by omega) (by omega)).1 (by omega) | exact mt (ieq (by omega) (by omega) (by omega) (by omega)).1 (by omega)))); skip)
      exact w_rz0 ⟨by rw [dbl_f hz]; rfl, I', R', σ', rfl, g1, g2⟩
    · repeat ((first | (with_reducible first | refine w_ltA ?_ | refine w_ltS ?_ | refine w_ltM ?_ | refine w_ltN ?_ | refine w_lt ?_ | refine w_jn ?_ | refine w_ck (by omega) (by assumption) ?_ | refine w_gI (by omega) (by assumption) ?_ | refine w_gR (by omega) (by assumption) (by assumption) ?_ | refine w_al (by omega) (by assumption) (by assumption) ?_ | refine w_pI (by omega) (by assumption) ?_ | refine w_set (by omega) (by assumption) (by omega) (by omega) ?_ | refine w_at (by omega) (by assumption) (by omega) (by omega) ?_ | refine w_sI (by omega) (by assumption) (by omega) (by omega) ?_ | refine w_aI (by omega) (by assumption) (by omega) (by omega) ?_ | refine w_sZ (by omega) (by assumption) (by omega) (by omega) (by decide) ?_ | refine w_pZ (by omega) (by assumption) (by decide) ?_ | refine w_dv (by omega) (by omega) (by omega) (by omega) ?_ | refine w_rm (by omega) (by omega) (by omega) (by omega) ?_) | ((with_reducible refine w_pos ?_ ?_); focus (first | assumption | trivial | exact (ile (by omega) (by omega) (by omega) (by omega)).2 (by omega) | exact (ilt (by omega) (by omega) (by omega) (by omega)).2 (by omega) | exact (ieq (by omega) (by omega) (by omega) (by omega)).2 (by omega))) | ((with_reducible refine w_neg ?_ ?_); focus (first | assumption | exact not_false | trivial | exact mt (ile (by omega) (by omega) (by omega) (by omega)).1 (by omega) | exact mt (ilt (by omega) (by omega) (by omega) (by omega)).1 (by omega) | exact mt (ieq (by omega) (by omega) (by omega) (by omega)).1 (by omega)))); skip)
      exact w_rz1 ⟨by rw [dbl_t hz]; rfl, I', R', σ', rfl, g1, g2⟩
  · have h2 := h2 (by decide)
    have c0 : 1 ≤ a ∧ a ≤ 99 := o3 (by decide)
    have n4 : ¬ (I 146 ((k : Nat) : Int).toNat = iI 4) := by rw [Int.toNat_natCast, h1]; decide
    have n5 : ¬ (I 146 ((k : Nat) : Int).toNat = iI 5) := by rw [Int.toNat_natCast, h1]; decide
    have n6 : ¬ (I 146 ((k : Nat) : Int).toNat = iI 6) := by rw [Int.toNat_natCast, h1]; decide
    have n7 : ¬ (I 146 ((k : Nat) : Int).toNat = iI 7) := by rw [Int.toNat_natCast, h1]; decide
    have n8 : ¬ (I 146 ((k : Nat) : Int).toNat = iI 8) := by rw [Int.toNat_natCast, h1]; decide
    have n9 : ¬ (I 146 ((k : Nat) : Int).toNat = iI 9) := by rw [Int.toNat_natCast, h1]; decide
    have n10 : ¬ (I 146 ((k : Nat) : Int).toNat = iI 10) := by rw [Int.toNat_natCast, h1]; decide
    have p0 : I 146 ((k : Nat) : Int).toNat = iI 11 := h1
    rw [u_X2_doLine]
    repeat (first | with_reducible refine w_pos (by decide) ?_ | with_reducible refine w_neg (by decide) ?_ | ((first | (with_reducible first | refine w_ltA ?_ | refine w_ltS ?_ | refine w_ltM ?_ | refine w_ltN ?_ | refine w_lt ?_ | refine w_jn ?_ | refine w_ck (by omega) (by assumption) ?_ | refine w_gI (by omega) (by assumption) ?_ | refine w_gR (by omega) (by assumption) (by assumption) ?_ | refine w_al (by omega) (by assumption) (by assumption) ?_ | refine w_pI (by omega) (by assumption) ?_ | refine w_set (by omega) (by assumption) (by omega) (by omega) ?_ | refine w_at (by omega) (by assumption) (by omega) (by omega) ?_ | refine w_sI (by omega) (by assumption) (by omega) (by omega) ?_ | refine w_aI (by omega) (by assumption) (by omega) (by omega) ?_ | refine w_sZ (by omega) (by assumption) (by omega) (by omega) (by decide) ?_ | refine w_pZ (by omega) (by assumption) (by decide) ?_ | refine w_dv (by omega) (by omega) (by omega) (by omega) ?_ | refine w_rm (by omega) (by omega) (by omega) (by omega) ?_) | ((with_reducible refine w_pos ?_ ?_); focus (first | assumption | trivial | exact (ile (by omega) (by omega) (by omega) (by omega)).2 (by omega) | exact (ilt (by omega) (by omega) (by omega) (by omega)).2 (by omega) | exact (ieq (by omega) (by omega) (by omega) (by omega)).2 (by omega))) | ((with_reducible refine w_neg ?_ ?_); focus (first | assumption | exact not_false | trivial | exact mt (ile (by omega) (by omega) (by omega) (by omega)).1 (by omega) | exact mt (ilt (by omega) (by omega) (by omega) (by omega)).1 (by omega) | exact mt (ieq (by omega) (by omega) (by omega) (by omega)).1 (by omega)))); try simp (disch := omega) only [h1, Int.toNat_natCast, h2]))
    have hrd := reads_C (J := J) (n := a.toNat) rg_1 (cto_0 hc) hw (by omega)
    rw [show ((a.toNat : Nat) : Int) = a by omega] at hrd
    refine w_cI hrd ?_
    rintro y S ⟨hy, I', rfl, g1⟩
    have hy : y = (if 0 < (rdsV a.toNat V).1 then iI 1 else iI 0) := hy
    subst hy
    show En (fun (y : Int32 × St) => y.1 = (if decide (0 < (rdsV a.toNat V).1) = true then iI 1 else iI 0) ∧ ∃ I' R' σ', y.2 = (381, I', J, R') ∧ CR I' R' 1 σ' (rdsV a.toNat V).2 ∧ FC 1 I I' ∧ RFr 1 R R') _
    by_cases hz : 0 < (rdsV a.toNat V).1
    · rw [if_pos hz]
      exact w_rz1 ⟨by rw [decide_eq_true hz]; rfl, I', R, σ, rfl, g1.1, g1.fc⟩
    · rw [if_neg hz]
      exact w_rz0 ⟨by rw [decide_eq_false hz]; rfl, I', R, σ, rfl, g1.1, g1.fc⟩
  · have h2 := h2 (by decide)
    have c0 : 0 ≤ a ∧ a ≤ 15 := o3 (by decide)
    have n4 : ¬ (I 146 ((k : Nat) : Int).toNat = iI 4) := by rw [Int.toNat_natCast, h1]; decide
    have n5 : ¬ (I 146 ((k : Nat) : Int).toNat = iI 5) := by rw [Int.toNat_natCast, h1]; decide
    have n6 : ¬ (I 146 ((k : Nat) : Int).toNat = iI 6) := by rw [Int.toNat_natCast, h1]; decide
    have n7 : ¬ (I 146 ((k : Nat) : Int).toNat = iI 7) := by rw [Int.toNat_natCast, h1]; decide
    have n8 : ¬ (I 146 ((k : Nat) : Int).toNat = iI 8) := by rw [Int.toNat_natCast, h1]; decide
    have n9 : ¬ (I 146 ((k : Nat) : Int).toNat = iI 9) := by rw [Int.toNat_natCast, h1]; decide
    have n10 : ¬ (I 146 ((k : Nat) : Int).toNat = iI 10) := by rw [Int.toNat_natCast, h1]; decide
    have n11 : ¬ (I 146 ((k : Nat) : Int).toNat = iI 11) := by rw [Int.toNat_natCast, h1]; decide
    have p0 : I 146 ((k : Nat) : Int).toNat = iI 12 := h1
    rw [u_X2_doLine]
    repeat (first | with_reducible refine w_pos (by decide) ?_ | with_reducible refine w_neg (by decide) ?_ | ((first | (with_reducible first | refine w_ltA ?_ | refine w_ltS ?_ | refine w_ltM ?_ | refine w_ltN ?_ | refine w_lt ?_ | refine w_jn ?_ | refine w_ck (by omega) (by assumption) ?_ | refine w_gI (by omega) (by assumption) ?_ | refine w_gR (by omega) (by assumption) (by assumption) ?_ | refine w_al (by omega) (by assumption) (by assumption) ?_ | refine w_pI (by omega) (by assumption) ?_ | refine w_set (by omega) (by assumption) (by omega) (by omega) ?_ | refine w_at (by omega) (by assumption) (by omega) (by omega) ?_ | refine w_sI (by omega) (by assumption) (by omega) (by omega) ?_ | refine w_aI (by omega) (by assumption) (by omega) (by omega) ?_ | refine w_sZ (by omega) (by assumption) (by omega) (by omega) (by decide) ?_ | refine w_pZ (by omega) (by assumption) (by decide) ?_ | refine w_dv (by omega) (by omega) (by omega) (by omega) ?_ | refine w_rm (by omega) (by omega) (by omega) (by omega) ?_) | ((with_reducible refine w_pos ?_ ?_); focus (first | assumption | trivial | exact (ile (by omega) (by omega) (by omega) (by omega)).2 (by omega) | exact (ilt (by omega) (by omega) (by omega) (by omega)).2 (by omega) | exact (ieq (by omega) (by omega) (by omega) (by omega)).2 (by omega))) | ((with_reducible refine w_neg ?_ ?_); focus (first | assumption | exact not_false | trivial | exact mt (ile (by omega) (by omega) (by omega) (by omega)).1 (by omega) | exact mt (ilt (by omega) (by omega) (by omega) (by omega)).1 (by omega) | exact mt (ieq (by omega) (by omega) (by omega) (by omega)).1 (by omega)))); try simp (disch := omega) only [h1, Int.toNat_natCast, h2]))
    refine w_cI (msk_C (J := J) rg_1 (cto_0 hc) hw (by omega) (by omega)) ?_
    rintro y S ⟨hy, hS⟩
    have hy : y = iI (mskV V a).1 := hy
    subst hy
    obtain ⟨I', R', σ', rfl, g1, g2⟩ := RS.ca hS
    show En (fun (y : Int32 × St) => y.1 = (if decide ((mskV V a).1 = 1) = true then iI 1 else iI 0) ∧ ∃ I' R' σ', y.2 = (381, I', J, R') ∧ CR I' R' 1 σ' (mskV V a).2 ∧ FC 1 I I' ∧ RFr 1 R R') _
    rcases msk_01 (V := V) (l := a) with hz | hz
    · rw [hz]
      exact w_rz0 ⟨rfl, I', R', σ', rfl, g1, g2⟩
    · rw [hz]
      exact w_rz1 ⟨rfl, I', R', σ', rfl, g1, g2⟩
  · have h2 := h2 (by decide)
    have c0 : 2 ≤ a ∧ a ≤ 6 := o3 (by decide)
    have n4 : ¬ (I 146 ((k : Nat) : Int).toNat = iI 4) := by rw [Int.toNat_natCast, h1]; decide
    have n5 : ¬ (I 146 ((k : Nat) : Int).toNat = iI 5) := by rw [Int.toNat_natCast, h1]; decide
    have n6 : ¬ (I 146 ((k : Nat) : Int).toNat = iI 6) := by rw [Int.toNat_natCast, h1]; decide
    have n7 : ¬ (I 146 ((k : Nat) : Int).toNat = iI 7) := by rw [Int.toNat_natCast, h1]; decide
    have n8 : ¬ (I 146 ((k : Nat) : Int).toNat = iI 8) := by rw [Int.toNat_natCast, h1]; decide
    have n9 : ¬ (I 146 ((k : Nat) : Int).toNat = iI 9) := by rw [Int.toNat_natCast, h1]; decide
    have n10 : ¬ (I 146 ((k : Nat) : Int).toNat = iI 10) := by rw [Int.toNat_natCast, h1]; decide
    have n11 : ¬ (I 146 ((k : Nat) : Int).toNat = iI 11) := by rw [Int.toNat_natCast, h1]; decide
    have n12 : ¬ (I 146 ((k : Nat) : Int).toNat = iI 12) := by rw [Int.toNat_natCast, h1]; decide
    have p0 : I 146 ((k : Nat) : Int).toNat = iI 13 := h1
    rw [u_X2_doLine]
    repeat (first | with_reducible refine w_pos (by decide) ?_ | with_reducible refine w_neg (by decide) ?_ | ((first | (with_reducible first | refine w_ltA ?_ | refine w_ltS ?_ | refine w_ltM ?_ | refine w_ltN ?_ | refine w_lt ?_ | refine w_jn ?_ | refine w_ck (by omega) (by assumption) ?_ | refine w_gI (by omega) (by assumption) ?_ | refine w_gR (by omega) (by assumption) (by assumption) ?_ | refine w_al (by omega) (by assumption) (by assumption) ?_ | refine w_pI (by omega) (by assumption) ?_ | refine w_set (by omega) (by assumption) (by omega) (by omega) ?_ | refine w_at (by omega) (by assumption) (by omega) (by omega) ?_ | refine w_sI (by omega) (by assumption) (by omega) (by omega) ?_ | refine w_aI (by omega) (by assumption) (by omega) (by omega) ?_ | refine w_sZ (by omega) (by assumption) (by omega) (by omega) (by decide) ?_ | refine w_pZ (by omega) (by assumption) (by decide) ?_ | refine w_dv (by omega) (by omega) (by omega) (by omega) ?_ | refine w_rm (by omega) (by omega) (by omega) (by omega) ?_) | ((with_reducible refine w_pos ?_ ?_); focus (first | assumption | trivial | exact (ile (by omega) (by omega) (by omega) (by omega)).2 (by omega) | exact (ilt (by omega) (by omega) (by omega) (by omega)).2 (by omega) | exact (ieq (by omega) (by omega) (by omega) (by omega)).2 (by omega))) | ((with_reducible refine w_neg ?_ ?_); focus (first | assumption | exact not_false | trivial | exact mt (ile (by omega) (by omega) (by omega) (by omega)).1 (by omega) | exact mt (ilt (by omega) (by omega) (by omega) (by omega)).1 (by omega) | exact mt (ieq (by omega) (by omega) (by omega) (by omega)).1 (by omega)))); try simp (disch := omega) only [h1, Int.toNat_natCast, h2]))
    refine w_cI (rsz_C (J := J) rg_1 (cto_0 hc) hw (by omega) (by omega)) ?_
    rintro y S ⟨hy, hS⟩
    have hy : y = iI (rszV V a).1 := hy
    subst hy
    obtain ⟨I', R', σ', rfl, g1, g2⟩ := RS.ca hS
    show En (fun (y : Int32 × St) => y.1 = (if dbl (iI (rszV V a).1) (-1) = true then iI 1 else iI 0) ∧ ∃ I' R' σ', y.2 = (381, I', J, R') ∧ CR I' R' 1 σ' (rszV V a).2 ∧ FC 1 I I' ∧ RFr 1 R R') _
    by_cases hz : iI (rszV V a).1 = iI (-1)
    · repeat ((first | (with_reducible first | refine w_ltA ?_ | refine w_ltS ?_ | refine w_ltM ?_ | refine w_ltN ?_ | refine w_lt ?_ | refine w_jn ?_ | refine w_ck (by omega) (by assumption) ?_ | refine w_gI (by omega) (by assumption) ?_ | refine w_gR (by omega) (by assumption) (by assumption) ?_ | refine w_al (by omega) (by assumption) (by assumption) ?_ | refine w_pI (by omega) (by assumption) ?_ | refine w_set (by omega) (by assumption) (by omega) (by omega) ?_ | refine w_at (by omega) (by assumption) (by omega) (by omega) ?_ | refine w_sI (by omega) (by assumption) (by omega) (by omega) ?_ | refine w_aI (by omega) (by assumption) (by omega) (by omega) ?_ | refine w_sZ (by omega) (by assumption) (by omega) (by omega) (by decide) ?_ | refine w_pZ (by omega) (by assumption) (by decide) ?_ | refine w_dv (by omega) (by omega) (by omega) (by omega) ?_ | refine w_rm (by omega) (by omega) (by omega) (by omega) ?_) | ((with_reducible refine w_pos ?_ ?_); focus (first | assumption | trivial | exact (ile (by omega) (by omega) (by omega) (by omega)).2 (by omega) | exact (ilt (by omega) (by omega) (by omega) (by omega)).2 (by omega) | exact (ieq (by omega) (by omega) (by omega) (by omega)).2 (by omega))) | ((with_reducible refine w_neg ?_ ?_); focus (first | assumption | exact not_false | trivial | exact mt (ile (by omega) (by omega) (by omega) (by omega)).1 (by omega) | exact mt (ilt (by omega) (by omega) (by omega) (by omega)).1 (by omega) | exact mt (ieq (by omega) (by omega) (by omega) (by omega)).1 (by omega)))); skip)
      exact w_rz0 ⟨by rw [dbl_f hz]; rfl, I', R', σ', rfl, g1, g2⟩
    · repeat ((first | (with_reducible first | refine w_ltA ?_ | refine w_ltS ?_ | refine w_ltM ?_ | refine w_ltN ?_ | refine w_lt ?_ | refine w_jn ?_ | refine w_ck (by omega) (by assumption) ?_ | refine w_gI (by omega) (by assumption) ?_ | refine w_gR (by omega) (by assumption) (by assumption) ?_ | refine w_al (by omega) (by assumption) (by assumption) ?_ | refine w_pI (by omega) (by assumption) ?_ | refine w_set (by omega) (by assumption) (by omega) (by omega) ?_ | refine w_at (by omega) (by assumption) (by omega) (by omega) ?_ | refine w_sI (by omega) (by assumption) (by omega) (by omega) ?_ | refine w_aI (by omega) (by assumption) (by omega) (by omega) ?_ | refine w_sZ (by omega) (by assumption) (by omega) (by omega) (by decide) ?_ | refine w_pZ (by omega) (by assumption) (by decide) ?_ | refine w_dv (by omega) (by omega) (by omega) (by omega) ?_ | refine w_rm (by omega) (by omega) (by omega) (by omega) ?_) | ((with_reducible refine w_pos ?_ ?_); focus (first | assumption | trivial | exact (ile (by omega) (by omega) (by omega) (by omega)).2 (by omega) | exact (ilt (by omega) (by omega) (by omega) (by omega)).2 (by omega) | exact (ieq (by omega) (by omega) (by omega) (by omega)).2 (by omega))) | ((with_reducible refine w_neg ?_ ?_); focus (first | assumption | exact not_false | trivial | exact mt (ile (by omega) (by omega) (by omega) (by omega)).1 (by omega) | exact mt (ilt (by omega) (by omega) (by omega) (by omega)).1 (by omega) | exact mt (ieq (by omega) (by omega) (by omega) (by omega)).1 (by omega)))); skip)
      exact w_rz1 ⟨by rw [dbl_t hz]; rfl, I', R', σ', rfl, g1, g2⟩
theorem carry_C (hRC : RC R) (hc : CR I R 1 σ V) (hw : WR V) (hm5 : I 145 3 = iI (m : Nat)) (hm : m ≤ 80) (hL : LnC I m L) (hok : ∀ k, k < m → lnOk 4 13 (L k)) : En (fun y => y.1 = iI ((runV L m 0 V).1 : Nat) ∧ ∃ I' R' σ', y.2 = (381, I', J, R') ∧ CR I' R' 1 σ' (runV L m 0 V).2 ∧ FC 1 I I' ∧ RFr 1 R R') (f_X2_carryOut (381, I, J, R) 145 1) := by
  have k145 := kd_145
  rw [u_X2_carryOut]
  refine w_lp m (fun j y => j ≤ m ∧ ∃ I' R' σ' V', y = (iI (j : Nat), (381, I', J, R')) ∧ CR I' R' 1 σ' V' ∧ WR V' ∧ FC 1 I I' ∧ RFr 1 R R' ∧ runV L m 0 V = runV L (m - j) j V') ⟨by omega, I, R, σ, V, rfl, hc, hw, fun _ _ _ _ => rfl, fun _ _ _ => rfl, rfl⟩ (by rw [FU_eq]; omega) (fun i y h => h.1) ?_
  rintro j y self ⟨hj, I1, R1, σ1, V1, rfl, hc1, hw1, hF, hRF, hr⟩ ih
  try dsimp only
  have g5 : I1 145 3 = iI (m : Nat) := (hF _ _ (by omega) (by omega)).trans hm5
  have hL1 : LnC I1 m L := fun k hk => by
    have := hL k hk
    exact ⟨(hF _ _ (by omega) (by omega)).trans this.1, fun h => (hF _ _ (by omega) (by omega)).trans (this.2.1 h), fun h => (hF _ _ (by omega) (by omega)).trans (this.2.2 h)⟩
  refine w_gI (by omega) k145 ?_
  rw [g5]
  refine w_jnP (fun x => ∃ I' R' σ', x = (381, I', J, R') ∧ CR I' R' 1 σ' (runV L m 0 V).2 ∧ FC 1 I I' ∧ RFr 1 R R' ∧ (runV L m 0 V).1 = j) ?_ ?_
  · rintro x ⟨I2, R2, σ2, rfl, h1, h2, h3, h4⟩
    exact w_rt ⟨by rw [h4], I2, R2, σ2, rfl, h1, h2, h3⟩
  intro j3 hj3
  by_cases hlt : j < m
  · obtain ⟨d, hd⟩ : ∃ d, m - j = d + 1 := ⟨m - j - 1, by omega⟩
    have e : runV L (d + 1) j V1 = if (doV V1 (L j)).1 then runV L d (j + 1) (doV V1 (L j)).2 else (j, (doV V1 (L j)).2) := rfl
    rw [hd, e] at hr
    repeat ((first | (with_reducible first | refine w_ltA ?_ | refine w_ltS ?_ | refine w_ltM ?_ | refine w_ltN ?_ | refine w_lt ?_ | refine w_jn ?_ | refine w_ck (by omega) (by assumption) ?_ | refine w_gI (by omega) (by assumption) ?_ | refine w_gR (by omega) (by assumption) (by assumption) ?_ | refine w_al (by omega) (by assumption) (by assumption) ?_ | refine w_pI (by omega) (by assumption) ?_ | refine w_set (by omega) (by assumption) (by omega) (by omega) ?_ | refine w_at (by omega) (by assumption) (by omega) (by omega) ?_ | refine w_sI (by omega) (by assumption) (by omega) (by omega) ?_ | refine w_aI (by omega) (by assumption) (by omega) (by omega) ?_ | refine w_sZ (by omega) (by assumption) (by omega) (by omega) (by decide) ?_ | refine w_pZ (by omega) (by assumption) (by decide) ?_ | refine w_dv (by omega) (by omega) (by omega) (by omega) ?_ | refine w_rm (by omega) (by omega) (by omega) (by omega) ?_) | ((with_reducible refine w_pos ?_ ?_); focus (first | assumption | trivial | exact (ile (by omega) (by omega) (by omega) (by omega)).2 (by omega) | exact (ilt (by omega) (by omega) (by omega) (by omega)).2 (by omega) | exact (ieq (by omega) (by omega) (by omega) (by omega)).2 (by omega))) | ((with_reducible refine w_neg ?_ ?_); focus (first | assumption | exact not_false | trivial | exact mt (ile (by omega) (by omega) (by omega) (by omega)).1 (by omega) | exact mt (ilt (by omega) (by omega) (by omega) (by omega)).1 (by omega) | exact mt (ieq (by omega) (by omega) (by omega) (by omega)).1 (by omega)))); skip)
    refine w_cI (doLine_C (J := J) (hRC.m (Or.inl rfl) hRF) hc1 hw1 hlt hm hL1 (hok j hlt)) ?_
    rintro y S ⟨hy, I2, R2, σ2, rfl, h1, h2, h3⟩
    have hy : y = (if (doV V1 (L j)).1 then iI 1 else iI 0) := hy
    subst hy
    by_cases hz : (doV V1 (L j)).1 = true
    · rw [if_pos hz] at hr ⊢
      repeat ((first | (with_reducible first | refine w_ltA ?_ | refine w_ltS ?_ | refine w_ltM ?_ | refine w_ltN ?_ | refine w_lt ?_ | refine w_jn ?_ | refine w_ck (by omega) (by assumption) ?_ | refine w_gI (by omega) (by assumption) ?_ | refine w_gR (by omega) (by assumption) (by assumption) ?_ | refine w_al (by omega) (by assumption) (by assumption) ?_ | refine w_pI (by omega) (by assumption) ?_ | refine w_set (by omega) (by assumption) (by omega) (by omega) ?_ | refine w_at (by omega) (by assumption) (by omega) (by omega) ?_ | refine w_sI (by omega) (by assumption) (by omega) (by omega) ?_ | refine w_aI (by omega) (by assumption) (by omega) (by omega) ?_ | refine w_sZ (by omega) (by assumption) (by omega) (by omega) (by decide) ?_ | refine w_pZ (by omega) (by assumption) (by decide) ?_ | refine w_dv (by omega) (by omega) (by omega) (by omega) ?_ | refine w_rm (by omega) (by omega) (by omega) (by omega) ?_) | ((with_reducible refine w_pos ?_ ?_); focus (first | assumption | trivial | exact (ile (by omega) (by omega) (by omega) (by omega)).2 (by omega) | exact (ilt (by omega) (by omega) (by omega) (by omega)).2 (by omega) | exact (ieq (by omega) (by omega) (by omega) (by omega)).2 (by omega))) | ((with_reducible refine w_neg ?_ ?_); focus (first | assumption | exact not_false | trivial | exact mt (ile (by omega) (by omega) (by omega) (by omega)).1 (by omega) | exact mt (ilt (by omega) (by omega) (by omega) (by omega)).1 (by omega) | exact mt (ieq (by omega) (by omega) (by omega) (by omega)).1 (by omega)))); skip)
      rw [show (j : Int) + 1 = ((j + 1 : Nat) : Int) by omega]
      exact ih _ ⟨by omega, I2, R2, σ2, _, rfl, h1, wr_do hw1, hF.t h2, hRF.t h3, by rw [hr, show m - (j + 1) = d by omega]⟩
    · rw [if_neg hz] at hr ⊢
      repeat ((first | (with_reducible first | refine w_ltA ?_ | refine w_ltS ?_ | refine w_ltM ?_ | refine w_ltN ?_ | refine w_lt ?_ | refine w_jn ?_ | refine w_ck (by omega) (by assumption) ?_ | refine w_gI (by omega) (by assumption) ?_ | refine w_gR (by omega) (by assumption) (by assumption) ?_ | refine w_al (by omega) (by assumption) (by assumption) ?_ | refine w_pI (by omega) (by assumption) ?_ | refine w_set (by omega) (by assumption) (by omega) (by omega) ?_ | refine w_at (by omega) (by assumption) (by omega) (by omega) ?_ | refine w_sI (by omega) (by assumption) (by omega) (by omega) ?_ | refine w_aI (by omega) (by assumption) (by omega) (by omega) ?_ | refine w_sZ (by omega) (by assumption) (by omega) (by omega) (by decide) ?_ | refine w_pZ (by omega) (by assumption) (by decide) ?_ | refine w_dv (by omega) (by omega) (by omega) (by omega) ?_ | refine w_rm (by omega) (by omega) (by omega) (by omega) ?_) | ((with_reducible refine w_pos ?_ ?_); focus (first | assumption | trivial | exact (ile (by omega) (by omega) (by omega) (by omega)).2 (by omega) | exact (ilt (by omega) (by omega) (by omega) (by omega)).2 (by omega) | exact (ieq (by omega) (by omega) (by omega) (by omega)).2 (by omega))) | ((with_reducible refine w_neg ?_ ?_); focus (first | assumption | exact not_false | trivial | exact mt (ile (by omega) (by omega) (by omega) (by omega)).1 (by omega) | exact mt (ilt (by omega) (by omega) (by omega) (by omega)).1 (by omega) | exact mt (ieq (by omega) (by omega) (by omega) (by omega)).1 (by omega)))); skip)
      exact hj3 _ ⟨I2, R2, σ2, rfl, by rw [hr]; exact h1, hF.t h2, hRF.t h3, by rw [hr]⟩
  · rw [show m - j = 0 by omega] at hr
    repeat ((first | (with_reducible first | refine w_ltA ?_ | refine w_ltS ?_ | refine w_ltM ?_ | refine w_ltN ?_ | refine w_lt ?_ | refine w_jn ?_ | refine w_ck (by omega) (by assumption) ?_ | refine w_gI (by omega) (by assumption) ?_ | refine w_gR (by omega) (by assumption) (by assumption) ?_ | refine w_al (by omega) (by assumption) (by assumption) ?_ | refine w_pI (by omega) (by assumption) ?_ | refine w_set (by omega) (by assumption) (by omega) (by omega) ?_ | refine w_at (by omega) (by assumption) (by omega) (by omega) ?_ | refine w_sI (by omega) (by assumption) (by omega) (by omega) ?_ | refine w_aI (by omega) (by assumption) (by omega) (by omega) ?_ | refine w_sZ (by omega) (by assumption) (by omega) (by omega) (by decide) ?_ | refine w_pZ (by omega) (by assumption) (by decide) ?_ | refine w_dv (by omega) (by omega) (by omega) (by omega) ?_ | refine w_rm (by omega) (by omega) (by omega) (by omega) ?_) | ((with_reducible refine w_pos ?_ ?_); focus (first | assumption | trivial | exact (ile (by omega) (by omega) (by omega) (by omega)).2 (by omega) | exact (ilt (by omega) (by omega) (by omega) (by omega)).2 (by omega) | exact (ieq (by omega) (by omega) (by omega) (by omega)).2 (by omega))) | ((with_reducible refine w_neg ?_ ?_); focus (first | assumption | exact not_false | trivial | exact mt (ile (by omega) (by omega) (by omega) (by omega)).1 (by omega) | exact mt (ilt (by omega) (by omega) (by omega) (by omega)).1 (by omega) | exact mt (ieq (by omega) (by omega) (by omega) (by omega)).1 (by omega)))); skip)
    exact hj3 _ ⟨I1, R1, σ1, rfl, by rw [hr]; exact hc1, hF, hRF, by rw [hr]; rfl⟩
theorem isDone_Q (hR : RQ R) (hM : MTo I0 I π V) (hw : WR V) (hok : lnOk 4 13 (v, a, b)) : En (fun y => y.1 = (if (doV V (v, a, b)).1 then iI 1 else iI 0) ∧ ∃ I' π', y.2 = (381, I', J, R) ∧ MTo I0 I' π' (doV V (v, a, b)).2) (f_X9_isDone (381, I, J, R) 373 (Wd v) (iI a) (iI b)) := by
  have k374 := kd_374
  obtain ⟨o1, o2, o3, o4⟩ := hok
  have hil := inn_le hw
  have o1 : 4 ≤ v := o1
  have o2 : v ≤ 13 := o2
  have o3 : 1 ≤ nOf v → canB v 0 a := o3
  have o4 : 2 ≤ nOf v → canB v 1 b := o4
  have hcv := fun v' h => wd_cmp v (by omega) v' h
  rcases (show v = 4 ∨ v = 5 ∨ v = 6 ∨ v = 7 ∨ v = 8 ∨ v = 9 ∨ v = 10 ∨ v = 11 ∨ v = 12 ∨ v = 13 by omega) with rfl | rfl | rfl | rfl | rfl | rfl | rfl | rfl | rfl | rfl
  · have c0 : 1 ≤ a ∧ a ≤ 5000 := o3 (by decide)
    have d4 : lg_cmp (Wd 4) 1953063787 = iI 0 := (hcv 4 (by omega)).2 rfl
    have d5 : ¬ lg_cmp (Wd 4) 1952541541 = iI 0 := mt (hcv 5 (by omega)).1 (by omega)
    have d6 : ¬ lg_cmp (Wd 4) 7370100 = iI 0 := mt (hcv 6 (by omega)).1 (by omega)
    have d7 : ¬ lg_cmp (Wd 4) 6647396 = iI 0 := mt (hcv 7 (by omega)).1 (by omega)
    have d8 : ¬ lg_cmp (Wd 4) 1685221232 = iI 0 := mt (hcv 8 (by omega)).1 (by omega)
    have d9 : ¬ lg_cmp (Wd 4) 1937203568 = iI 0 := mt (hcv 9 (by omega)).1 (by omega)
    have d10 : ¬ lg_cmp (Wd 4) 439956431717 = iI 0 := mt (hcv 10 (by omega)).1 (by omega)
    have d11 : ¬ lg_cmp (Wd 4) 1919246692 = iI 0 := mt (hcv 11 (by omega)).1 (by omega)
    have d12 : ¬ lg_cmp (Wd 4) 1835103083 = iI 0 := mt (hcv 12 (by omega)).1 (by omega)
    have d13 : ¬ lg_cmp (Wd 4) 125780053555813 = iI 0 := mt (hcv 13 (by omega)).1 (by omega)
    rw [u_X9_isDone]
    repeat ((first | (with_reducible first | refine w_ltA ?_ | refine w_ltS ?_ | refine w_ltM ?_ | refine w_ltN ?_ | refine w_lt ?_ | refine w_jn ?_ | refine w_ck (by omega) (by assumption) ?_ | refine w_gI (by omega) (by assumption) ?_ | refine w_gR (by omega) (by assumption) (by assumption) ?_ | refine w_al (by omega) (by assumption) (by assumption) ?_ | refine w_pI (by omega) (by assumption) ?_ | refine w_set (by omega) (by assumption) (by omega) (by omega) ?_ | refine w_at (by omega) (by assumption) (by omega) (by omega) ?_ | refine w_sI (by omega) (by assumption) (by omega) (by omega) ?_ | refine w_aI (by omega) (by assumption) (by omega) (by omega) ?_ | refine w_sZ (by omega) (by assumption) (by omega) (by omega) (by decide) ?_ | refine w_pZ (by omega) (by assumption) (by decide) ?_ | refine w_dv (by omega) (by omega) (by omega) (by omega) ?_ | refine w_rm (by omega) (by omega) (by omega) (by omega) ?_) | ((with_reducible refine w_pos ?_ ?_); focus (first | assumption | trivial | exact (ile (by omega) (by omega) (by omega) (by omega)).2 (by omega) | exact (ilt (by omega) (by omega) (by omega) (by omega)).2 (by omega) | exact (ieq (by omega) (by omega) (by omega) (by omega)).2 (by omega))) | ((with_reducible refine w_neg ?_ ?_); focus (first | assumption | exact not_false | trivial | exact mt (ile (by omega) (by omega) (by omega) (by omega)).1 (by omega) | exact mt (ilt (by omega) (by omega) (by omega) (by omega)).1 (by omega) | exact mt (ieq (by omega) (by omega) (by omega) (by omega)).1 (by omega)))); skip)
    refine w_cI (ticked_Q (J := J) hR hM hw (by omega)) ?_
    rintro y S ⟨hy, I', rfl, g1⟩
    have hy : y = iI (goV V a).1 := hy
    subst hy
    show En (fun (y : Int32 × St) => y.1 = (if dbl (iI (goV V a).1) (-1) = true then iI 1 else iI 0) ∧ ∃ I' π', y.2 = (381, I', J, R) ∧ MTo I0 I' π' (goV V a).2) _
    by_cases hz : iI (goV V a).1 = iI (-1)
    · repeat ((first | (with_reducible first | refine w_ltA ?_ | refine w_ltS ?_ | refine w_ltM ?_ | refine w_ltN ?_ | refine w_lt ?_ | refine w_jn ?_ | refine w_ck (by omega) (by assumption) ?_ | refine w_gI (by omega) (by assumption) ?_ | refine w_gR (by omega) (by assumption) (by assumption) ?_ | refine w_al (by omega) (by assumption) (by assumption) ?_ | refine w_pI (by omega) (by assumption) ?_ | refine w_set (by omega) (by assumption) (by omega) (by omega) ?_ | refine w_at (by omega) (by assumption) (by omega) (by omega) ?_ | refine w_sI (by omega) (by assumption) (by omega) (by omega) ?_ | refine w_aI (by omega) (by assumption) (by omega) (by omega) ?_ | refine w_sZ (by omega) (by assumption) (by omega) (by omega) (by decide) ?_ | refine w_pZ (by omega) (by assumption) (by decide) ?_ | refine w_dv (by omega) (by omega) (by omega) (by omega) ?_ | refine w_rm (by omega) (by omega) (by omega) (by omega) ?_) | ((with_reducible refine w_pos ?_ ?_); focus (first | assumption | trivial | exact (ile (by omega) (by omega) (by omega) (by omega)).2 (by omega) | exact (ilt (by omega) (by omega) (by omega) (by omega)).2 (by omega) | exact (ieq (by omega) (by omega) (by omega) (by omega)).2 (by omega))) | ((with_reducible refine w_neg ?_ ?_); focus (first | assumption | exact not_false | trivial | exact mt (ile (by omega) (by omega) (by omega) (by omega)).1 (by omega) | exact mt (ilt (by omega) (by omega) (by omega) (by omega)).1 (by omega) | exact mt (ieq (by omega) (by omega) (by omega) (by omega)).1 (by omega)))); skip)
      exact w_rz0 ⟨by rw [dbl_f hz]; rfl, I', π, rfl, g1⟩
    · repeat ((first | (with_reducible first | refine w_ltA ?_ | refine w_ltS ?_ | refine w_ltM ?_ | refine w_ltN ?_ | refine w_lt ?_ | refine w_jn ?_ | refine w_ck (by omega) (by assumption) ?_ | refine w_gI (by omega) (by assumption) ?_ | refine w_gR (by omega) (by assumption) (by assumption) ?_ | refine w_al (by omega) (by assumption) (by assumption) ?_ | refine w_pI (by omega) (by assumption) ?_ | refine w_set (by omega) (by assumption) (by omega) (by omega) ?_ | refine w_at (by omega) (by assumption) (by omega) (by omega) ?_ | refine w_sI (by omega) (by assumption) (by omega) (by omega) ?_ | refine w_aI (by omega) (by assumption) (by omega) (by omega) ?_ | refine w_sZ (by omega) (by assumption) (by omega) (by omega) (by decide) ?_ | refine w_pZ (by omega) (by assumption) (by decide) ?_ | refine w_dv (by omega) (by omega) (by omega) (by omega) ?_ | refine w_rm (by omega) (by omega) (by omega) (by omega) ?_) | ((with_reducible refine w_pos ?_ ?_); focus (first | assumption | trivial | exact (ile (by omega) (by omega) (by omega) (by omega)).2 (by omega) | exact (ilt (by omega) (by omega) (by omega) (by omega)).2 (by omega) | exact (ieq (by omega) (by omega) (by omega) (by omega)).2 (by omega))) | ((with_reducible refine w_neg ?_ ?_); focus (first | assumption | exact not_false | trivial | exact mt (ile (by omega) (by omega) (by omega) (by omega)).1 (by omega) | exact mt (ilt (by omega) (by omega) (by omega) (by omega)).1 (by omega) | exact mt (ieq (by omega) (by omega) (by omega) (by omega)).1 (by omega)))); skip)
      exact w_rz1 ⟨by rw [dbl_t hz]; rfl, I', π, rfl, g1⟩
  · have c0 : 0 ≤ a ∧ a ≤ 3 := o3 (by decide)
    have c1 : 1 ≤ b ∧ b ≤ 8 := o4 (by decide)
    have d4 : ¬ lg_cmp (Wd 5) 1953063787 = iI 0 := mt (hcv 4 (by omega)).1 (by omega)
    have d5 : lg_cmp (Wd 5) 1952541541 = iI 0 := (hcv 5 (by omega)).2 rfl
    have d6 : ¬ lg_cmp (Wd 5) 7370100 = iI 0 := mt (hcv 6 (by omega)).1 (by omega)
    have d7 : ¬ lg_cmp (Wd 5) 6647396 = iI 0 := mt (hcv 7 (by omega)).1 (by omega)
    have d8 : ¬ lg_cmp (Wd 5) 1685221232 = iI 0 := mt (hcv 8 (by omega)).1 (by omega)
    have d9 : ¬ lg_cmp (Wd 5) 1937203568 = iI 0 := mt (hcv 9 (by omega)).1 (by omega)
    have d10 : ¬ lg_cmp (Wd 5) 439956431717 = iI 0 := mt (hcv 10 (by omega)).1 (by omega)
    have d11 : ¬ lg_cmp (Wd 5) 1919246692 = iI 0 := mt (hcv 11 (by omega)).1 (by omega)
    have d12 : ¬ lg_cmp (Wd 5) 1835103083 = iI 0 := mt (hcv 12 (by omega)).1 (by omega)
    have d13 : ¬ lg_cmp (Wd 5) 125780053555813 = iI 0 := mt (hcv 13 (by omega)).1 (by omega)
    rw [u_X9_isDone]
    repeat ((first | (with_reducible first | refine w_ltA ?_ | refine w_ltS ?_ | refine w_ltM ?_ | refine w_ltN ?_ | refine w_lt ?_ | refine w_jn ?_ | refine w_ck (by omega) (by assumption) ?_ | refine w_gI (by omega) (by assumption) ?_ | refine w_gR (by omega) (by assumption) (by assumption) ?_ | refine w_al (by omega) (by assumption) (by assumption) ?_ | refine w_pI (by omega) (by assumption) ?_ | refine w_set (by omega) (by assumption) (by omega) (by omega) ?_ | refine w_at (by omega) (by assumption) (by omega) (by omega) ?_ | refine w_sI (by omega) (by assumption) (by omega) (by omega) ?_ | refine w_aI (by omega) (by assumption) (by omega) (by omega) ?_ | refine w_sZ (by omega) (by assumption) (by omega) (by omega) (by decide) ?_ | refine w_pZ (by omega) (by assumption) (by decide) ?_ | refine w_dv (by omega) (by omega) (by omega) (by omega) ?_ | refine w_rm (by omega) (by omega) (by omega) (by omega) ?_) | ((with_reducible refine w_pos ?_ ?_); focus (first | assumption | trivial | exact (ile (by omega) (by omega) (by omega) (by omega)).2 (by omega) | exact (ilt (by omega) (by omega) (by omega) (by omega)).2 (by omega) | exact (ieq (by omega) (by omega) (by omega) (by omega)).2 (by omega))) | ((with_reducible refine w_neg ?_ ?_); focus (first | assumption | exact not_false | trivial | exact mt (ile (by omega) (by omega) (by omega) (by omega)).1 (by omega) | exact mt (ilt (by omega) (by omega) (by omega) (by omega)).1 (by omega) | exact mt (ieq (by omega) (by omega) (by omega) (by omega)).1 (by omega)))); skip)
    refine w_cI (taken_Q (J := J) hR hM hw (by omega) (by omega)) ?_
    rintro y S ⟨hy, I', rfl, g1⟩
    have hy : y = iI (takV V a b).1 := hy
    subst hy
    show En (fun (y : Int32 × St) => y.1 = (if dbl (iI (takV V a b).1) (-2) = true then iI 1 else iI 0) ∧ ∃ I' π', y.2 = (381, I', J, R) ∧ MTo I0 I' π' (takV V a b).2) _
    by_cases hz : iI (takV V a b).1 = iI (-2)
    · repeat ((first | (with_reducible first | refine w_ltA ?_ | refine w_ltS ?_ | refine w_ltM ?_ | refine w_ltN ?_ | refine w_lt ?_ | refine w_jn ?_ | refine w_ck (by omega) (by assumption) ?_ | refine w_gI (by omega) (by assumption) ?_ | refine w_gR (by omega) (by assumption) (by assumption) ?_ | refine w_al (by omega) (by assumption) (by assumption) ?_ | refine w_pI (by omega) (by assumption) ?_ | refine w_set (by omega) (by assumption) (by omega) (by omega) ?_ | refine w_at (by omega) (by assumption) (by omega) (by omega) ?_ | refine w_sI (by omega) (by assumption) (by omega) (by omega) ?_ | refine w_aI (by omega) (by assumption) (by omega) (by omega) ?_ | refine w_sZ (by omega) (by assumption) (by omega) (by omega) (by decide) ?_ | refine w_pZ (by omega) (by assumption) (by decide) ?_ | refine w_dv (by omega) (by omega) (by omega) (by omega) ?_ | refine w_rm (by omega) (by omega) (by omega) (by omega) ?_) | ((with_reducible refine w_pos ?_ ?_); focus (first | assumption | trivial | exact (ile (by omega) (by omega) (by omega) (by omega)).2 (by omega) | exact (ilt (by omega) (by omega) (by omega) (by omega)).2 (by omega) | exact (ieq (by omega) (by omega) (by omega) (by omega)).2 (by omega))) | ((with_reducible refine w_neg ?_ ?_); focus (first | assumption | exact not_false | trivial | exact mt (ile (by omega) (by omega) (by omega) (by omega)).1 (by omega) | exact mt (ilt (by omega) (by omega) (by omega) (by omega)).1 (by omega) | exact mt (ieq (by omega) (by omega) (by omega) (by omega)).1 (by omega)))); skip)
      exact w_rz0 ⟨by rw [dbl_f hz]; rfl, I', π, rfl, g1⟩
    · repeat ((first | (with_reducible first | refine w_ltA ?_ | refine w_ltS ?_ | refine w_ltM ?_ | refine w_ltN ?_ | refine w_lt ?_ | refine w_jn ?_ | refine w_ck (by omega) (by assumption) ?_ | refine w_gI (by omega) (by assumption) ?_ | refine w_gR (by omega) (by assumption) (by assumption) ?_ | refine w_al (by omega) (by assumption) (by assumption) ?_ | refine w_pI (by omega) (by assumption) ?_ | refine w_set (by omega) (by assumption) (by omega) (by omega) ?_ | refine w_at (by omega) (by assumption) (by omega) (by omega) ?_ | refine w_sI (by omega) (by assumption) (by omega) (by omega) ?_ | refine w_aI (by omega) (by assumption) (by omega) (by omega) ?_ | refine w_sZ (by omega) (by assumption) (by omega) (by omega) (by decide) ?_ | refine w_pZ (by omega) (by assumption) (by decide) ?_ | refine w_dv (by omega) (by omega) (by omega) (by omega) ?_ | refine w_rm (by omega) (by omega) (by omega) (by omega) ?_) | ((with_reducible refine w_pos ?_ ?_); focus (first | assumption | trivial | exact (ile (by omega) (by omega) (by omega) (by omega)).2 (by omega) | exact (ilt (by omega) (by omega) (by omega) (by omega)).2 (by omega) | exact (ieq (by omega) (by omega) (by omega) (by omega)).2 (by omega))) | ((with_reducible refine w_neg ?_ ?_); focus (first | assumption | exact not_false | trivial | exact mt (ile (by omega) (by omega) (by omega) (by omega)).1 (by omega) | exact mt (ilt (by omega) (by omega) (by omega) (by omega)).1 (by omega) | exact mt (ieq (by omega) (by omega) (by omega) (by omega)).1 (by omega)))); skip)
      exact w_rz1 ⟨by rw [dbl_t hz]; rfl, I', π, rfl, g1⟩
  · have c0 : 0 ≤ a ∧ a ≤ 3 := o3 (by decide)
    have c1 : 0 ≤ b ∧ b ≤ 255 := o4 (by decide)
    have d4 : ¬ lg_cmp (Wd 6) 1953063787 = iI 0 := mt (hcv 4 (by omega)).1 (by omega)
    have d5 : ¬ lg_cmp (Wd 6) 1952541541 = iI 0 := mt (hcv 5 (by omega)).1 (by omega)
    have d6 : lg_cmp (Wd 6) 7370100 = iI 0 := (hcv 6 (by omega)).2 rfl
    have d7 : ¬ lg_cmp (Wd 6) 6647396 = iI 0 := mt (hcv 7 (by omega)).1 (by omega)
    have d8 : ¬ lg_cmp (Wd 6) 1685221232 = iI 0 := mt (hcv 8 (by omega)).1 (by omega)
    have d9 : ¬ lg_cmp (Wd 6) 1937203568 = iI 0 := mt (hcv 9 (by omega)).1 (by omega)
    have d10 : ¬ lg_cmp (Wd 6) 439956431717 = iI 0 := mt (hcv 10 (by omega)).1 (by omega)
    have d11 : ¬ lg_cmp (Wd 6) 1919246692 = iI 0 := mt (hcv 11 (by omega)).1 (by omega)
    have d12 : ¬ lg_cmp (Wd 6) 1835103083 = iI 0 := mt (hcv 12 (by omega)).1 (by omega)
    have d13 : ¬ lg_cmp (Wd 6) 125780053555813 = iI 0 := mt (hcv 13 (by omega)).1 (by omega)
    rw [u_X9_isDone]
    repeat ((first | (with_reducible first | refine w_ltA ?_ | refine w_ltS ?_ | refine w_ltM ?_ | refine w_ltN ?_ | refine w_lt ?_ | refine w_jn ?_ | refine w_ck (by omega) (by assumption) ?_ | refine w_gI (by omega) (by assumption) ?_ | refine w_gR (by omega) (by assumption) (by assumption) ?_ | refine w_al (by omega) (by assumption) (by assumption) ?_ | refine w_pI (by omega) (by assumption) ?_ | refine w_set (by omega) (by assumption) (by omega) (by omega) ?_ | refine w_at (by omega) (by assumption) (by omega) (by omega) ?_ | refine w_sI (by omega) (by assumption) (by omega) (by omega) ?_ | refine w_aI (by omega) (by assumption) (by omega) (by omega) ?_ | refine w_sZ (by omega) (by assumption) (by omega) (by omega) (by decide) ?_ | refine w_pZ (by omega) (by assumption) (by decide) ?_ | refine w_dv (by omega) (by omega) (by omega) (by omega) ?_ | refine w_rm (by omega) (by omega) (by omega) (by omega) ?_) | ((with_reducible refine w_pos ?_ ?_); focus (first | assumption | trivial | exact (ile (by omega) (by omega) (by omega) (by omega)).2 (by omega) | exact (ilt (by omega) (by omega) (by omega) (by omega)).2 (by omega) | exact (ieq (by omega) (by omega) (by omega) (by omega)).2 (by omega))) | ((with_reducible refine w_neg ?_ ?_); focus (first | assumption | exact not_false | trivial | exact mt (ile (by omega) (by omega) (by omega) (by omega)).1 (by omega) | exact mt (ilt (by omega) (by omega) (by omega) (by omega)).1 (by omega) | exact mt (ieq (by omega) (by omega) (by omega) (by omega)).1 (by omega)))); skip)
    refine w_cI (puts_Q (J := J) hR hM hw (by omega) (by omega) (by omega)) ?_
    rintro y S ⟨hy, I', rfl, g1⟩
    have hy : y = iI (putV V a b).1 := hy
    subst hy
    show En (fun (y : Int32 × St) => y.1 = (if dbl (iI (putV V a b).1) (-1) = true then iI 1 else iI 0) ∧ ∃ I' π', y.2 = (381, I', J, R) ∧ MTo I0 I' π' (putV V a b).2) _
    by_cases hz : iI (putV V a b).1 = iI (-1)
    · repeat ((first | (with_reducible first | refine w_ltA ?_ | refine w_ltS ?_ | refine w_ltM ?_ | refine w_ltN ?_ | refine w_lt ?_ | refine w_jn ?_ | refine w_ck (by omega) (by assumption) ?_ | refine w_gI (by omega) (by assumption) ?_ | refine w_gR (by omega) (by assumption) (by assumption) ?_ | refine w_al (by omega) (by assumption) (by assumption) ?_ | refine w_pI (by omega) (by assumption) ?_ | refine w_set (by omega) (by assumption) (by omega) (by omega) ?_ | refine w_at (by omega) (by assumption) (by omega) (by omega) ?_ | refine w_sI (by omega) (by assumption) (by omega) (by omega) ?_ | refine w_aI (by omega) (by assumption) (by omega) (by omega) ?_ | refine w_sZ (by omega) (by assumption) (by omega) (by omega) (by decide) ?_ | refine w_pZ (by omega) (by assumption) (by decide) ?_ | refine w_dv (by omega) (by omega) (by omega) (by omega) ?_ | refine w_rm (by omega) (by omega) (by omega) (by omega) ?_) | ((with_reducible refine w_pos ?_ ?_); focus (first | assumption | trivial | exact (ile (by omega) (by omega) (by omega) (by omega)).2 (by omega) | exact (ilt (by omega) (by omega) (by omega) (by omega)).2 (by omega) | exact (ieq (by omega) (by omega) (by omega) (by omega)).2 (by omega))) | ((with_reducible refine w_neg ?_ ?_); focus (first | assumption | exact not_false | trivial | exact mt (ile (by omega) (by omega) (by omega) (by omega)).1 (by omega) | exact mt (ilt (by omega) (by omega) (by omega) (by omega)).1 (by omega) | exact mt (ieq (by omega) (by omega) (by omega) (by omega)).1 (by omega)))); skip)
      exact w_rz0 ⟨by rw [dbl_f hz]; rfl, I', π, rfl, g1⟩
    · repeat ((first | (with_reducible first | refine w_ltA ?_ | refine w_ltS ?_ | refine w_ltM ?_ | refine w_ltN ?_ | refine w_lt ?_ | refine w_jn ?_ | refine w_ck (by omega) (by assumption) ?_ | refine w_gI (by omega) (by assumption) ?_ | refine w_gR (by omega) (by assumption) (by assumption) ?_ | refine w_al (by omega) (by assumption) (by assumption) ?_ | refine w_pI (by omega) (by assumption) ?_ | refine w_set (by omega) (by assumption) (by omega) (by omega) ?_ | refine w_at (by omega) (by assumption) (by omega) (by omega) ?_ | refine w_sI (by omega) (by assumption) (by omega) (by omega) ?_ | refine w_aI (by omega) (by assumption) (by omega) (by omega) ?_ | refine w_sZ (by omega) (by assumption) (by omega) (by omega) (by decide) ?_ | refine w_pZ (by omega) (by assumption) (by decide) ?_ | refine w_dv (by omega) (by omega) (by omega) (by omega) ?_ | refine w_rm (by omega) (by omega) (by omega) (by omega) ?_) | ((with_reducible refine w_pos ?_ ?_); focus (first | assumption | trivial | exact (ile (by omega) (by omega) (by omega) (by omega)).2 (by omega) | exact (ilt (by omega) (by omega) (by omega) (by omega)).2 (by omega) | exact (ieq (by omega) (by omega) (by omega) (by omega)).2 (by omega))) | ((with_reducible refine w_neg ?_ ?_); focus (first | assumption | exact not_false | trivial | exact mt (ile (by omega) (by omega) (by omega) (by omega)).1 (by omega) | exact mt (ilt (by omega) (by omega) (by omega) (by omega)).1 (by omega) | exact mt (ieq (by omega) (by omega) (by omega) (by omega)).1 (by omega)))); skip)
      exact w_rz1 ⟨by rw [dbl_t hz]; rfl, I', π, rfl, g1⟩
  · have c0 : 0 ≤ a ∧ a ≤ 3 := o3 (by decide)
    have d4 : ¬ lg_cmp (Wd 7) 1953063787 = iI 0 := mt (hcv 4 (by omega)).1 (by omega)
    have d5 : ¬ lg_cmp (Wd 7) 1952541541 = iI 0 := mt (hcv 5 (by omega)).1 (by omega)
    have d6 : ¬ lg_cmp (Wd 7) 7370100 = iI 0 := mt (hcv 6 (by omega)).1 (by omega)
    have d7 : lg_cmp (Wd 7) 6647396 = iI 0 := (hcv 7 (by omega)).2 rfl
    have d8 : ¬ lg_cmp (Wd 7) 1685221232 = iI 0 := mt (hcv 8 (by omega)).1 (by omega)
    have d9 : ¬ lg_cmp (Wd 7) 1937203568 = iI 0 := mt (hcv 9 (by omega)).1 (by omega)
    have d10 : ¬ lg_cmp (Wd 7) 439956431717 = iI 0 := mt (hcv 10 (by omega)).1 (by omega)
    have d11 : ¬ lg_cmp (Wd 7) 1919246692 = iI 0 := mt (hcv 11 (by omega)).1 (by omega)
    have d12 : ¬ lg_cmp (Wd 7) 1835103083 = iI 0 := mt (hcv 12 (by omega)).1 (by omega)
    have d13 : ¬ lg_cmp (Wd 7) 125780053555813 = iI 0 := mt (hcv 13 (by omega)).1 (by omega)
    rw [u_X9_isDone]
    repeat ((first | (with_reducible first | refine w_ltA ?_ | refine w_ltS ?_ | refine w_ltM ?_ | refine w_ltN ?_ | refine w_lt ?_ | refine w_jn ?_ | refine w_ck (by omega) (by assumption) ?_ | refine w_gI (by omega) (by assumption) ?_ | refine w_gR (by omega) (by assumption) (by assumption) ?_ | refine w_al (by omega) (by assumption) (by assumption) ?_ | refine w_pI (by omega) (by assumption) ?_ | refine w_set (by omega) (by assumption) (by omega) (by omega) ?_ | refine w_at (by omega) (by assumption) (by omega) (by omega) ?_ | refine w_sI (by omega) (by assumption) (by omega) (by omega) ?_ | refine w_aI (by omega) (by assumption) (by omega) (by omega) ?_ | refine w_sZ (by omega) (by assumption) (by omega) (by omega) (by decide) ?_ | refine w_pZ (by omega) (by assumption) (by decide) ?_ | refine w_dv (by omega) (by omega) (by omega) (by omega) ?_ | refine w_rm (by omega) (by omega) (by omega) (by omega) ?_) | ((with_reducible refine w_pos ?_ ?_); focus (first | assumption | trivial | exact (ile (by omega) (by omega) (by omega) (by omega)).2 (by omega) | exact (ilt (by omega) (by omega) (by omega) (by omega)).2 (by omega) | exact (ieq (by omega) (by omega) (by omega) (by omega)).2 (by omega))) | ((with_reducible refine w_neg ?_ ?_); focus (first | assumption | exact not_false | trivial | exact mt (ile (by omega) (by omega) (by omega) (by omega)).1 (by omega) | exact mt (ilt (by omega) (by omega) (by omega) (by omega)).1 (by omega) | exact mt (ieq (by omega) (by omega) (by omega) (by omega)).1 (by omega)))); skip)
    refine w_cI (ended_Q (J := J) hR hM hw (by omega) (by omega)) ?_
    rintro y S ⟨hy, I', rfl, g1⟩
    have hy : y = iI (endV V a).1 := hy
    subst hy
    show En (fun (y : Int32 × St) => y.1 = (if dbl (iI (endV V a).1) (-1) = true then iI 1 else iI 0) ∧ ∃ I' π', y.2 = (381, I', J, R) ∧ MTo I0 I' π' (endV V a).2) _
    by_cases hz : iI (endV V a).1 = iI (-1)
    · repeat ((first | (with_reducible first | refine w_ltA ?_ | refine w_ltS ?_ | refine w_ltM ?_ | refine w_ltN ?_ | refine w_lt ?_ | refine w_jn ?_ | refine w_ck (by omega) (by assumption) ?_ | refine w_gI (by omega) (by assumption) ?_ | refine w_gR (by omega) (by assumption) (by assumption) ?_ | refine w_al (by omega) (by assumption) (by assumption) ?_ | refine w_pI (by omega) (by assumption) ?_ | refine w_set (by omega) (by assumption) (by omega) (by omega) ?_ | refine w_at (by omega) (by assumption) (by omega) (by omega) ?_ | refine w_sI (by omega) (by assumption) (by omega) (by omega) ?_ | refine w_aI (by omega) (by assumption) (by omega) (by omega) ?_ | refine w_sZ (by omega) (by assumption) (by omega) (by omega) (by decide) ?_ | refine w_pZ (by omega) (by assumption) (by decide) ?_ | refine w_dv (by omega) (by omega) (by omega) (by omega) ?_ | refine w_rm (by omega) (by omega) (by omega) (by omega) ?_) | ((with_reducible refine w_pos ?_ ?_); focus (first | assumption | trivial | exact (ile (by omega) (by omega) (by omega) (by omega)).2 (by omega) | exact (ilt (by omega) (by omega) (by omega) (by omega)).2 (by omega) | exact (ieq (by omega) (by omega) (by omega) (by omega)).2 (by omega))) | ((with_reducible refine w_neg ?_ ?_); focus (first | assumption | exact not_false | trivial | exact mt (ile (by omega) (by omega) (by omega) (by omega)).1 (by omega) | exact mt (ilt (by omega) (by omega) (by omega) (by omega)).1 (by omega) | exact mt (ieq (by omega) (by omega) (by omega) (by omega)).1 (by omega)))); skip)
      exact w_rz0 ⟨by rw [dbl_f hz]; rfl, I', π, rfl, g1⟩
    · repeat ((first | (with_reducible first | refine w_ltA ?_ | refine w_ltS ?_ | refine w_ltM ?_ | refine w_ltN ?_ | refine w_lt ?_ | refine w_jn ?_ | refine w_ck (by omega) (by assumption) ?_ | refine w_gI (by omega) (by assumption) ?_ | refine w_gR (by omega) (by assumption) (by assumption) ?_ | refine w_al (by omega) (by assumption) (by assumption) ?_ | refine w_pI (by omega) (by assumption) ?_ | refine w_set (by omega) (by assumption) (by omega) (by omega) ?_ | refine w_at (by omega) (by assumption) (by omega) (by omega) ?_ | refine w_sI (by omega) (by assumption) (by omega) (by omega) ?_ | refine w_aI (by omega) (by assumption) (by omega) (by omega) ?_ | refine w_sZ (by omega) (by assumption) (by omega) (by omega) (by decide) ?_ | refine w_pZ (by omega) (by assumption) (by decide) ?_ | refine w_dv (by omega) (by omega) (by omega) (by omega) ?_ | refine w_rm (by omega) (by omega) (by omega) (by omega) ?_) | ((with_reducible refine w_pos ?_ ?_); focus (first | assumption | trivial | exact (ile (by omega) (by omega) (by omega) (by omega)).2 (by omega) | exact (ilt (by omega) (by omega) (by omega) (by omega)).2 (by omega) | exact (ieq (by omega) (by omega) (by omega) (by omega)).2 (by omega))) | ((with_reducible refine w_neg ?_ ?_); focus (first | assumption | exact not_false | trivial | exact mt (ile (by omega) (by omega) (by omega) (by omega)).1 (by omega) | exact mt (ilt (by omega) (by omega) (by omega) (by omega)).1 (by omega) | exact mt (ieq (by omega) (by omega) (by omega) (by omega)).1 (by omega)))); skip)
      exact w_rz1 ⟨by rw [dbl_t hz]; rfl, I', π, rfl, g1⟩
  · have c0 : 0 ≤ a ∧ a ≤ 3 := o3 (by decide)
    have d4 : ¬ lg_cmp (Wd 8) 1953063787 = iI 0 := mt (hcv 4 (by omega)).1 (by omega)
    have d5 : ¬ lg_cmp (Wd 8) 1952541541 = iI 0 := mt (hcv 5 (by omega)).1 (by omega)
    have d6 : ¬ lg_cmp (Wd 8) 7370100 = iI 0 := mt (hcv 6 (by omega)).1 (by omega)
    have d7 : ¬ lg_cmp (Wd 8) 6647396 = iI 0 := mt (hcv 7 (by omega)).1 (by omega)
    have d8 : lg_cmp (Wd 8) 1685221232 = iI 0 := (hcv 8 (by omega)).2 rfl
    have d9 : ¬ lg_cmp (Wd 8) 1937203568 = iI 0 := mt (hcv 9 (by omega)).1 (by omega)
    have d10 : ¬ lg_cmp (Wd 8) 439956431717 = iI 0 := mt (hcv 10 (by omega)).1 (by omega)
    have d11 : ¬ lg_cmp (Wd 8) 1919246692 = iI 0 := mt (hcv 11 (by omega)).1 (by omega)
    have d12 : ¬ lg_cmp (Wd 8) 1835103083 = iI 0 := mt (hcv 12 (by omega)).1 (by omega)
    have d13 : ¬ lg_cmp (Wd 8) 125780053555813 = iI 0 := mt (hcv 13 (by omega)).1 (by omega)
    rw [u_X9_isDone]
    repeat ((first | (with_reducible first | refine w_ltA ?_ | refine w_ltS ?_ | refine w_ltM ?_ | refine w_ltN ?_ | refine w_lt ?_ | refine w_jn ?_ | refine w_ck (by omega) (by assumption) ?_ | refine w_gI (by omega) (by assumption) ?_ | refine w_gR (by omega) (by assumption) (by assumption) ?_ | refine w_al (by omega) (by assumption) (by assumption) ?_ | refine w_pI (by omega) (by assumption) ?_ | refine w_set (by omega) (by assumption) (by omega) (by omega) ?_ | refine w_at (by omega) (by assumption) (by omega) (by omega) ?_ | refine w_sI (by omega) (by assumption) (by omega) (by omega) ?_ | refine w_aI (by omega) (by assumption) (by omega) (by omega) ?_ | refine w_sZ (by omega) (by assumption) (by omega) (by omega) (by decide) ?_ | refine w_pZ (by omega) (by assumption) (by decide) ?_ | refine w_dv (by omega) (by omega) (by omega) (by omega) ?_ | refine w_rm (by omega) (by omega) (by omega) (by omega) ?_) | ((with_reducible refine w_pos ?_ ?_); focus (first | assumption | trivial | exact (ile (by omega) (by omega) (by omega) (by omega)).2 (by omega) | exact (ilt (by omega) (by omega) (by omega) (by omega)).2 (by omega) | exact (ieq (by omega) (by omega) (by omega) (by omega)).2 (by omega))) | ((with_reducible refine w_neg ?_ ?_); focus (first | assumption | exact not_false | trivial | exact mt (ile (by omega) (by omega) (by omega) (by omega)).1 (by omega) | exact mt (ilt (by omega) (by omega) (by omega) (by omega)).1 (by omega) | exact mt (ieq (by omega) (by omega) (by omega) (by omega)).1 (by omega)))); skip)
    refine w_cI (dropped_Q (J := J) hR hM hw (by omega) (by omega)) ?_
    rintro y S ⟨hy, I', rfl, g1⟩
    have hy : y = iI (drpV V a).1 := hy
    subst hy
    show En (fun (y : Int32 × St) => y.1 = (if dbl (iI (drpV V a).1) (-1) = true then iI 1 else iI 0) ∧ ∃ I' π', y.2 = (381, I', J, R) ∧ MTo I0 I' π' (drpV V a).2) _
    by_cases hz : iI (drpV V a).1 = iI (-1)
    · repeat ((first | (with_reducible first | refine w_ltA ?_ | refine w_ltS ?_ | refine w_ltM ?_ | refine w_ltN ?_ | refine w_lt ?_ | refine w_jn ?_ | refine w_ck (by omega) (by assumption) ?_ | refine w_gI (by omega) (by assumption) ?_ | refine w_gR (by omega) (by assumption) (by assumption) ?_ | refine w_al (by omega) (by assumption) (by assumption) ?_ | refine w_pI (by omega) (by assumption) ?_ | refine w_set (by omega) (by assumption) (by omega) (by omega) ?_ | refine w_at (by omega) (by assumption) (by omega) (by omega) ?_ | refine w_sI (by omega) (by assumption) (by omega) (by omega) ?_ | refine w_aI (by omega) (by assumption) (by omega) (by omega) ?_ | refine w_sZ (by omega) (by assumption) (by omega) (by omega) (by decide) ?_ | refine w_pZ (by omega) (by assumption) (by decide) ?_ | refine w_dv (by omega) (by omega) (by omega) (by omega) ?_ | refine w_rm (by omega) (by omega) (by omega) (by omega) ?_) | ((with_reducible refine w_pos ?_ ?_); focus (first | assumption | trivial | exact (ile (by omega) (by omega) (by omega) (by omega)).2 (by omega) | exact (ilt (by omega) (by omega) (by omega) (by omega)).2 (by omega) | exact (ieq (by omega) (by omega) (by omega) (by omega)).2 (by omega))) | ((with_reducible refine w_neg ?_ ?_); focus (first | assumption | exact not_false | trivial | exact mt (ile (by omega) (by omega) (by omega) (by omega)).1 (by omega) | exact mt (ilt (by omega) (by omega) (by omega) (by omega)).1 (by omega) | exact mt (ieq (by omega) (by omega) (by omega) (by omega)).1 (by omega)))); skip)
      exact w_rz0 ⟨by rw [dbl_f hz]; rfl, I', π, rfl, g1⟩
    · repeat ((first | (with_reducible first | refine w_ltA ?_ | refine w_ltS ?_ | refine w_ltM ?_ | refine w_ltN ?_ | refine w_lt ?_ | refine w_jn ?_ | refine w_ck (by omega) (by assumption) ?_ | refine w_gI (by omega) (by assumption) ?_ | refine w_gR (by omega) (by assumption) (by assumption) ?_ | refine w_al (by omega) (by assumption) (by assumption) ?_ | refine w_pI (by omega) (by assumption) ?_ | refine w_set (by omega) (by assumption) (by omega) (by omega) ?_ | refine w_at (by omega) (by assumption) (by omega) (by omega) ?_ | refine w_sI (by omega) (by assumption) (by omega) (by omega) ?_ | refine w_aI (by omega) (by assumption) (by omega) (by omega) ?_ | refine w_sZ (by omega) (by assumption) (by omega) (by omega) (by decide) ?_ | refine w_pZ (by omega) (by assumption) (by decide) ?_ | refine w_dv (by omega) (by omega) (by omega) (by omega) ?_ | refine w_rm (by omega) (by omega) (by omega) (by omega) ?_) | ((with_reducible refine w_pos ?_ ?_); focus (first | assumption | trivial | exact (ile (by omega) (by omega) (by omega) (by omega)).2 (by omega) | exact (ilt (by omega) (by omega) (by omega) (by omega)).2 (by omega) | exact (ieq (by omega) (by omega) (by omega) (by omega)).2 (by omega))) | ((with_reducible refine w_neg ?_ ?_); focus (first | assumption | exact not_false | trivial | exact mt (ile (by omega) (by omega) (by omega) (by omega)).1 (by omega) | exact mt (ilt (by omega) (by omega) (by omega) (by omega)).1 (by omega) | exact mt (ieq (by omega) (by omega) (by omega) (by omega)).1 (by omega)))); skip)
      exact w_rz1 ⟨by rw [dbl_t hz]; rfl, I', π, rfl, g1⟩
  · have d4 : ¬ lg_cmp (Wd 9) 1953063787 = iI 0 := mt (hcv 4 (by omega)).1 (by omega)
    have d5 : ¬ lg_cmp (Wd 9) 1952541541 = iI 0 := mt (hcv 5 (by omega)).1 (by omega)
    have d6 : ¬ lg_cmp (Wd 9) 7370100 = iI 0 := mt (hcv 6 (by omega)).1 (by omega)
    have d7 : ¬ lg_cmp (Wd 9) 6647396 = iI 0 := mt (hcv 7 (by omega)).1 (by omega)
    have d8 : ¬ lg_cmp (Wd 9) 1685221232 = iI 0 := mt (hcv 8 (by omega)).1 (by omega)
    have d9 : lg_cmp (Wd 9) 1937203568 = iI 0 := (hcv 9 (by omega)).2 rfl
    have d10 : ¬ lg_cmp (Wd 9) 439956431717 = iI 0 := mt (hcv 10 (by omega)).1 (by omega)
    have d11 : ¬ lg_cmp (Wd 9) 1919246692 = iI 0 := mt (hcv 11 (by omega)).1 (by omega)
    have d12 : ¬ lg_cmp (Wd 9) 1835103083 = iI 0 := mt (hcv 12 (by omega)).1 (by omega)
    have d13 : ¬ lg_cmp (Wd 9) 125780053555813 = iI 0 := mt (hcv 13 (by omega)).1 (by omega)
    rw [u_X9_isDone]
    repeat ((first | (with_reducible first | refine w_ltA ?_ | refine w_ltS ?_ | refine w_ltM ?_ | refine w_ltN ?_ | refine w_lt ?_ | refine w_jn ?_ | refine w_ck (by omega) (by assumption) ?_ | refine w_gI (by omega) (by assumption) ?_ | refine w_gR (by omega) (by assumption) (by assumption) ?_ | refine w_al (by omega) (by assumption) (by assumption) ?_ | refine w_pI (by omega) (by assumption) ?_ | refine w_set (by omega) (by assumption) (by omega) (by omega) ?_ | refine w_at (by omega) (by assumption) (by omega) (by omega) ?_ | refine w_sI (by omega) (by assumption) (by omega) (by omega) ?_ | refine w_aI (by omega) (by assumption) (by omega) (by omega) ?_ | refine w_sZ (by omega) (by assumption) (by omega) (by omega) (by decide) ?_ | refine w_pZ (by omega) (by assumption) (by decide) ?_ | refine w_dv (by omega) (by omega) (by omega) (by omega) ?_ | refine w_rm (by omega) (by omega) (by omega) (by omega) ?_) | ((with_reducible refine w_pos ?_ ?_); focus (first | assumption | trivial | exact (ile (by omega) (by omega) (by omega) (by omega)).2 (by omega) | exact (ilt (by omega) (by omega) (by omega) (by omega)).2 (by omega) | exact (ieq (by omega) (by omega) (by omega) (by omega)).2 (by omega))) | ((with_reducible refine w_neg ?_ ?_); focus (first | assumption | exact not_false | trivial | exact mt (ile (by omega) (by omega) (by omega) (by omega)).1 (by omega) | exact mt (ilt (by omega) (by omega) (by omega) (by omega)).1 (by omega) | exact mt (ieq (by omega) (by omega) (by omega) (by omega)).1 (by omega)))); skip)
    refine w_cI (swapped_Q (J := J) hR hM hw (Or.inl rfl)) ?_
    rintro y S ⟨hy, I', π', rfl, g1⟩
    have hy : y = iI (swpV V 0).1 := hy
    subst hy
    show En (fun (y : Int32 × St) => y.1 = (if dbl (iI (swpV V 0).1) (-1) = true then iI 1 else iI 0) ∧ ∃ I' π', y.2 = (381, I', J, R) ∧ MTo I0 I' π' (swpV V 0).2) _
    by_cases hz : iI (swpV V 0).1 = iI (-1)
    · repeat ((first | (with_reducible first | refine w_ltA ?_ | refine w_ltS ?_ | refine w_ltM ?_ | refine w_ltN ?_ | refine w_lt ?_ | refine w_jn ?_ | refine w_ck (by omega) (by assumption) ?_ | refine w_gI (by omega) (by assumption) ?_ | refine w_gR (by omega) (by assumption) (by assumption) ?_ | refine w_al (by omega) (by assumption) (by assumption) ?_ | refine w_pI (by omega) (by assumption) ?_ | refine w_set (by omega) (by assumption) (by omega) (by omega) ?_ | refine w_at (by omega) (by assumption) (by omega) (by omega) ?_ | refine w_sI (by omega) (by assumption) (by omega) (by omega) ?_ | refine w_aI (by omega) (by assumption) (by omega) (by omega) ?_ | refine w_sZ (by omega) (by assumption) (by omega) (by omega) (by decide) ?_ | refine w_pZ (by omega) (by assumption) (by decide) ?_ | refine w_dv (by omega) (by omega) (by omega) (by omega) ?_ | refine w_rm (by omega) (by omega) (by omega) (by omega) ?_) | ((with_reducible refine w_pos ?_ ?_); focus (first | assumption | trivial | exact (ile (by omega) (by omega) (by omega) (by omega)).2 (by omega) | exact (ilt (by omega) (by omega) (by omega) (by omega)).2 (by omega) | exact (ieq (by omega) (by omega) (by omega) (by omega)).2 (by omega))) | ((with_reducible refine w_neg ?_ ?_); focus (first | assumption | exact not_false | trivial | exact mt (ile (by omega) (by omega) (by omega) (by omega)).1 (by omega) | exact mt (ilt (by omega) (by omega) (by omega) (by omega)).1 (by omega) | exact mt (ieq (by omega) (by omega) (by omega) (by omega)).1 (by omega)))); skip)
      exact w_rz0 ⟨by rw [dbl_f hz]; rfl, I', π', rfl, g1⟩
    · repeat ((first | (with_reducible first | refine w_ltA ?_ | refine w_ltS ?_ | refine w_ltM ?_ | refine w_ltN ?_ | refine w_lt ?_ | refine w_jn ?_ | refine w_ck (by omega) (by assumption) ?_ | refine w_gI (by omega) (by assumption) ?_ | refine w_gR (by omega) (by assumption) (by assumption) ?_ | refine w_al (by omega) (by assumption) (by assumption) ?_ | refine w_pI (by omega) (by assumption) ?_ | refine w_set (by omega) (by assumption) (by omega) (by omega) ?_ | refine w_at (by omega) (by assumption) (by omega) (by omega) ?_ | refine w_sI (by omega) (by assumption) (by omega) (by omega) ?_ | refine w_aI (by omega) (by assumption) (by omega) (by omega) ?_ | refine w_sZ (by omega) (by assumption) (by omega) (by omega) (by decide) ?_ | refine w_pZ (by omega) (by assumption) (by decide) ?_ | refine w_dv (by omega) (by omega) (by omega) (by omega) ?_ | refine w_rm (by omega) (by omega) (by omega) (by omega) ?_) | ((with_reducible refine w_pos ?_ ?_); focus (first | assumption | trivial | exact (ile (by omega) (by omega) (by omega) (by omega)).2 (by omega) | exact (ilt (by omega) (by omega) (by omega) (by omega)).2 (by omega) | exact (ieq (by omega) (by omega) (by omega) (by omega)).2 (by omega))) | ((with_reducible refine w_neg ?_ ?_); focus (first | assumption | exact not_false | trivial | exact mt (ile (by omega) (by omega) (by omega) (by omega)).1 (by omega) | exact mt (ilt (by omega) (by omega) (by omega) (by omega)).1 (by omega) | exact mt (ieq (by omega) (by omega) (by omega) (by omega)).1 (by omega)))); skip)
      exact w_rz1 ⟨by rw [dbl_t hz]; rfl, I', π', rfl, g1⟩
  · have d4 : ¬ lg_cmp (Wd 10) 1953063787 = iI 0 := mt (hcv 4 (by omega)).1 (by omega)
    have d5 : ¬ lg_cmp (Wd 10) 1952541541 = iI 0 := mt (hcv 5 (by omega)).1 (by omega)
    have d6 : ¬ lg_cmp (Wd 10) 7370100 = iI 0 := mt (hcv 6 (by omega)).1 (by omega)
    have d7 : ¬ lg_cmp (Wd 10) 6647396 = iI 0 := mt (hcv 7 (by omega)).1 (by omega)
    have d8 : ¬ lg_cmp (Wd 10) 1685221232 = iI 0 := mt (hcv 8 (by omega)).1 (by omega)
    have d9 : ¬ lg_cmp (Wd 10) 1937203568 = iI 0 := mt (hcv 9 (by omega)).1 (by omega)
    have d10 : lg_cmp (Wd 10) 439956431717 = iI 0 := (hcv 10 (by omega)).2 rfl
    have d11 : ¬ lg_cmp (Wd 10) 1919246692 = iI 0 := mt (hcv 11 (by omega)).1 (by omega)
    have d12 : ¬ lg_cmp (Wd 10) 1835103083 = iI 0 := mt (hcv 12 (by omega)).1 (by omega)
    have d13 : ¬ lg_cmp (Wd 10) 125780053555813 = iI 0 := mt (hcv 13 (by omega)).1 (by omega)
    rw [u_X9_isDone]
    repeat ((first | (with_reducible first | refine w_ltA ?_ | refine w_ltS ?_ | refine w_ltM ?_ | refine w_ltN ?_ | refine w_lt ?_ | refine w_jn ?_ | refine w_ck (by omega) (by assumption) ?_ | refine w_gI (by omega) (by assumption) ?_ | refine w_gR (by omega) (by assumption) (by assumption) ?_ | refine w_al (by omega) (by assumption) (by assumption) ?_ | refine w_pI (by omega) (by assumption) ?_ | refine w_set (by omega) (by assumption) (by omega) (by omega) ?_ | refine w_at (by omega) (by assumption) (by omega) (by omega) ?_ | refine w_sI (by omega) (by assumption) (by omega) (by omega) ?_ | refine w_aI (by omega) (by assumption) (by omega) (by omega) ?_ | refine w_sZ (by omega) (by assumption) (by omega) (by omega) (by decide) ?_ | refine w_pZ (by omega) (by assumption) (by decide) ?_ | refine w_dv (by omega) (by omega) (by omega) (by omega) ?_ | refine w_rm (by omega) (by omega) (by omega) (by omega) ?_) | ((with_reducible refine w_pos ?_ ?_); focus (first | assumption | trivial | exact (ile (by omega) (by omega) (by omega) (by omega)).2 (by omega) | exact (ilt (by omega) (by omega) (by omega) (by omega)).2 (by omega) | exact (ieq (by omega) (by omega) (by omega) (by omega)).2 (by omega))) | ((with_reducible refine w_neg ?_ ?_); focus (first | assumption | exact not_false | trivial | exact mt (ile (by omega) (by omega) (by omega) (by omega)).1 (by omega) | exact mt (ilt (by omega) (by omega) (by omega) (by omega)).1 (by omega) | exact mt (ieq (by omega) (by omega) (by omega) (by omega)).1 (by omega)))); skip)
    refine w_cI (swapped_Q (J := J) hR hM hw (Or.inr rfl)) ?_
    rintro y S ⟨hy, I', π', rfl, g1⟩
    have hy : y = iI (swpV V 1).1 := hy
    subst hy
    show En (fun (y : Int32 × St) => y.1 = (if dbl (iI (swpV V 1).1) (-1) = true then iI 1 else iI 0) ∧ ∃ I' π', y.2 = (381, I', J, R) ∧ MTo I0 I' π' (swpV V 1).2) _
    by_cases hz : iI (swpV V 1).1 = iI (-1)
    · repeat ((first | (with_reducible first | refine w_ltA ?_ | refine w_ltS ?_ | refine w_ltM ?_ | refine w_ltN ?_ | refine w_lt ?_ | refine w_jn ?_ | refine w_ck (by omega) (by assumption) ?_ | refine w_gI (by omega) (by assumption) ?_ | refine w_gR (by omega) (by assumption) (by assumption) ?_ | refine w_al (by omega) (by assumption) (by assumption) ?_ | refine w_pI (by omega) (by assumption) ?_ | refine w_set (by omega) (by assumption) (by omega) (by omega) ?_ | refine w_at (by omega) (by assumption) (by omega) (by omega) ?_ | refine w_sI (by omega) (by assumption) (by omega) (by omega) ?_ | refine w_aI (by omega) (by assumption) (by omega) (by omega) ?_ | refine w_sZ (by omega) (by assumption) (by omega) (by omega) (by decide) ?_ | refine w_pZ (by omega) (by assumption) (by decide) ?_ | refine w_dv (by omega) (by omega) (by omega) (by omega) ?_ | refine w_rm (by omega) (by omega) (by omega) (by omega) ?_) | ((with_reducible refine w_pos ?_ ?_); focus (first | assumption | trivial | exact (ile (by omega) (by omega) (by omega) (by omega)).2 (by omega) | exact (ilt (by omega) (by omega) (by omega) (by omega)).2 (by omega) | exact (ieq (by omega) (by omega) (by omega) (by omega)).2 (by omega))) | ((with_reducible refine w_neg ?_ ?_); focus (first | assumption | exact not_false | trivial | exact mt (ile (by omega) (by omega) (by omega) (by omega)).1 (by omega) | exact mt (ilt (by omega) (by omega) (by omega) (by omega)).1 (by omega) | exact mt (ieq (by omega) (by omega) (by omega) (by omega)).1 (by omega)))); skip)
      exact w_rz0 ⟨by rw [dbl_f hz]; rfl, I', π', rfl, g1⟩
    · repeat ((first | (with_reducible first | refine w_ltA ?_ | refine w_ltS ?_ | refine w_ltM ?_ | refine w_ltN ?_ | refine w_lt ?_ | refine w_jn ?_ | refine w_ck (by omega) (by assumption) ?_ | refine w_gI (by omega) (by assumption) ?_ | refine w_gR (by omega) (by assumption) (by assumption) ?_ | refine w_al (by omega) (by assumption) (by assumption) ?_ | refine w_pI (by omega) (by assumption) ?_ | refine w_set (by omega) (by assumption) (by omega) (by omega) ?_ | refine w_at (by omega) (by assumption) (by omega) (by omega) ?_ | refine w_sI (by omega) (by assumption) (by omega) (by omega) ?_ | refine w_aI (by omega) (by assumption) (by omega) (by omega) ?_ | refine w_sZ (by omega) (by assumption) (by omega) (by omega) (by decide) ?_ | refine w_pZ (by omega) (by assumption) (by decide) ?_ | refine w_dv (by omega) (by omega) (by omega) (by omega) ?_ | refine w_rm (by omega) (by omega) (by omega) (by omega) ?_) | ((with_reducible refine w_pos ?_ ?_); focus (first | assumption | trivial | exact (ile (by omega) (by omega) (by omega) (by omega)).2 (by omega) | exact (ilt (by omega) (by omega) (by omega) (by omega)).2 (by omega) | exact (ieq (by omega) (by omega) (by omega) (by omega)).2 (by omega))) | ((with_reducible refine w_neg ?_ ?_); focus (first | assumption | exact not_false | trivial | exact mt (ile (by omega) (by omega) (by omega) (by omega)).1 (by omega) | exact mt (ilt (by omega) (by omega) (by omega) (by omega)).1 (by omega) | exact mt (ieq (by omega) (by omega) (by omega) (by omega)).1 (by omega)))); skip)
      exact w_rz1 ⟨by rw [dbl_t hz]; rfl, I', π', rfl, g1⟩
  · have c0 : 1 ≤ a ∧ a ≤ 99 := o3 (by decide)
    have d4 : ¬ lg_cmp (Wd 11) 1953063787 = iI 0 := mt (hcv 4 (by omega)).1 (by omega)
    have d5 : ¬ lg_cmp (Wd 11) 1952541541 = iI 0 := mt (hcv 5 (by omega)).1 (by omega)
    have d6 : ¬ lg_cmp (Wd 11) 7370100 = iI 0 := mt (hcv 6 (by omega)).1 (by omega)
    have d7 : ¬ lg_cmp (Wd 11) 6647396 = iI 0 := mt (hcv 7 (by omega)).1 (by omega)
    have d8 : ¬ lg_cmp (Wd 11) 1685221232 = iI 0 := mt (hcv 8 (by omega)).1 (by omega)
    have d9 : ¬ lg_cmp (Wd 11) 1937203568 = iI 0 := mt (hcv 9 (by omega)).1 (by omega)
    have d10 : ¬ lg_cmp (Wd 11) 439956431717 = iI 0 := mt (hcv 10 (by omega)).1 (by omega)
    have d11 : lg_cmp (Wd 11) 1919246692 = iI 0 := (hcv 11 (by omega)).2 rfl
    have d12 : ¬ lg_cmp (Wd 11) 1835103083 = iI 0 := mt (hcv 12 (by omega)).1 (by omega)
    have d13 : ¬ lg_cmp (Wd 11) 125780053555813 = iI 0 := mt (hcv 13 (by omega)).1 (by omega)
    rw [u_X9_isDone]
    repeat ((first | (with_reducible first | refine w_ltA ?_ | refine w_ltS ?_ | refine w_ltM ?_ | refine w_ltN ?_ | refine w_lt ?_ | refine w_jn ?_ | refine w_ck (by omega) (by assumption) ?_ | refine w_gI (by omega) (by assumption) ?_ | refine w_gR (by omega) (by assumption) (by assumption) ?_ | refine w_al (by omega) (by assumption) (by assumption) ?_ | refine w_pI (by omega) (by assumption) ?_ | refine w_set (by omega) (by assumption) (by omega) (by omega) ?_ | refine w_at (by omega) (by assumption) (by omega) (by omega) ?_ | refine w_sI (by omega) (by assumption) (by omega) (by omega) ?_ | refine w_aI (by omega) (by assumption) (by omega) (by omega) ?_ | refine w_sZ (by omega) (by assumption) (by omega) (by omega) (by decide) ?_ | refine w_pZ (by omega) (by assumption) (by decide) ?_ | refine w_dv (by omega) (by omega) (by omega) (by omega) ?_ | refine w_rm (by omega) (by omega) (by omega) (by omega) ?_) | ((with_reducible refine w_pos ?_ ?_); focus (first | assumption | trivial | exact (ile (by omega) (by omega) (by omega) (by omega)).2 (by omega) | exact (ilt (by omega) (by omega) (by omega) (by omega)).2 (by omega) | exact (ieq (by omega) (by omega) (by omega) (by omega)).2 (by omega))) | ((with_reducible refine w_neg ?_ ?_); focus (first | assumption | exact not_false | trivial | exact mt (ile (by omega) (by omega) (by omega) (by omega)).1 (by omega) | exact mt (ilt (by omega) (by omega) (by omega) (by omega)).1 (by omega) | exact mt (ieq (by omega) (by omega) (by omega) (by omega)).1 (by omega)))); skip)
    have hrd := reads_Q (J := J) (n := a.toNat) hR hM hw (by omega)
    rw [show ((a.toNat : Nat) : Int) = a by omega] at hrd
    refine w_cI hrd ?_
    rintro y S ⟨hy, I', rfl, g1⟩
    have hy : y = (if 0 < (rdsV a.toNat V).1 then iI 1 else iI 0) := hy
    subst hy
    show En (fun (y : Int32 × St) => y.1 = (if decide (0 < (rdsV a.toNat V).1) = true then iI 1 else iI 0) ∧ ∃ I' π', y.2 = (381, I', J, R) ∧ MTo I0 I' π' (rdsV a.toNat V).2) _
    by_cases hz : 0 < (rdsV a.toNat V).1
    · rw [if_pos hz]
      exact w_rz1 ⟨by rw [decide_eq_true hz]; rfl, I', π, rfl, g1⟩
    · rw [if_neg hz]
      exact w_rz0 ⟨by rw [decide_eq_false hz]; rfl, I', π, rfl, g1⟩
  · have c0 : 0 ≤ a ∧ a ≤ 15 := o3 (by decide)
    have d4 : ¬ lg_cmp (Wd 12) 1953063787 = iI 0 := mt (hcv 4 (by omega)).1 (by omega)
    have d5 : ¬ lg_cmp (Wd 12) 1952541541 = iI 0 := mt (hcv 5 (by omega)).1 (by omega)
    have d6 : ¬ lg_cmp (Wd 12) 7370100 = iI 0 := mt (hcv 6 (by omega)).1 (by omega)
    have d7 : ¬ lg_cmp (Wd 12) 6647396 = iI 0 := mt (hcv 7 (by omega)).1 (by omega)
    have d8 : ¬ lg_cmp (Wd 12) 1685221232 = iI 0 := mt (hcv 8 (by omega)).1 (by omega)
    have d9 : ¬ lg_cmp (Wd 12) 1937203568 = iI 0 := mt (hcv 9 (by omega)).1 (by omega)
    have d10 : ¬ lg_cmp (Wd 12) 439956431717 = iI 0 := mt (hcv 10 (by omega)).1 (by omega)
    have d11 : ¬ lg_cmp (Wd 12) 1919246692 = iI 0 := mt (hcv 11 (by omega)).1 (by omega)
    have d12 : lg_cmp (Wd 12) 1835103083 = iI 0 := (hcv 12 (by omega)).2 rfl
    have d13 : ¬ lg_cmp (Wd 12) 125780053555813 = iI 0 := mt (hcv 13 (by omega)).1 (by omega)
    rw [u_X9_isDone]
    repeat ((first | (with_reducible first | refine w_ltA ?_ | refine w_ltS ?_ | refine w_ltM ?_ | refine w_ltN ?_ | refine w_lt ?_ | refine w_jn ?_ | refine w_ck (by omega) (by assumption) ?_ | refine w_gI (by omega) (by assumption) ?_ | refine w_gR (by omega) (by assumption) (by assumption) ?_ | refine w_al (by omega) (by assumption) (by assumption) ?_ | refine w_pI (by omega) (by assumption) ?_ | refine w_set (by omega) (by assumption) (by omega) (by omega) ?_ | refine w_at (by omega) (by assumption) (by omega) (by omega) ?_ | refine w_sI (by omega) (by assumption) (by omega) (by omega) ?_ | refine w_aI (by omega) (by assumption) (by omega) (by omega) ?_ | refine w_sZ (by omega) (by assumption) (by omega) (by omega) (by decide) ?_ | refine w_pZ (by omega) (by assumption) (by decide) ?_ | refine w_dv (by omega) (by omega) (by omega) (by omega) ?_ | refine w_rm (by omega) (by omega) (by omega) (by omega) ?_) | ((with_reducible refine w_pos ?_ ?_); focus (first | assumption | trivial | exact (ile (by omega) (by omega) (by omega) (by omega)).2 (by omega) | exact (ilt (by omega) (by omega) (by omega) (by omega)).2 (by omega) | exact (ieq (by omega) (by omega) (by omega) (by omega)).2 (by omega))) | ((with_reducible refine w_neg ?_ ?_); focus (first | assumption | exact not_false | trivial | exact mt (ile (by omega) (by omega) (by omega) (by omega)).1 (by omega) | exact mt (ilt (by omega) (by omega) (by omega) (by omega)).1 (by omega) | exact mt (ieq (by omega) (by omega) (by omega) (by omega)).1 (by omega)))); skip)
    refine w_cI (masked_Q (J := J) hR hM hw (by omega)) ?_
    rintro y S ⟨hy, I', rfl, g1⟩
    have hy : y = iI (mskV V a).1 := hy
    subst hy
    show En (fun (y : Int32 × St) => y.1 = (if decide ((mskV V a).1 = 1) = true then iI 1 else iI 0) ∧ ∃ I' π', y.2 = (381, I', J, R) ∧ MTo I0 I' π' (mskV V a).2) _
    rcases msk_01 (V := V) (l := a) with hz | hz
    · rw [hz]
      exact w_rz0 ⟨rfl, I', π, rfl, g1⟩
    · rw [hz]
      exact w_rz1 ⟨rfl, I', π, rfl, g1⟩
  · have c0 : 2 ≤ a ∧ a ≤ 6 := o3 (by decide)
    have d4 : ¬ lg_cmp (Wd 13) 1953063787 = iI 0 := mt (hcv 4 (by omega)).1 (by omega)
    have d5 : ¬ lg_cmp (Wd 13) 1952541541 = iI 0 := mt (hcv 5 (by omega)).1 (by omega)
    have d6 : ¬ lg_cmp (Wd 13) 7370100 = iI 0 := mt (hcv 6 (by omega)).1 (by omega)
    have d7 : ¬ lg_cmp (Wd 13) 6647396 = iI 0 := mt (hcv 7 (by omega)).1 (by omega)
    have d8 : ¬ lg_cmp (Wd 13) 1685221232 = iI 0 := mt (hcv 8 (by omega)).1 (by omega)
    have d9 : ¬ lg_cmp (Wd 13) 1937203568 = iI 0 := mt (hcv 9 (by omega)).1 (by omega)
    have d10 : ¬ lg_cmp (Wd 13) 439956431717 = iI 0 := mt (hcv 10 (by omega)).1 (by omega)
    have d11 : ¬ lg_cmp (Wd 13) 1919246692 = iI 0 := mt (hcv 11 (by omega)).1 (by omega)
    have d12 : ¬ lg_cmp (Wd 13) 1835103083 = iI 0 := mt (hcv 12 (by omega)).1 (by omega)
    have d13 : lg_cmp (Wd 13) 125780053555813 = iI 0 := (hcv 13 (by omega)).2 rfl
    rw [u_X9_isDone]
    repeat ((first | (with_reducible first | refine w_ltA ?_ | refine w_ltS ?_ | refine w_ltM ?_ | refine w_ltN ?_ | refine w_lt ?_ | refine w_jn ?_ | refine w_ck (by omega) (by assumption) ?_ | refine w_gI (by omega) (by assumption) ?_ | refine w_gR (by omega) (by assumption) (by assumption) ?_ | refine w_al (by omega) (by assumption) (by assumption) ?_ | refine w_pI (by omega) (by assumption) ?_ | refine w_set (by omega) (by assumption) (by omega) (by omega) ?_ | refine w_at (by omega) (by assumption) (by omega) (by omega) ?_ | refine w_sI (by omega) (by assumption) (by omega) (by omega) ?_ | refine w_aI (by omega) (by assumption) (by omega) (by omega) ?_ | refine w_sZ (by omega) (by assumption) (by omega) (by omega) (by decide) ?_ | refine w_pZ (by omega) (by assumption) (by decide) ?_ | refine w_dv (by omega) (by omega) (by omega) (by omega) ?_ | refine w_rm (by omega) (by omega) (by omega) (by omega) ?_) | ((with_reducible refine w_pos ?_ ?_); focus (first | assumption | trivial | exact (ile (by omega) (by omega) (by omega) (by omega)).2 (by omega) | exact (ilt (by omega) (by omega) (by omega) (by omega)).2 (by omega) | exact (ieq (by omega) (by omega) (by omega) (by omega)).2 (by omega))) | ((with_reducible refine w_neg ?_ ?_); focus (first | assumption | exact not_false | trivial | exact mt (ile (by omega) (by omega) (by omega) (by omega)).1 (by omega) | exact mt (ilt (by omega) (by omega) (by omega) (by omega)).1 (by omega) | exact mt (ieq (by omega) (by omega) (by omega) (by omega)).1 (by omega)))); skip)
    refine w_cI (resized_Q (J := J) hR hM hw (by omega)) ?_
    rintro y S ⟨hy, I', π', rfl, g1⟩
    have hy : y = iI (rszV V a).1 := hy
    subst hy
    show En (fun (y : Int32 × St) => y.1 = (if dbl (iI (rszV V a).1) (-1) = true then iI 1 else iI 0) ∧ ∃ I' π', y.2 = (381, I', J, R) ∧ MTo I0 I' π' (rszV V a).2) _
    by_cases hz : iI (rszV V a).1 = iI (-1)
    · repeat ((first | (with_reducible first | refine w_ltA ?_ | refine w_ltS ?_ | refine w_ltM ?_ | refine w_ltN ?_ | refine w_lt ?_ | refine w_jn ?_ | refine w_ck (by omega) (by assumption) ?_ | refine w_gI (by omega) (by assumption) ?_ | refine w_gR (by omega) (by assumption) (by assumption) ?_ | refine w_al (by omega) (by assumption) (by assumption) ?_ | refine w_pI (by omega) (by assumption) ?_ | refine w_set (by omega) (by assumption) (by omega) (by omega) ?_ | refine w_at (by omega) (by assumption) (by omega) (by omega) ?_ | refine w_sI (by omega) (by assumption) (by omega) (by omega) ?_ | refine w_aI (by omega) (by assumption) (by omega) (by omega) ?_ | refine w_sZ (by omega) (by assumption) (by omega) (by omega) (by decide) ?_ | refine w_pZ (by omega) (by assumption) (by decide) ?_ | refine w_dv (by omega) (by omega) (by omega) (by omega) ?_ | refine w_rm (by omega) (by omega) (by omega) (by omega) ?_) | ((with_reducible refine w_pos ?_ ?_); focus (first | assumption | trivial | exact (ile (by omega) (by omega) (by omega) (by omega)).2 (by omega) | exact (ilt (by omega) (by omega) (by omega) (by omega)).2 (by omega) | exact (ieq (by omega) (by omega) (by omega) (by omega)).2 (by omega))) | ((with_reducible refine w_neg ?_ ?_); focus (first | assumption | exact not_false | trivial | exact mt (ile (by omega) (by omega) (by omega) (by omega)).1 (by omega) | exact mt (ilt (by omega) (by omega) (by omega) (by omega)).1 (by omega) | exact mt (ieq (by omega) (by omega) (by omega) (by omega)).1 (by omega)))); skip)
      exact w_rz0 ⟨by rw [dbl_f hz]; rfl, I', π', rfl, g1⟩
    · repeat ((first | (with_reducible first | refine w_ltA ?_ | refine w_ltS ?_ | refine w_ltM ?_ | refine w_ltN ?_ | refine w_lt ?_ | refine w_jn ?_ | refine w_ck (by omega) (by assumption) ?_ | refine w_gI (by omega) (by assumption) ?_ | refine w_gR (by omega) (by assumption) (by assumption) ?_ | refine w_al (by omega) (by assumption) (by assumption) ?_ | refine w_pI (by omega) (by assumption) ?_ | refine w_set (by omega) (by assumption) (by omega) (by omega) ?_ | refine w_at (by omega) (by assumption) (by omega) (by omega) ?_ | refine w_sI (by omega) (by assumption) (by omega) (by omega) ?_ | refine w_aI (by omega) (by assumption) (by omega) (by omega) ?_ | refine w_sZ (by omega) (by assumption) (by omega) (by omega) (by decide) ?_ | refine w_pZ (by omega) (by assumption) (by decide) ?_ | refine w_dv (by omega) (by omega) (by omega) (by omega) ?_ | refine w_rm (by omega) (by omega) (by omega) (by omega) ?_) | ((with_reducible refine w_pos ?_ ?_); focus (first | assumption | trivial | exact (ile (by omega) (by omega) (by omega) (by omega)).2 (by omega) | exact (ilt (by omega) (by omega) (by omega) (by omega)).2 (by omega) | exact (ieq (by omega) (by omega) (by omega) (by omega)).2 (by omega))) | ((with_reducible refine w_neg ?_ ?_); focus (first | assumption | exact not_false | trivial | exact mt (ile (by omega) (by omega) (by omega) (by omega)).1 (by omega) | exact mt (ilt (by omega) (by omega) (by omega) (by omega)).1 (by omega) | exact mt (ieq (by omega) (by omega) (by omega) (by omega)).1 (by omega)))); skip)
      exact w_rz1 ⟨by rw [dbl_t hz]; rfl, I', π', rfl, g1⟩
/-- the lines, one by one -/
theorem lines_Q (hR : RQ R) (hq : RMQ I π V) (hw : WR V) (hm18 : I 373 18 = iI (m : Nat)) (hm : m ≤ 80) (hL : LnR I J m L) (hok : ∀ k, k < m → lnOk 4 13 (L k)) : En (fun y => y.1 = iI ((runV L m 0 V).1 : Nat) ∧ ∃ I' π', y.2 = (381, I', J, R) ∧ MTo I I' π' (runV L m 0 V).2) (lp_ (fun self5 (x5 : Int32 × St) =>
        gI_ x5.2 373 9 18 fun v6 =>
        jn_ (fun (x7 : St) =>
          rt_ (x5.1, x7)
        ) fun j7 =>
        if v6 ≤ x5.1 then
          j7 (x5.2)
        else
          gR_ x5.2 373 9 16 fun a8 =>
          aJ_ x5.2 a8 x5.1 fun v9 =>
          gR_ x5.2 373 9 17 fun a10 =>
          lt_ ((iI 2) * x5.1 : Int32) fun v11 =>
          aI_ x5.2 a10 11 v11 fun v12 =>
          gR_ x5.2 373 9 17 fun a13 =>
          lt_ ((iI 2) * x5.1 : Int32) fun v14 =>
          lt_ (v14 + (iI 1) : Int32) fun v15 =>
          aI_ x5.2 a13 11 v15 fun v16 =>
          ck_ x5.2 373 9 <| cI_ (f_X9_isDone x5.2 373 v9 v12 v16) fun v18 S17 =>
          if v18 = iI 0 then
            j7 (S17)
          else
            lt_ (x5.1 + iI 1) fun v19 =>
            self5 (v19, S17)
      ) FU ((iI 0), (381, I, J, R))) := by
  have k374 := kd_374
  obtain ⟨k378, l378, k379, l379, k380, l380⟩ := kd_378
  obtain ⟨-, -, -, r12, r16, r17, -⟩ := id hR
  refine w_lp m (fun j y => j ≤ m ∧ ∃ I' π' V', y = (iI (j : Nat), (381, I', J, R)) ∧ MTo I I' π' V' ∧ WR V' ∧ runV L m 0 V = runV L (m - j) j V') ⟨by omega, I, π, V, rfl, mto_0 hq, hw, rfl⟩ (by rw [FU_eq]; omega) (fun i y h => h.1) ?_
  rintro j y self ⟨hj, I1, π1, V1, rfl, hM, hw1, hr⟩ ih
  try dsimp only
  have g18 : I1 373 18 = iI (m : Nat) := (hM.2.1 _ _ (by omega) (by omega)).trans hm18
  refine w_gI (by omega) k374 ?_
  rw [g18]
  refine w_jnP (fun x => ∃ I' π', x = (381, I', J, R) ∧ MTo I I' π' (runV L m 0 V).2 ∧ (runV L m 0 V).1 = j) ?_ ?_
  · rintro x ⟨I2, π2, rfl, h1, h4⟩
    exact w_rt ⟨by rw [h4], I2, π2, rfl, h1⟩
  intro j7 hj7
  by_cases hlt : j < m
  · obtain ⟨d, hd⟩ : ∃ d, m - j = d + 1 := ⟨m - j - 1, by omega⟩
    have e : runV L (d + 1) j V1 = if (doV V1 (L j)).1 then runV L d (j + 1) (doV V1 (L j)).2 else (j, (doV V1 (L j)).2) := rfl
    rw [hd, e] at hr
    obtain ⟨l1, l2, l3⟩ := hL j hlt
    have l1' : J 378 ((j : Int)).toNat = Wd (L j).1 := l1
    have l2' : I1 379 (2 * (j : Int)).toNat = iI (L j).2.1 := by
      rw [show (2 * (j : Int)).toNat = 2 * j by omega, hM.2.1 _ _ (by omega) (by omega)]
      exact l2
    have l3' : I1 379 (2 * (j : Int) + 1).toNat = iI (L j).2.2 := by
      rw [show (2 * (j : Int) + 1).toNat = 2 * j + 1 by omega, hM.2.1 _ _ (by omega) (by omega)]
      exact l3
    repeat ((first | (with_reducible first | refine w_aJ (by omega) (by assumption) (by omega) (by omega) ?_ | refine w_ltA ?_ | refine w_ltS ?_ | refine w_ltM ?_ | refine w_ltN ?_ | refine w_lt ?_ | refine w_jn ?_ | refine w_ck (by omega) (by assumption) ?_ | refine w_gI (by omega) (by assumption) ?_ | refine w_gR (by omega) (by assumption) (by assumption) ?_ | refine w_al (by omega) (by assumption) (by assumption) ?_ | refine w_pI (by omega) (by assumption) ?_ | refine w_set (by omega) (by assumption) (by omega) (by omega) ?_ | refine w_at (by omega) (by assumption) (by omega) (by omega) ?_ | refine w_sI (by omega) (by assumption) (by omega) (by omega) ?_ | refine w_aI (by omega) (by assumption) (by omega) (by omega) ?_ | refine w_sZ (by omega) (by assumption) (by omega) (by omega) (by decide) ?_ | refine w_pZ (by omega) (by assumption) (by decide) ?_ | refine w_dv (by omega) (by omega) (by omega) (by omega) ?_ | refine w_rm (by omega) (by omega) (by omega) (by omega) ?_) | ((with_reducible refine w_pos ?_ ?_); focus (first | assumption | trivial | exact (ile (by omega) (by omega) (by omega) (by omega)).2 (by omega) | exact (ilt (by omega) (by omega) (by omega) (by omega)).2 (by omega) | exact (ieq (by omega) (by omega) (by omega) (by omega)).2 (by omega))) | ((with_reducible refine w_neg ?_ ?_); focus (first | assumption | exact not_false | trivial | exact mt (ile (by omega) (by omega) (by omega) (by omega)).1 (by omega) | exact mt (ilt (by omega) (by omega) (by omega) (by omega)).1 (by omega) | exact mt (ieq (by omega) (by omega) (by omega) (by omega)).1 (by omega)))); try simp (disch := omega) only [l1', l2', l3'])
    refine w_cI (isDone_Q (J := J) (v := (L j).1) (a := (L j).2.1) (b := (L j).2.2) hR hM hw1 (hok j hlt)) ?_
    rintro y S ⟨hy, I2, π2, rfl, h1⟩
    have hy : y = (if (doV V1 (L j)).1 then iI 1 else iI 0) := hy
    subst hy
    have h1 : MTo I I2 π2 (doV V1 (L j)).2 := h1
    by_cases hz : (doV V1 (L j)).1 = true
    · rw [if_pos hz] at hr ⊢
      repeat ((first | (with_reducible first | refine w_ltA ?_ | refine w_ltS ?_ | refine w_ltM ?_ | refine w_ltN ?_ | refine w_lt ?_ | refine w_jn ?_ | refine w_ck (by omega) (by assumption) ?_ | refine w_gI (by omega) (by assumption) ?_ | refine w_gR (by omega) (by assumption) (by assumption) ?_ | refine w_al (by omega) (by assumption) (by assumption) ?_ | refine w_pI (by omega) (by assumption) ?_ | refine w_set (by omega) (by assumption) (by omega) (by omega) ?_ | refine w_at (by omega) (by assumption) (by omega) (by omega) ?_ | refine w_sI (by omega) (by assumption) (by omega) (by omega) ?_ | refine w_aI (by omega) (by assumption) (by omega) (by omega) ?_ | refine w_sZ (by omega) (by assumption) (by omega) (by omega) (by decide) ?_ | refine w_pZ (by omega) (by assumption) (by decide) ?_ | refine w_dv (by omega) (by omega) (by omega) (by omega) ?_ | refine w_rm (by omega) (by omega) (by omega) (by omega) ?_) | ((with_reducible refine w_pos ?_ ?_); focus (first | assumption | trivial | exact (ile (by omega) (by omega) (by omega) (by omega)).2 (by omega) | exact (ilt (by omega) (by omega) (by omega) (by omega)).2 (by omega) | exact (ieq (by omega) (by omega) (by omega) (by omega)).2 (by omega))) | ((with_reducible refine w_neg ?_ ?_); focus (first | assumption | exact not_false | trivial | exact mt (ile (by omega) (by omega) (by omega) (by omega)).1 (by omega) | exact mt (ilt (by omega) (by omega) (by omega) (by omega)).1 (by omega) | exact mt (ieq (by omega) (by omega) (by omega) (by omega)).1 (by omega)))); skip)
      rw [show (j : Int) + 1 = ((j + 1 : Nat) : Int) by omega]
      exact ih _ ⟨by omega, I2, π2, _, rfl, h1, wr_do hw1, by rw [hr, show m - (j + 1) = d by omega]⟩
    · rw [if_neg hz] at hr ⊢
      repeat ((first | (with_reducible first | refine w_ltA ?_ | refine w_ltS ?_ | refine w_ltM ?_ | refine w_ltN ?_ | refine w_lt ?_ | refine w_jn ?_ | refine w_ck (by omega) (by assumption) ?_ | refine w_gI (by omega) (by assumption) ?_ | refine w_gR (by omega) (by assumption) (by assumption) ?_ | refine w_al (by omega) (by assumption) (by assumption) ?_ | refine w_pI (by omega) (by assumption) ?_ | refine w_set (by omega) (by assumption) (by omega) (by omega) ?_ | refine w_at (by omega) (by assumption) (by omega) (by omega) ?_ | refine w_sI (by omega) (by assumption) (by omega) (by omega) ?_ | refine w_aI (by omega) (by assumption) (by omega) (by omega) ?_ | refine w_sZ (by omega) (by assumption) (by omega) (by omega) (by decide) ?_ | refine w_pZ (by omega) (by assumption) (by decide) ?_ | refine w_dv (by omega) (by omega) (by omega) (by omega) ?_ | refine w_rm (by omega) (by omega) (by omega) (by omega) ?_) | ((with_reducible refine w_pos ?_ ?_); focus (first | assumption | trivial | exact (ile (by omega) (by omega) (by omega) (by omega)).2 (by omega) | exact (ilt (by omega) (by omega) (by omega) (by omega)).2 (by omega) | exact (ieq (by omega) (by omega) (by omega) (by omega)).2 (by omega))) | ((with_reducible refine w_neg ?_ ?_); focus (first | assumption | exact not_false | trivial | exact mt (ile (by omega) (by omega) (by omega) (by omega)).1 (by omega) | exact mt (ilt (by omega) (by omega) (by omega) (by omega)).1 (by omega) | exact mt (ieq (by omega) (by omega) (by omega) (by omega)).1 (by omega)))); skip)
      exact hj7 _ ⟨I2, π2, rfl, by rw [hr]; exact h1, by rw [hr]⟩
  · rw [show m - j = 0 by omega] at hr
    repeat ((first | (with_reducible first | refine w_ltA ?_ | refine w_ltS ?_ | refine w_ltM ?_ | refine w_ltN ?_ | refine w_lt ?_ | refine w_jn ?_ | refine w_ck (by omega) (by assumption) ?_ | refine w_gI (by omega) (by assumption) ?_ | refine w_gR (by omega) (by assumption) (by assumption) ?_ | refine w_al (by omega) (by assumption) (by assumption) ?_ | refine w_pI (by omega) (by assumption) ?_ | refine w_set (by omega) (by assumption) (by omega) (by omega) ?_ | refine w_at (by omega) (by assumption) (by omega) (by omega) ?_ | refine w_sI (by omega) (by assumption) (by omega) (by omega) ?_ | refine w_aI (by omega) (by assumption) (by omega) (by omega) ?_ | refine w_sZ (by omega) (by assumption) (by omega) (by omega) (by decide) ?_ | refine w_pZ (by omega) (by assumption) (by decide) ?_ | refine w_dv (by omega) (by omega) (by omega) (by omega) ?_ | refine w_rm (by omega) (by omega) (by omega) (by omega) ?_) | ((with_reducible refine w_pos ?_ ?_); focus (first | assumption | trivial | exact (ile (by omega) (by omega) (by omega) (by omega)).2 (by omega) | exact (ilt (by omega) (by omega) (by omega) (by omega)).2 (by omega) | exact (ieq (by omega) (by omega) (by omega) (by omega)).2 (by omega))) | ((with_reducible refine w_neg ?_ ?_); focus (first | assumption | exact not_false | trivial | exact mt (ile (by omega) (by omega) (by omega) (by omega)).1 (by omega) | exact mt (ilt (by omega) (by omega) (by omega) (by omega)).1 (by omega) | exact mt (ieq (by omega) (by omega) (by omega) (by omega)).1 (by omega)))); skip)
    exact hj7 _ ⟨I1, π1, rfl, by rw [hr]; exact hM, by rw [hr]; rfl⟩
end DOL
