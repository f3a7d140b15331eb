/-! THE CALLS that act -/
def CAe (I : MI) (J : MJ) (R : MR) (S : St) (V : RV) : Prop := ∃ I' R' σ', S = (381, I', J, R') ∧ CR I' R' 1 σ' V ∧ FC 1 I I' ∧ RFr 1 R R'
def KR (I I' : MI) : Prop := (∀ a k, a ≠ 373 → a ≠ 374 → a ≠ 380 → I' a k = I a k) ∧ ∀ k, 985 ≤ k → k < 3952 → I' 374 k = I 374 k
def QAe (I : MI) (J : MJ) (R : MR) (S : St) (V : RV) : Prop := ∃ I' π', S = (381, I', J, R) ∧ RMQ I' π' V ∧ KR I I'
theorem mto_kr {I I0 I' : MI} {π : Nat → Nat} {V : RV} (h0 : F374 I I0) (h : MTo I0 I' π V) : KR I I' := ⟨fun a k a1 a2 a3 => (h.2.1 a k a2 a3).trans (h0 a k a1), fun k hk _ => (h.2.2 k hk).trans (h0 374 k (by omega))⟩
theorem fb_kr {I I' : MI} (h : FB I I') : KR I I' := ⟨h.1, fun k _ hk => h.2 k hk⟩
theorem f374_kr {I I' : MI} (h : F374 I I') : KR I I' := fb_kr (fb_374 h)
def modV (V : RV) (o : Int) : RV := upG V 0 10 o
def modA (V : RV) (o : Int) : Int := if V.2 0 10 = o then 0 else 1
theorem wr_mod {V : RV} {o : Int} (hw : WR V) (ho : o = 0 ∨ o = 1) : WR (modV V o) := by
  have hb := hw.1
  unfold WB at hb
  refine wr_G hw ?_ rfl (upG_ne (by omega)) (upG_ne (by omega)) (upG_ne (by omega)) (upG_ne (by omega)) (upG_ne (by omega)) (by show V.2 0 11 ≤ (upG V 0 10 o).2 0 11; rw [upG_ne (by omega)]; omega) (fun g k h => upG_ne (by omega))
  unfold WB modV
  rw [upG_ne (by omega), upG_ne (by omega), upG_eq, upG_ne (by omega), upG_ne (by omega), upG_ne (by omega), upG_ne (by omega), upG_ne (by omega), upG_ne (by omega), upG_ne (by omega), upG_ne (by omega), upG_ne (by omega), upG_ne (by omega)]
  show _ ∧ _ ∧ _ ∧ _ ∧ _ ∧ _ ∧ _ ∧ _ ∧ _ ∧ _ ∧ _ ∧ _ ∧ _ ∧ _ ∧ _ ∧ _ ∧ V.2 0 7 ≤ V.1 6 0 8 ∧ _
  omega
section ACT
variable {I I0 : MI} {J : MJ} {R : MR} {α γ : Type} {Q : γ → Prop} {σ π : Nat → Nat} {V : RV} {n l m o f : Int}

theorem tick_X (hRC : RC R) (hc : CR I R 1 σ V) (hw : WR V) (hn : -2147483648 ≤ n ∧ n < 2147483648) : En (fun y => y.1 = iI (goV V n).1 ∧ CAe I J R y.2 (goV V n).2) (f_X8_tick (381, I, J, R) 0 (iI n)) := by
  have k0 := kd_0
  have k1 := rg_1.2.1
  have r0 := hRC.1
  rw [u_X8_tick]
  repeat ((first | (with_reducible first | refine w_ltA ?_ | refine w_ltS ?_ | refine w_ltM ?_ | refine w_ltN ?_ | refine w_lt ?_ | refine w_jn ?_ | refine w_ck (by omega) (by assumption) ?_ | refine w_gI (by omega) (by assumption) ?_ | refine w_gR (by omega) (by assumption) (by assumption) ?_ | refine w_al (by omega) (by assumption) (by assumption) ?_ | refine w_pI (by omega) (by assumption) ?_ | refine w_set (by omega) (by assumption) (by omega) (by omega) ?_ | refine w_at (by omega) (by assumption) (by omega) (by omega) ?_ | refine w_sI (by omega) (by assumption) (by omega) (by omega) ?_ | refine w_aI (by omega) (by assumption) (by omega) (by omega) ?_ | refine w_sZ (by omega) (by assumption) (by omega) (by omega) (by decide) ?_ | refine w_pZ (by omega) (by assumption) (by decide) ?_ | refine w_dv (by omega) (by omega) (by omega) (by omega) ?_ | refine w_rm (by omega) (by omega) (by omega) (by omega) ?_) | ((with_reducible refine w_pos ?_ ?_); focus (first | assumption | trivial | exact (ile (by omega) (by omega) (by omega) (by omega)).2 (by omega) | exact (ilt (by omega) (by omega) (by omega) (by omega)).2 (by omega) | exact (ieq (by omega) (by omega) (by omega) (by omega)).2 (by omega))) | ((with_reducible refine w_neg ?_ ?_); focus (first | assumption | exact not_false | trivial | exact mt (ile (by omega) (by omega) (by omega) (by omega)).1 (by omega) | exact mt (ilt (by omega) (by omega) (by omega) (by omega)).1 (by omega) | exact mt (ieq (by omega) (by omega) (by omega) (by omega)).1 (by omega)))); skip)
  refine w_cI (go_C (J := J) rg_1 (cto_0 hc) hw hn.1 hn.2) ?_
  rintro y S ⟨hy, hS⟩
  exact w_rt ⟨hy, RS.ca hS⟩
theorem tick_Y (hR : RQ R) (hq : RMQ I π V) (hw : WR V) (hn : -2147483648 ≤ n ∧ n < 2147483648) : En (fun y => y.1 = iI (goV V n).1 ∧ QAe I J R y.2 (goV V n).2) (f_X9_tick (381, I, J, R) 373 (iI n)) := by
  have k374 := kd_374
  have hq0 := rmq_0 hq
  have hF0 : F374 I (up I 373 0 (iI 0)) := f374_u f374_r
  rw [u_X9_tick]
  refine w_pI (by omega) k374 ?_
  generalize up I 373 0 (iI 0) = I0 at *
  refine w_ck (by omega) k374 ?_
  refine w_cI (ticked_Q (J := J) hR (mto_0 hq0) hw hn) ?_
  rintro y S ⟨hy, I', rfl, g1⟩
  exact w_rt ⟨hy, I', π, rfl, g1.1, mto_kr hF0 g1⟩
theorem take_X (hRC : RC R) (hc : CR I R 1 σ V) (hw : WR V) (hl : -2147483648 ≤ l ∧ l < 2147483648) (hn : -2147483648 ≤ n ∧ n < 2147483648) : En (fun y => y.1 = iI (takV V l n).1 ∧ CAe I J R y.2 (takV V l n).2) (f_X8_take (381, I, J, R) 0 (iI l) (iI n)) := by
  have k0 := kd_0
  have k1 := rg_1.2.1
  have r0 := hRC.1
  rw [u_X8_take]
  repeat ((first | (with_reducible first | refine w_ltA ?_ | refine w_ltS ?_ | refine w_ltM ?_ | refine w_ltN ?_ | refine w_lt ?_ | refine w_jn ?_ | refine w_ck (by omega) (by assumption) ?_ | refine w_gI (by omega) (by assumption) ?_ | refine w_gR (by omega) (by assumption) (by assumption) ?_ | refine w_al (by omega) (by assumption) (by assumption) ?_ | refine w_pI (by omega) (by assumption) ?_ | refine w_set (by omega) (by assumption) (by omega) (by omega) ?_ | refine w_at (by omega) (by assumption) (by omega) (by omega) ?_ | refine w_sI (by omega) (by assumption) (by omega) (by omega) ?_ | refine w_aI (by omega) (by assumption) (by omega) (by omega) ?_ | refine w_sZ (by omega) (by assumption) (by omega) (by omega) (by decide) ?_ | refine w_pZ (by omega) (by assumption) (by decide) ?_ | refine w_dv (by omega) (by omega) (by omega) (by omega) ?_ | refine w_rm (by omega) (by omega) (by omega) (by omega) ?_) | ((with_reducible refine w_pos ?_ ?_); focus (first | assumption | trivial | exact (ile (by omega) (by omega) (by omega) (by omega)).2 (by omega) | exact (ilt (by omega) (by omega) (by omega) (by omega)).2 (by omega) | exact (ieq (by omega) (by omega) (by omega) (by omega)).2 (by omega))) | ((with_reducible refine w_neg ?_ ?_); focus (first | assumption | exact not_false | trivial | exact mt (ile (by omega) (by omega) (by omega) (by omega)).1 (by omega) | exact mt (ilt (by omega) (by omega) (by omega) (by omega)).1 (by omega) | exact mt (ieq (by omega) (by omega) (by omega) (by omega)).1 (by omega)))); skip)
  refine w_cI (take_C (J := J) rg_1 (cto_0 hc) hw hl.1 hl.2 hn.1 hn.2) ?_
  rintro y S ⟨hy, hS⟩
  exact w_rt ⟨hy, RS.ca hS⟩
theorem take_Y (hR : RQ R) (hq : RMQ I π V) (hw : WR V) (hl : -2147483648 ≤ l ∧ l < 2147483648) (hn : -2147483648 ≤ n ∧ n < 2147483648) : En (fun y => y.1 = iI (takV V l n).1 ∧ QAe I J R y.2 (takV V l n).2) (f_X9_take (381, I, J, R) 373 (iI l) (iI n)) := by
  have k374 := kd_374
  have hq0 := rmq_0 hq
  have hF0 : F374 I (up I 373 0 (iI 0)) := f374_u f374_r
  rw [u_X9_take]
  refine w_pI (by omega) k374 ?_
  generalize up I 373 0 (iI 0) = I0 at *
  refine w_cP (isTake_Q hl hn) ?_
  by_cases h : (0 ≤ l ∧ l ≤ 3) ∧ 1 ≤ n ∧ n ≤ 8
  · rw [if_pos h]
    repeat ((first | (with_reducible first | refine w_ltA ?_ | refine w_ltS ?_ | refine w_ltM ?_ | refine w_ltN ?_ | refine w_lt ?_ | refine w_jn ?_ | refine w_ck (by omega) (by assumption) ?_ | refine w_gI (by omega) (by assumption) ?_ | refine w_gR (by omega) (by assumption) (by assumption) ?_ | refine w_al (by omega) (by assumption) (by assumption) ?_ | refine w_pI (by omega) (by assumption) ?_ | refine w_set (by omega) (by assumption) (by omega) (by omega) ?_ | refine w_at (by omega) (by assumption) (by omega) (by omega) ?_ | refine w_sI (by omega) (by assumption) (by omega) (by omega) ?_ | refine w_aI (by omega) (by assumption) (by omega) (by omega) ?_ | refine w_sZ (by omega) (by assumption) (by omega) (by omega) (by decide) ?_ | refine w_pZ (by omega) (by assumption) (by decide) ?_ | refine w_dv (by omega) (by omega) (by omega) (by omega) ?_ | refine w_rm (by omega) (by omega) (by omega) (by omega) ?_) | ((with_reducible refine w_pos ?_ ?_); focus (first | assumption | trivial | exact (ile (by omega) (by omega) (by omega) (by omega)).2 (by omega) | exact (ilt (by omega) (by omega) (by omega) (by omega)).2 (by omega) | exact (ieq (by omega) (by omega) (by omega) (by omega)).2 (by omega))) | ((with_reducible refine w_neg ?_ ?_); focus (first | assumption | exact not_false | trivial | exact mt (ile (by omega) (by omega) (by omega) (by omega)).1 (by omega) | exact mt (ilt (by omega) (by omega) (by omega) (by omega)).1 (by omega) | exact mt (ieq (by omega) (by omega) (by omega) (by omega)).1 (by omega)))); skip)
    refine w_cI (taken_Q (J := J) hR (mto_0 hq0) hw h.1 h.2) ?_
    rintro y S ⟨hy, I', rfl, g1⟩
    exact w_rt ⟨hy, I', π, rfl, g1.1, mto_kr hF0 g1⟩
  · have e : takV V l n = (-1, V) := if_pos (way_no h)
    rw [if_neg h, e]
    repeat ((first | (with_reducible first | refine w_ltA ?_ | refine w_ltS ?_ | refine w_ltM ?_ | refine w_ltN ?_ | refine w_lt ?_ | refine w_jn ?_ | refine w_ck (by omega) (by assumption) ?_ | refine w_gI (by omega) (by assumption) ?_ | refine w_gR (by omega) (by assumption) (by assumption) ?_ | refine w_al (by omega) (by assumption) (by assumption) ?_ | refine w_pI (by omega) (by assumption) ?_ | refine w_set (by omega) (by assumption) (by omega) (by omega) ?_ | refine w_at (by omega) (by assumption) (by omega) (by omega) ?_ | refine w_sI (by omega) (by assumption) (by omega) (by omega) ?_ | refine w_aI (by omega) (by assumption) (by omega) (by omega) ?_ | refine w_sZ (by omega) (by assumption) (by omega) (by omega) (by decide) ?_ | refine w_pZ (by omega) (by assumption) (by decide) ?_ | refine w_dv (by omega) (by omega) (by omega) (by omega) ?_ | refine w_rm (by omega) (by omega) (by omega) (by omega) ?_) | ((with_reducible refine w_pos ?_ ?_); focus (first | assumption | trivial | exact (ile (by omega) (by omega) (by omega) (by omega)).2 (by omega) | exact (ilt (by omega) (by omega) (by omega) (by omega)).2 (by omega) | exact (ieq (by omega) (by omega) (by omega) (by omega)).2 (by omega))) | ((with_reducible refine w_neg ?_ ?_); focus (first | assumption | exact not_false | trivial | exact mt (ile (by omega) (by omega) (by omega) (by omega)).1 (by omega) | exact mt (ilt (by omega) (by omega) (by omega) (by omega)).1 (by omega) | exact mt (ieq (by omega) (by omega) (by omega) (by omega)).1 (by omega)))); skip)
    exact w_rt ⟨rfl, I0, π, rfl, hq0, f374_kr hF0⟩
theorem put_X (hRC : RC R) (hc : CR I R 1 σ V) (hw : WR V) (hl : -2147483648 ≤ l ∧ l < 2147483648) (hm : -2147483648 ≤ m ∧ m < 2147483648) : En (fun y => y.1 = iI (putV V l m).1 ∧ CAe I J R y.2 (putV V l m).2) (f_X8_put (381, I, J, R) 0 (iI l) (iI m)) := by
  have k0 := kd_0
  have k1 := rg_1.2.1
  have r0 := hRC.1
  rw [u_X8_put]
  repeat ((first | (with_reducible first | refine w_ltA ?_ | refine w_ltS ?_ | refine w_ltM ?_ | refine w_ltN ?_ | refine w_lt ?_ | refine w_jn ?_ | refine w_ck (by omega) (by assumption) ?_ | refine w_gI (by omega) (by assumption) ?_ | refine w_gR (by omega) (by assumption) (by assumption) ?_ | refine w_al (by omega) (by assumption) (by assumption) ?_ | refine w_pI (by omega) (by assumption) ?_ | refine w_set (by omega) (by assumption) (by omega) (by omega) ?_ | refine w_at (by omega) (by assumption) (by omega) (by omega) ?_ | refine w_sI (by omega) (by assumption) (by omega) (by omega) ?_ | refine w_aI (by omega) (by assumption) (by omega) (by omega) ?_ | refine w_sZ (by omega) (by assumption) (by omega) (by omega) (by decide) ?_ | refine w_pZ (by omega) (by assumption) (by decide) ?_ | refine w_dv (by omega) (by omega) (by omega) (by omega) ?_ | refine w_rm (by omega) (by omega) (by omega) (by omega) ?_) | ((with_reducible refine w_pos ?_ ?_); focus (first | assumption | trivial | exact (ile (by omega) (by omega) (by omega) (by omega)).2 (by omega) | exact (ilt (by omega) (by omega) (by omega) (by omega)).2 (by omega) | exact (ieq (by omega) (by omega) (by omega) (by omega)).2 (by omega))) | ((with_reducible refine w_neg ?_ ?_); focus (first | assumption | exact not_false | trivial | exact mt (ile (by omega) (by omega) (by omega) (by omega)).1 (by omega) | exact mt (ilt (by omega) (by omega) (by omega) (by omega)).1 (by omega) | exact mt (ieq (by omega) (by omega) (by omega) (by omega)).1 (by omega)))); skip)
  refine w_cI (put_C (J := J) rg_1 (cto_0 hc) hw hl.1 hl.2 hm.1 hm.2) ?_
  rintro y S ⟨hy, hS⟩
  exact w_rt ⟨hy, RS.ca hS⟩
theorem put_Y (hR : RQ R) (hq : RMQ I π V) (hw : WR V) (hl : -2147483648 ≤ l ∧ l < 2147483648) (hm : -2147483648 ≤ m ∧ m < 2147483648) : En (fun y => y.1 = iI (putV V l m).1 ∧ QAe I J R y.2 (putV V l m).2) (f_X9_put (381, I, J, R) 373 (iI l) (iI m)) := by
  have k374 := kd_374
  have hq0 := rmq_0 hq
  have hF0 : F374 I (up I 373 0 (iI 0)) := f374_u f374_r
  rw [u_X9_put]
  refine w_pI (by omega) k374 ?_
  generalize up I 373 0 (iI 0) = I0 at *
  refine w_in (by omega) (by omega) (by omega) (fun h => ?_) (fun h => ?_)
  · repeat ((first | (with_reducible first | refine w_ltA ?_ | refine w_ltS ?_ | refine w_ltM ?_ | refine w_ltN ?_ | refine w_lt ?_ | refine w_jn ?_ | refine w_ck (by omega) (by assumption) ?_ | refine w_gI (by omega) (by assumption) ?_ | refine w_gR (by omega) (by assumption) (by assumption) ?_ | refine w_al (by omega) (by assumption) (by assumption) ?_ | refine w_pI (by omega) (by assumption) ?_ | refine w_set (by omega) (by assumption) (by omega) (by omega) ?_ | refine w_at (by omega) (by assumption) (by omega) (by omega) ?_ | refine w_sI (by omega) (by assumption) (by omega) (by omega) ?_ | refine w_aI (by omega) (by assumption) (by omega) (by omega) ?_ | refine w_sZ (by omega) (by assumption) (by omega) (by omega) (by decide) ?_ | refine w_pZ (by omega) (by assumption) (by decide) ?_ | refine w_dv (by omega) (by omega) (by omega) (by omega) ?_ | refine w_rm (by omega) (by omega) (by omega) (by omega) ?_) | ((with_reducible refine w_pos ?_ ?_); focus (first | assumption | trivial | exact (ile (by omega) (by omega) (by omega) (by omega)).2 (by omega) | exact (ilt (by omega) (by omega) (by omega) (by omega)).2 (by omega) | exact (ieq (by omega) (by omega) (by omega) (by omega)).2 (by omega))) | ((with_reducible refine w_neg ?_ ?_); focus (first | assumption | exact not_false | trivial | exact mt (ile (by omega) (by omega) (by omega) (by omega)).1 (by omega) | exact mt (ilt (by omega) (by omega) (by omega) (by omega)).1 (by omega) | exact mt (ieq (by omega) (by omega) (by omega) (by omega)).1 (by omega)))); skip)
    refine w_cI (puts_Q (J := J) hR (mto_0 hq0) hw hl.1 hl.2 h) ?_
    rintro y S ⟨hy, I', rfl, g1⟩
    exact w_rt ⟨hy, I', π, rfl, g1.1, mto_kr hF0 g1⟩
  · have e : putV V l m = (-1, V) := by
      unfold putV
      by_cases c : m < 0
      · rw [if_pos c]
      · rw [if_neg c, if_pos (by omega)]
    rw [e]
    repeat ((first | (with_reducible first | refine w_ltA ?_ | refine w_ltS ?_ | refine w_ltM ?_ | refine w_ltN ?_ | refine w_lt ?_ | refine w_jn ?_ | refine w_ck (by omega) (by assumption) ?_ | refine w_gI (by omega) (by assumption) ?_ | refine w_gR (by omega) (by assumption) (by assumption) ?_ | refine w_al (by omega) (by assumption) (by assumption) ?_ | refine w_pI (by omega) (by assumption) ?_ | refine w_set (by omega) (by assumption) (by omega) (by omega) ?_ | refine w_at (by omega) (by assumption) (by omega) (by omega) ?_ | refine w_sI (by omega) (by assumption) (by omega) (by omega) ?_ | refine w_aI (by omega) (by assumption) (by omega) (by omega) ?_ | refine w_sZ (by omega) (by assumption) (by omega) (by omega) (by decide) ?_ | refine w_pZ (by omega) (by assumption) (by decide) ?_ | refine w_dv (by omega) (by omega) (by omega) (by omega) ?_ | refine w_rm (by omega) (by omega) (by omega) (by omega) ?_) | ((with_reducible refine w_pos ?_ ?_); focus (first | assumption | trivial | exact (ile (by omega) (by omega) (by omega) (by omega)).2 (by omega) | exact (ilt (by omega) (by omega) (by omega) (by omega)).2 (by omega) | exact (ieq (by omega) (by omega) (by omega) (by omega)).2 (by omega))) | ((with_reducible refine w_neg ?_ ?_); focus (first | assumption | exact not_false | trivial | exact mt (ile (by omega) (by omega) (by omega) (by omega)).1 (by omega) | exact mt (ilt (by omega) (by omega) (by omega) (by omega)).1 (by omega) | exact mt (ieq (by omega) (by omega) (by omega) (by omega)).1 (by omega)))); skip)
    exact w_rt ⟨rfl, I0, π, rfl, hq0, f374_kr hF0⟩
theorem end_X (hRC : RC R) (hc : CR I R 1 σ V) (hw : WR V) (hl : -2147483648 ≤ l ∧ l < 2147483648) : En (fun y => y.1 = iI (endV V l).1 ∧ CAe I J R y.2 (endV V l).2) (f_X8_end (381, I, J, R) 0 (iI l)) := by
  have k0 := kd_0
  have k1 := rg_1.2.1
  have r0 := hRC.1
  rw [u_X8_end]
  repeat ((first | (with_reducible first | refine w_ltA ?_ | refine w_ltS ?_ | refine w_ltM ?_ | refine w_ltN ?_ | refine w_lt ?_ | refine w_jn ?_ | refine w_ck (by omega) (by assumption) ?_ | refine w_gI (by omega) (by assumption) ?_ | refine w_gR (by omega) (by assumption) (by assumption) ?_ | refine w_al (by omega) (by assumption) (by assumption) ?_ | refine w_pI (by omega) (by assumption) ?_ | refine w_set (by omega) (by assumption) (by omega) (by omega) ?_ | refine w_at (by omega) (by assumption) (by omega) (by omega) ?_ | refine w_sI (by omega) (by assumption) (by omega) (by omega) ?_ | refine w_aI (by omega) (by assumption) (by omega) (by omega) ?_ | refine w_sZ (by omega) (by assumption) (by omega) (by omega) (by decide) ?_ | refine w_pZ (by omega) (by assumption) (by decide) ?_ | refine w_dv (by omega) (by omega) (by omega) (by omega) ?_ | refine w_rm (by omega) (by omega) (by omega) (by omega) ?_) | ((with_reducible refine w_pos ?_ ?_); focus (first | assumption | trivial | exact (ile (by omega) (by omega) (by omega) (by omega)).2 (by omega) | exact (ilt (by omega) (by omega) (by omega) (by omega)).2 (by omega) | exact (ieq (by omega) (by omega) (by omega) (by omega)).2 (by omega))) | ((with_reducible refine w_neg ?_ ?_); focus (first | assumption | exact not_false | trivial | exact mt (ile (by omega) (by omega) (by omega) (by omega)).1 (by omega) | exact mt (ilt (by omega) (by omega) (by omega) (by omega)).1 (by omega) | exact mt (ieq (by omega) (by omega) (by omega) (by omega)).1 (by omega)))); skip)
  refine w_cI (end_C (J := J) rg_1 (cto_0 hc) hw hl.1 hl.2) ?_
  rintro y S ⟨hy, hS⟩
  exact w_rt ⟨hy, RS.ca hS⟩
theorem end_Y (hR : RQ R) (hq : RMQ I π V) (hw : WR V) (hl : -2147483648 ≤ l ∧ l < 2147483648) : En (fun y => y.1 = iI (endV V l).1 ∧ QAe I J R y.2 (endV V l).2) (f_X9_end (381, I, J, R) 373 (iI l)) := by
  have k374 := kd_374
  have hq0 := rmq_0 hq
  have hF0 : F374 I (up I 373 0 (iI 0)) := f374_u f374_r
  rw [u_X9_end]
  refine w_pI (by omega) k374 ?_
  generalize up I 373 0 (iI 0) = I0 at *
  refine w_ck (by omega) k374 ?_
  refine w_cI (ended_Q (J := J) hR (mto_0 hq0) hw hl.1 hl.2) ?_
  rintro y S ⟨hy, I', rfl, g1⟩
  exact w_rt ⟨hy, I', π, rfl, g1.1, mto_kr hF0 g1⟩
theorem drop_X (hRC : RC R) (hc : CR I R 1 σ V) (hw : WR V) (hl : -2147483648 ≤ l ∧ l < 2147483648) : En (fun y => y.1 = iI (drpV V l).1 ∧ CAe I J R y.2 (drpV V l).2) (f_X8_drop (381, I, J, R) 0 (iI l)) := by
  have k0 := kd_0
  have k1 := rg_1.2.1
  have r0 := hRC.1
  rw [u_X8_drop]
  repeat ((first | (with_reducible first | refine w_ltA ?_ | refine w_ltS ?_ | refine w_ltM ?_ | refine w_ltN ?_ | refine w_lt ?_ | refine w_jn ?_ | refine w_ck (by omega) (by assumption) ?_ | refine w_gI (by omega) (by assumption) ?_ | refine w_gR (by omega) (by assumption) (by assumption) ?_ | refine w_al (by omega) (by assumption) (by assumption) ?_ | refine w_pI (by omega) (by assumption) ?_ | refine w_set (by omega) (by assumption) (by omega) (by omega) ?_ | refine w_at (by omega) (by assumption) (by omega) (by omega) ?_ | refine w_sI (by omega) (by assumption) (by omega) (by omega) ?_ | refine w_aI (by omega) (by assumption) (by omega) (by omega) ?_ | refine w_sZ (by omega) (by assumption) (by omega) (by omega) (by decide) ?_ | refine w_pZ (by omega) (by assumption) (by decide) ?_ | refine w_dv (by omega) (by omega) (by omega) (by omega) ?_ | refine w_rm (by omega) (by omega) (by omega) (by omega) ?_) | ((with_reducible refine w_pos ?_ ?_); focus (first | assumption | trivial | exact (ile (by omega) (by omega) (by omega) (by omega)).2 (by omega) | exact (ilt (by omega) (by omega) (by omega) (by omega)).2 (by omega) | exact (ieq (by omega) (by omega) (by omega) (by omega)).2 (by omega))) | ((with_reducible refine w_neg ?_ ?_); focus (first | assumption | exact not_false | trivial | exact mt (ile (by omega) (by omega) (by omega) (by omega)).1 (by omega) | exact mt (ilt (by omega) (by omega) (by omega) (by omega)).1 (by omega) | exact mt (ieq (by omega) (by omega) (by omega) (by omega)).1 (by omega)))); skip)
  refine w_cI (drop_C (J := J) rg_1 (cto_0 hc) hw hl.1 hl.2) ?_
  rintro y S ⟨hy, hS⟩
  exact w_rt ⟨hy, RS.ca hS⟩
theorem drop_Y (hR : RQ R) (hq : RMQ I π V) (hw : WR V) (hl : -2147483648 ≤ l ∧ l < 2147483648) : En (fun y => y.1 = iI (drpV V l).1 ∧ QAe I J R y.2 (drpV V l).2) (f_X9_drop (381, I, J, R) 373 (iI l)) := by
  have k374 := kd_374
  have hq0 := rmq_0 hq
  have hF0 : F374 I (up I 373 0 (iI 0)) := f374_u f374_r
  rw [u_X9_drop]
  refine w_pI (by omega) k374 ?_
  generalize up I 373 0 (iI 0) = I0 at *
  refine w_ck (by omega) k374 ?_
  refine w_cI (dropped_Q (J := J) hR (mto_0 hq0) hw hl.1 hl.2) ?_
  rintro y S ⟨hy, I', rfl, g1⟩
  exact w_rt ⟨hy, I', π, rfl, g1.1, mto_kr hF0 g1⟩
theorem swap_X (hRC : RC R) (hc : CR I R 1 σ V) (hw : WR V) (hf : f = 0 ∨ f = 1) : En (fun y => y.1 = iI (swpV V f).1 ∧ CAe I J R y.2 (swpV V f).2) (f_X8_swap (381, I, J, R) 0 (iI f)) := by
  have k0 := kd_0
  have k1 := rg_1.2.1
  have r0 := hRC.1
  rw [u_X8_swap]
  repeat ((first | (with_reducible first | refine w_ltA ?_ | refine w_ltS ?_ | refine w_ltM ?_ | refine w_ltN ?_ | refine w_lt ?_ | refine w_jn ?_ | refine w_ck (by omega) (by assumption) ?_ | refine w_gI (by omega) (by assumption) ?_ | refine w_gR (by omega) (by assumption) (by assumption) ?_ | refine w_al (by omega) (by assumption) (by assumption) ?_ | refine w_pI (by omega) (by assumption) ?_ | refine w_set (by omega) (by assumption) (by omega) (by omega) ?_ | refine w_at (by omega) (by assumption) (by omega) (by omega) ?_ | refine w_sI (by omega) (by assumption) (by omega) (by omega) ?_ | refine w_aI (by omega) (by assumption) (by omega) (by omega) ?_ | refine w_sZ (by omega) (by assumption) (by omega) (by omega) (by decide) ?_ | refine w_pZ (by omega) (by assumption) (by decide) ?_ | refine w_dv (by omega) (by omega) (by omega) (by omega) ?_ | refine w_rm (by omega) (by omega) (by omega) (by omega) ?_) | ((with_reducible refine w_pos ?_ ?_); focus (first | assumption | trivial | exact (ile (by omega) (by omega) (by omega) (by omega)).2 (by omega) | exact (ilt (by omega) (by omega) (by omega) (by omega)).2 (by omega) | exact (ieq (by omega) (by omega) (by omega) (by omega)).2 (by omega))) | ((with_reducible refine w_neg ?_ ?_); focus (first | assumption | exact not_false | trivial | exact mt (ile (by omega) (by omega) (by omega) (by omega)).1 (by omega) | exact mt (ilt (by omega) (by omega) (by omega) (by omega)).1 (by omega) | exact mt (ieq (by omega) (by omega) (by omega) (by omega)).1 (by omega)))); skip)
  refine w_cI (swap_C (J := J) rg_1 (cto_0 hc) hw hf) ?_
  rintro y S ⟨hy, hS⟩
  exact w_rt ⟨hy, RS.ca hS⟩
theorem swap_Y (hR : RQ R) (hq : RMQ I π V) (hw : WR V) (hf : f = 0 ∨ f = 1) : En (fun y => y.1 = iI (swpV V f).1 ∧ QAe I J R y.2 (swpV V f).2) (f_X9_swap (381, I, J, R) 373 (iI f)) := by
  have k374 := kd_374
  have hq0 := rmq_0 hq
  have hF0 : F374 I (up I 373 0 (iI 0)) := f374_u f374_r
  rw [u_X9_swap]
  refine w_pI (by omega) k374 ?_
  generalize up I 373 0 (iI 0) = I0 at *
  refine w_ck (by omega) k374 ?_
  refine w_cI (swapped_Q (J := J) hR (mto_0 hq0) hw hf) ?_
  rintro y S ⟨hy, I', π', rfl, g1⟩
  exact w_rt ⟨hy, I', π', rfl, g1.1, mto_kr hF0 g1⟩
theorem resize_X (hRC : RC R) (hc : CR I R 1 σ V) (hw : WR V) (hn : -2147483648 ≤ n ∧ n < 2147483648) : En (fun y => y.1 = iI (rszV V n).1 ∧ CAe I J R y.2 (rszV V n).2) (f_X8_resize (381, I, J, R) 0 (iI n)) := by
  have k0 := kd_0
  have k1 := rg_1.2.1
  have r0 := hRC.1
  rw [u_X8_resize]
  repeat ((first | (with_reducible first | refine w_ltA ?_ | refine w_ltS ?_ | refine w_ltM ?_ | refine w_ltN ?_ | refine w_lt ?_ | refine w_jn ?_ | refine w_ck (by omega) (by assumption) ?_ | refine w_gI (by omega) (by assumption) ?_ | refine w_gR (by omega) (by assumption) (by assumption) ?_ | refine w_al (by omega) (by assumption) (by assumption) ?_ | refine w_pI (by omega) (by assumption) ?_ | refine w_set (by omega) (by assumption) (by omega) (by omega) ?_ | refine w_at (by omega) (by assumption) (by omega) (by omega) ?_ | refine w_sI (by omega) (by assumption) (by omega) (by omega) ?_ | refine w_aI (by omega) (by assumption) (by omega) (by omega) ?_ | refine w_sZ (by omega) (by assumption) (by omega) (by omega) (by decide) ?_ | refine w_pZ (by omega) (by assumption) (by decide) ?_ | refine w_dv (by omega) (by omega) (by omega) (by omega) ?_ | refine w_rm (by omega) (by omega) (by omega) (by omega) ?_) | ((with_reducible refine w_pos ?_ ?_); focus (first | assumption | trivial | exact (ile (by omega) (by omega) (by omega) (by omega)).2 (by omega) | exact (ilt (by omega) (by omega) (by omega) (by omega)).2 (by omega) | exact (ieq (by omega) (by omega) (by omega) (by omega)).2 (by omega))) | ((with_reducible refine w_neg ?_ ?_); focus (first | assumption | exact not_false | trivial | exact mt (ile (by omega) (by omega) (by omega) (by omega)).1 (by omega) | exact mt (ilt (by omega) (by omega) (by omega) (by omega)).1 (by omega) | exact mt (ieq (by omega) (by omega) (by omega) (by omega)).1 (by omega)))); skip)
  refine w_cI (rsz_C (J := J) rg_1 (cto_0 hc) hw hn.1 hn.2) ?_
  rintro y S ⟨hy, hS⟩
  exact w_rt ⟨hy, RS.ca hS⟩
theorem resize_Y (hR : RQ R) (hq : RMQ I π V) (hw : WR V) (hn : -2147483648 ≤ n ∧ n < 2147483648) : En (fun y => y.1 = iI (rszV V n).1 ∧ QAe I J R y.2 (rszV V n).2) (f_X9_resize (381, I, J, R) 373 (iI n)) := by
  have k374 := kd_374
  have hq0 := rmq_0 hq
  have hF0 : F374 I (up I 373 0 (iI 0)) := f374_u f374_r
  rw [u_X9_resize]
  refine w_pI (by omega) k374 ?_
  generalize up I 373 0 (iI 0) = I0 at *
  refine w_ck (by omega) k374 ?_
  refine w_cI (resized_Q (J := J) hR (mto_0 hq0) hw hn) ?_
  rintro y S ⟨hy, I', π', rfl, g1⟩
  exact w_rt ⟨hy, I', π', rfl, g1.1, mto_kr hF0 g1⟩
theorem read_X (hRC : RC R) (hc : CR I R 1 σ V) (hw : WR V) : En (fun y => y.1 = iI (readV V).1 ∧ CAe I J R y.2 (readV V).2) (f_X8_read (381, I, J, R) 0) := by
  have k0 := kd_0
  have k1 := rg_1.2.1
  have r0 := hRC.1
  rw [u_X8_read]
  repeat ((first | (with_reducible first | refine w_ltA ?_ | refine w_ltS ?_ | refine w_ltM ?_ | refine w_ltN ?_ | refine w_lt ?_ | refine w_jn ?_ | refine w_ck (by omega) (by assumption) ?_ | refine w_gI (by omega) (by assumption) ?_ | refine w_gR (by omega) (by assumption) (by assumption) ?_ | refine w_al (by omega) (by assumption) (by assumption) ?_ | refine w_pI (by omega) (by assumption) ?_ | refine w_set (by omega) (by assumption) (by omega) (by omega) ?_ | refine w_at (by omega) (by assumption) (by omega) (by omega) ?_ | refine w_sI (by omega) (by assumption) (by omega) (by omega) ?_ | refine w_aI (by omega) (by assumption) (by omega) (by omega) ?_ | refine w_sZ (by omega) (by assumption) (by omega) (by omega) (by decide) ?_ | refine w_pZ (by omega) (by assumption) (by decide) ?_ | refine w_dv (by omega) (by omega) (by omega) (by omega) ?_ | refine w_rm (by omega) (by omega) (by omega) (by omega) ?_) | ((with_reducible refine w_pos ?_ ?_); focus (first | assumption | trivial | exact (ile (by omega) (by omega) (by omega) (by omega)).2 (by omega) | exact (ilt (by omega) (by omega) (by omega) (by omega)).2 (by omega) | exact (ieq (by omega) (by omega) (by omega) (by omega)).2 (by omega))) | ((with_reducible refine w_neg ?_ ?_); focus (first | assumption | exact not_false | trivial | exact mt (ile (by omega) (by omega) (by omega) (by omega)).1 (by omega) | exact mt (ilt (by omega) (by omega) (by omega) (by omega)).1 (by omega) | exact mt (ieq (by omega) (by omega) (by omega) (by omega)).1 (by omega)))); skip)
  refine w_cI (read_C (J := J) rg_1 (cto_0 hc) hw) ?_
  rintro y S ⟨hy, I', rfl, g1⟩
  exact w_rt ⟨hy, I', R, σ, rfl, g1.1, g1.fc⟩
theorem read_Y (hR : RQ R) (hq : RMQ I π V) (hw : WR V) : En (fun y => y.1 = iI (readV V).1 ∧ QAe I J R y.2 (readV V).2) (f_X9_read (381, I, J, R) 373) := by
  have k374 := kd_374
  have hq0 := rmq_0 hq
  have hF0 : F374 I (up I 373 0 (iI 0)) := f374_u f374_r
  rw [u_X9_read]
  refine w_pI (by omega) k374 ?_
  generalize up I 373 0 (iI 0) = I0 at *
  refine w_ck (by omega) k374 ?_
  refine w_cI (readOne_Q (J := J) hR (mto_0 hq0) hw) ?_
  rintro y S ⟨hy, I', rfl, g1⟩
  exact w_rt ⟨hy, I', π, rfl, g1.1, mto_kr hF0 g1⟩
theorem mask_X (hRC : RC R) (hc : CR I R 1 σ V) (hw : WR V) (hn : -2147483648 ≤ n ∧ n < 2147483648) : En (fun y => y.1 = iI (mskV V n).1 ∧ CAe I J R y.2 (mskV V n).2) (f_X8_mask (381, I, J, R) 0 (iI n)) := by
  have k0 := kd_0
  have k1 := rg_1.2.1
  have r0 := hRC.1
  rw [u_X8_mask]
  repeat ((first | (with_reducible first | refine w_ltA ?_ | refine w_ltS ?_ | refine w_ltM ?_ | refine w_ltN ?_ | refine w_lt ?_ | refine w_jn ?_ | refine w_ck (by omega) (by assumption) ?_ | refine w_gI (by omega) (by assumption) ?_ | refine w_gR (by omega) (by assumption) (by assumption) ?_ | refine w_al (by omega) (by assumption) (by assumption) ?_ | refine w_pI (by omega) (by assumption) ?_ | refine w_set (by omega) (by assumption) (by omega) (by omega) ?_ | refine w_at (by omega) (by assumption) (by omega) (by omega) ?_ | refine w_sI (by omega) (by assumption) (by omega) (by omega) ?_ | refine w_aI (by omega) (by assumption) (by omega) (by omega) ?_ | refine w_sZ (by omega) (by assumption) (by omega) (by omega) (by decide) ?_ | refine w_pZ (by omega) (by assumption) (by decide) ?_ | refine w_dv (by omega) (by omega) (by omega) (by omega) ?_ | refine w_rm (by omega) (by omega) (by omega) (by omega) ?_) | ((with_reducible refine w_pos ?_ ?_); focus (first | assumption | trivial | exact (ile (by omega) (by omega) (by omega) (by omega)).2 (by omega) | exact (ilt (by omega) (by omega) (by omega) (by omega)).2 (by omega) | exact (ieq (by omega) (by omega) (by omega) (by omega)).2 (by omega))) | ((with_reducible refine w_neg ?_ ?_); focus (first | assumption | exact not_false | trivial | exact mt (ile (by omega) (by omega) (by omega) (by omega)).1 (by omega) | exact mt (ilt (by omega) (by omega) (by omega) (by omega)).1 (by omega) | exact mt (ieq (by omega) (by omega) (by omega) (by omega)).1 (by omega)))); skip)
  refine w_cI (msk_C (J := J) rg_1 (cto_0 hc) hw hn.1 hn.2) ?_
  rintro y S ⟨hy, hS⟩
  have hy : y = iI (mskV V n).1 := hy
  subst hy
  rcases msk_01 (V := V) (l := n) with hz | hz
  · rw [hz]
    exact w_rz0 ⟨rfl, RS.ca hS⟩
  · rw [hz]
    exact w_rz1 ⟨rfl, RS.ca hS⟩
theorem mask_Y (hR : RQ R) (hq : RMQ I π V) (hw : WR V) (hn : -2147483648 ≤ n ∧ n < 2147483648) : En (fun y => y.1 = iI (mskV V n).1 ∧ QAe I J R y.2 (mskV V n).2) (f_X9_mask (381, I, J, R) 373 (iI n)) := by
  have k374 := kd_374
  have hq0 := rmq_0 hq
  have hF0 : F374 I (up I 373 0 (iI 0)) := f374_u f374_r
  rw [u_X9_mask]
  refine w_pI (by omega) k374 ?_
  generalize up I 373 0 (iI 0) = I0 at *
  refine w_ck (by omega) k374 ?_
  refine w_cI (masked_Q (J := J) hR (mto_0 hq0) hw hn) ?_
  rintro y S ⟨hy, I', rfl, g1⟩
  have hy : y = iI (mskV V n).1 := hy
  subst hy
  rcases msk_01 (V := V) (l := n) with hz | hz
  · rw [hz]
    exact w_rz0 ⟨rfl, I', π, rfl, g1.1, mto_kr hF0 g1⟩
  · rw [hz]
    exact w_rz1 ⟨rfl, I', π, rfl, g1.1, mto_kr hF0 g1⟩
theorem mode_X (hRC : RC R) (hc : CR I R 1 σ V) (hw : WR V) (ho : o = 0 ∨ o = 1) : En (fun y => y.1 = iI (modA V o) ∧ CAe I J R y.2 (modV V o)) (f_X8_mode (381, I, J, R) 0 (iI o)) := by
  have k0 := kd_0
  have k1 := rg_1.2.1
  have r0 := hRC.1
  have hb := hw.1
  unfold WB at hb
  have s10 := cr_s hc 10 (by decide)
  have g := cto_up0 (cto_0 hc) 10 o
  have ho' : iI o = 0 ∨ iI o = 1 := by
    rcases ho with h | h
    · exact Or.inl (by rw [h]; rfl)
    · exact Or.inr (by rw [h]; rfl)
  rw [u_X8_mode]
  unfold modA
  by_cases h : V.2 0 10 = o
  · rw [if_pos h]
    repeat ((first | (with_reducible first | refine w_pZ (by omega) (by assumption) (by assumption) ?_ | refine w_ltA ?_ | refine w_ltS ?_ | refine w_ltM ?_ | refine w_ltN ?_ | refine w_lt ?_ | refine w_jn ?_ | refine w_ck (by omega) (by assumption) ?_ | refine w_gI (by omega) (by assumption) ?_ | refine w_gR (by omega) (by assumption) (by assumption) ?_ | refine w_al (by omega) (by assumption) (by assumption) ?_ | refine w_pI (by omega) (by assumption) ?_ | refine w_set (by omega) (by assumption) (by omega) (by omega) ?_ | refine w_at (by omega) (by assumption) (by omega) (by omega) ?_ | refine w_sI (by omega) (by assumption) (by omega) (by omega) ?_ | refine w_aI (by omega) (by assumption) (by omega) (by omega) ?_ | refine w_sZ (by omega) (by assumption) (by omega) (by omega) (by decide) ?_ | refine w_pZ (by omega) (by assumption) (by decide) ?_ | refine w_dv (by omega) (by omega) (by omega) (by omega) ?_ | refine w_rm (by omega) (by omega) (by omega) (by omega) ?_) | ((with_reducible refine w_pos ?_ ?_); focus (first | assumption | trivial | exact (ile (by omega) (by omega) (by omega) (by omega)).2 (by omega) | exact (ilt (by omega) (by omega) (by omega) (by omega)).2 (by omega) | exact (ieq (by omega) (by omega) (by omega) (by omega)).2 (by omega))) | ((with_reducible refine w_neg ?_ ?_); focus (first | assumption | exact not_false | trivial | exact mt (ile (by omega) (by omega) (by omega) (by omega)).1 (by omega) | exact mt (ilt (by omega) (by omega) (by omega) (by omega)).1 (by omega) | exact mt (ieq (by omega) (by omega) (by omega) (by omega)).1 (by omega)))); try simp (disch := omega) only [s10])
    exact w_rz0 ⟨rfl, _, R, σ, rfl, g.1, g.fc⟩
  · rw [if_neg h]
    repeat ((first | (with_reducible first | refine w_pZ (by omega) (by assumption) (by assumption) ?_ | refine w_ltA ?_ | refine w_ltS ?_ | refine w_ltM ?_ | refine w_ltN ?_ | refine w_lt ?_ | refine w_jn ?_ | refine w_ck (by omega) (by assumption) ?_ | refine w_gI (by omega) (by assumption) ?_ | refine w_gR (by omega) (by assumption) (by assumption) ?_ | refine w_al (by omega) (by assumption) (by assumption) ?_ | refine w_pI (by omega) (by assumption) ?_ | refine w_set (by omega) (by assumption) (by omega) (by omega) ?_ | refine w_at (by omega) (by assumption) (by omega) (by omega) ?_ | refine w_sI (by omega) (by assumption) (by omega) (by omega) ?_ | refine w_aI (by omega) (by assumption) (by omega) (by omega) ?_ | refine w_sZ (by omega) (by assumption) (by omega) (by omega) (by decide) ?_ | refine w_pZ (by omega) (by assumption) (by decide) ?_ | refine w_dv (by omega) (by omega) (by omega) (by omega) ?_ | refine w_rm (by omega) (by omega) (by omega) (by omega) ?_) | ((with_reducible refine w_pos ?_ ?_); focus (first | assumption | trivial | exact (ile (by omega) (by omega) (by omega) (by omega)).2 (by omega) | exact (ilt (by omega) (by omega) (by omega) (by omega)).2 (by omega) | exact (ieq (by omega) (by omega) (by omega) (by omega)).2 (by omega))) | ((with_reducible refine w_neg ?_ ?_); focus (first | assumption | exact not_false | trivial | exact mt (ile (by omega) (by omega) (by omega) (by omega)).1 (by omega) | exact mt (ilt (by omega) (by omega) (by omega) (by omega)).1 (by omega) | exact mt (ieq (by omega) (by omega) (by omega) (by omega)).1 (by omega)))); try simp (disch := omega) only [s10])
    exact w_rz1 ⟨rfl, _, R, σ, rfl, g.1, g.fc⟩
theorem mode_Y (hR : RQ R) (hq : RMQ I π V) (hw : WR V) (ho : o = 0 ∨ o = 1) : En (fun y => y.1 = iI (modA V o) ∧ QAe I J R y.2 (modV V o)) (f_X9_mode (381, I, J, R) 373 (iI o)) := by
  have k374 := kd_374
  have k375 := kd_375
  have l375 := ln_375
  have rq1 := hR.1
  have hb := hw.1
  unfold WB at hb
  have hq0 := rmq_0 hq
  have hF0 : F374 I (up I 373 0 (iI 0)) := f374_u f374_r
  rw [u_X9_mode]
  unfold modA
  refine w_pI (by omega) k374 ?_
  generalize up I 373 0 (iI 0) = I0 at *
  have m2 : I0 374 (Int.toNat 2) = iI (V.2 0 10) := hq0.s 2 (by decide)
  have g := mto_s (mto_0 hq0) 2 (g := 0) (k := 10) (by decide) o (by decide) (by decide)
  refine w_jnP (fun x => x = iI o) ?_ ?_
  · rintro x rfl
    by_cases h : V.2 0 10 = o
    · rw [if_pos h]
      repeat ((first | (with_reducible first | refine w_ltA ?_ | refine w_ltS ?_ | refine w_ltM ?_ | refine w_ltN ?_ | refine w_lt ?_ | refine w_jn ?_ | refine w_ck (by omega) (by assumption) ?_ | refine w_gI (by omega) (by assumption) ?_ | refine w_gR (by omega) (by assumption) (by assumption) ?_ | refine w_al (by omega) (by assumption) (by assumption) ?_ | refine w_pI (by omega) (by assumption) ?_ | refine w_set (by omega) (by assumption) (by omega) (by omega) ?_ | refine w_at (by omega) (by assumption) (by omega) (by omega) ?_ | refine w_sI (by omega) (by assumption) (by omega) (by omega) ?_ | refine w_aI (by omega) (by assumption) (by omega) (by omega) ?_ | refine w_sZ (by omega) (by assumption) (by omega) (by omega) (by decide) ?_ | refine w_pZ (by omega) (by assumption) (by decide) ?_ | refine w_dv (by omega) (by omega) (by omega) (by omega) ?_ | refine w_rm (by omega) (by omega) (by omega) (by omega) ?_) | ((with_reducible refine w_pos ?_ ?_); focus (first | assumption | trivial | exact (ile (by omega) (by omega) (by omega) (by omega)).2 (by omega) | exact (ilt (by omega) (by omega) (by omega) (by omega)).2 (by omega) | exact (ieq (by omega) (by omega) (by omega) (by omega)).2 (by omega))) | ((with_reducible refine w_neg ?_ ?_); focus (first | assumption | exact not_false | trivial | exact mt (ile (by omega) (by omega) (by omega) (by omega)).1 (by omega) | exact mt (ilt (by omega) (by omega) (by omega) (by omega)).1 (by omega) | exact mt (ieq (by omega) (by omega) (by omega) (by omega)).1 (by omega)))); try simp (disch := omega) only [m2])
      exact w_rz0 ⟨rfl, _, π, rfl, g.1, mto_kr hF0 g⟩
    · rw [if_neg h]
      repeat ((first | (with_reducible first | refine w_ltA ?_ | refine w_ltS ?_ | refine w_ltM ?_ | refine w_ltN ?_ | refine w_lt ?_ | refine w_jn ?_ | refine w_ck (by omega) (by assumption) ?_ | refine w_gI (by omega) (by assumption) ?_ | refine w_gR (by omega) (by assumption) (by assumption) ?_ | refine w_al (by omega) (by assumption) (by assumption) ?_ | refine w_pI (by omega) (by assumption) ?_ | refine w_set (by omega) (by assumption) (by omega) (by omega) ?_ | refine w_at (by omega) (by assumption) (by omega) (by omega) ?_ | refine w_sI (by omega) (by assumption) (by omega) (by omega) ?_ | refine w_aI (by omega) (by assumption) (by omega) (by omega) ?_ | refine w_sZ (by omega) (by assumption) (by omega) (by omega) (by decide) ?_ | refine w_pZ (by omega) (by assumption) (by decide) ?_ | refine w_dv (by omega) (by omega) (by omega) (by omega) ?_ | refine w_rm (by omega) (by omega) (by omega) (by omega) ?_) | ((with_reducible refine w_pos ?_ ?_); focus (first | assumption | trivial | exact (ile (by omega) (by omega) (by omega) (by omega)).2 (by omega) | exact (ilt (by omega) (by omega) (by omega) (by omega)).2 (by omega) | exact (ieq (by omega) (by omega) (by omega) (by omega)).2 (by omega))) | ((with_reducible refine w_neg ?_ ?_); focus (first | assumption | exact not_false | trivial | exact mt (ile (by omega) (by omega) (by omega) (by omega)).1 (by omega) | exact mt (ilt (by omega) (by omega) (by omega) (by omega)).1 (by omega) | exact mt (ieq (by omega) (by omega) (by omega) (by omega)).1 (by omega)))); try simp (disch := omega) only [m2])
      exact w_rz1 ⟨rfl, _, π, rfl, g.1, mto_kr hF0 g⟩
  · intro j2 hj2
    by_cases h : o = 0
    · repeat ((first | (with_reducible first | refine w_ltA ?_ | refine w_ltS ?_ | refine w_ltM ?_ | refine w_ltN ?_ | refine w_lt ?_ | refine w_jn ?_ | refine w_ck (by omega) (by assumption) ?_ | refine w_gI (by omega) (by assumption) ?_ | refine w_gR (by omega) (by assumption) (by assumption) ?_ | refine w_al (by omega) (by assumption) (by assumption) ?_ | refine w_pI (by omega) (by assumption) ?_ | refine w_set (by omega) (by assumption) (by omega) (by omega) ?_ | refine w_at (by omega) (by assumption) (by omega) (by omega) ?_ | refine w_sI (by omega) (by assumption) (by omega) (by omega) ?_ | refine w_aI (by omega) (by assumption) (by omega) (by omega) ?_ | refine w_sZ (by omega) (by assumption) (by omega) (by omega) (by decide) ?_ | refine w_pZ (by omega) (by assumption) (by decide) ?_ | refine w_dv (by omega) (by omega) (by omega) (by omega) ?_ | refine w_rm (by omega) (by omega) (by omega) (by omega) ?_) | ((with_reducible refine w_pos ?_ ?_); focus (first | assumption | trivial | exact (ile (by omega) (by omega) (by omega) (by omega)).2 (by omega) | exact (ilt (by omega) (by omega) (by omega) (by omega)).2 (by omega) | exact (ieq (by omega) (by omega) (by omega) (by omega)).2 (by omega))) | ((with_reducible refine w_neg ?_ ?_); focus (first | assumption | exact not_false | trivial | exact mt (ile (by omega) (by omega) (by omega) (by omega)).1 (by omega) | exact mt (ilt (by omega) (by omega) (by omega) (by omega)).1 (by omega) | exact mt (ieq (by omega) (by omega) (by omega) (by omega)).1 (by omega)))); skip)
      exact hj2 _ (by rw [h])
    · repeat ((first | (with_reducible first | refine w_ltA ?_ | refine w_ltS ?_ | refine w_ltM ?_ | refine w_ltN ?_ | refine w_lt ?_ | refine w_jn ?_ | refine w_ck (by omega) (by assumption) ?_ | refine w_gI (by omega) (by assumption) ?_ | refine w_gR (by omega) (by assumption) (by assumption) ?_ | refine w_al (by omega) (by assumption) (by assumption) ?_ | refine w_pI (by omega) (by assumption) ?_ | refine w_set (by omega) (by assumption) (by omega) (by omega) ?_ | refine w_at (by omega) (by assumption) (by omega) (by omega) ?_ | refine w_sI (by omega) (by assumption) (by omega) (by omega) ?_ | refine w_aI (by omega) (by assumption) (by omega) (by omega) ?_ | refine w_sZ (by omega) (by assumption) (by omega) (by omega) (by decide) ?_ | refine w_pZ (by omega) (by assumption) (by decide) ?_ | refine w_dv (by omega) (by omega) (by omega) (by omega) ?_ | refine w_rm (by omega) (by omega) (by omega) (by omega) ?_) | ((with_reducible refine w_pos ?_ ?_); focus (first | assumption | trivial | exact (ile (by omega) (by omega) (by omega) (by omega)).2 (by omega) | exact (ilt (by omega) (by omega) (by omega) (by omega)).2 (by omega) | exact (ieq (by omega) (by omega) (by omega) (by omega)).2 (by omega))) | ((with_reducible refine w_neg ?_ ?_); focus (first | assumption | exact not_false | trivial | exact mt (ile (by omega) (by omega) (by omega) (by omega)).1 (by omega) | exact mt (ilt (by omega) (by omega) (by omega) (by omega)).1 (by omega) | exact mt (ieq (by omega) (by omega) (by omega) (by omega)).1 (by omega)))); skip)
      exact hj2 _ (by rw [show o = 1 by omega])
end ACT
