/-! RINGS: the class's take -/
theorem w_jnP {α β : Type} {Q : β → Prop} {e : α → Option β} {f : (α → Option β) → Option β} (Jp : α → Prop) (h1 : ∀ x, Jp x → En Q (e x)) (h2 : ∀ j : α → Option β, (∀ x, Jp x → En Q (j x)) → En Q (f j)) : En Q (jn_ e f) := h2 e h1
/-- an extension counted -/
def extV (V : RV) : RV := if 15 < pDelta (tlP V) (V.2 0 11) then upG V 5 13 (V.2 5 13 + 1) else V
def mxI (a b : Int) : Int := if a < b then b else a
def opnV (V : RV) (l n : Int) : RV :=
  let W := opn4 (extV V) (V.2 5 6) l n
  let t1 := upG W 5 (20 + l).toNat (W.2 5 (20 + l).toNat + 1)
  let t2 := upG t1 5 18 (mxI (t1.2 5 18) (pDelta (tlP V) (V.2 0 11)))
  upG t2 5 19 (mxI (t2.2 5 19) (V.2 0 15 + 1))
theorem extV_1 {V : RV} : (extV V).1 = V.1 := by
  unfold extV
  split <;> rfl
theorem extV_2 {V : RV} {g k : Nat} (h : ¬ (g = 5 ∧ k = 13)) : (extV V).2 g k = V.2 g k := by
  unfold extV
  split
  · exact upG_ne h
  · rfl
theorem wr_ext {V : RV} (hw : WR V) : WR (extV V) := by
  unfold extV
  split
  · exact wr_t hw _ _ (Or.inl (by omega))
  · exact hw
theorem extV_t {V : RV} : plc (extV V) ((extV V).2 0 13 - 1) = plc V (V.2 0 13 - 1) ∧ tlP (extV V) = tlP V := by
  have e : plc (extV V) ((extV V).2 0 13 - 1) = plc V (V.2 0 13 - 1) := by
    unfold plc
    rw [extV_2 (by omega), extV_2 (by omega), extV_2 (by omega)]
  refine ⟨e, ?_⟩
  unfold tlP
  rw [e, extV_1]
theorem extV_o {V : RV} {m l n : Int} : opn4 (extV V) m l n = upG (upG (upG (upP (upG (extV V) 2 (V.2 0 15).toNat (plc V (V.2 0 13 - 1))) (plc V (V.2 0 13 - 1)).toNat (layP (tlP V) m l (V.2 0 11) n)) 3 (V.2 0 15).toNat (tlP V 0 8)) 4 (V.2 0 15).toNat 0) 0 15 (V.2 0 15 + 1) := by
  unfold opn4
  rw [extV_t.1, extV_t.2, extV_2 (by omega), extV_2 (by omega)]
section RGD
variable {I I0 : MI} {J : MJ} {R R0 : MR} {r : Nat} {σ : Nat → Nat} {γ : Type} {Q : γ → Prop} {x : Int32} {i t l n : Int} {V : RV}
theorem openB_C (hrg : isRg r) (h : CTo r σ I0 R0 I R V) (hw : WR V) (hi : inn V < l) (hl : l ≤ 3) (hn : 1 ≤ n ∧ n ≤ 8) (hfit : tlP V 0 9 + pSize (tlP V) (V.2 0 11) n ≤ V.2 0 9) : En (fun y => RS r J I0 R0 y (opnV V l n)) (f_X4_openBehindTail (381, I, J, R) r (iI l) (iI n)) := by
  have hc := h.1
  have hb := hw.1
  unfold WB at hb
  have hil := inn_le hw
  have htl := tlp_in hw
  have hdl := htl.2.2.2.2.delta (by omega) (by omega)
  have hpa := pageAt_C (J := J) (p := plc V (V.2 0 13 - 1)) hrg hc htl.1 htl.2.2.1
  have htp := tailPlace_C (J := J) hrg hc hw.1
  have hrg1 := hrg
  have hc0 := hc
  obtain ⟨hq, kr0, kr1, kr2, kr3, kr4, kr5, kr6, kr7, lr1, lr2, lr3, lr4, lr5, lr7, hpg⟩ := hrg
  have hsc := cr_s hc
  obtain ⟨⟨e0, e1, e2, e3, e4, e5, e6, e7, ep, ed, hσ, hσi⟩, hpp, hgg⟩ := hc
  have s7 := hsc 7 (by decide)
  have s8 := hsc 8 (by decide)
  have s9 := hsc 9 (by decide)
  have s10 := hsc 10 (by decide)
  have s11 := hsc 11 (by decide)
  have s12 := hsc 12 (by decide)
  have s13 := hsc 13 (by decide)
  have s14 := hsc 14 (by decide)
  have s15 := hsc 15 (by decide)
  have hP : CP I _ (tlP V) := hpp (plc V (V.2 0 13 - 1)).toNat (by omega)
  have hpg1 := hpg _ (hσ (plc V (V.2 0 13 - 1)).toNat (by omega))
  have hr1 := ed _ (hσ (plc V (V.2 0 13 - 1)).toNat (by omega))
  have hde := deltaAt_C (J := J) (t := V.2 0 11) hpg1 hr1 hP htl.2.2.2.2
  have hkq := hpg1.2.1
  have hq9 := hpg1.1
  rw [u_X4_openBehindTail]
  repeat ((first | (with_reducible first | refine w_ltA ?_ | refine w_ltS ?_ | refine w_ltM ?_ | refine w_ltN ?_ | refine w_lt ?_ | refine w_jn ?_ | refine w_ck (by omega) (by assumption) ?_ | refine w_gI (by omega) (by assumption) ?_ | refine w_gR (by omega) (by assumption) (by assumption) ?_ | refine w_al (by omega) (by assumption) (by assumption) ?_ | refine w_pI (by omega) (by assumption) ?_ | refine w_set (by omega) (by assumption) (by omega) (by omega) ?_ | refine w_at (by omega) (by assumption) (by omega) (by omega) ?_ | refine w_sI (by omega) (by assumption) (by omega) (by omega) ?_ | refine w_aI (by omega) (by assumption) (by omega) (by omega) ?_ | refine w_sZ (by omega) (by assumption) (by omega) (by omega) (by decide) ?_ | refine w_pZ (by omega) (by assumption) (by decide) ?_ | refine w_dv (by omega) (by omega) (by omega) (by omega) ?_ | refine w_rm (by omega) (by omega) (by omega) (by omega) ?_) | ((with_reducible refine w_pos ?_ ?_); focus (first | assumption | trivial | exact (ile (by omega) (by omega) (by omega) (by omega)).2 (by omega) | exact (ilt (by omega) (by omega) (by omega) (by omega)).2 (by omega) | exact (ieq (by omega) (by omega) (by omega) (by omega)).2 (by omega))) | ((with_reducible refine w_neg ?_ ?_); focus (first | assumption | exact not_false | trivial | exact mt (ile (by omega) (by omega) (by omega) (by omega)).1 (by omega) | exact mt (ilt (by omega) (by omega) (by omega) (by omega)).1 (by omega) | exact mt (ieq (by omega) (by omega) (by omega) (by omega)).1 (by omega)))); try simp (disch := omega) only [s11])
  refine w_cP htp ?_
  repeat ((first | (with_reducible first | refine w_ltA ?_ | refine w_ltS ?_ | refine w_ltM ?_ | refine w_ltN ?_ | refine w_lt ?_ | refine w_jn ?_ | refine w_ck (by omega) (by assumption) ?_ | refine w_gI (by omega) (by assumption) ?_ | refine w_gR (by omega) (by assumption) (by assumption) ?_ | refine w_al (by omega) (by assumption) (by assumption) ?_ | refine w_pI (by omega) (by assumption) ?_ | refine w_set (by omega) (by assumption) (by omega) (by omega) ?_ | refine w_at (by omega) (by assumption) (by omega) (by omega) ?_ | refine w_sI (by omega) (by assumption) (by omega) (by omega) ?_ | refine w_aI (by omega) (by assumption) (by omega) (by omega) ?_ | refine w_sZ (by omega) (by assumption) (by omega) (by omega) (by decide) ?_ | refine w_pZ (by omega) (by assumption) (by decide) ?_ | refine w_dv (by omega) (by omega) (by omega) (by omega) ?_ | refine w_rm (by omega) (by omega) (by omega) (by omega) ?_) | ((with_reducible refine w_pos ?_ ?_); focus (first | assumption | trivial | exact (ile (by omega) (by omega) (by omega) (by omega)).2 (by omega) | exact (ilt (by omega) (by omega) (by omega) (by omega)).2 (by omega) | exact (ieq (by omega) (by omega) (by omega) (by omega)).2 (by omega))) | ((with_reducible refine w_neg ?_ ?_); focus (first | assumption | exact not_false | trivial | exact mt (ile (by omega) (by omega) (by omega) (by omega)).1 (by omega) | exact mt (ilt (by omega) (by omega) (by omega) (by omega)).1 (by omega) | exact mt (ieq (by omega) (by omega) (by omega) (by omega)).1 (by omega)))); try simp (disch := omega) only [s11])
  refine w_cP hpa ?_
  repeat ((first | (with_reducible first | refine w_ltA ?_ | refine w_ltS ?_ | refine w_ltM ?_ | refine w_ltN ?_ | refine w_lt ?_ | refine w_jn ?_ | refine w_ck (by omega) (by assumption) ?_ | refine w_gI (by omega) (by assumption) ?_ | refine w_gR (by omega) (by assumption) (by assumption) ?_ | refine w_al (by omega) (by assumption) (by assumption) ?_ | refine w_pI (by omega) (by assumption) ?_ | refine w_set (by omega) (by assumption) (by omega) (by omega) ?_ | refine w_at (by omega) (by assumption) (by omega) (by omega) ?_ | refine w_sI (by omega) (by assumption) (by omega) (by omega) ?_ | refine w_aI (by omega) (by assumption) (by omega) (by omega) ?_ | refine w_sZ (by omega) (by assumption) (by omega) (by omega) (by decide) ?_ | refine w_pZ (by omega) (by assumption) (by decide) ?_ | refine w_dv (by omega) (by omega) (by omega) (by omega) ?_ | refine w_rm (by omega) (by omega) (by omega) (by omega) ?_) | ((with_reducible refine w_pos ?_ ?_); focus (first | assumption | trivial | exact (ile (by omega) (by omega) (by omega) (by omega)).2 (by omega) | exact (ilt (by omega) (by omega) (by omega) (by omega)).2 (by omega) | exact (ieq (by omega) (by omega) (by omega) (by omega)).2 (by omega))) | ((with_reducible refine w_neg ?_ ?_); focus (first | assumption | exact not_false | trivial | exact mt (ile (by omega) (by omega) (by omega) (by omega)).1 (by omega) | exact mt (ilt (by omega) (by omega) (by omega) (by omega)).1 (by omega) | exact mt (ieq (by omega) (by omega) (by omega) (by omega)).1 (by omega)))); try simp (disch := omega) only [s11])
  refine w_cP hde ?_
  refine w_jnP (fun x5 => ∃ I1, x5 = (381, I1, J, R) ∧ CTo r σ I0 R0 I1 R (extV V)) ?_ ?_
  · rintro x5 ⟨I1, rfl, h1⟩
    have hwe := wr_ext hw
    have htp1 := tailPlace_C (J := J) hrg1 h1.1 hwe.1
    rw [extV_t.1] at htp1
    have t15 : I1 r 15 = iI (V.2 0 15) := by
      rw [cr_s h1.1 15 (by decide), extV_2 (by omega)]
    have t11 : I1 r 11 = iI (V.2 0 11) := by
      rw [cr_s h1.1 11 (by decide), extV_2 (by omega)]
    repeat ((first | (with_reducible first | refine w_ltA ?_ | refine w_ltS ?_ | refine w_ltM ?_ | refine w_ltN ?_ | refine w_lt ?_ | refine w_jn ?_ | refine w_ck (by omega) (by assumption) ?_ | refine w_gI (by omega) (by assumption) ?_ | refine w_gR (by omega) (by assumption) (by assumption) ?_ | refine w_al (by omega) (by assumption) (by assumption) ?_ | refine w_pI (by omega) (by assumption) ?_ | refine w_set (by omega) (by assumption) (by omega) (by omega) ?_ | refine w_at (by omega) (by assumption) (by omega) (by omega) ?_ | refine w_sI (by omega) (by assumption) (by omega) (by omega) ?_ | refine w_aI (by omega) (by assumption) (by omega) (by omega) ?_ | refine w_sZ (by omega) (by assumption) (by omega) (by omega) (by decide) ?_ | refine w_pZ (by omega) (by assumption) (by decide) ?_ | refine w_dv (by omega) (by omega) (by omega) (by omega) ?_ | refine w_rm (by omega) (by omega) (by omega) (by omega) ?_) | ((with_reducible refine w_pos ?_ ?_); focus (first | assumption | trivial | exact (ile (by omega) (by omega) (by omega) (by omega)).2 (by omega) | exact (ilt (by omega) (by omega) (by omega) (by omega)).2 (by omega) | exact (ieq (by omega) (by omega) (by omega) (by omega)).2 (by omega))) | ((with_reducible refine w_neg ?_ ?_); focus (first | assumption | exact not_false | trivial | exact mt (ile (by omega) (by omega) (by omega) (by omega)).1 (by omega) | exact mt (ilt (by omega) (by omega) (by omega) (by omega)).1 (by omega) | exact mt (ieq (by omega) (by omega) (by omega) (by omega)).1 (by omega)))); try simp (disch := omega) only [t15])
    refine w_cP htp1 ?_
    refine w_set (by omega) (by assumption) (by omega) (by omega) ?_
    have h2 := cto_up h1 2 (V.2 0 15).toNat (plc V (V.2 0 13 - 1)) (by omega)
    have t6 := cr_t h1.1 6 (by decide)
    rw [extV_2 (by omega)] at t6
    repeat ((first | (with_reducible first | refine w_ltA ?_ | refine w_ltS ?_ | refine w_ltM ?_ | refine w_ltN ?_ | refine w_lt ?_ | refine w_jn ?_ | refine w_ck (by omega) (by assumption) ?_ | refine w_gI (by omega) (by assumption) ?_ | refine w_gR (by omega) (by assumption) (by assumption) ?_ | refine w_al (by omega) (by assumption) (by assumption) ?_ | refine w_pI (by omega) (by assumption) ?_ | refine w_set (by omega) (by assumption) (by omega) (by omega) ?_ | refine w_at (by omega) (by assumption) (by omega) (by omega) ?_ | refine w_sI (by omega) (by assumption) (by omega) (by omega) ?_ | refine w_aI (by omega) (by assumption) (by omega) (by omega) ?_ | refine w_sZ (by omega) (by assumption) (by omega) (by omega) (by decide) ?_ | refine w_pZ (by omega) (by assumption) (by decide) ?_ | refine w_dv (by omega) (by omega) (by omega) (by omega) ?_ | refine w_rm (by omega) (by omega) (by omega) (by omega) ?_) | ((with_reducible refine w_pos ?_ ?_); focus (first | assumption | trivial | exact (ile (by omega) (by omega) (by omega) (by omega)).2 (by omega) | exact (ilt (by omega) (by omega) (by omega) (by omega)).2 (by omega) | exact (ieq (by omega) (by omega) (by omega) (by omega)).2 (by omega))) | ((with_reducible refine w_neg ?_ ?_); focus (first | assumption | exact not_false | trivial | exact mt (ile (by omega) (by omega) (by omega) (by omega)).1 (by omega) | exact mt (ilt (by omega) (by omega) (by omega) (by omega)).1 (by omega) | exact mt (ieq (by omega) (by omega) (by omega) (by omega)).1 (by omega)))); try simp (disch := omega) only [up_ne, t15, t11, t6, Int.toNat_natCast, show (6 : Int).toNat = 6 from rfl])
    have hP2 := h2.1.2.1 (plc V (V.2 0 13 - 1)).toNat (by omega)
    rw [upG_1, extV_1] at hP2
    change CP _ _ (tlP V) at hP2
    refine w_cI (layDown_C (J := J) (n := V.2 5 6) (l := l) (t := V.2 0 11) (d := n) hpg1 hr1 hP2 htl.2.2.2.2 (by omega) hdl hn.1 hn.2 hfit) ?_
    rintro v S3 ⟨rfl, I3, rfl, h3⟩
    have h3 := cto_pg h2 (by omega) h3
    have u15 : I3 r 15 = iI (V.2 0 15) := by
      rw [cr_s h3.1 15 (by decide), upP_2, upG_ne (by omega), extV_2 (by omega)]
    repeat ((first | (with_reducible first | refine w_ltA ?_ | refine w_ltS ?_ | refine w_ltM ?_ | refine w_ltN ?_ | refine w_lt ?_ | refine w_jn ?_ | refine w_ck (by omega) (by assumption) ?_ | refine w_gI (by omega) (by assumption) ?_ | refine w_gR (by omega) (by assumption) (by assumption) ?_ | refine w_al (by omega) (by assumption) (by assumption) ?_ | refine w_pI (by omega) (by assumption) ?_ | refine w_set (by omega) (by assumption) (by omega) (by omega) ?_ | refine w_at (by omega) (by assumption) (by omega) (by omega) ?_ | refine w_sI (by omega) (by assumption) (by omega) (by omega) ?_ | refine w_aI (by omega) (by assumption) (by omega) (by omega) ?_ | refine w_sZ (by omega) (by assumption) (by omega) (by omega) (by decide) ?_ | refine w_pZ (by omega) (by assumption) (by decide) ?_ | refine w_dv (by omega) (by omega) (by omega) (by omega) ?_ | refine w_rm (by omega) (by omega) (by omega) (by omega) ?_) | ((with_reducible refine w_pos ?_ ?_); focus (first | assumption | trivial | exact (ile (by omega) (by omega) (by omega) (by omega)).2 (by omega) | exact (ilt (by omega) (by omega) (by omega) (by omega)).2 (by omega) | exact (ieq (by omega) (by omega) (by omega) (by omega)).2 (by omega))) | ((with_reducible refine w_neg ?_ ?_); focus (first | assumption | exact not_false | trivial | exact mt (ile (by omega) (by omega) (by omega) (by omega)).1 (by omega) | exact mt (ilt (by omega) (by omega) (by omega) (by omega)).1 (by omega) | exact mt (ieq (by omega) (by omega) (by omega) (by omega)).1 (by omega)))); try simp (disch := omega) only [up_ne, up_eq, u15])
    have eW := extV_o (V := V) (m := V.2 5 6) (l := l) (n := n)
    have h3' := cto_up0 (cto_up (cto_up h3 3 (V.2 0 15).toNat (tlP V 0 8) (by omega)) 4 (V.2 0 15).toNat 0 (by omega)) 15 (V.2 0 15 + 1)
    rw [← eW] at h3'
    have g5 : ∀ k, k ≠ 13 → (opn4 (extV V) (V.2 5 6) l n).2 5 k = V.2 5 k := fun k hk => by
      rw [opn4_g (by omega) (by omega), extV_2 (by omega)]
    have g15 : (opn4 (extV V) (V.2 5 6) l n).2 0 15 = V.2 0 15 + 1 := by
      rw [opn4_n.1, extV_2 (by omega)]
    refine w_raise hrg1 h3' (by omega) (by omega) fun I4 h4 => ?_
    repeat ((first | (with_reducible first | refine w_ltA ?_ | refine w_ltS ?_ | refine w_ltM ?_ | refine w_ltN ?_ | refine w_lt ?_ | refine w_jn ?_ | refine w_ck (by omega) (by assumption) ?_ | refine w_gI (by omega) (by assumption) ?_ | refine w_gR (by omega) (by assumption) (by assumption) ?_ | refine w_al (by omega) (by assumption) (by assumption) ?_ | refine w_pI (by omega) (by assumption) ?_ | refine w_set (by omega) (by assumption) (by omega) (by omega) ?_ | refine w_at (by omega) (by assumption) (by omega) (by omega) ?_ | refine w_sI (by omega) (by assumption) (by omega) (by omega) ?_ | refine w_aI (by omega) (by assumption) (by omega) (by omega) ?_ | refine w_sZ (by omega) (by assumption) (by omega) (by omega) (by decide) ?_ | refine w_pZ (by omega) (by assumption) (by decide) ?_ | refine w_dv (by omega) (by omega) (by omega) (by omega) ?_ | refine w_rm (by omega) (by omega) (by omega) (by omega) ?_) | ((with_reducible refine w_pos ?_ ?_); focus (first | assumption | trivial | exact (ile (by omega) (by omega) (by omega) (by omega)).2 (by omega) | exact (ilt (by omega) (by omega) (by omega) (by omega)).2 (by omega) | exact (ieq (by omega) (by omega) (by omega) (by omega)).2 (by omega))) | ((with_reducible refine w_neg ?_ ?_); focus (first | assumption | exact not_false | trivial | exact mt (ile (by omega) (by omega) (by omega) (by omega)).1 (by omega) | exact mt (ilt (by omega) (by omega) (by omega) (by omega)).1 (by omega) | exact mt (ieq (by omega) (by omega) (by omega) (by omega)).1 (by omega)))); try simp (disch := omega) only [up_ne, up_eq, u15])
    have b18 : (upG (opn4 (extV V) (V.2 5 6) l n) 5 (20 + l).toNat ((opn4 (extV V) (V.2 5 6) l n).2 5 (20 + l).toNat + 1)).2 5 18 = V.2 5 18 := by
      rw [upG_ne (by omega), g5 18 (by omega)]
    refine w_raiseTo hrg1 h4 (by omega) (by omega) (by show 0 ≤ (upG _ _ _ _).2 5 18 ∧ (upG _ _ _ _).2 5 18 ≤ 999999; rw [b18]; omega) hdl fun I5 h5 => ?_
    have v15 := cr_s h5.1 15 (by decide)
    rw [upG_ne (by omega), upG_ne (by omega), g15] at v15
    repeat ((first | (with_reducible first | refine w_ltA ?_ | refine w_ltS ?_ | refine w_ltM ?_ | refine w_ltN ?_ | refine w_lt ?_ | refine w_jn ?_ | refine w_ck (by omega) (by assumption) ?_ | refine w_gI (by omega) (by assumption) ?_ | refine w_gR (by omega) (by assumption) (by assumption) ?_ | refine w_al (by omega) (by assumption) (by assumption) ?_ | refine w_pI (by omega) (by assumption) ?_ | refine w_set (by omega) (by assumption) (by omega) (by omega) ?_ | refine w_at (by omega) (by assumption) (by omega) (by omega) ?_ | refine w_sI (by omega) (by assumption) (by omega) (by omega) ?_ | refine w_aI (by omega) (by assumption) (by omega) (by omega) ?_ | refine w_sZ (by omega) (by assumption) (by omega) (by omega) (by decide) ?_ | refine w_pZ (by omega) (by assumption) (by decide) ?_ | refine w_dv (by omega) (by omega) (by omega) (by omega) ?_ | refine w_rm (by omega) (by omega) (by omega) (by omega) ?_) | ((with_reducible refine w_pos ?_ ?_); focus (first | assumption | trivial | exact (ile (by omega) (by omega) (by omega) (by omega)).2 (by omega) | exact (ilt (by omega) (by omega) (by omega) (by omega)).2 (by omega) | exact (ieq (by omega) (by omega) (by omega) (by omega)).2 (by omega))) | ((with_reducible refine w_neg ?_ ?_); focus (first | assumption | exact not_false | trivial | exact mt (ile (by omega) (by omega) (by omega) (by omega)).1 (by omega) | exact mt (ilt (by omega) (by omega) (by omega) (by omega)).1 (by omega) | exact mt (ieq (by omega) (by omega) (by omega) (by omega)).1 (by omega)))); try simp (disch := omega) only [v15])
    have b19 : ∀ v, (upG (upG (opn4 (extV V) (V.2 5 6) l n) 5 (20 + l).toNat ((opn4 (extV V) (V.2 5 6) l n).2 5 (20 + l).toNat + 1)) 5 18 v).2 5 19 = V.2 5 19 := fun v => by
      rw [upG_ne (by omega), upG_ne (by omega), g5 19 (by omega)]
    refine w_raiseTo hrg1 h5 (by omega) (by omega) (by show 0 ≤ (upG _ _ _ _).2 5 19 ∧ (upG _ _ _ _).2 5 19 ≤ 999999; erw [b19]; omega) (by omega) fun I6 h6 => ?_
    exact w_rt h6.rs
  · intro j hj
    by_cases hd : pDelta (tlP V) (V.2 0 11) ≤ 15
    · repeat ((first | (with_reducible first | refine w_ltA ?_ | refine w_ltS ?_ | refine w_ltM ?_ | refine w_ltN ?_ | refine w_lt ?_ | refine w_jn ?_ | refine w_ck (by omega) (by assumption) ?_ | refine w_gI (by omega) (by assumption) ?_ | refine w_gR (by omega) (by assumption) (by assumption) ?_ | refine w_al (by omega) (by assumption) (by assumption) ?_ | refine w_pI (by omega) (by assumption) ?_ | refine w_set (by omega) (by assumption) (by omega) (by omega) ?_ | refine w_at (by omega) (by assumption) (by omega) (by omega) ?_ | refine w_sI (by omega) (by assumption) (by omega) (by omega) ?_ | refine w_aI (by omega) (by assumption) (by omega) (by omega) ?_ | refine w_sZ (by omega) (by assumption) (by omega) (by omega) (by decide) ?_ | refine w_pZ (by omega) (by assumption) (by decide) ?_ | refine w_dv (by omega) (by omega) (by omega) (by omega) ?_ | refine w_rm (by omega) (by omega) (by omega) (by omega) ?_) | ((with_reducible refine w_pos ?_ ?_); focus (first | assumption | trivial | exact (ile (by omega) (by omega) (by omega) (by omega)).2 (by omega) | exact (ilt (by omega) (by omega) (by omega) (by omega)).2 (by omega) | exact (ieq (by omega) (by omega) (by omega) (by omega)).2 (by omega))) | ((with_reducible refine w_neg ?_ ?_); focus (first | assumption | exact not_false | trivial | exact mt (ile (by omega) (by omega) (by omega) (by omega)).1 (by omega) | exact mt (ilt (by omega) (by omega) (by omega) (by omega)).1 (by omega) | exact mt (ieq (by omega) (by omega) (by omega) (by omega)).1 (by omega)))); try simp (disch := omega) only [v15])
      refine hj _ ⟨I, rfl, ?_⟩
      rw [extV, if_neg (by omega)]
      exact h
    · repeat ((first | (with_reducible first | refine w_ltA ?_ | refine w_ltS ?_ | refine w_ltM ?_ | refine w_ltN ?_ | refine w_lt ?_ | refine w_jn ?_ | refine w_ck (by omega) (by assumption) ?_ | refine w_gI (by omega) (by assumption) ?_ | refine w_gR (by omega) (by assumption) (by assumption) ?_ | refine w_al (by omega) (by assumption) (by assumption) ?_ | refine w_pI (by omega) (by assumption) ?_ | refine w_set (by omega) (by assumption) (by omega) (by omega) ?_ | refine w_at (by omega) (by assumption) (by omega) (by omega) ?_ | refine w_sI (by omega) (by assumption) (by omega) (by omega) ?_ | refine w_aI (by omega) (by assumption) (by omega) (by omega) ?_ | refine w_sZ (by omega) (by assumption) (by omega) (by omega) (by decide) ?_ | refine w_pZ (by omega) (by assumption) (by decide) ?_ | refine w_dv (by omega) (by omega) (by omega) (by omega) ?_ | refine w_rm (by omega) (by omega) (by omega) (by omega) ?_) | ((with_reducible refine w_pos ?_ ?_); focus (first | assumption | trivial | exact (ile (by omega) (by omega) (by omega) (by omega)).2 (by omega) | exact (ilt (by omega) (by omega) (by omega) (by omega)).2 (by omega) | exact (ieq (by omega) (by omega) (by omega) (by omega)).2 (by omega))) | ((with_reducible refine w_neg ?_ ?_); focus (first | assumption | exact not_false | trivial | exact mt (ile (by omega) (by omega) (by omega) (by omega)).1 (by omega) | exact mt (ilt (by omega) (by omega) (by omega) (by omega)).1 (by omega) | exact mt (ieq (by omega) (by omega) (by omega) (by omega)).1 (by omega)))); try simp (disch := omega) only [v15])
      refine w_raise hrg1 h (by omega) (by omega) fun I1 h1 => ?_
      refine hj _ ⟨I1, rfl, ?_⟩
      rw [extV, if_pos (by omega)]
      exact h1
end RGD
