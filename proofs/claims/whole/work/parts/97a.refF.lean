/-! THE REFERENCE: a record laid, whole -/
section RFF
variable {I I0 I1 : MI} {J : MJ} {R : MR} {π : Nat → Nat} {γ : Type} {Q : γ → Prop} {V : RV} {P k i f n l m t c dl hd : Int} {x : Int32} {b : Nat}
theorem laysM_Q {K : St → Option γ} (hR : RQ R) (hb : b < 7) (hn : 1 ≤ n ∧ n ≤ 8) (hhd : 0 ≤ hd ∧ hd < 32) (hc : 0 ≤ c ∧ c < 16) (hdl : 0 ≤ dl ∧ dl ≤ 999999) (e3 : I1 375 (61 + 132 * (b : Int) + 3).toNat = iI c) (em : I1 375 (Int.toNat 10) = iI m) (et : I1 375 (Int.toNat 3) = iI t)
    (h : En Q (K (382, up (up (up (up (up (up (up (up (up I1 375 (61 + 132 * (b : Int) + (4 + hd)).toNat (iI (if dl ≤ 15 then 16 * n + dl else 16 * n))) 375 (61 + 132 * (b : Int) + (36 + 6 * c + 0)).toNat (iI 0)) 375 (61 + 132 * (b : Int) + (36 + 6 * c + 1)).toNat (iI m)) 375 (61 + 132 * (b : Int) + (36 + 6 * c + 2)).toNat (iI l)) 375 (61 + 132 * (b : Int) + (36 + 6 * c + 3)).toNat (iI t)) 375 (61 + 132 * (b : Int) + (36 + 6 * c + 4)).toNat (iI n)) 375 (61 + 132 * (b : Int) + (36 + 6 * c + 5)).toNat (iI hd)) 375 (61 + 132 * (b : Int) + 3).toNat (iI (c + 1))) 375 (61 + 132 * (b : Int) + 1).toNat (iI (hd + 1 + n)), J, R))) :
    En Q (lt_ ((iI 16) * (iI n) : Int32) fun v5 =>
      jn_ (fun (x6 : Int32) =>
        lt_ (v5 + x6 : Int32) fun v7 =>
        ck_ (382, I1, J, R) 374 9 <| cV_ (f_X9_cellIs (382, I1, J, R) 374 (iI b) (iI hd) v7) fun S8 =>
        ck_ S8 374 9 <| cP_ (f_X9_of S8 374 (iI b) (iI 3)) fun v9 =>
        lt_ ((iI 6) * v9 : Int32) fun v10 =>
        lt_ ((iI 36) + v10 : Int32) fun v11 =>
        lt_ (v11 + (iI 0) : Int32) fun v12 =>
        ck_ S8 374 9 <| cV_ (f_X9_lay S8 374 (iI b) v12 (iI 0)) fun S13 =>
        lt_ (v11 + (iI 1) : Int32) fun v14 =>
        gR_ S13 374 9 1 fun a15 =>
        aI_ S13 a15 11 (iI 10) fun v16 =>
        ck_ S13 374 9 <| cV_ (f_X9_lay S13 374 (iI b) v14 v16) fun S17 =>
        lt_ (v11 + (iI 2) : Int32) fun v18 =>
        ck_ S17 374 9 <| cV_ (f_X9_lay S17 374 (iI b) v18 (iI l)) fun S19 =>
        lt_ (v11 + (iI 3) : Int32) fun v20 =>
        gR_ S19 374 9 1 fun a21 =>
        aI_ S19 a21 11 (iI 3) fun v22 =>
        ck_ S19 374 9 <| cV_ (f_X9_lay S19 374 (iI b) v20 v22) fun S23 =>
        lt_ (v11 + (iI 4) : Int32) fun v24 =>
        ck_ S23 374 9 <| cV_ (f_X9_lay S23 374 (iI b) v24 (iI n)) fun S25 =>
        lt_ (v11 + (iI 5) : Int32) fun v26 =>
        ck_ S25 374 9 <| cV_ (f_X9_lay S25 374 (iI b) v26 (iI hd)) fun S27 =>
        lt_ (v9 + (iI 1) : Int32) fun v28 =>
        ck_ S27 374 9 <| cV_ (f_X9_lay S27 374 (iI b) (iI 3) v28) fun S29 =>
        lt_ ((iI hd) + (iI 1) : Int32) fun v30 =>
        lt_ (v30 + (iI n) : Int32) fun v31 =>
        ck_ S29 374 9 <| cV_ (f_X9_lay S29 374 (iI b) (iI 1) v31) fun S32 => K S32
      ) fun j6 =>
      if (iI dl) ≤ (iI 15) then
        j6 (iI dl)
      else
        j6 ((iI 0))) := by
  have k374 := kd_374
  have k375 := kd_375
  have l375 := ln_375
  have rq1 := hR.1
  by_cases h15 : dl ≤ 15
  · rw [if_pos h15] at h
    repeat ((first | (with_reducible first | refine w_cell hR (by omega) (by omega) ?_ | refine w_of hR (by omega) (by omega) ?_ | refine w_lay hR (by omega) (by omega) ?_ | refine w_ltA ?_ | refine w_ltS ?_ | refine w_ltM ?_ | refine w_ltN ?_ | refine w_lt ?_ | refine w_jn ?_ | refine w_ck (by omega) (by assumption) ?_ | refine w_gI (by omega) (by assumption) ?_ | refine w_gR (by omega) (by assumption) (by assumption) ?_ | refine w_al (by omega) (by assumption) (by assumption) ?_ | refine w_pI (by omega) (by assumption) ?_ | refine w_set (by omega) (by assumption) (by omega) (by omega) ?_ | refine w_at (by omega) (by assumption) (by omega) (by omega) ?_ | refine w_sI (by omega) (by assumption) (by omega) (by omega) ?_ | refine w_aI (by omega) (by assumption) (by omega) (by omega) ?_ | refine w_sZ (by omega) (by assumption) (by omega) (by omega) (by decide) ?_ | refine w_pZ (by omega) (by assumption) (by decide) ?_ | refine w_dv (by omega) (by omega) (by omega) (by omega) ?_ | refine w_rm (by omega) (by omega) (by omega) (by omega) ?_) | ((with_reducible refine w_pos ?_ ?_); focus (first | assumption | trivial | exact (ile (by omega) (by omega) (by omega) (by omega)).2 (by omega) | exact (ilt (by omega) (by omega) (by omega) (by omega)).2 (by omega) | exact (ieq (by omega) (by omega) (by omega) (by omega)).2 (by omega))) | ((with_reducible refine w_neg ?_ ?_); focus (first | assumption | exact not_false | trivial | exact mt (ile (by omega) (by omega) (by omega) (by omega)).1 (by omega) | exact mt (ilt (by omega) (by omega) (by omega) (by omega)).1 (by omega) | exact mt (ieq (by omega) (by omega) (by omega) (by omega)).1 (by omega)))); try simp (disch := omega) only [up_ne, e3, em, et])
    exact h
  · rw [if_neg h15] at h
    repeat ((first | (with_reducible first | refine w_cell hR (by omega) (by omega) ?_ | refine w_of hR (by omega) (by omega) ?_ | refine w_lay hR (by omega) (by omega) ?_ | refine w_ltA ?_ | refine w_ltS ?_ | refine w_ltM ?_ | refine w_ltN ?_ | refine w_lt ?_ | refine w_jn ?_ | refine w_ck (by omega) (by assumption) ?_ | refine w_gI (by omega) (by assumption) ?_ | refine w_gR (by omega) (by assumption) (by assumption) ?_ | refine w_al (by omega) (by assumption) (by assumption) ?_ | refine w_pI (by omega) (by assumption) ?_ | refine w_set (by omega) (by assumption) (by omega) (by omega) ?_ | refine w_at (by omega) (by assumption) (by omega) (by omega) ?_ | refine w_sI (by omega) (by assumption) (by omega) (by omega) ?_ | refine w_aI (by omega) (by assumption) (by omega) (by omega) ?_ | refine w_sZ (by omega) (by assumption) (by omega) (by omega) (by decide) ?_ | refine w_pZ (by omega) (by assumption) (by decide) ?_ | refine w_dv (by omega) (by omega) (by omega) (by omega) ?_ | refine w_rm (by omega) (by omega) (by omega) (by omega) ?_) | ((with_reducible refine w_pos ?_ ?_); focus (first | assumption | trivial | exact (ile (by omega) (by omega) (by omega) (by omega)).2 (by omega) | exact (ilt (by omega) (by omega) (by omega) (by omega)).2 (by omega) | exact (ieq (by omega) (by omega) (by omega) (by omega)).2 (by omega))) | ((with_reducible refine w_neg ?_ ?_); focus (first | assumption | exact not_false | trivial | exact mt (ile (by omega) (by omega) (by omega) (by omega)).1 (by omega) | exact mt (ilt (by omega) (by omega) (by omega) (by omega)).1 (by omega) | exact mt (ieq (by omega) (by omega) (by omega) (by omega)).1 (by omega)))); try simp (disch := omega) only [up_ne, e3, em, et])
    rw [Int.add_zero]
    exact h
theorem lays_Q {p : Nat} (hR : RQ R) (h : MTo I0 I π V) (hw : WR V) (hp : p = (plc V (V.2 0 13 - 1)).toNat) (hl : inn V < l ∧ l ≤ 3) (hn : 1 ≤ n ∧ n ≤ 8) (hfit : tlP V 0 9 + pSize (tlP V) (V.2 0 11) n ≤ V.2 0 9) : En (fun y => ∃ I', y = (382, I', J, R) ∧ MTo I0 I' π (opnV V l n)) (f_X9_lays (382, I, J, R) 374 (iI (π p)) (iI l) (iI n)) := by
  have hq := h.1
  have htl := tlp_in hw
  have hil := inn_le hw
  have hwp := htl.2.2.2.2
  have hb0 := hw.1
  unfold WB at hb0
  have hdl := hwp.delta (by omega) (by omega)
  have hpp : p < 6 := by omega
  have hpl := hq.l (p := p) (by omega)
  have eP : V.1 p = tlP V := by
    rw [hp]
    rfl
  have hP : PM I (61 + 132 * π p) (tlP V) := by
    have := hq.g (p := p) (by omega)
    rw [eP] at this
    exact this
  have hde := deltaIn_Q (J := J) hR hq hw (p := p) (by omega)
  rw [eP] at hde
  have hu := pm_u hP
  have hcn := pm_n hP
  have hsz := hdOf_size (P := tlP V) (t := V.2 0 11) (d := n)
  have m10 : I 375 (Int.toNat 10) = iI (V.2 5 6) := hq.s 10 (by decide)
  have m16 : I 375 (Int.toNat 16) = iI (V.2 5 13) := hq.s 16 (by decide)
  have hw8 := hwp.1
  have hw9 := hwp.2.2.1
  have hw4 := hwp.2.2.2.1
  have hit16 : tlP V 0 8 < 16 := by
    unfold pSize at hfit
    split at hfit <;> omega
  have hwe := wr_ext hw
  have hlay0 := layP_0 (P := tlP V) (n := V.2 5 6) (l := l) (t := V.2 0 11) (d := n)
  obtain ⟨n2, n3, n4, n5, n6, n7, n8⟩ := layP_n (P := tlP V) (n := V.2 5 6) (l := l) (t := V.2 0 11) (d := n)
  have hhd : hdOf (tlP V) (V.2 0 11) = tlP V 0 9 ∨ hdOf (tlP V) (V.2 0 11) = tlP V 0 9 + 3 := by
    unfold hdOf
    split <;> omega
  have hsz2 : pSize (tlP V) (V.2 0 11) n ≥ 1 + n := by
    unfold pSize
    split <;> omega
  -- behind the page's part
  have fin : ∀ (Ia Ib : MI) (Pe : PV) (hd : Int), hd = hdOf (tlP V) (V.2 0 11) → MTo I0 Ia π (upP (extV V) p Pe) → PBl Ia (61 + 132 * π p) Ib Pe → Pe 0 8 = tlP V 0 8 → Pe 0 10 = tlP V 0 10 → (∀ k, k < 32 → layP (tlP V) (V.2 5 6) l (V.2 0 11) n 1 k = upv Pe 1 hd.toNat (if pDelta (tlP V) (V.2 0 11) ≤ 15 then 16 * n + pDelta (tlP V) (V.2 0 11) else 16 * n) 1 k) → (∀ f i : Nat, 2 ≤ f → Pe f i = tlP V f i) → Ib 375 (61 + 132 * π p) = iI (if tlP V 0 8 = 0 then V.2 0 11 else tlP V 4 0) → Ib 375 (Int.toNat 10) = iI (V.2 5 6) → Ib 375 (Int.toNat 3) = iI (V.2 0 11) →
      ∀ (K : Int32 → Int32 → Int32 → St → Option St), (∀ (c : Int) (I9 : MI), c = tlP V 0 8 → MTo I0 I9 π (upP (extV V) p (layP (tlP V) (V.2 5 6) l (V.2 0 11) n)) → En (fun y => ∃ I', y = (382, I', J, R) ∧ MTo I0 I' π (opnV V l n)) (K (iI (pDelta (tlP V) (V.2 0 11))) (iI c) (iI (π p)) (382, I9, J, R))) → ∃ I9, MTo I0 I9 π (upP (extV V) p (layP (tlP V) (V.2 5 6) l (V.2 0 11) n)) := by
    intro Ia Ib Pe hd ehd hM hPB q8 q10 qc qr qs q1 q2 K hK
    exact ⟨_, mto_pg (I' := Ib) hM (by omega) (by sorry) (by sorry)⟩
  sorry
end RFF
