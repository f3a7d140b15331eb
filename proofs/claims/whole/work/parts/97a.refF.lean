/-! THE REFERENCE: a record laid, whole -/
section RFF
variable {I I0 I1 : MI} {J : MJ} {R : MR} {π : Nat → Nat} {γ : Type} {Q : γ → Prop} {V : RV} {P k i f n l m t c dl hd : Int} {x : Int32} {b : Nat}
theorem laysM_Q {K : Int32 → St → Option γ} (hR : RQ R) (hb : b < 7) (hn : 1 ≤ n ∧ n ≤ 8) (hhd : 0 ≤ hd ∧ hd < 32) (hc : 0 ≤ c ∧ c < 16) (hdl : 0 ≤ dl ∧ dl ≤ 999999) (e3 : I1 374 (61 + 132 * (b : Int) + 3).toNat = iI c) (em : I1 374 (Int.toNat 10) = iI m) (et : I1 374 (Int.toNat 3) = iI t)
    (h : En Q (K (iI c) (381, up (up (up (up (up (up (up (up (up I1 374 (61 + 132 * (b : Int) + (4 + hd)).toNat (iI (if dl ≤ 15 then 16 * n + dl else 16 * n))) 374 (61 + 132 * (b : Int) + (36 + 6 * c + 0)).toNat (iI 0)) 374 (61 + 132 * (b : Int) + (36 + 6 * c + 1)).toNat (iI m)) 374 (61 + 132 * (b : Int) + (36 + 6 * c + 2)).toNat (iI l)) 374 (61 + 132 * (b : Int) + (36 + 6 * c + 3)).toNat (iI t)) 374 (61 + 132 * (b : Int) + (36 + 6 * c + 4)).toNat (iI n)) 374 (61 + 132 * (b : Int) + (36 + 6 * c + 5)).toNat (iI hd)) 374 (61 + 132 * (b : Int) + 3).toNat (iI (c + 1))) 374 (61 + 132 * (b : Int) + 1).toNat (iI (hd + 1 + n)), J, R))) :
    En Q (lt_ ((iI 16) * (iI n) : Int32) fun v5 =>
      jn_ (fun (x6 : Int32) =>
        lt_ (v5 + x6 : Int32) fun v7 =>
        ck_ (381, I1, J, R) 373 9 <| cV_ (f_X9_cellIs (381, I1, J, R) 373 (iI b) (iI hd) v7) fun S8 =>
        ck_ S8 373 9 <| cP_ (f_X9_of S8 373 (iI b) (iI 3)) fun v9 =>
        lt_ ((iI 6) * v9 : Int32) fun v10 =>
        lt_ ((iI 36) + v10 : Int32) fun v11 =>
        lt_ (v11 + (iI 0) : Int32) fun v12 =>
        ck_ S8 373 9 <| cV_ (f_X9_lay S8 373 (iI b) v12 (iI 0)) fun S13 =>
        lt_ (v11 + (iI 1) : Int32) fun v14 =>
        gR_ S13 373 9 1 fun a15 =>
        aI_ S13 a15 11 (iI 10) fun v16 =>
        ck_ S13 373 9 <| cV_ (f_X9_lay S13 373 (iI b) v14 v16) fun S17 =>
        lt_ (v11 + (iI 2) : Int32) fun v18 =>
        ck_ S17 373 9 <| cV_ (f_X9_lay S17 373 (iI b) v18 (iI l)) fun S19 =>
        lt_ (v11 + (iI 3) : Int32) fun v20 =>
        gR_ S19 373 9 1 fun a21 =>
        aI_ S19 a21 11 (iI 3) fun v22 =>
        ck_ S19 373 9 <| cV_ (f_X9_lay S19 373 (iI b) v20 v22) fun S23 =>
        lt_ (v11 + (iI 4) : Int32) fun v24 =>
        ck_ S23 373 9 <| cV_ (f_X9_lay S23 373 (iI b) v24 (iI n)) fun S25 =>
        lt_ (v11 + (iI 5) : Int32) fun v26 =>
        ck_ S25 373 9 <| cV_ (f_X9_lay S25 373 (iI b) v26 (iI hd)) fun S27 =>
        lt_ (v9 + (iI 1) : Int32) fun v28 =>
        ck_ S27 373 9 <| cV_ (f_X9_lay S27 373 (iI b) (iI 3) v28) fun S29 =>
        lt_ ((iI hd) + (iI 1) : Int32) fun v30 =>
        lt_ (v30 + (iI n) : Int32) fun v31 =>
        ck_ S29 373 9 <| cV_ (f_X9_lay S29 373 (iI b) (iI 1) v31) fun S32 => K v9 S32
      ) fun j6 =>
      if (iI dl) ≤ (iI 15) then
        j6 (iI dl)
      else
        j6 ((iI 0))) := by
  have k374 := kd_374
  have k375 := kd_375
  have l375 := ln_375
  have rq1 := hR.1
  by_cases h15 : dl ≤ 15
  · rw [if_pos h15] at h
    repeat ((first | (with_reducible first | refine w_cell hR (by omega) (by omega) ?_ | refine w_of hR (by omega) (by omega) ?_ | refine w_lay hR (by omega) (by omega) ?_ | refine w_ltA ?_ | refine w_ltS ?_ | refine w_ltM ?_ | refine w_ltN ?_ | refine w_lt ?_ | refine w_jn ?_ | refine w_ck (by omega) (by assumption) ?_ | refine w_gI (by omega) (by assumption) ?_ | refine w_gR (by omega) (by assumption) (by assumption) ?_ | refine w_al (by omega) (by assumption) (by assumption) ?_ | refine w_pI (by omega) (by assumption) ?_ | refine w_set (by omega) (by assumption) (by omega) (by omega) ?_ | refine w_at (by omega) (by assumption) (by omega) (by omega) ?_ | refine w_sI (by omega) (by assumption) (by omega) (by omega) ?_ | refine w_aI (by omega) (by assumption) (by omega) (by omega) ?_ | refine w_sZ (by omega) (by assumption) (by omega) (by omega) (by decide) ?_ | refine w_pZ (by omega) (by assumption) (by decide) ?_ | refine w_dv (by omega) (by omega) (by omega) (by omega) ?_ | refine w_rm (by omega) (by omega) (by omega) (by omega) ?_) | ((with_reducible refine w_pos ?_ ?_); focus (first | assumption | trivial | exact (ile (by omega) (by omega) (by omega) (by omega)).2 (by omega) | exact (ilt (by omega) (by omega) (by omega) (by omega)).2 (by omega) | exact (ieq (by omega) (by omega) (by omega) (by omega)).2 (by omega))) | ((with_reducible refine w_neg ?_ ?_); focus (first | assumption | exact not_false | trivial | exact mt (ile (by omega) (by omega) (by omega) (by omega)).1 (by omega) | exact mt (ilt (by omega) (by omega) (by omega) (by omega)).1 (by omega) | exact mt (ieq (by omega) (by omega) (by omega) (by omega)).1 (by omega)))); try simp (disch := omega) only [up_ne, e3, em, et])
    exact h
  · rw [if_neg h15] at h
    repeat ((first | (with_reducible first | refine w_cell hR (by omega) (by omega) ?_ | refine w_of hR (by omega) (by omega) ?_ | refine w_lay hR (by omega) (by omega) ?_ | refine w_ltA ?_ | refine w_ltS ?_ | refine w_ltM ?_ | refine w_ltN ?_ | refine w_lt ?_ | refine w_jn ?_ | refine w_ck (by omega) (by assumption) ?_ | refine w_gI (by omega) (by assumption) ?_ | refine w_gR (by omega) (by assumption) (by assumption) ?_ | refine w_al (by omega) (by assumption) (by assumption) ?_ | refine w_pI (by omega) (by assumption) ?_ | refine w_set (by omega) (by assumption) (by omega) (by omega) ?_ | refine w_at (by omega) (by assumption) (by omega) (by omega) ?_ | refine w_sI (by omega) (by assumption) (by omega) (by omega) ?_ | refine w_aI (by omega) (by assumption) (by omega) (by omega) ?_ | refine w_sZ (by omega) (by assumption) (by omega) (by omega) (by decide) ?_ | refine w_pZ (by omega) (by assumption) (by decide) ?_ | refine w_dv (by omega) (by omega) (by omega) (by omega) ?_ | refine w_rm (by omega) (by omega) (by omega) (by omega) ?_) | ((with_reducible refine w_pos ?_ ?_); focus (first | assumption | trivial | exact (ile (by omega) (by omega) (by omega) (by omega)).2 (by omega) | exact (ilt (by omega) (by omega) (by omega) (by omega)).2 (by omega) | exact (ieq (by omega) (by omega) (by omega) (by omega)).2 (by omega))) | ((with_reducible refine w_neg ?_ ?_); focus (first | assumption | exact not_false | trivial | exact mt (ile (by omega) (by omega) (by omega) (by omega)).1 (by omega) | exact mt (ilt (by omega) (by omega) (by omega) (by omega)).1 (by omega) | exact mt (ieq (by omega) (by omega) (by omega) (by omega)).1 (by omega)))); try simp (disch := omega) only [up_ne, e3, em, et])
    rw [Int.add_zero]
    exact h
def nst (I1 : MI) (b : Nat) (c hd v m l t n : Int) : MI := up (up (up (up (up (up (up (up (up I1 374 (61 + 132 * (b : Int) + (4 + hd)).toNat (iI v)) 374 (61 + 132 * (b : Int) + (36 + 6 * c + 0)).toNat (iI 0)) 374 (61 + 132 * (b : Int) + (36 + 6 * c + 1)).toNat (iI m)) 374 (61 + 132 * (b : Int) + (36 + 6 * c + 2)).toNat (iI l)) 374 (61 + 132 * (b : Int) + (36 + 6 * c + 3)).toNat (iI t)) 374 (61 + 132 * (b : Int) + (36 + 6 * c + 4)).toNat (iI n)) 374 (61 + 132 * (b : Int) + (36 + 6 * c + 5)).toNat (iI hd)) 374 (61 + 132 * (b : Int) + 3).toNat (iI (c + 1))) 374 (61 + 132 * (b : Int) + 1).toNat (iI (hd + 1 + n))
theorem upP_upP {W : RV} {p : Nat} {A B : PV} : upP (upP W p A) p B = upP W p B := by
  refine Prod.ext ?_ rfl
  funext q
  show (if q = p then B else if q = p then A else W.1 q) = if q = p then B else W.1 q
  by_cases h : q = p
  · rw [if_pos h, if_pos h]
  · rw [if_neg h, if_neg h, if_neg h]
theorem upP_same {W : RV} {p : Nat} : upP W p (W.1 p) = W := by
  refine Prod.ext ?_ rfl
  funext q
  show (if q = p then W.1 p else W.1 q) = W.1 q
  by_cases h : q = p
  · rw [if_pos h, h]
  · rw [if_neg h]
theorem laysC_Q {Ia Ib : MI} {P Pe : PV} {W : RV} {p : Nat} (hM : MTo I0 Ia π (upP W p Pe)) (hp : p < 6) (hPB : PBl Ia (61 + 132 * π p) Ib Pe) (h8 : 0 ≤ P 0 8 ∧ P 0 8 < 16) (h9 : 0 ≤ P 0 9 ∧ hdOf P t < 32) (ehd : hd = hdOf P t) (q8 : Pe 0 8 = P 0 8) (q10 : Pe 0 10 = P 0 10) (hdp : 0 ≤ pDelta P t) (qc : ∀ k, k < 32 → k ≠ hd.toNat → layP P m l t n 1 k = Pe 1 k) (qr : ∀ f i : Nat, 2 ≤ f → Pe f i = P f i) (qs : Ib 374 (61 + 132 * π p) = iI (if P 0 8 = 0 then t else P 4 0)) : MTo I0 (nst Ib (π p) (P 0 8) hd (if pDelta P t ≤ 15 then 16 * n + pDelta P t else 16 * n) m l t n) π (upP W p (layP P m l t n)) := by
  have hpl := hM.1.l (p := p) (by omega)
  obtain ⟨l8, l9, l10⟩ := layP_0 (P := P) (n := m) (l := l) (t := t) (d := n)
  obtain ⟨n2, n3, n4, n5, n6, n7, n8⟩ := layP_n (P := P) (n := m) (l := l) (t := t) (d := n)
  have hhd : hdOf P t = P 0 9 ∨ hdOf P t = P 0 9 + 3 := by
    unfold hdOf
    split <;> omega
  have hA := laysA_Q (m := m) (l := l) (t := t) (n := n) (hd := hd) (v := if pDelta P t ≤ 15 then 16 * n + pDelta P t else 16 * n) (P' := layP P m l t n) hpl hPB (by omega) (by omega) (by rw [q8]; exact n2) (by rw [q8]; exact n3) (by rw [q8]; exact n4) (by rw [q8]; exact n7) (by rw [q8, ehd]; exact n6) (by rw [q8]; exact n8) (by rw [q8]; exact l8) (by rw [l9, ehd]) (by rw [q10]; exact l10) (fun k hk => ?_) (fun f i hf hi => ?_)
  · rw [q8] at hA
    have hx := mto_pg hM (by omega) hA ?_
    · rw [upP_upP] at hx
      exact hx
    · rw [up_ne (by omega), up_ne (by omega), up_ne (by omega), up_ne (by omega), up_ne (by omega), up_ne (by omega), up_ne (by omega), up_ne (by omega), up_ne (by omega), qs, l8, if_neg (show ¬ P 0 8 + 1 = 0 by omega)]
      by_cases h0 : P 0 8 = 0
      · rw [if_pos h0]
        rw [show (P 0 8).toNat = 0 by omega] at n4
        rw [n4]
      · rw [if_neg h0, layP_r (by omega) (by omega)]
  · by_cases he : k = hd.toNat
    · rw [he, upv_eq, ehd, layP_h h9.1]
      by_cases hx : 15 < pDelta P t
      · rw [if_pos hx, if_neg (by omega)]
      · rw [if_neg hx, if_pos (by omega)]
    · rw [upv_ne (by omega)]
      exact qc k hk he
  · rw [q8] at hi
    rw [qr f i hf]
    exact layP_r hf hi
theorem laysE_Q {p : Nat} (hR : RQ R) (h : MTo I0 I π V) (hw : WR V) (hp : p = (plc V (V.2 0 13 - 1)).toNat) (hl : inn V < l ∧ l ≤ 3) (hn : 1 ≤ n ∧ n ≤ 8) (hfit : tlP V 0 9 + pSize (tlP V) (V.2 0 11) n ≤ V.2 0 9) {Ia Ib : MI} {Pe : PV} (hM : MTo I0 Ia π (upP (extV V) p Pe)) (hPB : PBl Ia (61 + 132 * π p) Ib Pe) (ehd : hd = hdOf (tlP V) (V.2 0 11)) (q8 : Pe 0 8 = tlP V 0 8) (q10 : Pe 0 10 = tlP V 0 10) (qc : ∀ k, k < 32 → k ≠ hd.toNat → layP (tlP V) (V.2 5 6) l (V.2 0 11) n 1 k = Pe 1 k) (qr : ∀ f i : Nat, 2 ≤ f → Pe f i = tlP V f i) (qs : Ib 374 (61 + 132 * π p) = iI (if tlP V 0 8 = 0 then V.2 0 11 else tlP V 4 0)) (n10 : Ib 374 (Int.toNat 10) = iI (V.2 5 6)) (n3 : Ib 374 (Int.toNat 3) = iI (V.2 0 11)) (edl : dl = pDelta (tlP V) (V.2 0 11)) : En (fun y => ∃ I', y = (381, I', J, R) ∧ MTo I0 I' π (opnV V l n))
      (lt_ ((iI 16) * (iI n) : Int32) fun v5 =>
        jn_ (fun (x6 : Int32) =>
          lt_ (v5 + x6 : Int32) fun v7 =>
          ck_ (381, Ib, J, R) 373 9 <| cV_ (f_X9_cellIs (381, Ib, J, R) 373 (iI (π p)) (iI hd) v7) fun S8 =>
          ck_ S8 373 9 <| cP_ (f_X9_of S8 373 (iI (π p)) (iI 3)) fun v9 =>
          lt_ ((iI 6) * v9 : Int32) fun v10 =>
          lt_ ((iI 36) + v10 : Int32) fun v11 =>
          lt_ (v11 + (iI 0) : Int32) fun v12 =>
          ck_ S8 373 9 <| cV_ (f_X9_lay S8 373 (iI (π p)) v12 (iI 0)) fun S13 =>
          lt_ (v11 + (iI 1) : Int32) fun v14 =>
          gR_ S13 373 9 1 fun a15 =>
          aI_ S13 a15 11 (iI 10) fun v16 =>
          ck_ S13 373 9 <| cV_ (f_X9_lay S13 373 (iI (π p)) v14 v16) fun S17 =>
          lt_ (v11 + (iI 2) : Int32) fun v18 =>
          ck_ S17 373 9 <| cV_ (f_X9_lay S17 373 (iI (π p)) v18 (iI l)) fun S19 =>
          lt_ (v11 + (iI 3) : Int32) fun v20 =>
          gR_ S19 373 9 1 fun a21 =>
          aI_ S19 a21 11 (iI 3) fun v22 =>
          ck_ S19 373 9 <| cV_ (f_X9_lay S19 373 (iI (π p)) v20 v22) fun S23 =>
          lt_ (v11 + (iI 4) : Int32) fun v24 =>
          ck_ S23 373 9 <| cV_ (f_X9_lay S23 373 (iI (π p)) v24 (iI n)) fun S25 =>
          lt_ (v11 + (iI 5) : Int32) fun v26 =>
          ck_ S25 373 9 <| cV_ (f_X9_lay S25 373 (iI (π p)) v26 (iI hd)) fun S27 =>
          lt_ (v9 + (iI 1) : Int32) fun v28 =>
          ck_ S27 373 9 <| cV_ (f_X9_lay S27 373 (iI (π p)) (iI 3) v28) fun S29 =>
          lt_ ((iI hd) + (iI 1) : Int32) fun v30 =>
          lt_ (v30 + (iI n) : Int32) fun v31 =>
          ck_ S29 373 9 <| cV_ (f_X9_lay S29 373 (iI (π p)) (iI 1) v31) fun S32 =>
          gR_ S32 373 9 1 fun a33 =>
          gR_ S32 373 9 1 fun a34 =>
          aI_ S32 a34 11 (iI 20) fun v35 =>
          cP_ (f_X9_greater S32 v35 (iI dl)) fun v36 =>
          sI_ S32 a33 (iI 20) v36 fun S37 =>
          gR_ S37 373 9 1 fun a38 =>
          aI_ S37 a38 11 (iI 6) fun v39 =>
          lt_ ((iI 3) * v39 : Int32) fun v40 =>
          lt_ ((iI 43) + v40 : Int32) fun v41 =>
          gR_ S37 373 9 1 fun a42 =>
          sI_ S37 a42 v41 (iI (π p)) fun S43 =>
          gR_ S43 373 9 1 fun a44 =>
          lt_ (v41 + (iI 1) : Int32) fun v45 =>
          sI_ S43 a44 v45 v9 fun S46 =>
          gR_ S46 373 9 1 fun a47 =>
          lt_ (v41 + (iI 2) : Int32) fun v48 =>
          sI_ S46 a47 v48 (iI 0) fun S49 =>
          gR_ S49 373 9 1 fun a50 =>
          aI_ S49 a50 11 (iI 6) fun v51 =>
          lt_ (v51 + (iI 1) : Int32) fun v52 =>
          sI_ S49 a50 (iI 6) v52 fun S53 =>
          gR_ S53 373 9 1 fun a54 =>
          gR_ S53 373 9 1 fun a55 =>
          aI_ S53 a55 11 (iI 21) fun v56 =>
          gR_ S53 373 9 1 fun a57 =>
          aI_ S53 a57 11 (iI 6) fun v58 =>
          cP_ (f_X9_greater S53 v56 v58) fun v59 =>
          sI_ S53 a54 (iI 21) v59 fun S60 =>
          gR_ S60 373 9 1 fun a61 =>
          lt_ ((iI 22) + (iI l) : Int32) fun v62 =>
          aI_ S60 a61 11 v62 fun v63 =>
          lt_ (v63 + (iI 1) : Int32) fun v64 =>
          sI_ S60 a61 v62 v64 fun S65 =>
          rt_ S65
        ) fun j6 =>
        if (iI dl) ≤ (iI 15) then
          j6 (iI dl)
        else
          j6 ((iI 0))) := by
  subst edl
  have hq := h.1
  have htl := tlp_in hw
  have hil := inn_le hw
  have hwp := htl.2.2.2.2
  have hb0 := hw.1
  unfold WB at hb0
  have hdl := hwp.delta (by omega) (by omega)
  have hpp : p < 6 := by omega
  have hpl := hq.l (p := p) (by omega)
  have eP : V.1 p = tlP V := by
    rw [hp]
    rfl
  have hP : PM I (61 + 132 * π p) (tlP V) := by
    have := hq.g (p := p) (by omega)
    rw [eP] at this
    exact this
  have hde := deltaIn_Q (J := J) hR hq hw (p := p) (by omega)
  rw [eP] at hde
  have hu := pm_u hP
  have hcn := pm_n hP
  have hst : I 374 (61 + 132 * π p) = iI (if tlP V 0 8 = 0 then -1 else tlP V 4 0) := hP.1
  have hsz := hdOf_size (P := tlP V) (t := V.2 0 11) (d := n)
  have m10 : I 374 (Int.toNat 10) = iI (V.2 5 6) := hq.s 10 (by decide)
  have m16 : I 374 (Int.toNat 16) = iI (V.2 5 13) := hq.s 16 (by decide)
  have hw8 := hwp.1
  have hw9 := hwp.2.2.1
  have hw4 := hwp.2.2.2.1
  have hsz2 : pSize (tlP V) (V.2 0 11) n ≥ 1 + n := by
    unfold pSize
    split <;> omega
  have hit16 : tlP V 0 8 < 16 := by omega
  have hhd0 : hdOf (tlP V) (V.2 0 11) < 32 := by omega
  have hwe := wr_ext hw
  have x15 : (extV V).2 0 15 = V.2 0 15 := extV_2 (by omega)
  have ecom : upG (upG (upG (upG (upG (upG (upG (upP (extV V) p (layP (tlP V) (V.2 5 6) l (V.2 0 11) n)) 5 18 (mxI ((extV V).2 5 18) (pDelta (tlP V) (V.2 0 11)))) 2 ((extV V).2 0 15).toNat p) 3 ((extV V).2 0 15).toNat (tlP V 0 8)) 4 ((extV V).2 0 15).toNat 0) 0 15 ((extV V).2 0 15 + 1)) 5 19 (mxI ((extV V).2 5 19) ((extV V).2 0 15 + 1))) 5 (20 + l).toNat ((extV V).2 5 (20 + l).toNat + 1) = opnV V l n := by
    rw [lays1_comm _ (by omega), x15]
    unfold opnV
    have e1 := extV_o (V := V) (m := V.2 5 6) (l := l) (n := n)
    rw [show plc V (V.2 0 13 - 1) = (p : Int) by omega, Int.toNat_natCast] at e1
    have f1 : ∀ k, (opn4 (extV V) (V.2 5 6) l n).2 5 k = (extV V).2 5 k := fun k => opn4_g (by omega) (by omega)
    rw [← e1]
    dsimp only
    rw [f1, upG_ne (g' := 5) (k' := 18) (by omega), f1, upG_ne (g' := 5) (k' := 19) (by omega), upG_ne (g' := 5) (k' := 19) (by omega), f1]
  have n8 : Ib 374 (61 + 132 * (π p : Int) + 3).toNat = iI (tlP V 0 8) := by
    rw [show (61 + 132 * (π p : Int) + 3).toNat = 61 + 132 * π p + 3 by omega, hPB.1.2.2.1, q8]
  have hhd1 : 0 ≤ hd := by
    rw [ehd]
    unfold hdOf
    split <;> omega
  with_reducible refine laysM_Q (b := π p) (l := l) (hd := hd) (m := V.2 5 6) (t := V.2 0 11) (c := tlP V 0 8) hR (by omega) hn (by omega) (by omega) hdl n8 n10 n3 ?_
  have hC := laysC_Q (Ia := Ia) (Ib := Ib) (P := tlP V) (Pe := Pe) (W := extV V) (p := p) (m := V.2 5 6) (l := l) (t := V.2 0 11) (n := n) (hd := hd) hM hpp hPB (by omega) (by omega) ehd q8 q10 (by omega) qc qr qs
  refine En.mono (laysB_Q (J := J) hR hC hwe (by omega) (by omega) hdl (it := tlP V 0 8) rfl (by omega)) ?_
  rw [ecom]
  exact fun x hx => hx
theorem laysF_Q {p : Nat} (hR : RQ R) (h : MTo I0 I π V) (hw : WR V) (hp : p = (plc V (V.2 0 13 - 1)).toNat) (hl : inn V < l ∧ l ≤ 3) (hn : 1 ≤ n ∧ n ≤ 8) (hfit : tlP V 0 9 + pSize (tlP V) (V.2 0 11) n ≤ V.2 0 9) {us : Int} (hB1 : PBl I (61 + 132 * π p) I1 (tlP V)) (hs1 : I1 374 (61 + 132 * π p) = iI (if tlP V 0 8 = 0 then V.2 0 11 else tlP V 4 0)) (n10 : I1 374 (Int.toNat 10) = iI (V.2 5 6)) (n3 : I1 374 (Int.toNat 3) = iI (V.2 0 11)) (hcase : tlP V 0 8 = 0 ∨ I1 = I) (edl : dl = pDelta (tlP V) (V.2 0 11)) (eus : us = tlP V 0 9) : En (fun y => ∃ I', y = (381, I', J, R) ∧ MTo I0 I' π (opnV V l n))
      (jn_ (fun (x4 : Int32 × St) =>
        lt_ ((iI 16) * (iI n) : Int32) fun v5 =>
        jn_ (fun (x6 : Int32) =>
          lt_ (v5 + x6 : Int32) fun v7 =>
          ck_ x4.2 373 9 <| cV_ (f_X9_cellIs x4.2 373 (iI (π p)) x4.1 v7) fun S8 =>
          ck_ S8 373 9 <| cP_ (f_X9_of S8 373 (iI (π p)) (iI 3)) fun v9 =>
          lt_ ((iI 6) * v9 : Int32) fun v10 =>
          lt_ ((iI 36) + v10 : Int32) fun v11 =>
          lt_ (v11 + (iI 0) : Int32) fun v12 =>
          ck_ S8 373 9 <| cV_ (f_X9_lay S8 373 (iI (π p)) v12 (iI 0)) fun S13 =>
          lt_ (v11 + (iI 1) : Int32) fun v14 =>
          gR_ S13 373 9 1 fun a15 =>
          aI_ S13 a15 11 (iI 10) fun v16 =>
          ck_ S13 373 9 <| cV_ (f_X9_lay S13 373 (iI (π p)) v14 v16) fun S17 =>
          lt_ (v11 + (iI 2) : Int32) fun v18 =>
          ck_ S17 373 9 <| cV_ (f_X9_lay S17 373 (iI (π p)) v18 (iI l)) fun S19 =>
          lt_ (v11 + (iI 3) : Int32) fun v20 =>
          gR_ S19 373 9 1 fun a21 =>
          aI_ S19 a21 11 (iI 3) fun v22 =>
          ck_ S19 373 9 <| cV_ (f_X9_lay S19 373 (iI (π p)) v20 v22) fun S23 =>
          lt_ (v11 + (iI 4) : Int32) fun v24 =>
          ck_ S23 373 9 <| cV_ (f_X9_lay S23 373 (iI (π p)) v24 (iI n)) fun S25 =>
          lt_ (v11 + (iI 5) : Int32) fun v26 =>
          ck_ S25 373 9 <| cV_ (f_X9_lay S25 373 (iI (π p)) v26 x4.1) fun S27 =>
          lt_ (v9 + (iI 1) : Int32) fun v28 =>
          ck_ S27 373 9 <| cV_ (f_X9_lay S27 373 (iI (π p)) (iI 3) v28) fun S29 =>
          lt_ (x4.1 + (iI 1) : Int32) fun v30 =>
          lt_ (v30 + (iI n) : Int32) fun v31 =>
          ck_ S29 373 9 <| cV_ (f_X9_lay S29 373 (iI (π p)) (iI 1) v31) fun S32 =>
          gR_ S32 373 9 1 fun a33 =>
          gR_ S32 373 9 1 fun a34 =>
          aI_ S32 a34 11 (iI 20) fun v35 =>
          cP_ (f_X9_greater S32 v35 (iI dl)) fun v36 =>
          sI_ S32 a33 (iI 20) v36 fun S37 =>
          gR_ S37 373 9 1 fun a38 =>
          aI_ S37 a38 11 (iI 6) fun v39 =>
          lt_ ((iI 3) * v39 : Int32) fun v40 =>
          lt_ ((iI 43) + v40 : Int32) fun v41 =>
          gR_ S37 373 9 1 fun a42 =>
          sI_ S37 a42 v41 (iI (π p)) fun S43 =>
          gR_ S43 373 9 1 fun a44 =>
          lt_ (v41 + (iI 1) : Int32) fun v45 =>
          sI_ S43 a44 v45 v9 fun S46 =>
          gR_ S46 373 9 1 fun a47 =>
          lt_ (v41 + (iI 2) : Int32) fun v48 =>
          sI_ S46 a47 v48 (iI 0) fun S49 =>
          gR_ S49 373 9 1 fun a50 =>
          aI_ S49 a50 11 (iI 6) fun v51 =>
          lt_ (v51 + (iI 1) : Int32) fun v52 =>
          sI_ S49 a50 (iI 6) v52 fun S53 =>
          gR_ S53 373 9 1 fun a54 =>
          gR_ S53 373 9 1 fun a55 =>
          aI_ S53 a55 11 (iI 21) fun v56 =>
          gR_ S53 373 9 1 fun a57 =>
          aI_ S53 a57 11 (iI 6) fun v58 =>
          cP_ (f_X9_greater S53 v56 v58) fun v59 =>
          sI_ S53 a54 (iI 21) v59 fun S60 =>
          gR_ S60 373 9 1 fun a61 =>
          lt_ ((iI 22) + (iI l) : Int32) fun v62 =>
          aI_ S60 a61 11 v62 fun v63 =>
          lt_ (v63 + (iI 1) : Int32) fun v64 =>
          sI_ S60 a61 v62 v64 fun S65 =>
          rt_ S65
        ) fun j6 =>
        if (iI dl) ≤ (iI 15) then
          j6 (iI dl)
        else
          j6 ((iI 0))
      ) fun j4 =>
      if (iI dl) ≤ (iI 15) then
        j4 (iI us, (381, I1, J, R))
      else
        rm_ (iI dl) (iI 16) fun v66 =>
        lt_ ((iI 240) + v66 : Int32) fun v67 =>
        ck_ (381, I1, J, R) 373 9 <| cV_ (f_X9_cellIs (381, I1, J, R) 373 (iI (π p)) (iI us) v67) fun S68 =>
        lt_ ((iI us) + (iI 1) : Int32) fun v69 =>
        dv_ (iI dl) (iI 16) fun v70 =>
        rm_ v70 (iI 256) fun v71 =>
        ck_ S68 373 9 <| cV_ (f_X9_cellIs S68 373 (iI (π p)) v69 v71) fun S72 =>
        lt_ ((iI us) + (iI 2) : Int32) fun v73 =>
        dv_ (iI dl) (iI 4096) fun v74 =>
        ck_ S72 373 9 <| cV_ (f_X9_cellIs S72 373 (iI (π p)) v73 v74) fun S75 =>
        lt_ ((iI us) + iI 3) fun v76 =>
        gR_ S75 373 9 1 fun a77 =>
        aI_ S75 a77 11 (iI 16) fun v78 =>
        lt_ (v78 + (iI 1) : Int32) fun v79 =>
        sI_ S75 a77 (iI 16) v79 fun S80 =>
        j4 (v76, S80)) := by
  subst edl
  subst eus
  have hq := h.1
  have htl := tlp_in hw
  have hil := inn_le hw
  have hwp := htl.2.2.2.2
  have hb0 := hw.1
  unfold WB at hb0
  have hdl := hwp.delta (by omega) (by omega)
  have hpp : p < 6 := by omega
  have hpl := hq.l (p := p) (by omega)
  have eP : V.1 p = tlP V := by
    rw [hp]
    rfl
  have hP : PM I (61 + 132 * π p) (tlP V) := by
    have := hq.g (p := p) (by omega)
    rw [eP] at this
    exact this
  have hde := deltaIn_Q (J := J) hR hq hw (p := p) (by omega)
  rw [eP] at hde
  have hu := pm_u hP
  have hcn := pm_n hP
  have hst : I 374 (61 + 132 * π p) = iI (if tlP V 0 8 = 0 then -1 else tlP V 4 0) := hP.1
  have hsz := hdOf_size (P := tlP V) (t := V.2 0 11) (d := n)
  have m10 : I 374 (Int.toNat 10) = iI (V.2 5 6) := hq.s 10 (by decide)
  have m16 : I 374 (Int.toNat 16) = iI (V.2 5 13) := hq.s 16 (by decide)
  have hw8 := hwp.1
  have hw9 := hwp.2.2.1
  have hw4 := hwp.2.2.2.1
  have hsz2 : pSize (tlP V) (V.2 0 11) n ≥ 1 + n := by
    unfold pSize
    split <;> omega
  have hit16 : tlP V 0 8 < 16 := by omega
  have hhd0 : hdOf (tlP V) (V.2 0 11) < 32 := by omega
  have hwe := wr_ext hw
  have x15 : (extV V).2 0 15 = V.2 0 15 := extV_2 (by omega)
  have k374 := kd_374
  have k375 := kd_375
  have l375 := ln_375
  have rq1 := hR.1
  by_cases h15 : pDelta (tlP V) (V.2 0 11) ≤ 15
  · have ehd : hdOf (tlP V) (V.2 0 11) = tlP V 0 9 := if_neg (by omega)
    have eex : extV V = V := if_neg (by omega)
    refine w_jnP (fun x4 => x4 = (iI (tlP V 0 9), (381, I1, J, R))) ?_ ?_
    · rintro x4 rfl
      dsimp only
      refine laysE_Q (J := J) (Ia := I) (Ib := I1) (Pe := tlP V) (hd := tlP V 0 9) hR h hw hp hl hn hfit (by rw [eex, ← eP, upP_same]; exact h) hB1 ehd.symm rfl rfl (fun k hk hne => ?_) (fun _ _ _ => rfl) hs1 n10 n3 rfl
      unfold layP
      rw [if_neg (by omega), ehd]
      simp (disch := omega) only [upv_ne]
    · intro j hj
      repeat ((first | (with_reducible first | refine w_cell hR (by omega) (by omega) ?_ | refine w_of hR (by omega) (by omega) ?_ | refine w_lay hR (by omega) (by omega) ?_ | refine w_ltA ?_ | refine w_ltS ?_ | refine w_ltM ?_ | refine w_ltN ?_ | refine w_lt ?_ | refine w_jn ?_ | refine w_ck (by omega) (by assumption) ?_ | refine w_gI (by omega) (by assumption) ?_ | refine w_gR (by omega) (by assumption) (by assumption) ?_ | refine w_al (by omega) (by assumption) (by assumption) ?_ | refine w_pI (by omega) (by assumption) ?_ | refine w_set (by omega) (by assumption) (by omega) (by omega) ?_ | refine w_at (by omega) (by assumption) (by omega) (by omega) ?_ | refine w_sI (by omega) (by assumption) (by omega) (by omega) ?_ | refine w_aI (by omega) (by assumption) (by omega) (by omega) ?_ | refine w_sZ (by omega) (by assumption) (by omega) (by omega) (by decide) ?_ | refine w_pZ (by omega) (by assumption) (by decide) ?_ | refine w_dv (by omega) (by omega) (by omega) (by omega) ?_ | refine w_rm (by omega) (by omega) (by omega) (by omega) ?_) | ((with_reducible refine w_pos ?_ ?_); focus (first | assumption | trivial | exact (ile (by omega) (by omega) (by omega) (by omega)).2 (by omega) | exact (ilt (by omega) (by omega) (by omega) (by omega)).2 (by omega) | exact (ieq (by omega) (by omega) (by omega) (by omega)).2 (by omega))) | ((with_reducible refine w_neg ?_ ?_); focus (first | assumption | exact not_false | trivial | exact mt (ile (by omega) (by omega) (by omega) (by omega)).1 (by omega) | exact mt (ilt (by omega) (by omega) (by omega) (by omega)).1 (by omega) | exact mt (ieq (by omega) (by omega) (by omega) (by omega)).1 (by omega)))); skip)
      exact hj _ rfl
  · have ehd : hdOf (tlP V) (V.2 0 11) = tlP V 0 9 + 3 := if_pos (by omega)
    have eex : extV V = upG V 5 13 (V.2 5 13 + 1) := if_pos (by omega)
    have hne0 : tlP V 0 8 ≠ 0 := fun h0 => by
      unfold pDelta at h15
      rw [if_pos h0] at h15
      omega
    have e1 : I1 = I := by
      rcases hcase with h | h
      · exact absurd h hne0
      · exact h
    subst e1
    have hc1 := pb_c (c := tlP V 0 9) (v := 240 + pDelta (tlP V) (V.2 0 11) % 16) hB1 (by omega) (by omega)
    have hc2 := pb_c (c := tlP V 0 9 + 1) (v := pDelta (tlP V) (V.2 0 11) / 16 % 256) hc1 (by omega) (by omega)
    have hc3 := pb_c (c := tlP V 0 9 + 2) (v := pDelta (tlP V) (V.2 0 11) / 4096) hc2 (by omega) (by omega)
    have g0 : upv (upv (upv (tlP V) 1 (tlP V 0 9).toNat (240 + pDelta (tlP V) (V.2 0 11) % 16)) 1 (tlP V 0 9 + 1).toNat (pDelta (tlP V) (V.2 0 11) / 16 % 256)) 1 (tlP V 0 9 + 2).toNat (pDelta (tlP V) (V.2 0 11) / 4096) 0 8 = tlP V 0 8 := by
      rw [upv_ne (by omega), upv_ne (by omega), upv_ne (by omega)]
    have g4 : upv (upv (upv (tlP V) 1 (tlP V 0 9).toNat (240 + pDelta (tlP V) (V.2 0 11) % 16)) 1 (tlP V 0 9 + 1).toNat (pDelta (tlP V) (V.2 0 11) / 16 % 256)) 1 (tlP V 0 9 + 2).toNat (pDelta (tlP V) (V.2 0 11) / 4096) 4 0 = tlP V 4 0 := by
      rw [upv_ne (by omega), upv_ne (by omega), upv_ne (by omega)]
    have hM1 := mto_pg h (show p < 7 by omega) hc3 (by rw [g0, g4, up_ne (by omega), up_ne (by omega), up_ne (by omega), hs1, if_neg hne0, if_neg hne0])
    have hM2 := mto_s hM1 16 (g := 5) (k := 13) rfl (V.2 5 13 + 1) (by decide) (by decide)
    refine w_jnP (fun x4 => x4 = (iI (tlP V 0 9 + 3), (381, up (up (up (up I1 374 (61 + 132 * (π p : Int) + (4 + tlP V 0 9)).toNat (iI (240 + pDelta (tlP V) (V.2 0 11) % 16))) 374 (61 + 132 * (π p : Int) + (4 + (tlP V 0 9 + 1))).toNat (iI (pDelta (tlP V) (V.2 0 11) / 16 % 256))) 374 (61 + 132 * (π p : Int) + (4 + (tlP V 0 9 + 2))).toNat (iI (pDelta (tlP V) (V.2 0 11) / 4096))) 374 (Int.toNat 16) (iI (V.2 5 13 + 1)), J, R))) ?_ ?_
    · rintro x4 rfl
      dsimp only
      refine laysE_Q (J := J) (Ia := _) (Ib := _) (Pe := _) (hd := tlP V 0 9 + 3) hR h hw hp hl hn hfit (by rw [eex]; exact hM2) (pb_0 (by
        have := hM2.1.g (p := p) (by omega)
        have e5 : (upG (upP V p (upv (upv (upv (tlP V) 1 (tlP V 0 9).toNat (240 + pDelta (tlP V) (V.2 0 11) % 16)) 1 (tlP V 0 9 + 1).toNat (pDelta (tlP V) (V.2 0 11) / 16 % 256)) 1 (tlP V 0 9 + 2).toNat (pDelta (tlP V) (V.2 0 11) / 4096))) 5 13 (V.2 5 13 + 1)).1 p = upv (upv (upv (tlP V) 1 (tlP V 0 9).toNat (240 + pDelta (tlP V) (V.2 0 11) % 16)) 1 (tlP V 0 9 + 1).toNat (pDelta (tlP V) (V.2 0 11) / 16 % 256)) 1 (tlP V 0 9 + 2).toNat (pDelta (tlP V) (V.2 0 11) / 4096) := if_pos rfl
        rw [e5] at this
        exact this)) ehd.symm g0 (by rw [upv_ne (by omega), upv_ne (by omega), upv_ne (by omega)]) (fun k hk hne => ?_) (fun f i hf => by rw [upv_ne (by omega), upv_ne (by omega), upv_ne (by omega)]) (by rw [up_ne (by omega), up_ne (by omega), up_ne (by omega), up_ne (by omega)]; exact hs1) (by rw [up_ne (by omega), up_ne (by omega), up_ne (by omega), up_ne (by omega)]; exact n10) (by rw [up_ne (by omega), up_ne (by omega), up_ne (by omega), up_ne (by omega)]; exact n3) rfl
      unfold layP
      rw [if_pos (by omega), ehd]
      rw [upv_ne (by omega), upv_ne (by omega), upv_ne (by omega), upv_ne (by omega), upv_ne (by omega), upv_ne (by omega), upv_ne (by omega), upv_ne (by omega), upv_ne (by omega), upv_ne (by omega)]
    · intro j hj
      repeat ((first | (with_reducible first | refine w_cell hR (by omega) (by omega) ?_ | refine w_ltA ?_ | refine w_ltS ?_ | refine w_ltM ?_ | refine w_ltN ?_ | refine w_lt ?_ | refine w_jn ?_ | refine w_ck (by omega) (by assumption) ?_ | refine w_gI (by omega) (by assumption) ?_ | refine w_gR (by omega) (by assumption) (by assumption) ?_ | refine w_al (by omega) (by assumption) (by assumption) ?_ | refine w_pI (by omega) (by assumption) ?_ | refine w_set (by omega) (by assumption) (by omega) (by omega) ?_ | refine w_at (by omega) (by assumption) (by omega) (by omega) ?_ | refine w_sI (by omega) (by assumption) (by omega) (by omega) ?_ | refine w_aI (by omega) (by assumption) (by omega) (by omega) ?_ | refine w_sZ (by omega) (by assumption) (by omega) (by omega) (by decide) ?_ | refine w_pZ (by omega) (by assumption) (by decide) ?_ | refine w_dv (by omega) (by omega) (by omega) (by omega) ?_ | refine w_rm (by omega) (by omega) (by omega) (by omega) ?_) | ((with_reducible refine w_pos ?_ ?_); focus (first | assumption | trivial | exact (ile (by omega) (by omega) (by omega) (by omega)).2 (by omega) | exact (ilt (by omega) (by omega) (by omega) (by omega)).2 (by omega) | exact (ieq (by omega) (by omega) (by omega) (by omega)).2 (by omega))) | ((with_reducible refine w_neg ?_ ?_); focus (first | assumption | exact not_false | trivial | exact mt (ile (by omega) (by omega) (by omega) (by omega)).1 (by omega) | exact mt (ilt (by omega) (by omega) (by omega) (by omega)).1 (by omega) | exact mt (ieq (by omega) (by omega) (by omega) (by omega)).1 (by omega)))); try simp (disch := omega) only [up_ne, m16])
      exact hj _ rfl
theorem lays_Q {p : Nat} (hR : RQ R) (h : MTo I0 I π V) (hw : WR V) (hp : p = (plc V (V.2 0 13 - 1)).toNat) (hl : inn V < l ∧ l ≤ 3) (hn : 1 ≤ n ∧ n ≤ 8) (hfit : tlP V 0 9 + pSize (tlP V) (V.2 0 11) n ≤ V.2 0 9) : En (fun y => ∃ I', y = (381, I', J, R) ∧ MTo I0 I' π (opnV V l n)) (f_X9_lays (381, I, J, R) 373 (iI (π p)) (iI l) (iI n)) := by
  have hq := h.1
  have htl := tlp_in hw
  have hil := inn_le hw
  have hwp := htl.2.2.2.2
  have hb0 := hw.1
  unfold WB at hb0
  have hdl := hwp.delta (by omega) (by omega)
  have hpp : p < 6 := by omega
  have hpl := hq.l (p := p) (by omega)
  have eP : V.1 p = tlP V := by
    rw [hp]
    rfl
  have hP : PM I (61 + 132 * π p) (tlP V) := by
    have := hq.g (p := p) (by omega)
    rw [eP] at this
    exact this
  have hde := deltaIn_Q (J := J) hR hq hw (p := p) (by omega)
  rw [eP] at hde
  have hu := pm_u hP
  have hcn := pm_n hP
  have hst : I 374 (61 + 132 * π p) = iI (if tlP V 0 8 = 0 then -1 else tlP V 4 0) := hP.1
  have hsz := hdOf_size (P := tlP V) (t := V.2 0 11) (d := n)
  have m10 : I 374 (Int.toNat 10) = iI (V.2 5 6) := hq.s 10 (by decide)
  have m16 : I 374 (Int.toNat 16) = iI (V.2 5 13) := hq.s 16 (by decide)
  have hw8 := hwp.1
  have hw9 := hwp.2.2.1
  have hw4 := hwp.2.2.2.1
  have hsz2 : pSize (tlP V) (V.2 0 11) n ≥ 1 + n := by
    unfold pSize
    split <;> omega
  have hit16 : tlP V 0 8 < 16 := by omega
  have hhd0 : hdOf (tlP V) (V.2 0 11) < 32 := by omega
  have hwe := wr_ext hw
  have x15 : (extV V).2 0 15 = V.2 0 15 := extV_2 (by omega)
  have hst1 := hst
  have k374 := kd_374
  have k375 := kd_375
  have l375 := ln_375
  have k381 := kd_381
  have l381 := ln_381
  have hR0 := hR
  obtain ⟨rq1, rq2, rq3, rq12, rq16, rq17, rq19⟩ := hR
  have m0 : I 374 (Int.toNat 0) = iI (V.2 0 8) := hq.s 0 (by decide)
  have m1 : I 374 (Int.toNat 1) = iI (V.2 0 9) := hq.s 1 (by decide)
  have m2 : I 374 (Int.toNat 2) = iI (V.2 0 10) := hq.s 2 (by decide)
  have m3 : I 374 (Int.toNat 3) = iI (V.2 0 11) := hq.s 3 (by decide)
  have m4 : I 374 (Int.toNat 4) = iI (V.2 0 12) := hq.s 4 (by decide)
  have m5 : I 374 (Int.toNat 5) = iI (plc V (V.2 0 13 - 1)) := hq.t
  have m6 : I 374 (Int.toNat 6) = iI (V.2 0 15) := hq.s 6 (by decide)
  have m7 : I 374 (Int.toNat 7) = iI (π 6) := hq.r
  have m8 : I 374 (Int.toNat 8) = iI (V.2 0 7) := hq.s 8 (by decide)
  have m9 : I 374 (Int.toNat 9) = iI (V.2 0 14) := hq.s 9 (by decide)
  have hbb := hw.1
  unfold WB at hbb
  rw [u_X9_lays]
  ((first | (with_reducible first | refine w_of hR0 (by omega) (by omega) ?_ | refine w_lay hR0 (by omega) (by omega) ?_ | refine w_ltA ?_ | refine w_ltS ?_ | refine w_ltM ?_ | refine w_ltN ?_ | refine w_lt ?_ | refine w_jn ?_ | refine w_ck (by omega) (by assumption) ?_ | refine w_gI (by omega) (by assumption) ?_ | refine w_gR (by omega) (by assumption) (by assumption) ?_ | refine w_al (by omega) (by assumption) (by assumption) ?_ | refine w_pI (by omega) (by assumption) ?_ | refine w_set (by omega) (by assumption) (by omega) (by omega) ?_ | refine w_at (by omega) (by assumption) (by omega) (by omega) ?_ | refine w_sI (by omega) (by assumption) (by omega) (by omega) ?_ | refine w_aI (by omega) (by assumption) (by omega) (by omega) ?_ | refine w_sZ (by omega) (by assumption) (by omega) (by omega) (by decide) ?_ | refine w_pZ (by omega) (by assumption) (by decide) ?_ | refine w_dv (by omega) (by omega) (by omega) (by omega) ?_ | refine w_rm (by omega) (by omega) (by omega) (by omega) ?_) | ((with_reducible refine w_pos ?_ ?_); focus (first | assumption | trivial | exact (ile (by omega) (by omega) (by omega) (by omega)).2 (by omega) | exact (ilt (by omega) (by omega) (by omega) (by omega)).2 (by omega) | exact (ieq (by omega) (by omega) (by omega) (by omega)).2 (by omega))) | ((with_reducible refine w_neg ?_ ?_); focus (first | assumption | exact not_false | trivial | exact mt (ile (by omega) (by omega) (by omega) (by omega)).1 (by omega) | exact mt (ilt (by omega) (by omega) (by omega) (by omega)).1 (by omega) | exact mt (ieq (by omega) (by omega) (by omega) (by omega)).1 (by omega)))); try simp (disch := omega) only [hu])
  refine w_cP hde ?_
  ((first | (with_reducible first | refine w_of hR0 (by omega) (by omega) ?_ | refine w_lay hR0 (by omega) (by omega) ?_ | refine w_ltA ?_ | refine w_ltS ?_ | refine w_ltM ?_ | refine w_ltN ?_ | refine w_lt ?_ | refine w_jn ?_ | refine w_ck (by omega) (by assumption) ?_ | refine w_gI (by omega) (by assumption) ?_ | refine w_gR (by omega) (by assumption) (by assumption) ?_ | refine w_al (by omega) (by assumption) (by assumption) ?_ | refine w_pI (by omega) (by assumption) ?_ | refine w_set (by omega) (by assumption) (by omega) (by omega) ?_ | refine w_at (by omega) (by assumption) (by omega) (by omega) ?_ | refine w_sI (by omega) (by assumption) (by omega) (by omega) ?_ | refine w_aI (by omega) (by assumption) (by omega) (by omega) ?_ | refine w_sZ (by omega) (by assumption) (by omega) (by omega) (by decide) ?_ | refine w_pZ (by omega) (by assumption) (by decide) ?_ | refine w_dv (by omega) (by omega) (by omega) (by omega) ?_ | refine w_rm (by omega) (by omega) (by omega) (by omega) ?_) | ((with_reducible refine w_pos ?_ ?_); focus (first | assumption | trivial | exact (ile (by omega) (by omega) (by omega) (by omega)).2 (by omega) | exact (ilt (by omega) (by omega) (by omega) (by omega)).2 (by omega) | exact (ieq (by omega) (by omega) (by omega) (by omega)).2 (by omega))) | ((with_reducible refine w_neg ?_ ?_); focus (first | assumption | exact not_false | trivial | exact mt (ile (by omega) (by omega) (by omega) (by omega)).1 (by omega) | exact mt (ilt (by omega) (by omega) (by omega) (by omega)).1 (by omega) | exact mt (ieq (by omega) (by omega) (by omega) (by omega)).1 (by omega)))); try simp (disch := omega) only [hu])
  ((first | (with_reducible first | refine w_of hR0 (by omega) (by omega) ?_ | refine w_lay hR0 (by omega) (by omega) ?_ | refine w_ltA ?_ | refine w_ltS ?_ | refine w_ltM ?_ | refine w_ltN ?_ | refine w_lt ?_ | refine w_jn ?_ | refine w_ck (by omega) (by assumption) ?_ | refine w_gI (by omega) (by assumption) ?_ | refine w_gR (by omega) (by assumption) (by assumption) ?_ | refine w_al (by omega) (by assumption) (by assumption) ?_ | refine w_pI (by omega) (by assumption) ?_ | refine w_set (by omega) (by assumption) (by omega) (by omega) ?_ | refine w_at (by omega) (by assumption) (by omega) (by omega) ?_ | refine w_sI (by omega) (by assumption) (by omega) (by omega) ?_ | refine w_aI (by omega) (by assumption) (by omega) (by omega) ?_ | refine w_sZ (by omega) (by assumption) (by omega) (by omega) (by decide) ?_ | refine w_pZ (by omega) (by assumption) (by decide) ?_ | refine w_dv (by omega) (by omega) (by omega) (by omega) ?_ | refine w_rm (by omega) (by omega) (by omega) (by omega) ?_) | ((with_reducible refine w_pos ?_ ?_); focus (first | assumption | trivial | exact (ile (by omega) (by omega) (by omega) (by omega)).2 (by omega) | exact (ilt (by omega) (by omega) (by omega) (by omega)).2 (by omega) | exact (ieq (by omega) (by omega) (by omega) (by omega)).2 (by omega))) | ((with_reducible refine w_neg ?_ ?_); focus (first | assumption | exact not_false | trivial | exact mt (ile (by omega) (by omega) (by omega) (by omega)).1 (by omega) | exact mt (ilt (by omega) (by omega) (by omega) (by omega)).1 (by omega) | exact mt (ieq (by omega) (by omega) (by omega) (by omega)).1 (by omega)))); try simp (disch := omega) only [hu])
  with_reducible refine w_jnP (fun x3 => ∃ I1, x3 = (381, I1, J, R) ∧ PBl I (61 + 132 * π p) I1 (tlP V) ∧ I1 374 (61 + 132 * π p) = iI (if tlP V 0 8 = 0 then V.2 0 11 else tlP V 4 0) ∧ I1 374 (Int.toNat 10) = iI (V.2 5 6) ∧ I1 374 (Int.toNat 3) = iI (V.2 0 11) ∧ (tlP V 0 8 = 0 ∨ I1 = I)) ?_ ?_
  · rintro x3 ⟨I1, rfl, hB1, hs1, n10, n3, hcase⟩
    with_reducible exact laysF_Q (J := J) hR0 h hw hp hl hn hfit hB1 hs1 n10 n3 hcase rfl rfl
  · intro j hj
    by_cases h0 : tlP V 0 8 = 0
    · rw [if_pos h0] at hw4
      repeat ((first | (with_reducible first | refine w_of hR0 (by omega) (by omega) ?_ | refine w_lay hR0 (by omega) (by omega) ?_ | refine w_ltA ?_ | refine w_ltS ?_ | refine w_ltM ?_ | refine w_ltN ?_ | refine w_lt ?_ | refine w_jn ?_ | refine w_ck (by omega) (by assumption) ?_ | refine w_gI (by omega) (by assumption) ?_ | refine w_gR (by omega) (by assumption) (by assumption) ?_ | refine w_al (by omega) (by assumption) (by assumption) ?_ | refine w_pI (by omega) (by assumption) ?_ | refine w_set (by omega) (by assumption) (by omega) (by omega) ?_ | refine w_at (by omega) (by assumption) (by omega) (by omega) ?_ | refine w_sI (by omega) (by assumption) (by omega) (by omega) ?_ | refine w_aI (by omega) (by assumption) (by omega) (by omega) ?_ | refine w_sZ (by omega) (by assumption) (by omega) (by omega) (by decide) ?_ | refine w_pZ (by omega) (by assumption) (by decide) ?_ | refine w_dv (by omega) (by omega) (by omega) (by omega) ?_ | refine w_rm (by omega) (by omega) (by omega) (by omega) ?_) | ((with_reducible refine w_pos ?_ ?_); focus (first | assumption | trivial | exact (ile (by omega) (by omega) (by omega) (by omega)).2 (by omega) | exact (ilt (by omega) (by omega) (by omega) (by omega)).2 (by omega) | exact (ieq (by omega) (by omega) (by omega) (by omega)).2 (by omega))) | ((with_reducible refine w_neg ?_ ?_); focus (first | assumption | exact not_false | trivial | exact mt (ile (by omega) (by omega) (by omega) (by omega)).1 (by omega) | exact mt (ilt (by omega) (by omega) (by omega) (by omega)).1 (by omega) | exact mt (ieq (by omega) (by omega) (by omega) (by omega)).1 (by omega)))); try simp (disch := omega) only [m3])
      refine hj _ ⟨_, rfl, pb_s (pb_0 hP), ?_, ?_, ?_, Or.inl h0⟩
      · rw [if_pos h0, show (61 + 132 * (π p : Int) + 0).toNat = 61 + 132 * π p by omega, up_eq]
      · rw [up_ne (by omega)]
        exact m10
      · rw [up_ne (by omega)]
        exact m3
    · repeat ((first | (with_reducible first | refine w_of hR0 (by omega) (by omega) ?_ | refine w_lay hR0 (by omega) (by omega) ?_ | refine w_ltA ?_ | refine w_ltS ?_ | refine w_ltM ?_ | refine w_ltN ?_ | refine w_lt ?_ | refine w_jn ?_ | refine w_ck (by omega) (by assumption) ?_ | refine w_gI (by omega) (by assumption) ?_ | refine w_gR (by omega) (by assumption) (by assumption) ?_ | refine w_al (by omega) (by assumption) (by assumption) ?_ | refine w_pI (by omega) (by assumption) ?_ | refine w_set (by omega) (by assumption) (by omega) (by omega) ?_ | refine w_at (by omega) (by assumption) (by omega) (by omega) ?_ | refine w_sI (by omega) (by assumption) (by omega) (by omega) ?_ | refine w_aI (by omega) (by assumption) (by omega) (by omega) ?_ | refine w_sZ (by omega) (by assumption) (by omega) (by omega) (by decide) ?_ | refine w_pZ (by omega) (by assumption) (by decide) ?_ | refine w_dv (by omega) (by omega) (by omega) (by omega) ?_ | refine w_rm (by omega) (by omega) (by omega) (by omega) ?_) | ((with_reducible refine w_pos ?_ ?_); focus (first | assumption | trivial | exact (ile (by omega) (by omega) (by omega) (by omega)).2 (by omega) | exact (ilt (by omega) (by omega) (by omega) (by omega)).2 (by omega) | exact (ieq (by omega) (by omega) (by omega) (by omega)).2 (by omega))) | ((with_reducible refine w_neg ?_ ?_); focus (first | assumption | exact not_false | trivial | exact mt (ile (by omega) (by omega) (by omega) (by omega)).1 (by omega) | exact mt (ilt (by omega) (by omega) (by omega) (by omega)).1 (by omega) | exact mt (ieq (by omega) (by omega) (by omega) (by omega)).1 (by omega)))); try simp (disch := omega) only [m3])
      refine hj _ ⟨_, rfl, pb_0 hP, ?_, m10, m3, Or.inr rfl⟩
      rw [hst1, if_neg h0, if_neg h0]
end RFF
