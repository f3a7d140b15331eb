/-! ROOM -/
def rmF (V : RV) (n : Int) : Int := (if V.2 0 9 - tlP V 0 9 - pSize (tlP V) (V.2 0 11) n < 0 then 0 else 1 + (V.2 0 9 - tlP V 0 9 - pSize (tlP V) (V.2 0 11) n) / (1 + n)) + (V.2 0 8 - V.2 0 13) * (V.2 0 9 / (1 + n))
def rooA (V : RV) (n : Int) : Int := if 1 ≤ n ∧ n ≤ 8 ∧ inn V ≠ 3 then rmF V n else -1
theorem way3 {V : RV} {n : Int} (hi : inn V < 3) (hn : 1 ≤ n ∧ n ≤ 8) : wayV V 3 n = if V.2 0 9 - tlP V 0 9 < pSize (tlP V) (V.2 0 11) n then (if V.2 0 8 ≤ V.2 0 13 then (if V.2 0 10 = 0 then -3 else if opIn V (V.2 0 12) then -3 else 2) else 1) else 0 := by
  unfold wayV
  rw [if_neg (by omega), if_neg (by omega), if_neg (by omega), if_pos hn.2, if_pos hi]
theorem rm_e {V : RV} {n : Int} (hw : WR V) (hi : inn V < 3) (hn : 1 ≤ n ∧ n ≤ 8) (h0 : wayV V 3 n ≠ 0) (h1 : wayV V 3 n ≠ 1) : rmF V n = 0 := by
  have hb := hw.1
  unfold WB at hb
  rw [way3 hi hn] at h0 h1
  unfold rmF
  by_cases c1 : V.2 0 9 - tlP V 0 9 < pSize (tlP V) (V.2 0 11) n
  · rw [if_pos c1] at h0 h1
    by_cases c2 : V.2 0 8 ≤ V.2 0 13
    · rw [if_pos (by omega), show V.2 0 8 - V.2 0 13 = 0 by omega, Int.zero_mul]
      rfl
    · rw [if_neg c2] at h1
      exact absurd rfl h1
  · rw [if_neg c1] at h0
    exact absurd rfl h0
theorem rm_b {V : RV} {n : Int} (hw : WR V) (hn : 1 ≤ n ∧ n ≤ 8) : 0 ≤ rmF V n ∧ rmF V n ≤ 300 := by
  have hb := hw.1
  unfold WB at hb
  have hq : 0 ≤ V.2 0 9 / (1 + n) ∧ V.2 0 9 / (1 + n) ≤ 32 := by
    rcases (show n = 1 ∨ n = 2 ∨ n = 3 ∨ n = 4 ∨ n = 5 ∨ n = 6 ∨ n = 7 ∨ n = 8 by omega) with rfl | rfl | rfl | rfl | rfl | rfl | rfl | rfl <;> omega
  have h1 : 0 ≤ (V.2 0 8 - V.2 0 13) * (V.2 0 9 / (1 + n)) := Int.mul_nonneg (by omega) hq.1
  have h2 : (V.2 0 8 - V.2 0 13) * (V.2 0 9 / (1 + n)) ≤ 6 * 32 := Int.mul_le_mul (by omega) hq.2 hq.1 (by omega)
  have hu := (tlp_in hw).2.2.2.2.2.2.1
  have hu2 := (tlp_in hw).2.2.2.2.2.1
  have hu8 := (tlp_in hw).2.2.2.2.1
  have hsz : 0 ≤ pSize (tlP V) (V.2 0 11) n := by
    unfold pSize
    split <;> omega
  unfold rmF
  generalize (V.2 0 8 - V.2 0 13) * (V.2 0 9 / (1 + n)) = z at *
  have hy : V.2 0 9 - tlP V 0 9 - pSize (tlP V) (V.2 0 11) n ≤ 32 := by omega
  generalize V.2 0 9 - tlP V 0 9 - pSize (tlP V) (V.2 0 11) n = y at *
  by_cases c : y < 0
  · rw [if_pos c]
    omega
  · rw [if_neg c]
    rcases (show n = 1 ∨ n = 2 ∨ n = 3 ∨ n = 4 ∨ n = 5 ∨ n = 6 ∨ n = 7 ∨ n = 8 by omega) with rfl | rfl | rfl | rfl | rfl | rfl | rfl | rfl <;> omega
theorem cls_p {V : RV} {p f k : Nat} (h : ¬ (f = 0 ∧ k = 10)) : (clsV V).1 p f k = V.1 p f k := by
  unfold clsV
  split
  · show (if p < 6 then rdP (V.1 p) else V.1 p) f k = _
    split
    · exact upv_ne h
    · rfl
  · rfl
theorem cls_g {V : RV} {g k : Nat} (h : ¬ (g = 0 ∧ k = 15)) : (clsV V).2 g k = V.2 g k := by
  unfold clsV
  split
  · exact upG_ne h
  · exact upG_ne h
theorem lg_1 {V : RV} : (lgV V).1 = V.1 := by
  unfold lgV
  split <;> rfl
theorem lg_g {V : RV} {g k : Nat} (h : g ≠ 5) : (lgV V).2 g k = V.2 g k := by
  unfold lgV
  split
  · rw [upG_ne (by omega), upG_ne (by omega)]
  · rfl
theorem opnV_1 {V : RV} {l n : Int} {p : Nat} : (opnV V l n).1 p = if p = (plc V (V.2 0 13 - 1)).toNat then layP (tlP V) (V.2 5 6) l (V.2 0 11) n else V.1 p := by
  have : (opnV V l n).1 p = (opn4 (extV V) (V.2 5 6) l n).1 p := rfl
  rw [this, opn4_p, extV_t.1, extV_t.2, extV_2 (by omega), extV_1]
theorem opnV_g {V : RV} {l n : Int} {g k : Nat} (h5 : g ≠ 5) (h0 : ¬ (g = 0 ∧ k = 15)) (h : ¬ ((g = 2 ∨ g = 3 ∨ g = 4) ∧ k = (V.2 0 15).toNat)) : (opnV V l n).2 g k = V.2 g k := by
  have : (opnV V l n).2 g k = (opn4 (extV V) (V.2 5 6) l n).2 g k := by
    unfold opnV
    dsimp only
    rw [upG_ne (by omega), upG_ne (by omega), upG_ne (by omega)]
  rw [this, opn4_g h0 (by rw [extV_2 (by omega)]; exact h), extV_2 (by omega)]
theorem opnV_n {V : RV} {l n : Int} : (opnV V l n).2 0 15 = V.2 0 15 + 1 ∧ (opnV V l n).2 2 (V.2 0 15).toNat = plc V (V.2 0 13 - 1) ∧ (opnV V l n).2 3 (V.2 0 15).toNat = tlP V 0 8 := by
  have e : ∀ g k, g ≠ 5 → (opnV V l n).2 g k = (opn4 (extV V) (V.2 5 6) l n).2 g k := fun g k h => by
    unfold opnV
    dsimp only
    rw [upG_ne (by omega), upG_ne (by omega), upG_ne (by omega)]
  have h := opn4_n (V := extV V) (m := V.2 5 6) (l := l) (n := n)
  rw [extV_t.1, extV_t.2, extV_2 (by omega)] at h
  exact ⟨by rw [e _ _ (by omega)]; exact h.1, by rw [e _ _ (by omega)]; exact h.2.1, by rw [e _ _ (by omega)]; exact h.2.2.1⟩
/-- a record more, ended at once -/
theorem rm_w {W : RV} {n : Int} (hw : WR W) (hi : inn W < 3) (hn : 1 ≤ n ∧ n ≤ 8) (hfit : tlP W 0 9 + pSize (tlP W) (W.2 0 11) n ≤ W.2 0 9) : inn (endV (opnV W 3 n) 3).2 = inn W ∧ (endV (opnV W 3 n) 3).2.2 0 8 = W.2 0 8 ∧ (endV (opnV W 3 n) 3).2.2 0 9 = W.2 0 9 ∧ (endV (opnV W 3 n) 3).2.2 0 11 = W.2 0 11 ∧ (endV (opnV W 3 n) 3).2.2 0 13 = W.2 0 13 ∧ tlP (endV (opnV W 3 n) 3).2 0 9 = tlP W 0 9 + pSize (tlP W) (W.2 0 11) n ∧ pSize (tlP (endV (opnV W 3 n) 3).2) (W.2 0 11) n = 1 + n := by
  have hb := hw.1
  unfold WB at hb
  have htl := tlp_in hw
  have hil := inn_le hw
  have hn2 := opnV_n (V := W) (l := 3) (n := n)
  have hin3 : isIn (opnV W 3 n) 3 := by
    refine ⟨by rw [hn2.1]; omega, ?_⟩
    unfold inn
    rw [if_pos (by rw [hn2.1]; omega), hn2.1, show W.2 0 15 + 1 - 1 = W.2 0 15 by omega, hn2.2.1, hn2.2.2, opnV_1, if_pos rfl]
    exact layP_n.2.1
  have he : (endV (opnV W 3 n) 3).2 = clsV (lgV (opnV W 3 n)) := by
    unfold endV
    rw [if_pos hin3]
  rw [he]
  have eg : ∀ g k, g ≠ 5 → ¬ (g = 0 ∧ k = 15) → (clsV (lgV (opnV W 3 n))).2 g k = (opnV W 3 n).2 g k := fun g k h5 h => by rw [cls_g h, lg_g h5]
  have e15 : (clsV (lgV (opnV W 3 n))).2 0 15 = W.2 0 15 := by
    rw [cls_15, lg_g (by omega), hn2.1]
    omega
  have ep : ∀ p f k, ¬ (f = 0 ∧ k = 10) → (clsV (lgV (opnV W 3 n))).1 p f k = (opnV W 3 n).1 p f k := fun p f k h => by rw [cls_p h, lg_1]
  have e8 : (clsV (lgV (opnV W 3 n))).2 0 8 = W.2 0 8 := by rw [eg _ _ (by omega) (by omega), opnV_g (by omega) (by omega) (by omega)]
  have e9 : (clsV (lgV (opnV W 3 n))).2 0 9 = W.2 0 9 := by rw [eg _ _ (by omega) (by omega), opnV_g (by omega) (by omega) (by omega)]
  have e11 : (clsV (lgV (opnV W 3 n))).2 0 11 = W.2 0 11 := by rw [eg _ _ (by omega) (by omega), opnV_g (by omega) (by omega) (by omega)]
  have e12 : (clsV (lgV (opnV W 3 n))).2 0 12 = W.2 0 12 := by rw [eg _ _ (by omega) (by omega), opnV_g (by omega) (by omega) (by omega)]
  have e13 : (clsV (lgV (opnV W 3 n))).2 0 13 = W.2 0 13 := by rw [eg _ _ (by omega) (by omega), opnV_g (by omega) (by omega) (by omega)]
  have epl : plc (clsV (lgV (opnV W 3 n))) (W.2 0 13 - 1) = plc W (W.2 0 13 - 1) := by
    unfold plc
    rw [e8, e12]
  have etl : ∀ f k, ¬ (f = 0 ∧ k = 10) → tlP (clsV (lgV (opnV W 3 n))) f k = layP (tlP W) (W.2 5 6) 3 (W.2 0 11) n f k := fun f k h => by
    unfold tlP
    rw [e13, epl, ep _ _ _ h, opnV_1, if_pos rfl]
    rfl
  have hL0 := layP_0 (P := tlP W) (n := W.2 5 6) (l := 3) (t := W.2 0 11) (d := n)
  have hLn := layP_n (P := tlP W) (n := W.2 5 6) (l := 3) (t := W.2 0 11) (d := n)
  refine ⟨?_, e8, e9, e11, e13, ?_, ?_⟩
  · unfold inn
    rw [e15]
    by_cases h : 0 < W.2 0 15
    · have ho := hw.o (k := (W.2 0 15 - 1).toNat) (by omega)
      rw [if_pos h, if_pos h, eg 2 _ (by omega) (by omega), eg 3 _ (by omega) (by omega), opnV_g (by omega) (by omega) (by omega), opnV_g (by omega) (by omega) (by omega), ep _ _ _ (by omega), opnV_1]
      by_cases c : (W.2 2 (W.2 0 15 - 1).toNat).toNat = (plc W (W.2 0 13 - 1)).toNat
      · rw [if_pos c]
        have : tlP W = W.1 (W.2 2 (W.2 0 15 - 1).toNat).toNat := by
          unfold tlP
          rw [c]
        rw [layP_r (by omega) (by rw [this]; omega), this]
      · rw [if_neg c]
    · rw [if_neg h, if_neg h]
  · rw [etl _ _ (by omega), hL0.2.1, hdOf_size]
  · have e80 : tlP (clsV (lgV (opnV W 3 n))) 0 8 = tlP W 0 8 + 1 := by rw [etl _ _ (by omega), hL0.1]
    have h8 := htl.2.2.2.2.1
    have e4 : tlP (clsV (lgV (opnV W 3 n))) 4 ((tlP (clsV (lgV (opnV W 3 n))) 0 8).toNat - 1) = W.2 0 11 := by
      rw [e80, etl _ _ (by omega), show (tlP W 0 8 + 1).toNat - 1 = (tlP W 0 8).toNat by omega]
      exact hLn.2.2.1
    unfold pSize pDelta
    rw [if_neg (show ¬ tlP (clsV (lgV (opnV W 3 n))) 0 8 = 0 by omega), e4, if_neg (by omega)]
theorem rm_s {V : RV} {n : Int} (hw : WR V) (hi : inn V < 3) (hn : 1 ≤ n ∧ n ≤ 8) (h : wayV V 3 n = 0 ∨ wayV V 3 n = 1) : WR (endV (takV V 3 n).2 3).2 ∧ inn (endV (takV V 3 n).2 3).2 < 3 ∧ rmF (endV (takV V 3 n).2 3).2 n = rmF V n - 1 := by
  have hb := hw.1
  unfold WB at hb
  have hok := nxt_ok (l := 3) (n := n) hw (by omega) (by omega) (by omega)
  have et : (takV V 3 n).2 = opnV (nxtV (wayV V 3 n) (gvnV V)) 3 n := by
    unfold takV
    rw [if_neg (by omega), if_neg (by omega), if_neg (by omega)]
  refine ⟨wr_end (wr_tak hw), ?_⟩
  rw [et]
  have hwy := way3 hi hn
  have hrw := rm_w hok.1 (by rw [hok.2.1]; exact hi) hn hok.2.2
  refine ⟨by rw [hrw.1, hok.2.1]; exact hi, ?_⟩
  obtain ⟨-, r8, r9, r11, r13, rt, rs⟩ := hrw
  unfold rmF
  rw [r8, r9, r11, r13, rt, rs]
  have hfit := hok.2.2
  rcases h with h | h
  · rw [h] at hwy hfit ⊢
    have eW : nxtV 0 (gvnV V) = gvnV V := by
      unfold nxtV
      rw [if_neg (by omega), if_pos rfl]
    rw [eW] at hfit ⊢
    have eP : tlP (gvnV V) = tlP V := rfl
    rw [eP] at hfit ⊢
    rw [gvn_2 (by omega), gvn_2 (by omega)] at hfit
    rw [gvn_2 (by omega), gvn_2 (by omega), gvn_2 (by omega), gvn_2 (by omega)]
    rw [if_neg (show ¬ V.2 0 9 - tlP V 0 9 - pSize (tlP V) (V.2 0 11) n < 0 by omega)]
    rw [show V.2 0 9 - (tlP V 0 9 + pSize (tlP V) (V.2 0 11) n) - (1 + n) = V.2 0 9 - tlP V 0 9 - pSize (tlP V) (V.2 0 11) n - (1 + n) by omega]
    have hy : 0 ≤ V.2 0 9 - tlP V 0 9 - pSize (tlP V) (V.2 0 11) n := by omega
    generalize (V.2 0 8 - V.2 0 13) * (V.2 0 9 / (1 + n)) = z at *
    generalize V.2 0 9 - tlP V 0 9 - pSize (tlP V) (V.2 0 11) n = y at *
    rcases (show n = 1 ∨ n = 2 ∨ n = 3 ∨ n = 4 ∨ n = 5 ∨ n = 6 ∨ n = 7 ∨ n = 8 by omega) with rfl | rfl | rfl | rfl | rfl | rfl | rfl | rfl <;> split <;> omega
  · rw [h] at hwy hfit ⊢
    have hlt : V.2 0 9 - tlP V 0 9 < pSize (tlP V) (V.2 0 11) n ∧ V.2 0 13 < V.2 0 8 := by
      by_cases c1 : V.2 0 9 - tlP V 0 9 < pSize (tlP V) (V.2 0 11) n
      · rw [if_pos c1] at hwy
        by_cases c2 : V.2 0 8 ≤ V.2 0 13
        · rw [if_pos c2] at hwy
          split at hwy
          · omega
          · split at hwy <;> omega
        · exact ⟨c1, by omega⟩
      · rw [if_neg c1] at hwy
        omega
    have eW : nxtV 1 (gvnV V) = mrV (gvnV V) := by
      unfold nxtV
      rw [if_neg (by omega), if_neg (by omega)]
    rw [eW] at hfit ⊢
    have hep := (mr_tl (V := gvnV V) (wr_gvn hw) hlt.2).1
    unfold EP at hep
    have f8 : (mrV (gvnV V)).2 0 8 = V.2 0 8 := by rw [mr_2 (by omega), gvn_2 (by omega)]
    have f9 : (mrV (gvnV V)).2 0 9 = V.2 0 9 := by rw [mr_2 (by omega), gvn_2 (by omega)]
    have f11 : (mrV (gvnV V)).2 0 11 = V.2 0 11 := by rw [mr_2 (by omega), gvn_2 (by omega)]
    have f13 : (mrV (gvnV V)).2 0 13 = V.2 0 13 + 1 := by rw [mr_n, gvn_2 (by omega)]
    rw [f8, f9, f11, f13, hep.2.1, pSize_e hep.1]
    rw [if_pos (show V.2 0 9 - tlP V 0 9 - pSize (tlP V) (V.2 0 11) n < 0 by omega)]
    rw [show V.2 0 8 - (V.2 0 13 + 1) = V.2 0 8 - V.2 0 13 - 1 by omega, Int.sub_mul (V.2 0 8 - V.2 0 13) 1 (V.2 0 9 / (1 + n)), Int.one_mul]
    generalize (V.2 0 8 - V.2 0 13) * (V.2 0 9 / (1 + n)) = z at *
    have h12 : 12 ≤ V.2 0 9 := by omega
    generalize V.2 0 9 = y at *
    rcases (show n = 1 ∨ n = 2 ∨ n = 3 ∨ n = 4 ∨ n = 5 ∨ n = 6 ∨ n = 7 ∨ n = 8 by omega) with rfl | rfl | rfl | rfl | rfl | rfl | rfl | rfl <;> split <;> omega
section ROO
variable {I I0 : MI} {J : MJ} {R R0 : MR} {r : Nat} {σ π : Nat → Nat} {α γ : Type} {Q : γ → Prop} {V : RV} {x : Int32} {n : Int}
theorem room_X (hRC : RC R) (hc : CR I R 1 σ V) (hw : WR V) (hn1 : -2147483648 ≤ n) (hn2 : n < 2147483648) : f_X8_room (381, I, J, R) 0 (iI n) = some (iI (rooA V n)) := by
  have k0 := kd_0
  have r0 := hRC.1
  have hb := hw.1
  unfold WB at hb
  have hin := innermost_C (J := J) rg_1 hc hw
  have hil := inn_le hw
  have htp := tailPlace_C (J := J) rg_1 hc hw.1
  have htl := tlp_in hw
  have hpa := pageAt_C (J := J) (p := plc V (V.2 0 13 - 1)) rg_1 hc htl.1 htl.2.2.1
  have hg := cr_pg rg_1 hc hw (p := (plc V (V.2 0 13 - 1)).toNat) (by omega)
  have kq := hg.1.2.1
  have hq2 := hg.1.1
  have c9 : I (pa 1 (σ (plc V (V.2 0 13 - 1)).toNat)) 9 = iI (tlP V 0 9) := hg.2.2.1.old.1.2.1
  have hwp := htl.2.2.2.2
  have h9 := hwp.2.2.1
  have h10 := hwp.2.1
  have hd := hwp.delta (by omega) (by omega)
  have hsf := sizeFor_C (J := J) (P := tlP V) (t := V.2 0 11) (d := n) hg.1 hg.2.1 hg.2.2.1 hg.2.2.2 hd
  have hs : 1 + n ≤ pSize (tlP V) (V.2 0 11) n ∧ pSize (tlP V) (V.2 0 11) n ≤ 4 + n := by
    unfold pSize
    split <;> omega
  have hrg := rg_1
  have hc0 := hc
  obtain ⟨hq, kr0, kr1, kr2, kr3, kr4, kr5, kr6, kr7, lr1, lr2, lr3, lr4, lr5, lr7, hpg⟩ := hrg
  have hsc := cr_s hc
  obtain ⟨⟨e0, e1, e2, e3, e4, e5, e6, e7, ep, ed, hσ, hσi⟩, hpp, hgg⟩ := hc
  have s7 := hsc 7 (by decide)
  have s8 := hsc 8 (by decide)
  have s9 := hsc 9 (by decide)
  have s10 := hsc 10 (by decide)
  have s11 := hsc 11 (by decide)
  have s12 := hsc 12 (by decide)
  have s13 := hsc 13 (by decide)
  have s14 := hsc 14 (by decide)
  have s15 := hsc 15 (by decide)
  refine en_eq ?_
  rw [u_X8_room]
  repeat ((first | (with_reducible first | refine w_ltA ?_ | refine w_ltS ?_ | refine w_ltM ?_ | refine w_ltN ?_ | refine w_lt ?_ | refine w_jn ?_ | refine w_ck (by omega) (by assumption) ?_ | refine w_gI (by omega) (by assumption) ?_ | refine w_gR (by omega) (by assumption) (by assumption) ?_ | refine w_al (by omega) (by assumption) (by assumption) ?_ | refine w_pI (by omega) (by assumption) ?_ | refine w_set (by omega) (by assumption) (by omega) (by omega) ?_ | refine w_at (by omega) (by assumption) (by omega) (by omega) ?_ | refine w_sI (by omega) (by assumption) (by omega) (by omega) ?_ | refine w_aI (by omega) (by assumption) (by omega) (by omega) ?_ | refine w_sZ (by omega) (by assumption) (by omega) (by omega) (by decide) ?_ | refine w_pZ (by omega) (by assumption) (by decide) ?_ | refine w_dv (by omega) (by omega) (by omega) (by omega) ?_ | refine w_rm (by omega) (by omega) (by omega) (by omega) ?_) | ((with_reducible refine w_pos ?_ ?_); focus (first | assumption | trivial | exact (ile (by omega) (by omega) (by omega) (by omega)).2 (by omega) | exact (ilt (by omega) (by omega) (by omega) (by omega)).2 (by omega) | exact (ieq (by omega) (by omega) (by omega) (by omega)).2 (by omega))) | ((with_reducible refine w_neg ?_ ?_); focus (first | assumption | exact not_false | trivial | exact mt (ile (by omega) (by omega) (by omega) (by omega)).1 (by omega) | exact mt (ilt (by omega) (by omega) (by omega) (by omega)).1 (by omega) | exact mt (ieq (by omega) (by omega) (by omega) (by omega)).1 (by omega)))); skip)
  refine w_cP (v := iI (rooA V n)) ?_ (w_rt rfl)
  refine en_eq ?_
  rw [u_X4_roomFor]
  unfold rooA
  by_cases h1 : n < 1
  · rw [if_neg (by omega)]
    repeat ((first | (with_reducible first | refine w_ltA ?_ | refine w_ltS ?_ | refine w_ltM ?_ | refine w_ltN ?_ | refine w_lt ?_ | refine w_jn ?_ | refine w_ck (by omega) (by assumption) ?_ | refine w_gI (by omega) (by assumption) ?_ | refine w_gR (by omega) (by assumption) (by assumption) ?_ | refine w_al (by omega) (by assumption) (by assumption) ?_ | refine w_pI (by omega) (by assumption) ?_ | refine w_set (by omega) (by assumption) (by omega) (by omega) ?_ | refine w_at (by omega) (by assumption) (by omega) (by omega) ?_ | refine w_sI (by omega) (by assumption) (by omega) (by omega) ?_ | refine w_aI (by omega) (by assumption) (by omega) (by omega) ?_ | refine w_sZ (by omega) (by assumption) (by omega) (by omega) (by decide) ?_ | refine w_pZ (by omega) (by assumption) (by decide) ?_ | refine w_dv (by omega) (by omega) (by omega) (by omega) ?_ | refine w_rm (by omega) (by omega) (by omega) (by omega) ?_) | ((with_reducible refine w_pos ?_ ?_); focus (first | assumption | trivial | exact (ile (by omega) (by omega) (by omega) (by omega)).2 (by omega) | exact (ilt (by omega) (by omega) (by omega) (by omega)).2 (by omega) | exact (ieq (by omega) (by omega) (by omega) (by omega)).2 (by omega))) | ((with_reducible refine w_neg ?_ ?_); focus (first | assumption | exact not_false | trivial | exact mt (ile (by omega) (by omega) (by omega) (by omega)).1 (by omega) | exact mt (ilt (by omega) (by omega) (by omega) (by omega)).1 (by omega) | exact mt (ieq (by omega) (by omega) (by omega) (by omega)).1 (by omega)))); try simp (disch := omega) only [s8, s9, s11, s13, c9])
    exact w_rt rfl
  by_cases h8 : 8 < n
  · rw [if_neg (by omega)]
    repeat ((first | (with_reducible first | refine w_ltA ?_ | refine w_ltS ?_ | refine w_ltM ?_ | refine w_ltN ?_ | refine w_lt ?_ | refine w_jn ?_ | refine w_ck (by omega) (by assumption) ?_ | refine w_gI (by omega) (by assumption) ?_ | refine w_gR (by omega) (by assumption) (by assumption) ?_ | refine w_al (by omega) (by assumption) (by assumption) ?_ | refine w_pI (by omega) (by assumption) ?_ | refine w_set (by omega) (by assumption) (by omega) (by omega) ?_ | refine w_at (by omega) (by assumption) (by omega) (by omega) ?_ | refine w_sI (by omega) (by assumption) (by omega) (by omega) ?_ | refine w_aI (by omega) (by assumption) (by omega) (by omega) ?_ | refine w_sZ (by omega) (by assumption) (by omega) (by omega) (by decide) ?_ | refine w_pZ (by omega) (by assumption) (by decide) ?_ | refine w_dv (by omega) (by omega) (by omega) (by omega) ?_ | refine w_rm (by omega) (by omega) (by omega) (by omega) ?_) | ((with_reducible refine w_pos ?_ ?_); focus (first | assumption | trivial | exact (ile (by omega) (by omega) (by omega) (by omega)).2 (by omega) | exact (ilt (by omega) (by omega) (by omega) (by omega)).2 (by omega) | exact (ieq (by omega) (by omega) (by omega) (by omega)).2 (by omega))) | ((with_reducible refine w_neg ?_ ?_); focus (first | assumption | exact not_false | trivial | exact mt (ile (by omega) (by omega) (by omega) (by omega)).1 (by omega) | exact mt (ilt (by omega) (by omega) (by omega) (by omega)).1 (by omega) | exact mt (ieq (by omega) (by omega) (by omega) (by omega)).1 (by omega)))); try simp (disch := omega) only [s8, s9, s11, s13, c9])
    exact w_rt rfl
  repeat ((first | (with_reducible first | refine w_ltA ?_ | refine w_ltS ?_ | refine w_ltM ?_ | refine w_ltN ?_ | refine w_lt ?_ | refine w_jn ?_ | refine w_ck (by omega) (by assumption) ?_ | refine w_gI (by omega) (by assumption) ?_ | refine w_gR (by omega) (by assumption) (by assumption) ?_ | refine w_al (by omega) (by assumption) (by assumption) ?_ | refine w_pI (by omega) (by assumption) ?_ | refine w_set (by omega) (by assumption) (by omega) (by omega) ?_ | refine w_at (by omega) (by assumption) (by omega) (by omega) ?_ | refine w_sI (by omega) (by assumption) (by omega) (by omega) ?_ | refine w_aI (by omega) (by assumption) (by omega) (by omega) ?_ | refine w_sZ (by omega) (by assumption) (by omega) (by omega) (by decide) ?_ | refine w_pZ (by omega) (by assumption) (by decide) ?_ | refine w_dv (by omega) (by omega) (by omega) (by omega) ?_ | refine w_rm (by omega) (by omega) (by omega) (by omega) ?_) | ((with_reducible refine w_pos ?_ ?_); focus (first | assumption | trivial | exact (ile (by omega) (by omega) (by omega) (by omega)).2 (by omega) | exact (ilt (by omega) (by omega) (by omega) (by omega)).2 (by omega) | exact (ieq (by omega) (by omega) (by omega) (by omega)).2 (by omega))) | ((with_reducible refine w_neg ?_ ?_); focus (first | assumption | exact not_false | trivial | exact mt (ile (by omega) (by omega) (by omega) (by omega)).1 (by omega) | exact mt (ilt (by omega) (by omega) (by omega) (by omega)).1 (by omega) | exact mt (ieq (by omega) (by omega) (by omega) (by omega)).1 (by omega)))); try simp (disch := omega) only [s8, s9, s11, s13, c9])
  refine w_cP hin ?_
  by_cases h3 : inn V = 3
  · rw [if_neg (by omega)]
    repeat ((first | (with_reducible first | refine w_ltA ?_ | refine w_ltS ?_ | refine w_ltM ?_ | refine w_ltN ?_ | refine w_lt ?_ | refine w_jn ?_ | refine w_ck (by omega) (by assumption) ?_ | refine w_gI (by omega) (by assumption) ?_ | refine w_gR (by omega) (by assumption) (by assumption) ?_ | refine w_al (by omega) (by assumption) (by assumption) ?_ | refine w_pI (by omega) (by assumption) ?_ | refine w_set (by omega) (by assumption) (by omega) (by omega) ?_ | refine w_at (by omega) (by assumption) (by omega) (by omega) ?_ | refine w_sI (by omega) (by assumption) (by omega) (by omega) ?_ | refine w_aI (by omega) (by assumption) (by omega) (by omega) ?_ | refine w_sZ (by omega) (by assumption) (by omega) (by omega) (by decide) ?_ | refine w_pZ (by omega) (by assumption) (by decide) ?_ | refine w_dv (by omega) (by omega) (by omega) (by omega) ?_ | refine w_rm (by omega) (by omega) (by omega) (by omega) ?_) | ((with_reducible refine w_pos ?_ ?_); focus (first | assumption | trivial | exact (ile (by omega) (by omega) (by omega) (by omega)).2 (by omega) | exact (ilt (by omega) (by omega) (by omega) (by omega)).2 (by omega) | exact (ieq (by omega) (by omega) (by omega) (by omega)).2 (by omega))) | ((with_reducible refine w_neg ?_ ?_); focus (first | assumption | exact not_false | trivial | exact mt (ile (by omega) (by omega) (by omega) (by omega)).1 (by omega) | exact mt (ilt (by omega) (by omega) (by omega) (by omega)).1 (by omega) | exact mt (ieq (by omega) (by omega) (by omega) (by omega)).1 (by omega)))); try simp (disch := omega) only [s8, s9, s11, s13, c9])
    exact w_rt rfl
  rw [if_pos ⟨by omega, by omega, h3⟩]
  unfold rmF
  repeat ((first | (with_reducible first | refine w_ltA ?_ | refine w_ltS ?_ | refine w_ltM ?_ | refine w_ltN ?_ | refine w_lt ?_ | refine w_jn ?_ | refine w_ck (by omega) (by assumption) ?_ | refine w_gI (by omega) (by assumption) ?_ | refine w_gR (by omega) (by assumption) (by assumption) ?_ | refine w_al (by omega) (by assumption) (by assumption) ?_ | refine w_pI (by omega) (by assumption) ?_ | refine w_set (by omega) (by assumption) (by omega) (by omega) ?_ | refine w_at (by omega) (by assumption) (by omega) (by omega) ?_ | refine w_sI (by omega) (by assumption) (by omega) (by omega) ?_ | refine w_aI (by omega) (by assumption) (by omega) (by omega) ?_ | refine w_sZ (by omega) (by assumption) (by omega) (by omega) (by decide) ?_ | refine w_pZ (by omega) (by assumption) (by decide) ?_ | refine w_dv (by omega) (by omega) (by omega) (by omega) ?_ | refine w_rm (by omega) (by omega) (by omega) (by omega) ?_) | ((with_reducible refine w_pos ?_ ?_); focus (first | assumption | trivial | exact (ile (by omega) (by omega) (by omega) (by omega)).2 (by omega) | exact (ilt (by omega) (by omega) (by omega) (by omega)).2 (by omega) | exact (ieq (by omega) (by omega) (by omega) (by omega)).2 (by omega))) | ((with_reducible refine w_neg ?_ ?_); focus (first | assumption | exact not_false | trivial | exact mt (ile (by omega) (by omega) (by omega) (by omega)).1 (by omega) | exact mt (ilt (by omega) (by omega) (by omega) (by omega)).1 (by omega) | exact mt (ieq (by omega) (by omega) (by omega) (by omega)).1 (by omega)))); try simp (disch := omega) only [s8, s9, s11, s13, c9])
  refine w_cP htp ?_
  repeat ((first | (with_reducible first | refine w_ltA ?_ | refine w_ltS ?_ | refine w_ltM ?_ | refine w_ltN ?_ | refine w_lt ?_ | refine w_jn ?_ | refine w_ck (by omega) (by assumption) ?_ | refine w_gI (by omega) (by assumption) ?_ | refine w_gR (by omega) (by assumption) (by assumption) ?_ | refine w_al (by omega) (by assumption) (by assumption) ?_ | refine w_pI (by omega) (by assumption) ?_ | refine w_set (by omega) (by assumption) (by omega) (by omega) ?_ | refine w_at (by omega) (by assumption) (by omega) (by omega) ?_ | refine w_sI (by omega) (by assumption) (by omega) (by omega) ?_ | refine w_aI (by omega) (by assumption) (by omega) (by omega) ?_ | refine w_sZ (by omega) (by assumption) (by omega) (by omega) (by decide) ?_ | refine w_pZ (by omega) (by assumption) (by decide) ?_ | refine w_dv (by omega) (by omega) (by omega) (by omega) ?_ | refine w_rm (by omega) (by omega) (by omega) (by omega) ?_) | ((with_reducible refine w_pos ?_ ?_); focus (first | assumption | trivial | exact (ile (by omega) (by omega) (by omega) (by omega)).2 (by omega) | exact (ilt (by omega) (by omega) (by omega) (by omega)).2 (by omega) | exact (ieq (by omega) (by omega) (by omega) (by omega)).2 (by omega))) | ((with_reducible refine w_neg ?_ ?_); focus (first | assumption | exact not_false | trivial | exact mt (ile (by omega) (by omega) (by omega) (by omega)).1 (by omega) | exact mt (ilt (by omega) (by omega) (by omega) (by omega)).1 (by omega) | exact mt (ieq (by omega) (by omega) (by omega) (by omega)).1 (by omega)))); try simp (disch := omega) only [s8, s9, s11, s13, c9])
  refine w_cP hpa ?_
  repeat ((first | (with_reducible first | refine w_ltA ?_ | refine w_ltS ?_ | refine w_ltM ?_ | refine w_ltN ?_ | refine w_lt ?_ | refine w_jn ?_ | refine w_ck (by omega) (by assumption) ?_ | refine w_gI (by omega) (by assumption) ?_ | refine w_gR (by omega) (by assumption) (by assumption) ?_ | refine w_al (by omega) (by assumption) (by assumption) ?_ | refine w_pI (by omega) (by assumption) ?_ | refine w_set (by omega) (by assumption) (by omega) (by omega) ?_ | refine w_at (by omega) (by assumption) (by omega) (by omega) ?_ | refine w_sI (by omega) (by assumption) (by omega) (by omega) ?_ | refine w_aI (by omega) (by assumption) (by omega) (by omega) ?_ | refine w_sZ (by omega) (by assumption) (by omega) (by omega) (by decide) ?_ | refine w_pZ (by omega) (by assumption) (by decide) ?_ | refine w_dv (by omega) (by omega) (by omega) (by omega) ?_ | refine w_rm (by omega) (by omega) (by omega) (by omega) ?_) | ((with_reducible refine w_pos ?_ ?_); focus (first | assumption | trivial | exact (ile (by omega) (by omega) (by omega) (by omega)).2 (by omega) | exact (ilt (by omega) (by omega) (by omega) (by omega)).2 (by omega) | exact (ieq (by omega) (by omega) (by omega) (by omega)).2 (by omega))) | ((with_reducible refine w_neg ?_ ?_); focus (first | assumption | exact not_false | trivial | exact mt (ile (by omega) (by omega) (by omega) (by omega)).1 (by omega) | exact mt (ilt (by omega) (by omega) (by omega) (by omega)).1 (by omega) | exact mt (ieq (by omega) (by omega) (by omega) (by omega)).1 (by omega)))); try simp (disch := omega) only [s8, s9, s11, s13, c9])
  refine w_cP hsf ?_
  by_cases hl : V.2 0 9 - tlP V 0 9 - pSize (tlP V) (V.2 0 11) n < 0
  · rw [if_pos hl]
    repeat ((first | (with_reducible first | refine w_ltA ?_ | refine w_ltS ?_ | refine w_ltM ?_ | refine w_ltN ?_ | refine w_lt ?_ | refine w_jn ?_ | refine w_ck (by omega) (by assumption) ?_ | refine w_gI (by omega) (by assumption) ?_ | refine w_gR (by omega) (by assumption) (by assumption) ?_ | refine w_al (by omega) (by assumption) (by assumption) ?_ | refine w_pI (by omega) (by assumption) ?_ | refine w_set (by omega) (by assumption) (by omega) (by omega) ?_ | refine w_at (by omega) (by assumption) (by omega) (by omega) ?_ | refine w_sI (by omega) (by assumption) (by omega) (by omega) ?_ | refine w_aI (by omega) (by assumption) (by omega) (by omega) ?_ | refine w_sZ (by omega) (by assumption) (by omega) (by omega) (by decide) ?_ | refine w_pZ (by omega) (by assumption) (by decide) ?_ | refine w_dv (by omega) (by omega) (by omega) (by omega) ?_ | refine w_rm (by omega) (by omega) (by omega) (by omega) ?_) | ((with_reducible refine w_pos ?_ ?_); focus (first | assumption | trivial | exact (ile (by omega) (by omega) (by omega) (by omega)).2 (by omega) | exact (ilt (by omega) (by omega) (by omega) (by omega)).2 (by omega) | exact (ieq (by omega) (by omega) (by omega) (by omega)).2 (by omega))) | ((with_reducible refine w_neg ?_ ?_); focus (first | assumption | exact not_false | trivial | exact mt (ile (by omega) (by omega) (by omega) (by omega)).1 (by omega) | exact mt (ilt (by omega) (by omega) (by omega) (by omega)).1 (by omega) | exact mt (ieq (by omega) (by omega) (by omega) (by omega)).1 (by omega)))); try simp (disch := omega) only [s8, s9, s11, s13, c9])
    exact w_rt rfl
  · rw [if_neg hl]
    repeat ((first | (with_reducible first | refine w_ltA ?_ | refine w_ltS ?_ | refine w_ltM ?_ | refine w_ltN ?_ | refine w_lt ?_ | refine w_jn ?_ | refine w_ck (by omega) (by assumption) ?_ | refine w_gI (by omega) (by assumption) ?_ | refine w_gR (by omega) (by assumption) (by assumption) ?_ | refine w_al (by omega) (by assumption) (by assumption) ?_ | refine w_pI (by omega) (by assumption) ?_ | refine w_set (by omega) (by assumption) (by omega) (by omega) ?_ | refine w_at (by omega) (by assumption) (by omega) (by omega) ?_ | refine w_sI (by omega) (by assumption) (by omega) (by omega) ?_ | refine w_aI (by omega) (by assumption) (by omega) (by omega) ?_ | refine w_sZ (by omega) (by assumption) (by omega) (by omega) (by decide) ?_ | refine w_pZ (by omega) (by assumption) (by decide) ?_ | refine w_dv (by omega) (by omega) (by omega) (by omega) ?_ | refine w_rm (by omega) (by omega) (by omega) (by omega) ?_) | ((with_reducible refine w_pos ?_ ?_); focus (first | assumption | trivial | exact (ile (by omega) (by omega) (by omega) (by omega)).2 (by omega) | exact (ilt (by omega) (by omega) (by omega) (by omega)).2 (by omega) | exact (ieq (by omega) (by omega) (by omega) (by omega)).2 (by omega))) | ((with_reducible refine w_neg ?_ ?_); focus (first | assumption | exact not_false | trivial | exact mt (ile (by omega) (by omega) (by omega) (by omega)).1 (by omega) | exact mt (ilt (by omega) (by omega) (by omega) (by omega)).1 (by omega) | exact mt (ieq (by omega) (by omega) (by omega) (by omega)).1 (by omega)))); try simp (disch := omega) only [s8, s9, s11, s13, c9])
    exact w_rt rfl
/-- nothing but what is tried on changes -/
def FB (I I' : MI) : Prop := (∀ a k, a ≠ 373 → a ≠ 374 → a ≠ 380 → I' a k = I a k) ∧ ∀ k, k < 3952 → I' 374 k = I 374 k
theorem fb_374 {I I' : MI} (h : F374 I I') : FB I I' := ⟨fun a k h1 _ _ => h a k h1, fun k _ => h 374 k (by omega)⟩
theorem fb_t {I I' I2 : MI} (h : FB I I') (h2 : FB I' I2) : FB I I2 := ⟨fun a k h1 h3 h4 => (h2.1 a k h1 h3 h4).trans (h.1 a k h1 h3 h4), fun k hk => (h2.2 k hk).trans (h.2 k hk)⟩
theorem fb_back {I0 I2 : MI} (h1 : ∀ a k, a ≠ 373 → a ≠ 374 → a ≠ 380 → I2 a k = cpS I0 0 4 988 a k) (h2 : ∀ k, 985 ≤ k → I2 374 k = cpS I0 0 4 988 374 k) : FB I0 (cpS I2 4 0 988) := by
  refine ⟨fun a k a1 a2 a3 => ?_, fun k hk => ?_⟩
  · rw [cpS_ne (by omega), h1 a k a1 a2 a3, cpS_ne (by omega)]
  · by_cases h : k < 988
    · have e1 := cpS_in (I := I2) (s := 4) (t := 0) (n := 988) (k := k) h
      rw [Nat.mul_zero, Nat.zero_add] at e1
      rw [e1, h2 _ (by omega), cpS_in h, Nat.mul_zero, Nat.zero_add]
    · rw [cpS_ne (by omega), h2 _ (by omega), cpS_ne (by omega)]
theorem room_Y (hR : RQ R) (hq : RMQ I π V) (hw : WR V) (hn1 : -2147483648 ≤ n) (hn2 : n < 2147483648) : En (fun y => y.1 = iI (rooA V n) ∧ ∃ I', y.2 = (381, I', J, R) ∧ FB I I') (f_X9_room (381, I, J, R) 373 (iI n)) := by
  have k374 := kd_374
  have hq0 := rmq_0 hq
  have hF0 : F374 I (up I 373 0 (iI 0)) := f374_u f374_r
  rw [u_X9_room]
  unfold rooA
  refine w_pI (by omega) k374 ?_
  generalize up I 373 0 (iI 0) = I1 at *
  have hin := innermost_Q (J := J) hR hq0 hw
  have hil := inn_le hw
  refine w_in (by omega) (by omega) (by omega) (fun hi => ?_) (fun hi => ?_)
  · repeat ((first | (with_reducible first | refine w_ltA ?_ | refine w_ltS ?_ | refine w_ltM ?_ | refine w_ltN ?_ | refine w_lt ?_ | refine w_jn ?_ | refine w_ck (by omega) (by assumption) ?_ | refine w_gI (by omega) (by assumption) ?_ | refine w_gR (by omega) (by assumption) (by assumption) ?_ | refine w_al (by omega) (by assumption) (by assumption) ?_ | refine w_pI (by omega) (by assumption) ?_ | refine w_set (by omega) (by assumption) (by omega) (by omega) ?_ | refine w_at (by omega) (by assumption) (by omega) (by omega) ?_ | refine w_sI (by omega) (by assumption) (by omega) (by omega) ?_ | refine w_aI (by omega) (by assumption) (by omega) (by omega) ?_ | refine w_sZ (by omega) (by assumption) (by omega) (by omega) (by decide) ?_ | refine w_pZ (by omega) (by assumption) (by decide) ?_ | refine w_dv (by omega) (by omega) (by omega) (by omega) ?_ | refine w_rm (by omega) (by omega) (by omega) (by omega) ?_) | ((with_reducible refine w_pos ?_ ?_); focus (first | assumption | trivial | exact (ile (by omega) (by omega) (by omega) (by omega)).2 (by omega) | exact (ilt (by omega) (by omega) (by omega) (by omega)).2 (by omega) | exact (ieq (by omega) (by omega) (by omega) (by omega)).2 (by omega))) | ((with_reducible refine w_neg ?_ ?_); focus (first | assumption | exact not_false | trivial | exact mt (ile (by omega) (by omega) (by omega) (by omega)).1 (by omega) | exact mt (ilt (by omega) (by omega) (by omega) (by omega)).1 (by omega) | exact mt (ieq (by omega) (by omega) (by omega) (by omega)).1 (by omega)))); skip)
    refine w_cP hin ?_
    by_cases h3 : inn V = 3
    · rw [if_neg (by omega)]
      repeat ((first | (with_reducible first | refine w_ltA ?_ | refine w_ltS ?_ | refine w_ltM ?_ | refine w_ltN ?_ | refine w_lt ?_ | refine w_jn ?_ | refine w_ck (by omega) (by assumption) ?_ | refine w_gI (by omega) (by assumption) ?_ | refine w_gR (by omega) (by assumption) (by assumption) ?_ | refine w_al (by omega) (by assumption) (by assumption) ?_ | refine w_pI (by omega) (by assumption) ?_ | refine w_set (by omega) (by assumption) (by omega) (by omega) ?_ | refine w_at (by omega) (by assumption) (by omega) (by omega) ?_ | refine w_sI (by omega) (by assumption) (by omega) (by omega) ?_ | refine w_aI (by omega) (by assumption) (by omega) (by omega) ?_ | refine w_sZ (by omega) (by assumption) (by omega) (by omega) (by decide) ?_ | refine w_pZ (by omega) (by assumption) (by decide) ?_ | refine w_dv (by omega) (by omega) (by omega) (by omega) ?_ | refine w_rm (by omega) (by omega) (by omega) (by omega) ?_) | ((with_reducible refine w_pos ?_ ?_); focus (first | assumption | trivial | exact (ile (by omega) (by omega) (by omega) (by omega)).2 (by omega) | exact (ilt (by omega) (by omega) (by omega) (by omega)).2 (by omega) | exact (ieq (by omega) (by omega) (by omega) (by omega)).2 (by omega))) | ((with_reducible refine w_neg ?_ ?_); focus (first | assumption | exact not_false | trivial | exact mt (ile (by omega) (by omega) (by omega) (by omega)).1 (by omega) | exact mt (ilt (by omega) (by omega) (by omega) (by omega)).1 (by omega) | exact mt (ieq (by omega) (by omega) (by omega) (by omega)).1 (by omega)))); skip)
      exact w_rt ⟨rfl, I1, rfl, fb_374 hF0⟩
    · rw [if_pos ⟨by omega, by omega, h3⟩]
      have hcp := copies_Q (I := I1) (J := J) (s := 0) (t := 4) hR (by omega) (by omega) (by omega)
      have hqc : RMQ (cpS I1 0 4 988) π V := rmq_congr hq0 fun k hk => cpS_ne (by omega)
      repeat ((first | (with_reducible first | refine w_ltA ?_ | refine w_ltS ?_ | refine w_ltM ?_ | refine w_ltN ?_ | refine w_lt ?_ | refine w_jn ?_ | refine w_ck (by omega) (by assumption) ?_ | refine w_gI (by omega) (by assumption) ?_ | refine w_gR (by omega) (by assumption) (by assumption) ?_ | refine w_al (by omega) (by assumption) (by assumption) ?_ | refine w_pI (by omega) (by assumption) ?_ | refine w_set (by omega) (by assumption) (by omega) (by omega) ?_ | refine w_at (by omega) (by assumption) (by omega) (by omega) ?_ | refine w_sI (by omega) (by assumption) (by omega) (by omega) ?_ | refine w_aI (by omega) (by assumption) (by omega) (by omega) ?_ | refine w_sZ (by omega) (by assumption) (by omega) (by omega) (by decide) ?_ | refine w_pZ (by omega) (by assumption) (by decide) ?_ | refine w_dv (by omega) (by omega) (by omega) (by omega) ?_ | refine w_rm (by omega) (by omega) (by omega) (by omega) ?_) | ((with_reducible refine w_pos ?_ ?_); focus (first | assumption | trivial | exact (ile (by omega) (by omega) (by omega) (by omega)).2 (by omega) | exact (ilt (by omega) (by omega) (by omega) (by omega)).2 (by omega) | exact (ieq (by omega) (by omega) (by omega) (by omega)).2 (by omega))) | ((with_reducible refine w_neg ?_ ?_); focus (first | assumption | exact not_false | trivial | exact mt (ile (by omega) (by omega) (by omega) (by omega)).1 (by omega) | exact mt (ilt (by omega) (by omega) (by omega) (by omega)).1 (by omega) | exact mt (ieq (by omega) (by omega) (by omega) (by omega)).1 (by omega)))); skip)
      refine w_cV (Q' := fun S => S = _) ⟨_, hcp, rfl⟩ ?_
      rintro S rfl
      repeat ((first | (with_reducible first | refine w_ltA ?_ | refine w_ltS ?_ | refine w_ltM ?_ | refine w_ltN ?_ | refine w_lt ?_ | refine w_jn ?_ | refine w_ck (by omega) (by assumption) ?_ | refine w_gI (by omega) (by assumption) ?_ | refine w_gR (by omega) (by assumption) (by assumption) ?_ | refine w_al (by omega) (by assumption) (by assumption) ?_ | refine w_pI (by omega) (by assumption) ?_ | refine w_set (by omega) (by assumption) (by omega) (by omega) ?_ | refine w_at (by omega) (by assumption) (by omega) (by omega) ?_ | refine w_sI (by omega) (by assumption) (by omega) (by omega) ?_ | refine w_aI (by omega) (by assumption) (by omega) (by omega) ?_ | refine w_sZ (by omega) (by assumption) (by omega) (by omega) (by decide) ?_ | refine w_pZ (by omega) (by assumption) (by decide) ?_ | refine w_dv (by omega) (by omega) (by omega) (by omega) ?_ | refine w_rm (by omega) (by omega) (by omega) (by omega) ?_) | ((with_reducible refine w_pos ?_ ?_); focus (first | assumption | trivial | exact (ile (by omega) (by omega) (by omega) (by omega)).2 (by omega) | exact (ilt (by omega) (by omega) (by omega) (by omega)).2 (by omega) | exact (ieq (by omega) (by omega) (by omega) (by omega)).2 (by omega))) | ((with_reducible refine w_neg ?_ ?_); focus (first | assumption | exact not_false | trivial | exact mt (ile (by omega) (by omega) (by omega) (by omega)).1 (by omega) | exact mt (ilt (by omega) (by omega) (by omega) (by omega)).1 (by omega) | exact mt (ieq (by omega) (by omega) (by omega) (by omega)).1 (by omega)))); skip)
      refine w_cP (comes_Q (J := J) hR hqc hw (by omega) hi) ?_
      have hrb := rm_b hw hi
      refine w_lp (rmF V n).toNat (fun j y => j ≤ (rmF V n).toNat ∧ ∃ (V' : RV) (I' : MI), y = (iI (j : Int), iI (wayV V' 3 n), (381, I', J, R)) ∧ MTo (cpS I1 0 4 988) I' π V' ∧ WR V' ∧ inn V' < 3 ∧ rmF V n = j + rmF V' n) ⟨by omega, V, _, rfl, mto_0 hqc, hw, by omega, by rw [show ((0 : Nat) : Int) = 0 from rfl, Int.zero_add]⟩ (by rw [FU_eq]; omega) (fun i y h => h.1) ?_
      rintro j y self ⟨hj, V', I2, rfl, hM, hw2, hi2, hrm⟩ ih
      try dsimp only
      have hwb : -3 ≤ wayV V' 3 n ∧ wayV V' 3 n ≤ 2 := by
        rw [way3 hi2 hi]
        repeat' split
        all_goals omega
      refine w_jnP (fun _ => wayV V' 3 n = 0 ∨ wayV V' 3 n = 1) ?_ ?_
      · intro _ hway
        have hst := rm_s hw2 hi2 hi hway
        repeat ((first | (with_reducible first | refine w_ltA ?_ | refine w_ltS ?_ | refine w_ltM ?_ | refine w_ltN ?_ | refine w_lt ?_ | refine w_jn ?_ | refine w_ck (by omega) (by assumption) ?_ | refine w_gI (by omega) (by assumption) ?_ | refine w_gR (by omega) (by assumption) (by assumption) ?_ | refine w_al (by omega) (by assumption) (by assumption) ?_ | refine w_pI (by omega) (by assumption) ?_ | refine w_set (by omega) (by assumption) (by omega) (by omega) ?_ | refine w_at (by omega) (by assumption) (by omega) (by omega) ?_ | refine w_sI (by omega) (by assumption) (by omega) (by omega) ?_ | refine w_aI (by omega) (by assumption) (by omega) (by omega) ?_ | refine w_sZ (by omega) (by assumption) (by omega) (by omega) (by decide) ?_ | refine w_pZ (by omega) (by assumption) (by decide) ?_ | refine w_dv (by omega) (by omega) (by omega) (by omega) ?_ | refine w_rm (by omega) (by omega) (by omega) (by omega) ?_) | ((with_reducible refine w_pos ?_ ?_); focus (first | assumption | trivial | exact (ile (by omega) (by omega) (by omega) (by omega)).2 (by omega) | exact (ilt (by omega) (by omega) (by omega) (by omega)).2 (by omega) | exact (ieq (by omega) (by omega) (by omega) (by omega)).2 (by omega))) | ((with_reducible refine w_neg ?_ ?_); focus (first | assumption | exact not_false | trivial | exact mt (ile (by omega) (by omega) (by omega) (by omega)).1 (by omega) | exact mt (ilt (by omega) (by omega) (by omega) (by omega)).1 (by omega) | exact mt (ieq (by omega) (by omega) (by omega) (by omega)).1 (by omega)))); skip)
        refine w_cI (taken_Q (J := J) hR hM hw2 (by omega) hi) ?_
        rintro v S ⟨-, I3, rfl, hM3⟩
        repeat ((first | (with_reducible first | refine w_ltA ?_ | refine w_ltS ?_ | refine w_ltM ?_ | refine w_ltN ?_ | refine w_lt ?_ | refine w_jn ?_ | refine w_ck (by omega) (by assumption) ?_ | refine w_gI (by omega) (by assumption) ?_ | refine w_gR (by omega) (by assumption) (by assumption) ?_ | refine w_al (by omega) (by assumption) (by assumption) ?_ | refine w_pI (by omega) (by assumption) ?_ | refine w_set (by omega) (by assumption) (by omega) (by omega) ?_ | refine w_at (by omega) (by assumption) (by omega) (by omega) ?_ | refine w_sI (by omega) (by assumption) (by omega) (by omega) ?_ | refine w_aI (by omega) (by assumption) (by omega) (by omega) ?_ | refine w_sZ (by omega) (by assumption) (by omega) (by omega) (by decide) ?_ | refine w_pZ (by omega) (by assumption) (by decide) ?_ | refine w_dv (by omega) (by omega) (by omega) (by omega) ?_ | refine w_rm (by omega) (by omega) (by omega) (by omega) ?_) | ((with_reducible refine w_pos ?_ ?_); focus (first | assumption | trivial | exact (ile (by omega) (by omega) (by omega) (by omega)).2 (by omega) | exact (ilt (by omega) (by omega) (by omega) (by omega)).2 (by omega) | exact (ieq (by omega) (by omega) (by omega) (by omega)).2 (by omega))) | ((with_reducible refine w_neg ?_ ?_); focus (first | assumption | exact not_false | trivial | exact mt (ile (by omega) (by omega) (by omega) (by omega)).1 (by omega) | exact mt (ilt (by omega) (by omega) (by omega) (by omega)).1 (by omega) | exact mt (ieq (by omega) (by omega) (by omega) (by omega)).1 (by omega)))); skip)
        refine w_cI (ended_Q (J := J) hR hM3 (wr_tak hw2) (by omega) (by omega)) ?_
        rintro v S ⟨-, I4, rfl, hM4⟩
        repeat ((first | (with_reducible first | refine w_ltA ?_ | refine w_ltS ?_ | refine w_ltM ?_ | refine w_ltN ?_ | refine w_lt ?_ | refine w_jn ?_ | refine w_ck (by omega) (by assumption) ?_ | refine w_gI (by omega) (by assumption) ?_ | refine w_gR (by omega) (by assumption) (by assumption) ?_ | refine w_al (by omega) (by assumption) (by assumption) ?_ | refine w_pI (by omega) (by assumption) ?_ | refine w_set (by omega) (by assumption) (by omega) (by omega) ?_ | refine w_at (by omega) (by assumption) (by omega) (by omega) ?_ | refine w_sI (by omega) (by assumption) (by omega) (by omega) ?_ | refine w_aI (by omega) (by assumption) (by omega) (by omega) ?_ | refine w_sZ (by omega) (by assumption) (by omega) (by omega) (by decide) ?_ | refine w_pZ (by omega) (by assumption) (by decide) ?_ | refine w_dv (by omega) (by omega) (by omega) (by omega) ?_ | refine w_rm (by omega) (by omega) (by omega) (by omega) ?_) | ((with_reducible refine w_pos ?_ ?_); focus (first | assumption | trivial | exact (ile (by omega) (by omega) (by omega) (by omega)).2 (by omega) | exact (ilt (by omega) (by omega) (by omega) (by omega)).2 (by omega) | exact (ieq (by omega) (by omega) (by omega) (by omega)).2 (by omega))) | ((with_reducible refine w_neg ?_ ?_); focus (first | assumption | exact not_false | trivial | exact mt (ile (by omega) (by omega) (by omega) (by omega)).1 (by omega) | exact mt (ilt (by omega) (by omega) (by omega) (by omega)).1 (by omega) | exact mt (ieq (by omega) (by omega) (by omega) (by omega)).1 (by omega)))); skip)
        refine w_cP (comes_Q (J := J) hR hM4.1 hst.1 (by omega) hi) ?_
        have hrb4 := rm_b hst.1 hi
        rw [show (j : Int) + 1 = ((j + 1 : Nat) : Int) by omega]
        exact ih _ ⟨by omega, _, I4, rfl, hM4, hst.1, hst.2.1, by rw [hst.2.2]; omega⟩
      · intro j8 hj8
        by_cases w0 : wayV V' 3 n = 0
        · repeat ((first | (with_reducible first | refine w_ltA ?_ | refine w_ltS ?_ | refine w_ltM ?_ | refine w_ltN ?_ | refine w_lt ?_ | refine w_jn ?_ | refine w_ck (by omega) (by assumption) ?_ | refine w_gI (by omega) (by assumption) ?_ | refine w_gR (by omega) (by assumption) (by assumption) ?_ | refine w_al (by omega) (by assumption) (by assumption) ?_ | refine w_pI (by omega) (by assumption) ?_ | refine w_set (by omega) (by assumption) (by omega) (by omega) ?_ | refine w_at (by omega) (by assumption) (by omega) (by omega) ?_ | refine w_sI (by omega) (by assumption) (by omega) (by omega) ?_ | refine w_aI (by omega) (by assumption) (by omega) (by omega) ?_ | refine w_sZ (by omega) (by assumption) (by omega) (by omega) (by decide) ?_ | refine w_pZ (by omega) (by assumption) (by decide) ?_ | refine w_dv (by omega) (by omega) (by omega) (by omega) ?_ | refine w_rm (by omega) (by omega) (by omega) (by omega) ?_) | ((with_reducible refine w_pos ?_ ?_); focus (first | assumption | trivial | exact (ile (by omega) (by omega) (by omega) (by omega)).2 (by omega) | exact (ilt (by omega) (by omega) (by omega) (by omega)).2 (by omega) | exact (ieq (by omega) (by omega) (by omega) (by omega)).2 (by omega))) | ((with_reducible refine w_neg ?_ ?_); focus (first | assumption | exact not_false | trivial | exact mt (ile (by omega) (by omega) (by omega) (by omega)).1 (by omega) | exact mt (ilt (by omega) (by omega) (by omega) (by omega)).1 (by omega) | exact mt (ieq (by omega) (by omega) (by omega) (by omega)).1 (by omega)))); skip)
          exact hj8 _ (Or.inl w0)
        by_cases w1 : wayV V' 3 n = 1
        · repeat ((first | (with_reducible first | refine w_ltA ?_ | refine w_ltS ?_ | refine w_ltM ?_ | refine w_ltN ?_ | refine w_lt ?_ | refine w_jn ?_ | refine w_ck (by omega) (by assumption) ?_ | refine w_gI (by omega) (by assumption) ?_ | refine w_gR (by omega) (by assumption) (by assumption) ?_ | refine w_al (by omega) (by assumption) (by assumption) ?_ | refine w_pI (by omega) (by assumption) ?_ | refine w_set (by omega) (by assumption) (by omega) (by omega) ?_ | refine w_at (by omega) (by assumption) (by omega) (by omega) ?_ | refine w_sI (by omega) (by assumption) (by omega) (by omega) ?_ | refine w_aI (by omega) (by assumption) (by omega) (by omega) ?_ | refine w_sZ (by omega) (by assumption) (by omega) (by omega) (by decide) ?_ | refine w_pZ (by omega) (by assumption) (by decide) ?_ | refine w_dv (by omega) (by omega) (by omega) (by omega) ?_ | refine w_rm (by omega) (by omega) (by omega) (by omega) ?_) | ((with_reducible refine w_pos ?_ ?_); focus (first | assumption | trivial | exact (ile (by omega) (by omega) (by omega) (by omega)).2 (by omega) | exact (ilt (by omega) (by omega) (by omega) (by omega)).2 (by omega) | exact (ieq (by omega) (by omega) (by omega) (by omega)).2 (by omega))) | ((with_reducible refine w_neg ?_ ?_); focus (first | assumption | exact not_false | trivial | exact mt (ile (by omega) (by omega) (by omega) (by omega)).1 (by omega) | exact mt (ilt (by omega) (by omega) (by omega) (by omega)).1 (by omega) | exact mt (ieq (by omega) (by omega) (by omega) (by omega)).1 (by omega)))); skip)
          exact hj8 _ (Or.inr w1)
        · have h0 := rm_e hw2 hi2 hi w0 w1
          repeat ((first | (with_reducible first | refine w_ltA ?_ | refine w_ltS ?_ | refine w_ltM ?_ | refine w_ltN ?_ | refine w_lt ?_ | refine w_jn ?_ | refine w_ck (by omega) (by assumption) ?_ | refine w_gI (by omega) (by assumption) ?_ | refine w_gR (by omega) (by assumption) (by assumption) ?_ | refine w_al (by omega) (by assumption) (by assumption) ?_ | refine w_pI (by omega) (by assumption) ?_ | refine w_set (by omega) (by assumption) (by omega) (by omega) ?_ | refine w_at (by omega) (by assumption) (by omega) (by omega) ?_ | refine w_sI (by omega) (by assumption) (by omega) (by omega) ?_ | refine w_aI (by omega) (by assumption) (by omega) (by omega) ?_ | refine w_sZ (by omega) (by assumption) (by omega) (by omega) (by decide) ?_ | refine w_pZ (by omega) (by assumption) (by decide) ?_ | refine w_dv (by omega) (by omega) (by omega) (by omega) ?_ | refine w_rm (by omega) (by omega) (by omega) (by omega) ?_) | ((with_reducible refine w_pos ?_ ?_); focus (first | assumption | trivial | exact (ile (by omega) (by omega) (by omega) (by omega)).2 (by omega) | exact (ilt (by omega) (by omega) (by omega) (by omega)).2 (by omega) | exact (ieq (by omega) (by omega) (by omega) (by omega)).2 (by omega))) | ((with_reducible refine w_neg ?_ ?_); focus (first | assumption | exact not_false | trivial | exact mt (ile (by omega) (by omega) (by omega) (by omega)).1 (by omega) | exact mt (ilt (by omega) (by omega) (by omega) (by omega)).1 (by omega) | exact mt (ieq (by omega) (by omega) (by omega) (by omega)).1 (by omega)))); skip)
          refine w_cI (Q' := fun y => y = _) ⟨_, back_Q hR, rfl⟩ ?_
          rintro v S he
          cases he
          refine w_rt ⟨by rw [hrm, h0, Int.add_zero], _, rfl, fb_t (fb_374 hF0) (fb_back (fun a k a1 a2 a3 => hM.2.1 a k a2 a3) hM.2.2)⟩
  · rw [if_neg (by omega)]
    repeat ((first | (with_reducible first | refine w_ltA ?_ | refine w_ltS ?_ | refine w_ltM ?_ | refine w_ltN ?_ | refine w_lt ?_ | refine w_jn ?_ | refine w_ck (by omega) (by assumption) ?_ | refine w_gI (by omega) (by assumption) ?_ | refine w_gR (by omega) (by assumption) (by assumption) ?_ | refine w_al (by omega) (by assumption) (by assumption) ?_ | refine w_pI (by omega) (by assumption) ?_ | refine w_set (by omega) (by assumption) (by omega) (by omega) ?_ | refine w_at (by omega) (by assumption) (by omega) (by omega) ?_ | refine w_sI (by omega) (by assumption) (by omega) (by omega) ?_ | refine w_aI (by omega) (by assumption) (by omega) (by omega) ?_ | refine w_sZ (by omega) (by assumption) (by omega) (by omega) (by decide) ?_ | refine w_pZ (by omega) (by assumption) (by decide) ?_ | refine w_dv (by omega) (by omega) (by omega) (by omega) ?_ | refine w_rm (by omega) (by omega) (by omega) (by omega) ?_) | ((with_reducible refine w_pos ?_ ?_); focus (first | assumption | trivial | exact (ile (by omega) (by omega) (by omega) (by omega)).2 (by omega) | exact (ilt (by omega) (by omega) (by omega) (by omega)).2 (by omega) | exact (ieq (by omega) (by omega) (by omega) (by omega)).2 (by omega))) | ((with_reducible refine w_neg ?_ ?_); focus (first | assumption | exact not_false | trivial | exact mt (ile (by omega) (by omega) (by omega) (by omega)).1 (by omega) | exact mt (ilt (by omega) (by omega) (by omega) (by omega)).1 (by omega) | exact mt (ieq (by omega) (by omega) (by omega) (by omega)).1 (by omega)))); skip)
    exact w_rt ⟨rfl, I1, rfl, fb_374 hF0⟩
end ROO
