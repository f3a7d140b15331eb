/-! RINGS: the class's take, whole -/
def gvnV (V : RV) : RV := upG V 5 6 (V.2 5 6 + 1)
def lstV (V : RV) (l : Int) : RV :=
  let U := upG (gvnV V) 5 7 ((gvnV V).2 5 7 + 1)
  upG U 5 (30 + l).toNat (U.2 5 (30 + l).toNat + 1)
def mrV (V : RV) : RV := upG V 0 13 (V.2 0 13 + 1)
def nxtV (w : Int) (V : RV) : RV := if w = 2 then mrV (ovwV V) else if w = 0 then V else mrV V
def takV (V : RV) (l n : Int) : Int × RV :=
  if wayV V l n = -1 then (-1, V) else if wayV V l n = -2 then (-2, V) else if wayV V l n = -3 then (-3, lstV V l) else
    ((opnV (nxtV (wayV V l n) (gvnV V)) l n).2 5 6, opnV (nxtV (wayV V l n) (gvnV V)) l n)
theorem way_cases {V : RV} {l n : Int} (h1 : wayV V l n ≠ -1) (h2 : wayV V l n ≠ -2) : (0 ≤ l ∧ l ≤ 3 ∧ 1 ≤ n ∧ n ≤ 8 ∧ inn V < l) ∧ ((wayV V l n = 0 ∧ pSize (tlP V) (V.2 0 11) n ≤ V.2 0 9 - tlP V 0 9) ∨ (wayV V l n = 1 ∧ V.2 0 13 < V.2 0 8) ∨ (wayV V l n = 2 ∧ V.2 0 8 ≤ V.2 0 13 ∧ opIn V (V.2 0 12) = false) ∨ wayV V l n = -3) := by
  unfold wayV at *
  repeat' split at h1
  all_goals first | omega | skip
  all_goals simp_all
  all_goals omega
theorem gvn_2 {V : RV} {g k : Nat} (h : ¬ (g = 5 ∧ k = 6)) : (gvnV V).2 g k = V.2 g k := upG_ne h
theorem mr_2 {V : RV} {g k : Nat} (h : ¬ (g = 0 ∧ k = 13)) : (mrV V).2 g k = V.2 g k := upG_ne h
theorem mr_n {V : RV} : (mrV V).2 0 13 = V.2 0 13 + 1 := upG_eq
theorem wr_gvn {V : RV} (hw : WR V) : WR (gvnV V) := wr_t hw _ _ (Or.inl (by omega))
theorem inn_congr {V V' : RV} (h15 : V'.2 0 15 = V.2 0 15) (ho : ∀ g k, g = 2 ∨ g = 3 → V'.2 g k = V.2 g k) (hp : ∀ k : Nat, (k : Int) < V.2 0 15 → V'.1 (V.2 2 k).toNat = V.1 (V.2 2 k).toNat) : inn V' = inn V := by
  unfold inn
  rw [h15]
  by_cases h : 0 < V.2 0 15
  · rw [if_pos h, if_pos h, ho 2 _ (by omega), ho 3 _ (by omega), hp _ (by omega)]
  · rw [if_neg h, if_neg h]
theorem pSize_e {P : PV} {t n : Int} (h : P 0 8 = 0) : pSize P t n = 1 + n := by
  unfold pSize pDelta
  rw [if_pos h, if_neg (by omega)]
/-- the page that comes next is empty -/
theorem mr_tl {V : RV} (hw : WR V) (hl : V.2 0 13 < V.2 0 8) : EP (tlP (mrV V)) ∧ plc (mrV V) ((mrV V).2 0 13 - 1) = plc V (V.2 0 13) := by
  have hb := hw.1
  unfold WB at hb
  have e : plc (mrV V) ((mrV V).2 0 13 - 1) = plc V (V.2 0 13) := by
    unfold plc
    rw [mr_n, mr_2 (by omega), mr_2 (by omega)]
    have : V.2 0 13 + 1 - 1 = V.2 0 13 := by omega
    rw [this]
  refine ⟨?_, e⟩
  unfold tlP
  rw [e]
  have hp : 0 ≤ plc V (V.2 0 13) ∧ plc V (V.2 0 13) < V.2 0 8 ∧ ¬ liveAt V (plc V (V.2 0 13)) := by
    unfold plc liveAt
    split <;> omega
  refine hw.2.2.1 (plc V (V.2 0 13)).toNat (by omega) ?_
  have : (((plc V (V.2 0 13)).toNat : Nat) : Int) = plc V (V.2 0 13) := by omega
  rw [this]
  exact hp.2.2
theorem opIn_gvn {V : RV} {p : Int} : opIn (gvnV V) p = opIn V p := rfl
theorem nxt_ok {V : RV} {l n : Int} (hw : WR V) (h1 : wayV V l n ≠ -1) (h2 : wayV V l n ≠ -2) (h3 : wayV V l n ≠ -3) : WR (nxtV (wayV V l n) (gvnV V)) ∧ inn (nxtV (wayV V l n) (gvnV V)) = inn V ∧ tlP (nxtV (wayV V l n) (gvnV V)) 0 9 + pSize (tlP (nxtV (wayV V l n) (gvnV V))) ((nxtV (wayV V l n) (gvnV V)).2 0 11) n ≤ (nxtV (wayV V l n) (gvnV V)).2 0 9 := by
  have hb := hw.1
  unfold WB at hb
  have hg := wr_gvn hw
  obtain ⟨⟨b1, b2, b3, b4, b5⟩, hc⟩ := way_cases h1 h2
  have hin : inn (gvnV V) = inn V := rfl
  rcases hc with ⟨h, hs⟩ | ⟨h, hs⟩ | ⟨h, hs, ho⟩ | h
  · rw [h]
    unfold nxtV
    rw [if_neg (by omega), if_pos rfl]
    refine ⟨hg, hin, ?_⟩
    have e : tlP (gvnV V) = tlP V := rfl
    rw [e, gvn_2 (by omega), gvn_2 (by omega)]
    omega
  · rw [h]
    unfold nxtV
    rw [if_neg (by omega), if_neg (by omega)]
    have hm := mr_tl hg (by rw [gvn_2 (by omega), gvn_2 (by omega)]; exact hs)
    refine ⟨wr_live hg (by rw [gvn_2 (by omega), gvn_2 (by omega)]; exact hs), ?_, ?_⟩
    · exact inn_congr (mr_2 (by omega)) (fun g k hgk => mr_2 (by omega)) (fun k hk => rfl)
    · rw [hm.1.2.1, pSize_e hm.1.1, mr_2 (by omega), gvn_2 (by omega)]
      omega
  · rw [h]
    unfold nxtV
    rw [if_pos rfl]
    have hov : WR (ovwV (gvnV V)) := wr_ovw hg (by rw [gvn_2 (by omega)]; omega) ho
    have hlt : (ovwV (gvnV V)).2 0 13 < (ovwV (gvnV V)).2 0 8 := by
      have e1 : (ovwV (gvnV V)).2 0 13 = (gvnV V).2 0 13 - 1 := rfl
      rw [e1, ovw_g (by omega) (by omega) (by omega), gvn_2 (by omega), gvn_2 (by omega)]
      omega
    have hm := mr_tl hov hlt
    refine ⟨wr_live hov hlt, ?_, ?_⟩
    · rw [← hin]
      refine (inn_congr (V := ovwV (gvnV V)) (mr_2 (by omega)) (fun g k hgk => mr_2 (by omega)) (fun k hk => rfl)).trans ?_
      refine inn_congr (ovw_g (by omega) (by omega) (by omega)) (fun g k hgk => ovw_g (by omega) (by omega) (by omega)) (fun k hk => ?_)
      have hne : (gvnV V).2 2 k ≠ V.2 0 12 := fun he => by
        have hx : opIn V (V.2 0 12) = true := opIn_iff.2 ⟨k, hk, he⟩
        rw [ho] at hx
        cases hx
      have hk0 := hw.o hk
      have e2 : (gvnV V).2 2 k = V.2 2 k := rfl
      have e3 : (gvnV V).2 0 12 = V.2 0 12 := rfl
      rw [e2] at hne ⊢
      rw [ovw_p, e3, if_neg (by omega)]
    · rw [hm.1.2.1, pSize_e hm.1.1, mr_2 (by omega), ovw_g (by omega) (by omega) (by omega), gvn_2 (by omega)]
      omega
  · exact absurd h h3
theorem wr_opn {V : RV} {l n : Int} (hw : WR V) (hi : inn V < l) (hl : l ≤ 3) (hn : 1 ≤ n ∧ n ≤ 8) (hfit : tlP V 0 9 + pSize (tlP V) (V.2 0 11) n ≤ V.2 0 9) : WR (opnV V l n) := by
  have hb := hw.1
  unfold WB at hb
  have hil := inn_le hw
  have htl := tlp_in hw
  have hdl := htl.2.2.2.2.delta (by omega) (by omega)
  have h0 : inn (extV V) = inn V := inn_congr (extV_2 (by omega)) (fun g k h => extV_2 (by omega)) (fun k hk => by rw [extV_1])
  have h4 : WR (opn4 (extV V) (V.2 5 6) l n) := by
    refine wr_opn4 (wr_ext hw) (by omega) hl hn ?_
    rw [extV_t.2, extV_2 (by omega), extV_2 (by omega)]
    exact hfit
  have g5 : ∀ k, k ≠ 13 → (opn4 (extV V) (V.2 5 6) l n).2 5 k = V.2 5 k := fun k hk => by
    rw [opn4_g (by omega) (by omega), extV_2 (by omega)]
  have m1 : ∀ a b : Int, 0 ≤ a → 0 ≤ b → ∀ c, a ≤ c → b ≤ c → 0 ≤ mxI a b ∧ mxI a b ≤ c := fun a b ha hb c h1 h2 => by
    unfold mxI
    split <;> omega
  unfold opnV
  refine wr_t (wr_t (wr_t h4 _ _ (Or.inl (by omega))) _ _ (Or.inr ?_)) _ _ (Or.inr ?_)
  · rw [upG_ne (by omega), g5 18 (by omega)]
    have := m1 (V.2 5 18) (pDelta (tlP V) (V.2 0 11)) (by omega) (by omega) 999999 (by omega) (by omega)
    omega
  · rw [upG_ne (by omega), upG_ne (by omega), g5 19 (by omega)]
    have := m1 (V.2 5 19) (V.2 0 15 + 1) (by omega) (by omega) 4 (by omega) (by omega)
    omega
theorem wr_tak {V : RV} {l n : Int} (hw : WR V) : WR (takV V l n).2 := by
  unfold takV
  by_cases h1 : wayV V l n = -1
  · rw [if_pos h1]
    exact hw
  rw [if_neg h1]
  by_cases h2 : wayV V l n = -2
  · rw [if_pos h2]
    exact hw
  rw [if_neg h2]
  have hc := way_cases h1 h2
  by_cases h3 : wayV V l n = -3
  · rw [if_pos h3]
    exact wr_t (wr_t (wr_gvn hw) _ _ (Or.inl (by omega))) _ _ (Or.inl (by omega))
  rw [if_neg h3]
  obtain ⟨k1, k2, k3⟩ := nxt_ok hw h1 h2 h3
  exact wr_opn k1 (by omega) (by omega) (by omega) k3
