/-! RINGS: the class's take, whole -/
def gvnV (V : RV) : RV := upG V 5 6 (V.2 5 6 + 1)
def lstV (V : RV) (l : Int) : RV :=
  let U := upG (gvnV V) 5 7 ((gvnV V).2 5 7 + 1)
  upG U 5 (30 + l).toNat (U.2 5 (30 + l).toNat + 1)
def mrV (V : RV) : RV := upG V 0 13 (V.2 0 13 + 1)
def nxtV (w : Int) (V : RV) : RV := if w = 2 then mrV (ovwV V) else if w = 0 then V else mrV V
def takV (V : RV) (l n : Int) : Int × RV :=
  if wayV V l n = -1 then (-1, V) else if wayV V l n = -2 then (-2, V) else if wayV V l n = -3 then (-3, lstV V l) else
    ((opnV (nxtV (wayV V l n) (gvnV V)) l n).2 5 6, opnV (nxtV (wayV V l n) (gvnV V)) l n)
theorem way_cases {V : RV} {l n : Int} (h1 : wayV V l n ≠ -1) (h2 : wayV V l n ≠ -2) : (0 ≤ l ∧ l ≤ 3 ∧ 1 ≤ n ∧ n ≤ 8 ∧ inn V < l) ∧ ((wayV V l n = 0 ∧ pSize (tlP V) (V.2 0 11) n ≤ V.2 0 9 - tlP V 0 9) ∨ (wayV V l n = 1 ∧ V.2 0 13 < V.2 0 8) ∨ (wayV V l n = 2 ∧ V.2 0 8 ≤ V.2 0 13 ∧ opIn V (V.2 0 12) = false) ∨ wayV V l n = -3) := by
  unfold wayV at *
  repeat' split at h1
  all_goals first | omega | skip
  all_goals simp_all
  all_goals omega
theorem gvn_2 {V : RV} {g k : Nat} (h : ¬ (g = 5 ∧ k = 6)) : (gvnV V).2 g k = V.2 g k := upG_ne h
theorem mr_2 {V : RV} {g k : Nat} (h : ¬ (g = 0 ∧ k = 13)) : (mrV V).2 g k = V.2 g k := upG_ne h
theorem mr_n {V : RV} : (mrV V).2 0 13 = V.2 0 13 + 1 := upG_eq
theorem wr_gvn {V : RV} (hw : WR V) : WR (gvnV V) := wr_t hw _ _ (Or.inl (by omega))
theorem inn_congr {V V' : RV} (h15 : V'.2 0 15 = V.2 0 15) (ho : ∀ g k, g = 2 ∨ g = 3 → V'.2 g k = V.2 g k) (hp : ∀ k : Nat, (k : Int) < V.2 0 15 → V'.1 (V.2 2 k).toNat = V.1 (V.2 2 k).toNat) : inn V' = inn V := by
  unfold inn
  rw [h15]
  by_cases h : 0 < V.2 0 15
  · rw [if_pos h, if_pos h, ho 2 _ (by omega), ho 3 _ (by omega), hp _ (by omega)]
  · rw [if_neg h, if_neg h]
theorem pSize_e {P : PV} {t n : Int} (h : P 0 8 = 0) : pSize P t n = 1 + n := by
  unfold pSize pDelta
  rw [if_pos h, if_neg (by omega)]
/-- the page that comes next is empty -/
theorem mr_tl {V : RV} (hw : WR V) (hl : V.2 0 13 < V.2 0 8) : EP (tlP (mrV V)) ∧ plc (mrV V) ((mrV V).2 0 13 - 1) = plc V (V.2 0 13) := by
  have hb := hw.1
  unfold WB at hb
  have e : plc (mrV V) ((mrV V).2 0 13 - 1) = plc V (V.2 0 13) := by
    unfold plc
    rw [mr_n, mr_2 (by omega), mr_2 (by omega)]
    have : V.2 0 13 + 1 - 1 = V.2 0 13 := by omega
    rw [this]
  refine ⟨?_, e⟩
  unfold tlP
  rw [e]
  have hp : 0 ≤ plc V (V.2 0 13) ∧ plc V (V.2 0 13) < V.2 0 8 ∧ ¬ liveAt V (plc V (V.2 0 13)) := by
    unfold plc liveAt
    split <;> omega
  refine hw.2.2.1 (plc V (V.2 0 13)).toNat (by omega) ?_
  have : (((plc V (V.2 0 13)).toNat : Nat) : Int) = plc V (V.2 0 13) := by omega
  rw [this]
  exact hp.2.2
theorem opIn_gvn {V : RV} {p : Int} : opIn (gvnV V) p = opIn V p := rfl
theorem nxt_ok {V : RV} {l n : Int} (hw : WR V) (h1 : wayV V l n ≠ -1) (h2 : wayV V l n ≠ -2) (h3 : wayV V l n ≠ -3) : WR (nxtV (wayV V l n) (gvnV V)) ∧ inn (nxtV (wayV V l n) (gvnV V)) = inn V ∧ tlP (nxtV (wayV V l n) (gvnV V)) 0 9 + pSize (tlP (nxtV (wayV V l n) (gvnV V))) ((nxtV (wayV V l n) (gvnV V)).2 0 11) n ≤ (nxtV (wayV V l n) (gvnV V)).2 0 9 := by
  have hb := hw.1
  unfold WB at hb
  have hg := wr_gvn hw
  obtain ⟨⟨b1, b2, b3, b4, b5⟩, hc⟩ := way_cases h1 h2
  have hin : inn (gvnV V) = inn V := rfl
  rcases hc with ⟨h, hs⟩ | ⟨h, hs⟩ | ⟨h, hs, ho⟩ | h
  · rw [h]
    unfold nxtV
    rw [if_neg (by omega), if_pos rfl]
    refine ⟨hg, hin, ?_⟩
    have e : tlP (gvnV V) = tlP V := rfl
    rw [e, gvn_2 (by omega), gvn_2 (by omega)]
    omega
  · rw [h]
    unfold nxtV
    rw [if_neg (by omega), if_neg (by omega)]
    have hm := mr_tl hg (by rw [gvn_2 (by omega), gvn_2 (by omega)]; exact hs)
    refine ⟨wr_live hg (by rw [gvn_2 (by omega), gvn_2 (by omega)]; exact hs), ?_, ?_⟩
    · rw [← hin]
      exact inn_congr (V := gvnV V) (mr_2 (by omega)) (fun g k hgk => mr_2 (by omega)) (fun k hk => rfl)
    · rw [hm.1.2.1, pSize_e hm.1.1, mr_2 (by omega), gvn_2 (by omega)]
      omega
  · rw [h]
    unfold nxtV
    rw [if_pos rfl]
    have hov : WR (ovwV (gvnV V)) := wr_ovw hg (by rw [gvn_2 (by omega)]; omega) ho
    have hlt : (ovwV (gvnV V)).2 0 13 < (ovwV (gvnV V)).2 0 8 := by
      have e1 : (ovwV (gvnV V)).2 0 13 = (gvnV V).2 0 13 - 1 := rfl
      rw [e1, ovw_g (by omega) (by omega) (by omega), gvn_2 (by omega), gvn_2 (by omega)]
      omega
    have hm := mr_tl hov hlt
    refine ⟨wr_live hov hlt, ?_, ?_⟩
    · rw [← hin]
      refine (inn_congr (V := ovwV (gvnV V)) (mr_2 (by omega)) (fun g k hgk => mr_2 (by omega)) (fun k hk => rfl)).trans ?_
      refine inn_congr (ovw_g (by omega) (by omega) (by omega)) (fun g k hgk => ovw_g (by omega) (by omega) (by omega)) (fun k hk => ?_)
      have hne : (gvnV V).2 2 k ≠ V.2 0 12 := fun he => by
        have hx : opIn V (V.2 0 12) = true := opIn_iff.2 ⟨k, hk, he⟩
        rw [ho] at hx
        cases hx
      have hk0 := hw.o hk
      have e2 : (gvnV V).2 2 k = V.2 2 k := rfl
      have e3 : (gvnV V).2 0 12 = V.2 0 12 := rfl
      rw [e2] at hne ⊢
      rw [ovw_p, e3, if_neg (by omega)]
    · rw [hm.1.2.1, pSize_e hm.1.1, mr_2 (by omega), ovw_g (by omega) (by omega) (by omega), gvn_2 (by omega)]
      omega
  · exact absurd h h3
theorem wr_opn {V : RV} {l n : Int} (hw : WR V) (hi : inn V < l) (hl : l ≤ 3) (hn : 1 ≤ n ∧ n ≤ 8) (hfit : tlP V 0 9 + pSize (tlP V) (V.2 0 11) n ≤ V.2 0 9) : WR (opnV V l n) := by
  have hb := hw.1
  unfold WB at hb
  have hil := inn_le hw
  have htl := tlp_in hw
  have hdl := htl.2.2.2.2.delta (by omega) (by omega)
  have h0 : inn (extV V) = inn V := inn_congr (extV_2 (by omega)) (fun g k h => extV_2 (by omega)) (fun k hk => by rw [extV_1])
  have h4 : WR (opn4 (extV V) (V.2 5 6) l n) := by
    refine wr_opn4 (wr_ext hw) (by omega) hl hn ?_
    rw [extV_t.2, extV_2 (by omega), extV_2 (by omega)]
    exact hfit
  have g5 : ∀ k, k ≠ 13 → (opn4 (extV V) (V.2 5 6) l n).2 5 k = V.2 5 k := fun k hk => by
    rw [opn4_g (by omega) (by omega), extV_2 (by omega)]
  have m1 : ∀ a b : Int, 0 ≤ a → 0 ≤ b → ∀ c, a ≤ c → b ≤ c → 0 ≤ mxI a b ∧ mxI a b ≤ c := fun a b ha hb c h1 h2 => by
    unfold mxI
    split <;> omega
  unfold opnV
  refine wr_t (wr_t (wr_t h4 _ _ (Or.inl (by omega))) _ _ (Or.inr ?_)) _ _ (Or.inr ?_)
  · rw [upG_ne (by omega), g5 18 (by omega)]
    have := m1 (V.2 5 18) (pDelta (tlP V) (V.2 0 11)) (by omega) (by omega) 999999 (by omega) (by omega)
    omega
  · rw [upG_ne (by omega), upG_ne (by omega), g5 19 (by omega)]
    have := m1 (V.2 5 19) (V.2 0 15 + 1) (by omega) (by omega) 4 (by omega) (by omega)
    omega
theorem wr_tak {V : RV} {l n : Int} (hw : WR V) : WR (takV V l n).2 := by
  unfold takV
  by_cases h1 : wayV V l n = -1
  · rw [if_pos h1]
    exact hw
  rw [if_neg h1]
  by_cases h2 : wayV V l n = -2
  · rw [if_pos h2]
    exact hw
  rw [if_neg h2]
  have hc := way_cases h1 h2
  by_cases h3 : wayV V l n = -3
  · rw [if_pos h3]
    exact wr_t (wr_t (wr_gvn hw) _ _ (Or.inl (by omega))) _ _ (Or.inl (by omega))
  rw [if_neg h3]
  obtain ⟨k1, k2, k3⟩ := nxt_ok hw h1 h2 h3
  exact wr_opn k1 (by omega) (by omega) (by omega) k3
section RGE
variable {I I0 : MI} {J : MJ} {R R0 : MR} {r : Nat} {σ : Nat → Nat} {γ : Type} {Q : γ → Prop} {x : Int32} {i t l n : Int} {V : RV}
theorem take_C (hrg : isRg r) (h : CTo r σ I0 R0 I R V) (hw : WR V) (hl1 : -2147483648 ≤ l) (hl2 : l < 2147483648) (hn1 : -2147483648 ≤ n) (hn2 : n < 2147483648) : En (fun y => y.1 = iI (takV V l n).1 ∧ RS r J I0 R0 y.2 (takV V l n).2) (f_X4_takeRoom (381, I, J, R) r (iI l) (iI n)) := by
  have hc := h.1
  have hb := hw.1
  unfold WB at hb
  have hway := way_C (J := J) hrg hc hw hl1 hl2 hn1 hn2
  have hrg1 := hrg
  have hc0 := hc
  obtain ⟨hq, kr0, kr1, kr2, kr3, kr4, kr5, kr6, kr7, lr1, lr2, lr3, lr4, lr5, lr7, hpg⟩ := hrg
  have hsc := cr_s hc
  obtain ⟨⟨e0, e1, e2, e3, e4, e5, e6, e7, ep, ed, hσ, hσi⟩, hpp, hgg⟩ := hc
  have s7 := hsc 7 (by decide)
  have s8 := hsc 8 (by decide)
  have s9 := hsc 9 (by decide)
  have s10 := hsc 10 (by decide)
  have s11 := hsc 11 (by decide)
  have s12 := hsc 12 (by decide)
  have s13 := hsc 13 (by decide)
  have s14 := hsc 14 (by decide)
  have s15 := hsc 15 (by decide)
  rw [u_X4_takeRoom]
  repeat ((first | (with_reducible first | refine w_ltA ?_ | refine w_ltS ?_ | refine w_ltM ?_ | refine w_ltN ?_ | refine w_lt ?_ | refine w_jn ?_ | refine w_ck (by omega) (by assumption) ?_ | refine w_gI (by omega) (by assumption) ?_ | refine w_gR (by omega) (by assumption) (by assumption) ?_ | refine w_al (by omega) (by assumption) (by assumption) ?_ | refine w_pI (by omega) (by assumption) ?_ | refine w_set (by omega) (by assumption) (by omega) (by omega) ?_ | refine w_at (by omega) (by assumption) (by omega) (by omega) ?_ | refine w_sI (by omega) (by assumption) (by omega) (by omega) ?_ | refine w_aI (by omega) (by assumption) (by omega) (by omega) ?_ | refine w_sZ (by omega) (by assumption) (by omega) (by omega) (by decide) ?_ | refine w_pZ (by omega) (by assumption) (by decide) ?_ | refine w_dv (by omega) (by omega) (by omega) (by omega) ?_ | refine w_rm (by omega) (by omega) (by omega) (by omega) ?_) | ((with_reducible refine w_pos ?_ ?_); focus (first | assumption | trivial | exact (ile (by omega) (by omega) (by omega) (by omega)).2 (by omega) | exact (ilt (by omega) (by omega) (by omega) (by omega)).2 (by omega) | exact (ieq (by omega) (by omega) (by omega) (by omega)).2 (by omega))) | ((with_reducible refine w_neg ?_ ?_); focus (first | assumption | exact not_false | trivial | exact mt (ile (by omega) (by omega) (by omega) (by omega)).1 (by omega) | exact mt (ilt (by omega) (by omega) (by omega) (by omega)).1 (by omega) | exact mt (ieq (by omega) (by omega) (by omega) (by omega)).1 (by omega)))); skip)
  refine w_cP hway ?_
  unfold takV
  by_cases h1 : wayV V l n = -1
  · rw [if_pos h1]
    rw [h1]
    repeat ((first | (with_reducible first | refine w_ltA ?_ | refine w_ltS ?_ | refine w_ltM ?_ | refine w_ltN ?_ | refine w_lt ?_ | refine w_jn ?_ | refine w_ck (by omega) (by assumption) ?_ | refine w_gI (by omega) (by assumption) ?_ | refine w_gR (by omega) (by assumption) (by assumption) ?_ | refine w_al (by omega) (by assumption) (by assumption) ?_ | refine w_pI (by omega) (by assumption) ?_ | refine w_set (by omega) (by assumption) (by omega) (by omega) ?_ | refine w_at (by omega) (by assumption) (by omega) (by omega) ?_ | refine w_sI (by omega) (by assumption) (by omega) (by omega) ?_ | refine w_aI (by omega) (by assumption) (by omega) (by omega) ?_ | refine w_sZ (by omega) (by assumption) (by omega) (by omega) (by decide) ?_ | refine w_pZ (by omega) (by assumption) (by decide) ?_ | refine w_dv (by omega) (by omega) (by omega) (by omega) ?_ | refine w_rm (by omega) (by omega) (by omega) (by omega) ?_) | ((with_reducible refine w_pos ?_ ?_); focus (first | assumption | trivial | exact (ile (by omega) (by omega) (by omega) (by omega)).2 (by omega) | exact (ilt (by omega) (by omega) (by omega) (by omega)).2 (by omega) | exact (ieq (by omega) (by omega) (by omega) (by omega)).2 (by omega))) | ((with_reducible refine w_neg ?_ ?_); focus (first | assumption | exact not_false | trivial | exact mt (ile (by omega) (by omega) (by omega) (by omega)).1 (by omega) | exact mt (ilt (by omega) (by omega) (by omega) (by omega)).1 (by omega) | exact mt (ieq (by omega) (by omega) (by omega) (by omega)).1 (by omega)))); skip)
    exact w_rt ⟨rfl, h.rs⟩
  rw [if_neg h1]
  by_cases h2 : wayV V l n = -2
  · rw [if_pos h2]
    rw [h2]
    repeat ((first | (with_reducible first | refine w_ltA ?_ | refine w_ltS ?_ | refine w_ltM ?_ | refine w_ltN ?_ | refine w_lt ?_ | refine w_jn ?_ | refine w_ck (by omega) (by assumption) ?_ | refine w_gI (by omega) (by assumption) ?_ | refine w_gR (by omega) (by assumption) (by assumption) ?_ | refine w_al (by omega) (by assumption) (by assumption) ?_ | refine w_pI (by omega) (by assumption) ?_ | refine w_set (by omega) (by assumption) (by omega) (by omega) ?_ | refine w_at (by omega) (by assumption) (by omega) (by omega) ?_ | refine w_sI (by omega) (by assumption) (by omega) (by omega) ?_ | refine w_aI (by omega) (by assumption) (by omega) (by omega) ?_ | refine w_sZ (by omega) (by assumption) (by omega) (by omega) (by decide) ?_ | refine w_pZ (by omega) (by assumption) (by decide) ?_ | refine w_dv (by omega) (by omega) (by omega) (by omega) ?_ | refine w_rm (by omega) (by omega) (by omega) (by omega) ?_) | ((with_reducible refine w_pos ?_ ?_); focus (first | assumption | trivial | exact (ile (by omega) (by omega) (by omega) (by omega)).2 (by omega) | exact (ilt (by omega) (by omega) (by omega) (by omega)).2 (by omega) | exact (ieq (by omega) (by omega) (by omega) (by omega)).2 (by omega))) | ((with_reducible refine w_neg ?_ ?_); focus (first | assumption | exact not_false | trivial | exact mt (ile (by omega) (by omega) (by omega) (by omega)).1 (by omega) | exact mt (ilt (by omega) (by omega) (by omega) (by omega)).1 (by omega) | exact mt (ieq (by omega) (by omega) (by omega) (by omega)).1 (by omega)))); skip)
    exact w_rt ⟨rfl, h.rs⟩
  rw [if_neg h2]
  obtain ⟨⟨b1, b2, b3, b4, b5⟩, hcs⟩ := way_cases h1 h2
  have hwb : -3 ≤ wayV V l n ∧ wayV V l n ≤ 2 := by omega
  repeat ((first | (with_reducible first | refine w_ltA ?_ | refine w_ltS ?_ | refine w_ltM ?_ | refine w_ltN ?_ | refine w_lt ?_ | refine w_jn ?_ | refine w_ck (by omega) (by assumption) ?_ | refine w_gI (by omega) (by assumption) ?_ | refine w_gR (by omega) (by assumption) (by assumption) ?_ | refine w_al (by omega) (by assumption) (by assumption) ?_ | refine w_pI (by omega) (by assumption) ?_ | refine w_set (by omega) (by assumption) (by omega) (by omega) ?_ | refine w_at (by omega) (by assumption) (by omega) (by omega) ?_ | refine w_sI (by omega) (by assumption) (by omega) (by omega) ?_ | refine w_aI (by omega) (by assumption) (by omega) (by omega) ?_ | refine w_sZ (by omega) (by assumption) (by omega) (by omega) (by decide) ?_ | refine w_pZ (by omega) (by assumption) (by decide) ?_ | refine w_dv (by omega) (by omega) (by omega) (by omega) ?_ | refine w_rm (by omega) (by omega) (by omega) (by omega) ?_) | ((with_reducible refine w_pos ?_ ?_); focus (first | assumption | trivial | exact (ile (by omega) (by omega) (by omega) (by omega)).2 (by omega) | exact (ilt (by omega) (by omega) (by omega) (by omega)).2 (by omega) | exact (ieq (by omega) (by omega) (by omega) (by omega)).2 (by omega))) | ((with_reducible refine w_neg ?_ ?_); focus (first | assumption | exact not_false | trivial | exact mt (ile (by omega) (by omega) (by omega) (by omega)).1 (by omega) | exact mt (ilt (by omega) (by omega) (by omega) (by omega)).1 (by omega) | exact mt (ieq (by omega) (by omega) (by omega) (by omega)).1 (by omega)))); skip)
  refine w_raise hrg1 h (by omega) (by omega) fun I1 g1 => ?_
  have g1 : CTo r σ I0 R0 I1 R (gvnV V) := g1
  by_cases h3 : wayV V l n = -3
  · rw [if_pos h3]
    repeat ((first | (with_reducible first | refine w_ltA ?_ | refine w_ltS ?_ | refine w_ltM ?_ | refine w_ltN ?_ | refine w_lt ?_ | refine w_jn ?_ | refine w_ck (by omega) (by assumption) ?_ | refine w_gI (by omega) (by assumption) ?_ | refine w_gR (by omega) (by assumption) (by assumption) ?_ | refine w_al (by omega) (by assumption) (by assumption) ?_ | refine w_pI (by omega) (by assumption) ?_ | refine w_set (by omega) (by assumption) (by omega) (by omega) ?_ | refine w_at (by omega) (by assumption) (by omega) (by omega) ?_ | refine w_sI (by omega) (by assumption) (by omega) (by omega) ?_ | refine w_aI (by omega) (by assumption) (by omega) (by omega) ?_ | refine w_sZ (by omega) (by assumption) (by omega) (by omega) (by decide) ?_ | refine w_pZ (by omega) (by assumption) (by decide) ?_ | refine w_dv (by omega) (by omega) (by omega) (by omega) ?_ | refine w_rm (by omega) (by omega) (by omega) (by omega) ?_) | ((with_reducible refine w_pos ?_ ?_); focus (first | assumption | trivial | exact (ile (by omega) (by omega) (by omega) (by omega)).2 (by omega) | exact (ilt (by omega) (by omega) (by omega) (by omega)).2 (by omega) | exact (ieq (by omega) (by omega) (by omega) (by omega)).2 (by omega))) | ((with_reducible refine w_neg ?_ ?_); focus (first | assumption | exact not_false | trivial | exact mt (ile (by omega) (by omega) (by omega) (by omega)).1 (by omega) | exact mt (ilt (by omega) (by omega) (by omega) (by omega)).1 (by omega) | exact mt (ieq (by omega) (by omega) (by omega) (by omega)).1 (by omega)))); skip)
    refine w_raise hrg1 g1 (by omega) (by omega) fun I2 g2 => ?_
    repeat ((first | (with_reducible first | refine w_ltA ?_ | refine w_ltS ?_ | refine w_ltM ?_ | refine w_ltN ?_ | refine w_lt ?_ | refine w_jn ?_ | refine w_ck (by omega) (by assumption) ?_ | refine w_gI (by omega) (by assumption) ?_ | refine w_gR (by omega) (by assumption) (by assumption) ?_ | refine w_al (by omega) (by assumption) (by assumption) ?_ | refine w_pI (by omega) (by assumption) ?_ | refine w_set (by omega) (by assumption) (by omega) (by omega) ?_ | refine w_at (by omega) (by assumption) (by omega) (by omega) ?_ | refine w_sI (by omega) (by assumption) (by omega) (by omega) ?_ | refine w_aI (by omega) (by assumption) (by omega) (by omega) ?_ | refine w_sZ (by omega) (by assumption) (by omega) (by omega) (by decide) ?_ | refine w_pZ (by omega) (by assumption) (by decide) ?_ | refine w_dv (by omega) (by omega) (by omega) (by omega) ?_ | refine w_rm (by omega) (by omega) (by omega) (by omega) ?_) | ((with_reducible refine w_pos ?_ ?_); focus (first | assumption | trivial | exact (ile (by omega) (by omega) (by omega) (by omega)).2 (by omega) | exact (ilt (by omega) (by omega) (by omega) (by omega)).2 (by omega) | exact (ieq (by omega) (by omega) (by omega) (by omega)).2 (by omega))) | ((with_reducible refine w_neg ?_ ?_); focus (first | assumption | exact not_false | trivial | exact mt (ile (by omega) (by omega) (by omega) (by omega)).1 (by omega) | exact mt (ilt (by omega) (by omega) (by omega) (by omega)).1 (by omega) | exact mt (ieq (by omega) (by omega) (by omega) (by omega)).1 (by omega)))); skip)
    refine w_raise hrg1 g2 (by omega) (by omega) fun I3 g3 => ?_
    exact w_rt ⟨rfl, g3.rs⟩
  rw [if_neg h3]
  obtain ⟨k1, k2, k3⟩ := nxt_ok hw h1 h2 h3
  have hg := wr_gvn hw
  refine w_neg (by first | assumption | exact not_false | trivial | exact mt (ile (by omega) (by omega) (by omega) (by omega)).1 (by omega) | exact mt (ilt (by omega) (by omega) (by omega) (by omega)).1 (by omega) | exact mt (ieq (by omega) (by omega) (by omega) (by omega)).1 (by omega)) ?_
  generalize hU : nxtV (wayV V l n) (gvnV V) = U at *
  refine w_jnP (fun x4 => ∃ I2 R2 σ2, x4 = (381, I2, J, R2) ∧ CTo r σ2 I0 R0 I2 R2 (if wayV V l n = 2 then ovwV (gvnV V) else gvnV V)) ?_ ?_
  · rintro x4 ⟨I2, R2, σ2, rfl, g2⟩
    refine w_jnP (fun x5 => ∃ I3, x5 = (381, I3, J, R2) ∧ CTo r σ2 I0 R0 I3 R2 U) ?_ ?_
    · rintro x5 ⟨I3, rfl, g3⟩
      have e4 := g3.1.1.2.2.2.2.1
      repeat ((first | (with_reducible first | refine w_ltA ?_ | refine w_ltS ?_ | refine w_ltM ?_ | refine w_ltN ?_ | refine w_lt ?_ | refine w_jn ?_ | refine w_ck (by omega) (by assumption) ?_ | refine w_gI (by omega) (by assumption) ?_ | refine w_gR (by omega) (by assumption) (by assumption) ?_ | refine w_al (by omega) (by assumption) (by assumption) ?_ | refine w_pI (by omega) (by assumption) ?_ | refine w_set (by omega) (by assumption) (by omega) (by omega) ?_ | refine w_at (by omega) (by assumption) (by omega) (by omega) ?_ | refine w_sI (by omega) (by assumption) (by omega) (by omega) ?_ | refine w_aI (by omega) (by assumption) (by omega) (by omega) ?_ | refine w_sZ (by omega) (by assumption) (by omega) (by omega) (by decide) ?_ | refine w_pZ (by omega) (by assumption) (by decide) ?_ | refine w_dv (by omega) (by omega) (by omega) (by omega) ?_ | refine w_rm (by omega) (by omega) (by omega) (by omega) ?_) | ((with_reducible refine w_pos ?_ ?_); focus (first | assumption | trivial | exact (ile (by omega) (by omega) (by omega) (by omega)).2 (by omega) | exact (ilt (by omega) (by omega) (by omega) (by omega)).2 (by omega) | exact (ieq (by omega) (by omega) (by omega) (by omega)).2 (by omega))) | ((with_reducible refine w_neg ?_ ?_); focus (first | assumption | exact not_false | trivial | exact mt (ile (by omega) (by omega) (by omega) (by omega)).1 (by omega) | exact mt (ilt (by omega) (by omega) (by omega) (by omega)).1 (by omega) | exact mt (ieq (by omega) (by omega) (by omega) (by omega)).1 (by omega)))); skip)
      refine w_cV (openB_C (J := J) hrg1 g3 k1 (by omega) b2 ⟨b3, b4⟩ k3) ?_
      rintro S6 ⟨I4, R4, σ4, rfl, g4⟩
      have e4' := g4.1.1.2.2.2.2.1
      have t6 := cr_t g4.1 6 (by decide)
      repeat ((first | (with_reducible first | refine w_ltA ?_ | refine w_ltS ?_ | refine w_ltM ?_ | refine w_ltN ?_ | refine w_lt ?_ | refine w_jn ?_ | refine w_ck (by omega) (by assumption) ?_ | refine w_gI (by omega) (by assumption) ?_ | refine w_gR (by omega) (by assumption) (by assumption) ?_ | refine w_al (by omega) (by assumption) (by assumption) ?_ | refine w_pI (by omega) (by assumption) ?_ | refine w_set (by omega) (by assumption) (by omega) (by omega) ?_ | refine w_at (by omega) (by assumption) (by omega) (by omega) ?_ | refine w_sI (by omega) (by assumption) (by omega) (by omega) ?_ | refine w_aI (by omega) (by assumption) (by omega) (by omega) ?_ | refine w_sZ (by omega) (by assumption) (by omega) (by omega) (by decide) ?_ | refine w_pZ (by omega) (by assumption) (by decide) ?_ | refine w_dv (by omega) (by omega) (by omega) (by omega) ?_ | refine w_rm (by omega) (by omega) (by omega) (by omega) ?_) | ((with_reducible refine w_pos ?_ ?_); focus (first | assumption | trivial | exact (ile (by omega) (by omega) (by omega) (by omega)).2 (by omega) | exact (ilt (by omega) (by omega) (by omega) (by omega)).2 (by omega) | exact (ieq (by omega) (by omega) (by omega) (by omega)).2 (by omega))) | ((with_reducible refine w_neg ?_ ?_); focus (first | assumption | exact not_false | trivial | exact mt (ile (by omega) (by omega) (by omega) (by omega)).1 (by omega) | exact mt (ilt (by omega) (by omega) (by omega) (by omega)).1 (by omega) | exact mt (ieq (by omega) (by omega) (by omega) (by omega)).1 (by omega)))); skip)
      refine w_rt ⟨?_, g4.rs⟩
      exact t6
    · intro j hj
      by_cases h0 : wayV V l n = 0
      · repeat ((first | (with_reducible first | refine w_ltA ?_ | refine w_ltS ?_ | refine w_ltM ?_ | refine w_ltN ?_ | refine w_lt ?_ | refine w_jn ?_ | refine w_ck (by omega) (by assumption) ?_ | refine w_gI (by omega) (by assumption) ?_ | refine w_gR (by omega) (by assumption) (by assumption) ?_ | refine w_al (by omega) (by assumption) (by assumption) ?_ | refine w_pI (by omega) (by assumption) ?_ | refine w_set (by omega) (by assumption) (by omega) (by omega) ?_ | refine w_at (by omega) (by assumption) (by omega) (by omega) ?_ | refine w_sI (by omega) (by assumption) (by omega) (by omega) ?_ | refine w_aI (by omega) (by assumption) (by omega) (by omega) ?_ | refine w_sZ (by omega) (by assumption) (by omega) (by omega) (by decide) ?_ | refine w_pZ (by omega) (by assumption) (by decide) ?_ | refine w_dv (by omega) (by omega) (by omega) (by omega) ?_ | refine w_rm (by omega) (by omega) (by omega) (by omega) ?_) | ((with_reducible refine w_pos ?_ ?_); focus (first | assumption | trivial | exact (ile (by omega) (by omega) (by omega) (by omega)).2 (by omega) | exact (ilt (by omega) (by omega) (by omega) (by omega)).2 (by omega) | exact (ieq (by omega) (by omega) (by omega) (by omega)).2 (by omega))) | ((with_reducible refine w_neg ?_ ?_); focus (first | assumption | exact not_false | trivial | exact mt (ile (by omega) (by omega) (by omega) (by omega)).1 (by omega) | exact mt (ilt (by omega) (by omega) (by omega) (by omega)).1 (by omega) | exact mt (ieq (by omega) (by omega) (by omega) (by omega)).1 (by omega)))); skip)
        refine hj _ ⟨I2, rfl, ?_⟩
        rw [if_neg (by omega)] at g2
        rw [← hU, nxtV, if_neg (by omega), if_pos h0]
        exact g2
      · have t13 := cr_s g2.1 13 (by decide)
        repeat ((first | (with_reducible first | refine w_ltA ?_ | refine w_ltS ?_ | refine w_ltM ?_ | refine w_ltN ?_ | refine w_lt ?_ | refine w_jn ?_ | refine w_ck (by omega) (by assumption) ?_ | refine w_gI (by omega) (by assumption) ?_ | refine w_gR (by omega) (by assumption) (by assumption) ?_ | refine w_al (by omega) (by assumption) (by assumption) ?_ | refine w_pI (by omega) (by assumption) ?_ | refine w_set (by omega) (by assumption) (by omega) (by omega) ?_ | refine w_at (by omega) (by assumption) (by omega) (by omega) ?_ | refine w_sI (by omega) (by assumption) (by omega) (by omega) ?_ | refine w_aI (by omega) (by assumption) (by omega) (by omega) ?_ | refine w_sZ (by omega) (by assumption) (by omega) (by omega) (by decide) ?_ | refine w_pZ (by omega) (by assumption) (by decide) ?_ | refine w_dv (by omega) (by omega) (by omega) (by omega) ?_ | refine w_rm (by omega) (by omega) (by omega) (by omega) ?_) | ((with_reducible refine w_pos ?_ ?_); focus (first | assumption | trivial | exact (ile (by omega) (by omega) (by omega) (by omega)).2 (by omega) | exact (ilt (by omega) (by omega) (by omega) (by omega)).2 (by omega) | exact (ieq (by omega) (by omega) (by omega) (by omega)).2 (by omega))) | ((with_reducible refine w_neg ?_ ?_); focus (first | assumption | exact not_false | trivial | exact mt (ile (by omega) (by omega) (by omega) (by omega)).1 (by omega) | exact mt (ilt (by omega) (by omega) (by omega) (by omega)).1 (by omega) | exact mt (ieq (by omega) (by omega) (by omega) (by omega)).1 (by omega)))); try simp (disch := omega) only [t13])
        refine hj _ ⟨_, rfl, ?_⟩
        rw [← hU, nxtV]
        by_cases hx : wayV V l n = 2
        · rw [if_pos hx] at g2
          rw [if_pos hx, if_pos hx]
          exact cto_up0 g2 13 _
        · rw [if_neg hx] at g2
          rw [if_neg hx, if_neg hx, if_neg h0]
          exact cto_up0 g2 13 _
  · intro j hj
    by_cases hx : wayV V l n = 2
    · --N skip
      repeat ((first | (with_reducible first | refine w_ltA ?_ | refine w_ltS ?_ | refine w_ltM ?_ | refine w_ltN ?_ | refine w_lt ?_ | refine w_jn ?_ | refine w_ck (by omega) (by assumption) ?_ | refine w_gI (by omega) (by assumption) ?_ | refine w_gR (by omega) (by assumption) (by assumption) ?_ | refine w_al (by omega) (by assumption) (by assumption) ?_ | refine w_pI (by omega) (by assumption) ?_ | refine w_set (by omega) (by assumption) (by omega) (by omega) ?_ | refine w_at (by omega) (by assumption) (by omega) (by omega) ?_ | refine w_sI (by omega) (by assumption) (by omega) (by omega) ?_ | refine w_aI (by omega) (by assumption) (by omega) (by omega) ?_ | refine w_sZ (by omega) (by assumption) (by omega) (by omega) (by decide) ?_ | refine w_pZ (by omega) (by assumption) (by decide) ?_ | refine w_dv (by omega) (by omega) (by omega) (by omega) ?_ | refine w_rm (by omega) (by omega) (by omega) (by omega) ?_) | ((with_reducible refine w_pos ?_ ?_); focus (first | assumption | trivial | exact (ile (by omega) (by omega) (by omega) (by omega)).2 (by omega) | exact (ilt (by omega) (by omega) (by omega) (by omega)).2 (by omega) | exact (ieq (by omega) (by omega) (by omega) (by omega)).2 (by omega))) | ((with_reducible refine w_neg ?_ ?_); focus (first | assumption | exact not_false | trivial | exact mt (ile (by omega) (by omega) (by omega) (by omega)).1 (by omega) | exact mt (ilt (by omega) (by omega) (by omega) (by omega)).1 (by omega) | exact mt (ieq (by omega) (by omega) (by omega) (by omega)).1 (by omega)))); try simp (disch := omega) only [t13])
      refine w_cI (overwrite_C (J := J) hrg1 g1 hg) ?_
      rintro v S4 ⟨-, I4, R4, σ4, rfl, g4⟩
      refine hj _ ⟨I4, R4, σ4, rfl, ?_⟩
      rw [if_pos hx]
      exact g4
    · repeat ((first | (with_reducible first | refine w_ltA ?_ | refine w_ltS ?_ | refine w_ltM ?_ | refine w_ltN ?_ | refine w_lt ?_ | refine w_jn ?_ | refine w_ck (by omega) (by assumption) ?_ | refine w_gI (by omega) (by assumption) ?_ | refine w_gR (by omega) (by assumption) (by assumption) ?_ | refine w_al (by omega) (by assumption) (by assumption) ?_ | refine w_pI (by omega) (by assumption) ?_ | refine w_set (by omega) (by assumption) (by omega) (by omega) ?_ | refine w_at (by omega) (by assumption) (by omega) (by omega) ?_ | refine w_sI (by omega) (by assumption) (by omega) (by omega) ?_ | refine w_aI (by omega) (by assumption) (by omega) (by omega) ?_ | refine w_sZ (by omega) (by assumption) (by omega) (by omega) (by decide) ?_ | refine w_pZ (by omega) (by assumption) (by decide) ?_ | refine w_dv (by omega) (by omega) (by omega) (by omega) ?_ | refine w_rm (by omega) (by omega) (by omega) (by omega) ?_) | ((with_reducible refine w_pos ?_ ?_); focus (first | assumption | trivial | exact (ile (by omega) (by omega) (by omega) (by omega)).2 (by omega) | exact (ilt (by omega) (by omega) (by omega) (by omega)).2 (by omega) | exact (ieq (by omega) (by omega) (by omega) (by omega)).2 (by omega))) | ((with_reducible refine w_neg ?_ ?_); focus (first | assumption | exact not_false | trivial | exact mt (ile (by omega) (by omega) (by omega) (by omega)).1 (by omega) | exact mt (ilt (by omega) (by omega) (by omega) (by omega)).1 (by omega) | exact mt (ieq (by omega) (by omega) (by omega) (by omega)).1 (by omega)))); try simp (disch := omega) only [t13])
      refine hj _ ⟨I1, R, σ, rfl, ?_⟩
      rw [if_neg hx]
      exact g1
end RGE
