/-! RINGS: the class's resize -/
def turnV (V : RV) : RV := (fun p => if (p : Int) < V.2 0 8 - 1 then V.1 (p + 1) else if (p : Int) = V.2 0 8 - 1 then V.1 0 else V.1 p, V.2)
def trnV (V : RV) : RV := upG (turnV V) 0 12 (V.2 0 12 - 1)
theorem wr_trn {V : RV} (hw : WR V) (h0 : 0 < V.2 0 12) (ho : V.2 0 15 = 0) : WR (trnV V) := by
  obtain ⟨a1, a2, a3, a4, a5⟩ := hw
  have hb := a1
  unfold WB at hb
  have g : ∀ g k, ¬ (g = 0 ∧ k = 12) → (trnV V).2 g k = V.2 g k := fun g k hh => upG_ne hh
  have g12 : (trnV V).2 0 12 = V.2 0 12 - 1 := upG_eq
  have gp : ∀ p, (trnV V).1 p = if (p : Int) < V.2 0 8 - 1 then V.1 (p + 1) else if (p : Int) = V.2 0 8 - 1 then V.1 0 else V.1 p := fun p => rfl
  refine ⟨?_, fun p hp => ?_, fun p hp hd => ?_, fun k hk => ?_, fun k k' hk hk' => ?_⟩
  · unfold WB
    rw [g12, gp, if_neg (by omega), if_neg (by omega)]
    simp (disch := omega) only [g]
    omega
  · rw [gp, g _ _ (by omega), g _ _ (by omega)]
    split
    · exact a2 _ (by omega)
    split
    · exact a2 _ (by omega)
    · exact a2 _ hp
  · unfold liveAt at hd
    rw [g12, g _ _ (by omega), g _ _ (by omega)] at hd
    rw [gp]
    split
    · refine a3 _ (by omega) ?_
      unfold liveAt
      omega
    split
    · refine a3 _ (by omega) ?_
      unfold liveAt
      omega
    · refine a3 _ (by omega) ?_
      unfold liveAt
      omega
  · rw [g _ _ (by omega)] at hk
    omega
  · rw [g _ _ (by omega)] at hk'
    omega
def trnN : Nat → RV → RV
  | 0, V => V
  | n + 1, V => trnN n (trnV V)
def ovwN : Nat → RV → RV
  | 0, V => V
  | n + 1, V => ovwN n (ovwV V)
def ovwS : Nat → RV → Int
  | 0, _ => 0
  | n + 1, V => recs (V.1 (V.2 0 12).toNat) + ovwS n (ovwV V)
def rsz2 (V : RV) (n : Int) : RV := upG (trnN (V.2 0 12).toNat V) 0 8 n
def rszV (V : RV) (n : Int) : Int × RV := if n < 2 then (-1, V) else if 6 < n then (-1, V) else if n = V.2 0 8 then (-1, V) else if V.2 0 15 ≤ 0 then (ovwS (V.2 0 13 - n).toNat V, rsz2 (ovwN (V.2 0 13 - n).toNat V) n) else (-1, V)
theorem trn_g {V : RV} {g k : Nat} (h : ¬ (g = 0 ∧ k = 12)) : ∀ n {V : RV}, (trnN n V).2 g k = V.2 g k
  | 0, V => rfl
  | n + 1, V => by
    show (trnN n (trnV V)).2 g k = _
    rw [trn_g (V := V) h n]
    exact upG_ne h
theorem wr_trnN : ∀ (n : Nat) {V : RV}, WR V → (n : Int) = V.2 0 12 → V.2 0 15 = 0 → WR (trnN n V) ∧ (trnN n V).2 0 12 = 0
  | 0, V, hw, h, ho => ⟨hw, by show V.2 0 12 = 0; omega⟩
  | n + 1, V, hw, h, ho => by
    have e : (trnV V).2 0 12 = V.2 0 12 - 1 := upG_eq
    exact wr_trnN n (wr_trn hw (by omega) ho) (by omega) (by rw [trnV, upG_ne (by omega)]; exact ho)
theorem op_no {V : RV} {p : Int} (h : V.2 0 15 ≤ 0) : opIn V p = false := by
  cases hx : opIn V p
  · rfl
  · obtain ⟨k, hk, _⟩ := opIn_iff.1 hx
    omega
theorem wr_ovwN : ∀ (n : Nat) {V : RV}, WR V → (n : Int) < V.2 0 13 → V.2 0 15 = 0 → WR (ovwN n V) ∧ (ovwN n V).2 0 13 = V.2 0 13 - n ∧ (ovwN n V).2 0 15 = 0 ∧ (ovwN n V).2 0 8 = V.2 0 8
  | 0, V, hw, h, ho => ⟨hw, by show V.2 0 13 = _; omega, ho, rfl⟩
  | n + 1, V, hw, h, ho => by
    have e13 : (ovwV V).2 0 13 = V.2 0 13 - 1 := rfl
    have hx := wr_ovwN n (wr_ovw hw (by omega) (op_no (by omega))) (by omega) (by rw [ovw_g (by omega) (by omega) (by omega)]; exact ho)
    refine ⟨hx.1, ?_, hx.2.2.1, ?_⟩
    · rw [show ovwN (n + 1) V = ovwN n (ovwV V) from rfl, hx.2.1]
      omega
    · rw [show ovwN (n + 1) V = ovwN n (ovwV V) from rfl, hx.2.2.2, ovw_g (by omega) (by omega) (by omega)]
theorem wr_rsz2 {V : RV} {n : Int} (hw : WR V) (ho : V.2 0 15 = 0) (hn : 2 ≤ n ∧ n ≤ 6) (hl : V.2 0 13 ≤ n) : WR (rsz2 V n) := by
  have hb0 := hw.1
  unfold WB at hb0
  obtain ⟨hw1, h12⟩ := wr_trnN (V.2 0 12).toNat hw (by omega) ho
  have e13 : (trnN (V.2 0 12).toNat V).2 0 13 = V.2 0 13 := trn_g (V := V) (by omega) _
  have e15 : (trnN (V.2 0 12).toNat V).2 0 15 = V.2 0 15 := trn_g (V := V) (by omega) _
  unfold rsz2
  generalize trnN (V.2 0 12).toNat V = W at *
  obtain ⟨a1, a2, a3, a4, a5⟩ := hw1
  have hb := a1
  unfold WB at hb
  refine ⟨?_, fun p hp => ?_, fun p hp hd => ?_, fun k hk => ?_, fun k k' hk hk' => ?_⟩
  · unfold WB
    rw [upG_eq, upG_1]
    simp (disch := omega) only [upG_ne]
    omega
  · rw [upG_1, upG_ne (by omega), upG_ne (by omega)]
    exact a2 p hp
  · rw [upG_1]
    refine a3 p hp fun h => hd ?_
    unfold liveAt at *
    rw [upG_eq, upG_ne (by omega), upG_ne (by omega)]
    omega
  · rw [upG_ne (by omega)] at hk
    omega
  · rw [upG_ne (by omega)] at hk'
    omega
theorem wr_rsz {V : RV} {n : Int} (hw : WR V) : WR (rszV V n).2 := by
  have hb := hw.1
  unfold WB at hb
  unfold rszV
  repeat' split
  all_goals first | exact hw | skip
  have h := wr_ovwN (V.2 0 13 - n).toNat hw (by omega) (by omega)
  exact wr_rsz2 h.1 h.2.2.1 (by omega) (by omega)
theorem RS.congr {r : Nat} {J : MJ} {I0 : MI} {R0 : MR} {S : St} {V V' : RV} (h : RS r J I0 R0 S V) (h1 : ∀ p, p < 7 → ∀ f k, vld f k → V'.1 p f k = V.1 p f k) (h2 : ∀ g k, vldR g k → V'.2 g k = V.2 g k) : RS r J I0 R0 S V' := by
  obtain ⟨I, R, σ, e, hc⟩ := h
  exact ⟨I, R, σ, e, cto_congr hc h1 h2⟩
section RGJ
variable {I I0 : MI} {J : MJ} {R R0 : MR} {r : Nat} {σ : Nat → Nat} {γ : Type} {Q : γ → Prop} {x : Int32} {i t l n m f : Int} {V : RV}
def trR (R : MR) (r : Nat) (σ : Nat → Nat) (n : Nat) : MR := fun b j => if b = r + 1 ∧ j < n then some (pa r (σ (j + 1))) else R b j
theorem turn_C (hrg : isRg r) (h : CTo r σ I0 R0 I R V) (hb : WB V) : En (fun y => ∃ R' σ', y = (381, I, J, R') ∧ CTo r σ' I0 R0 I R' (turnV V)) (f_X4_turnByOne (381, I, J, R) r) := by
  have hpa := pageAt_C (J := J) (p := 0) hrg h.1 (by omega) (by omega)
  have hc := h.1
  unfold WB at hb
  have hrg1 := hrg
  have hc0 := hc
  obtain ⟨hq, kr0, kr1, kr2, kr3, kr4, kr5, kr6, kr7, lr1, lr2, lr3, lr4, lr5, lr7, hpg⟩ := hrg
  have hsc := cr_s hc
  obtain ⟨⟨e0, e1, e2, e3, e4, e5, e6, e7, ep, ed, hσ, hσi⟩, hpp, hgg⟩ := hc
  have s7 := hsc 7 (by decide)
  have s8 := hsc 8 (by decide)
  have s9 := hsc 9 (by decide)
  have s10 := hsc 10 (by decide)
  have s11 := hsc 11 (by decide)
  have s12 := hsc 12 (by decide)
  have s13 := hsc 13 (by decide)
  have s14 := hsc 14 (by decide)
  have s15 := hsc 15 (by decide)
  have h5' := h.2.2
  rw [u_X4_turnByOne]
  repeat ((first | (with_reducible first | refine w_ltA ?_ | refine w_ltS ?_ | refine w_ltM ?_ | refine w_ltN ?_ | refine w_lt ?_ | refine w_jn ?_ | refine w_ck (by omega) (by assumption) ?_ | refine w_gI (by omega) (by assumption) ?_ | refine w_gR (by omega) (by assumption) (by assumption) ?_ | refine w_al (by omega) (by assumption) (by assumption) ?_ | refine w_pI (by omega) (by assumption) ?_ | refine w_set (by omega) (by assumption) (by omega) (by omega) ?_ | refine w_at (by omega) (by assumption) (by omega) (by omega) ?_ | refine w_sI (by omega) (by assumption) (by omega) (by omega) ?_ | refine w_aI (by omega) (by assumption) (by omega) (by omega) ?_ | refine w_sZ (by omega) (by assumption) (by omega) (by omega) (by decide) ?_ | refine w_pZ (by omega) (by assumption) (by decide) ?_ | refine w_dv (by omega) (by omega) (by omega) (by omega) ?_ | refine w_rm (by omega) (by omega) (by omega) (by omega) ?_) | ((with_reducible refine w_pos ?_ ?_); focus (first | assumption | trivial | exact (ile (by omega) (by omega) (by omega) (by omega)).2 (by omega) | exact (ilt (by omega) (by omega) (by omega) (by omega)).2 (by omega) | exact (ieq (by omega) (by omega) (by omega) (by omega)).2 (by omega))) | ((with_reducible refine w_neg ?_ ?_); focus (first | assumption | exact not_false | trivial | exact mt (ile (by omega) (by omega) (by omega) (by omega)).1 (by omega) | exact mt (ilt (by omega) (by omega) (by omega) (by omega)).1 (by omega) | exact mt (ieq (by omega) (by omega) (by omega) (by omega)).1 (by omega)))); skip)
  refine w_cP hpa ?_
  obtain ⟨c, hcc⟩ : ∃ c : Nat, V.2 0 8 = c := ⟨(V.2 0 8).toNat, by omega⟩
  refine w_lp (c - 1) (fun j y => j ≤ c - 1 ∧ y = (iI ((j + 1 : Nat) : Int), (381, I, J, trR R r σ j))) ⟨by omega, ?_⟩ (by rw [FU_eq]; omega) (fun i y h => h.1) ?_
  · have : trR R r σ 0 = R := by
      funext b j
      exact if_neg (by omega)
    rw [this]
    rfl
  · rintro j y self ⟨hj, rfl⟩ ih
    try dsimp only
    have e0' : trR R r σ j r 0 = some (r + 1) := by
      rw [trR, if_neg (by omega)]
      exact e0
    by_cases hn : j < c - 1
    · have e1' : trR R r σ j (r + 1) (((j + 1 : Nat) : Int)).toNat = some (pa r (σ (j + 1))) := by
        rw [trR, if_neg (by omega)]
        have := ep (j + 1) (by omega)
        rw [show (((j + 1 : Nat) : Int)).toNat = j + 1 by omega]
        exact this
      have hpg1 := hpg _ (hσ (j + 1) (by omega))
      have hkq := hpg1.2.1
      have hq9 := hpg1.1
      repeat ((first | (with_reducible first | refine w_aR (by omega) (by assumption) (by omega) (by omega) (by assumption) ?_ | refine w_sR (by omega) (by assumption) (by omega) (by omega) (by omega) (by assumption) ?_ | refine w_ltA ?_ | refine w_ltS ?_ | refine w_ltM ?_ | refine w_ltN ?_ | refine w_lt ?_ | refine w_jn ?_ | refine w_ck (by omega) (by assumption) ?_ | refine w_gI (by omega) (by assumption) ?_ | refine w_gR (by omega) (by assumption) (by assumption) ?_ | refine w_al (by omega) (by assumption) (by assumption) ?_ | refine w_pI (by omega) (by assumption) ?_ | refine w_set (by omega) (by assumption) (by omega) (by omega) ?_ | refine w_at (by omega) (by assumption) (by omega) (by omega) ?_ | refine w_sI (by omega) (by assumption) (by omega) (by omega) ?_ | refine w_aI (by omega) (by assumption) (by omega) (by omega) ?_ | refine w_sZ (by omega) (by assumption) (by omega) (by omega) (by decide) ?_ | refine w_pZ (by omega) (by assumption) (by decide) ?_ | refine w_dv (by omega) (by omega) (by omega) (by omega) ?_ | refine w_rm (by omega) (by omega) (by omega) (by omega) ?_) | ((with_reducible refine w_pos ?_ ?_); focus (first | assumption | trivial | exact (ile (by omega) (by omega) (by omega) (by omega)).2 (by omega) | exact (ilt (by omega) (by omega) (by omega) (by omega)).2 (by omega) | exact (ieq (by omega) (by omega) (by omega) (by omega)).2 (by omega))) | ((with_reducible refine w_neg ?_ ?_); focus (first | assumption | exact not_false | trivial | exact mt (ile (by omega) (by omega) (by omega) (by omega)).1 (by omega) | exact mt (ilt (by omega) (by omega) (by omega) (by omega)).1 (by omega) | exact mt (ieq (by omega) (by omega) (by omega) (by omega)).1 (by omega)))); try simp (disch := omega) only [s8])
      refine ih _ ⟨by omega, ?_⟩
      have e2 : upR (trR R r σ j) (r + 1) (((j + 1 : Nat) : Int) - 1).toNat (some (pa r (σ (j + 1)))) = trR R r σ (j + 1) := by
        funext b j'
        show (if b = r + 1 ∧ j' = (((j + 1 : Nat) : Int) - 1).toNat then _ else if b = r + 1 ∧ j' < j then some (pa r (σ (j' + 1))) else R b j') = if b = r + 1 ∧ j' < j + 1 then some (pa r (σ (j' + 1))) else R b j'
        by_cases c1 : b = r + 1 ∧ j' = (((j + 1 : Nat) : Int) - 1).toNat
        · rw [if_pos c1, if_pos (by omega), show j' = j by omega]
        · rw [if_neg c1]
          by_cases c2 : b = r + 1 ∧ j' < j
          · rw [if_pos c2, if_pos (by omega)]
          · rw [if_neg c2, if_neg (by omega)]
      rw [e2]
      have e3 : ((j + 1 : Nat) : Int) + 1 = ((j + 1 + 1 : Nat) : Int) := by omega
      rw [e3]
    · have hpg1 := hpg _ (hσ 0 (by omega))
      have hkq := hpg1.2.1
      have hq9 := hpg1.1
      have ej : j = c - 1 := by omega
      subst ej
      rw [show σ (Int.toNat 0) = σ 0 from rfl]
      repeat ((first | (with_reducible first | refine w_aR (by omega) (by assumption) (by omega) (by omega) (by assumption) ?_ | refine w_sR (by omega) (by assumption) (by omega) (by omega) (by omega) (by assumption) ?_ | refine w_ltA ?_ | refine w_ltS ?_ | refine w_ltM ?_ | refine w_ltN ?_ | refine w_lt ?_ | refine w_jn ?_ | refine w_ck (by omega) (by assumption) ?_ | refine w_gI (by omega) (by assumption) ?_ | refine w_gR (by omega) (by assumption) (by assumption) ?_ | refine w_al (by omega) (by assumption) (by assumption) ?_ | refine w_pI (by omega) (by assumption) ?_ | refine w_set (by omega) (by assumption) (by omega) (by omega) ?_ | refine w_at (by omega) (by assumption) (by omega) (by omega) ?_ | refine w_sI (by omega) (by assumption) (by omega) (by omega) ?_ | refine w_aI (by omega) (by assumption) (by omega) (by omega) ?_ | refine w_sZ (by omega) (by assumption) (by omega) (by omega) (by decide) ?_ | refine w_pZ (by omega) (by assumption) (by decide) ?_ | refine w_dv (by omega) (by omega) (by omega) (by omega) ?_ | refine w_rm (by omega) (by omega) (by omega) (by omega) ?_) | ((with_reducible refine w_pos ?_ ?_); focus (first | assumption | trivial | exact (ile (by omega) (by omega) (by omega) (by omega)).2 (by omega) | exact (ilt (by omega) (by omega) (by omega) (by omega)).2 (by omega) | exact (ieq (by omega) (by omega) (by omega) (by omega)).2 (by omega))) | ((with_reducible refine w_neg ?_ ?_); focus (first | assumption | exact not_false | trivial | exact mt (ile (by omega) (by omega) (by omega) (by omega)).1 (by omega) | exact mt (ilt (by omega) (by omega) (by omega) (by omega)).1 (by omega) | exact mt (ieq (by omega) (by omega) (by omega) (by omega)).1 (by omega)))); try simp (disch := omega) only [s8])
      refine w_rt ⟨_, fun p => if p < c - 1 then σ (p + 1) else if p = c - 1 then σ 0 else σ p, rfl, ⟨⟨?_, ?_, ?_, ?_, ?_, ?_, ?_, ?_, fun p hp => ?_, fun j hj => ?_, fun p hp => ?_, fun p p' hp hp' he => ?_⟩, fun p hp => ?_, hgg⟩, h.2.1, fun a k ha => ?_⟩
      · rw [upR_ne (by omega), trR, if_neg (by omega)]
        exact e0
      · rw [upR_ne (by omega), trR, if_neg (by omega)]
        exact e1
      · rw [upR_ne (by omega), trR, if_neg (by omega)]
        exact e2
      · rw [upR_ne (by omega), trR, if_neg (by omega)]
        exact e3
      · rw [upR_ne (by omega), trR, if_neg (by omega)]
        exact e4
      · rw [upR_ne (by omega), trR, if_neg (by omega)]
        exact e5
      · dsimp only
        rw [upR_ne (by omega), trR, if_neg (by omega), if_neg (by omega), if_neg (by omega)]
        exact e6
      · rw [upR_ne (by omega), trR, if_neg (by omega)]
        exact e7
      · dsimp only
        by_cases c1 : p = c - 1
        · rw [show (V.2 0 8 - 1).toNat = p by omega, upR_eq, if_neg (by omega), if_pos c1]
        · rw [upR_ne (by omega)]
          by_cases c2 : p < c - 1
          · rw [trR, if_pos ⟨rfl, c2⟩, if_pos c2]
          · rw [trR, if_neg (by omega), if_neg c2, if_neg c1]
            exact ep p hp
      · have := pa_in (r := r) hj
        have hx := ed j hj
        unfold RfP at *
        simp (disch := omega) only [upR_ne]
        unfold trR
        simp (disch := omega) only [if_neg]
        exact hx
      · have := hσ 0 (by omega)
        have := hσ p hp
        dsimp only
        split
        · exact hσ _ (by omega)
        split <;> assumption
      · dsimp only at he
        by_cases c1 : p < c - 1
        · rw [if_pos c1] at he
          by_cases d1 : p' < c - 1
          · rw [if_pos d1] at he
            have := hσi _ _ (by omega) (by omega) he
            omega
          · rw [if_neg d1] at he
            by_cases d2 : p' = c - 1
            · rw [if_pos d2] at he
              have := hσi _ _ (by omega) (by omega) he
              omega
            · rw [if_neg d2] at he
              have := hσi _ _ (by omega) (by omega) he
              omega
        · rw [if_neg c1] at he
          by_cases c2 : p = c - 1
          · rw [if_pos c2] at he
            by_cases d1 : p' < c - 1
            · rw [if_pos d1] at he
              have := hσi _ _ (by omega) (by omega) he
              omega
            · rw [if_neg d1] at he
              by_cases d2 : p' = c - 1
              · omega
              · rw [if_neg d2] at he
                have := hσi _ _ (by omega) (by omega) he
                omega
          · rw [if_neg c2] at he
            by_cases d1 : p' < c - 1
            · rw [if_pos d1] at he
              have := hσi _ _ (by omega) (by omega) he
              omega
            · rw [if_neg d1] at he
              by_cases d2 : p' = c - 1
              · rw [if_pos d2] at he
                have := hσi _ _ (by omega) (by omega) he
                omega
              · rw [if_neg d2] at he
                exact hσi _ _ (by omega) (by omega) he
      · show CP I (pa r (if p < c - 1 then σ (p + 1) else if p = c - 1 then σ 0 else σ p)) (if (p : Int) < V.2 0 8 - 1 then V.1 (p + 1) else if (p : Int) = V.2 0 8 - 1 then V.1 0 else V.1 p)
        by_cases c1 : p < c - 1
        · rw [if_pos c1, if_pos (by omega)]
          exact hpp _ (by omega)
        · rw [if_neg c1]
          by_cases c2 : p = c - 1
          · rw [if_pos c2, if_neg (show ¬ ((p : Int) < V.2 0 8 - 1) by omega), if_pos (show (p : Int) = V.2 0 8 - 1 by omega)]
            exact hpp _ (by omega)
          · rw [if_neg c2, if_neg (show ¬ ((p : Int) < V.2 0 8 - 1) by omega), if_neg (show ¬ (p : Int) = V.2 0 8 - 1 by omega)]
            exact hpp p hp
      · rw [upR_ne (by omega), trR, if_neg (by omega)]
        exact h5' a k ha
theorem trn_turn {V : RV} {v : Int} : turnV (upG V 0 12 v) = upG (trnV V) 0 12 v := by
  refine Prod.ext ?_ ?_
  · show (fun p : Nat => if (p : Int) < (upG V 0 12 v).2 0 8 - 1 then _ else _) = _
    rw [upG_ne (by omega)]
    rfl
  · funext a b
    show (if a = 0 ∧ b = 12 then v else V.2 a b) = if a = 0 ∧ b = 12 then v else if a = 0 ∧ b = 12 then _ else V.2 a b
    by_cases hx : a = 0 ∧ b = 12
    · rw [if_pos hx, if_pos hx]
    · rw [if_neg hx, if_neg hx, if_neg hx]
theorem rsz_C (hrg : isRg r) (h : CTo r σ I0 R0 I R V) (hw : WR V) (hn1 : -2147483648 ≤ n) (hn2 : n < 2147483648) : En (fun y => y.1 = iI (rszV V n).1 ∧ RS r J I0 R0 y.2 (rszV V n).2) (f_X4_changePages (381, I, J, R) r (iI n)) := by
  have hc := h.1
  have hb := hw.1
  unfold WB at hb
  have hrg1 := hrg
  have hc0 := hc
  obtain ⟨hq, kr0, kr1, kr2, kr3, kr4, kr5, kr6, kr7, lr1, lr2, lr3, lr4, lr5, lr7, hpg⟩ := hrg
  have hsc := cr_s hc
  obtain ⟨⟨e0, e1, e2, e3, e4, e5, e6, e7, ep, ed, hσ, hσi⟩, hpp, hgg⟩ := hc
  have s7 := hsc 7 (by decide)
  have s8 := hsc 8 (by decide)
  have s9 := hsc 9 (by decide)
  have s10 := hsc 10 (by decide)
  have s11 := hsc 11 (by decide)
  have s12 := hsc 12 (by decide)
  have s13 := hsc 13 (by decide)
  have s14 := hsc 14 (by decide)
  have s15 := hsc 15 (by decide)
  rw [u_X4_changePages]
  unfold rszV
  by_cases h1 : n < 2
  · rw [if_pos h1]
    repeat ((first | (with_reducible first | refine w_ltA ?_ | refine w_ltS ?_ | refine w_ltM ?_ | refine w_ltN ?_ | refine w_lt ?_ | refine w_jn ?_ | refine w_ck (by omega) (by assumption) ?_ | refine w_gI (by omega) (by assumption) ?_ | refine w_gR (by omega) (by assumption) (by assumption) ?_ | refine w_al (by omega) (by assumption) (by assumption) ?_ | refine w_pI (by omega) (by assumption) ?_ | refine w_set (by omega) (by assumption) (by omega) (by omega) ?_ | refine w_at (by omega) (by assumption) (by omega) (by omega) ?_ | refine w_sI (by omega) (by assumption) (by omega) (by omega) ?_ | refine w_aI (by omega) (by assumption) (by omega) (by omega) ?_ | refine w_sZ (by omega) (by assumption) (by omega) (by omega) (by decide) ?_ | refine w_pZ (by omega) (by assumption) (by decide) ?_ | refine w_dv (by omega) (by omega) (by omega) (by omega) ?_ | refine w_rm (by omega) (by omega) (by omega) (by omega) ?_) | ((with_reducible refine w_pos ?_ ?_); focus (first | assumption | trivial | exact (ile (by omega) (by omega) (by omega) (by omega)).2 (by omega) | exact (ilt (by omega) (by omega) (by omega) (by omega)).2 (by omega) | exact (ieq (by omega) (by omega) (by omega) (by omega)).2 (by omega))) | ((with_reducible refine w_neg ?_ ?_); focus (first | assumption | exact not_false | trivial | exact mt (ile (by omega) (by omega) (by omega) (by omega)).1 (by omega) | exact mt (ilt (by omega) (by omega) (by omega) (by omega)).1 (by omega) | exact mt (ieq (by omega) (by omega) (by omega) (by omega)).1 (by omega)))); try simp (disch := omega) only [s8, s15, s13])
    exact w_rt ⟨rfl, h.rs⟩
  rw [if_neg h1]
  by_cases h2 : 6 < n
  · rw [if_pos h2]
    repeat ((first | (with_reducible first | refine w_ltA ?_ | refine w_ltS ?_ | refine w_ltM ?_ | refine w_ltN ?_ | refine w_lt ?_ | refine w_jn ?_ | refine w_ck (by omega) (by assumption) ?_ | refine w_gI (by omega) (by assumption) ?_ | refine w_gR (by omega) (by assumption) (by assumption) ?_ | refine w_al (by omega) (by assumption) (by assumption) ?_ | refine w_pI (by omega) (by assumption) ?_ | refine w_set (by omega) (by assumption) (by omega) (by omega) ?_ | refine w_at (by omega) (by assumption) (by omega) (by omega) ?_ | refine w_sI (by omega) (by assumption) (by omega) (by omega) ?_ | refine w_aI (by omega) (by assumption) (by omega) (by omega) ?_ | refine w_sZ (by omega) (by assumption) (by omega) (by omega) (by decide) ?_ | refine w_pZ (by omega) (by assumption) (by decide) ?_ | refine w_dv (by omega) (by omega) (by omega) (by omega) ?_ | refine w_rm (by omega) (by omega) (by omega) (by omega) ?_) | ((with_reducible refine w_pos ?_ ?_); focus (first | assumption | trivial | exact (ile (by omega) (by omega) (by omega) (by omega)).2 (by omega) | exact (ilt (by omega) (by omega) (by omega) (by omega)).2 (by omega) | exact (ieq (by omega) (by omega) (by omega) (by omega)).2 (by omega))) | ((with_reducible refine w_neg ?_ ?_); focus (first | assumption | exact not_false | trivial | exact mt (ile (by omega) (by omega) (by omega) (by omega)).1 (by omega) | exact mt (ilt (by omega) (by omega) (by omega) (by omega)).1 (by omega) | exact mt (ieq (by omega) (by omega) (by omega) (by omega)).1 (by omega)))); try simp (disch := omega) only [s8, s15, s13])
    exact w_rt ⟨rfl, h.rs⟩
  rw [if_neg h2]
  by_cases h3 : n = V.2 0 8
  · rw [if_pos h3]
    repeat ((first | (with_reducible first | refine w_ltA ?_ | refine w_ltS ?_ | refine w_ltM ?_ | refine w_ltN ?_ | refine w_lt ?_ | refine w_jn ?_ | refine w_ck (by omega) (by assumption) ?_ | refine w_gI (by omega) (by assumption) ?_ | refine w_gR (by omega) (by assumption) (by assumption) ?_ | refine w_al (by omega) (by assumption) (by assumption) ?_ | refine w_pI (by omega) (by assumption) ?_ | refine w_set (by omega) (by assumption) (by omega) (by omega) ?_ | refine w_at (by omega) (by assumption) (by omega) (by omega) ?_ | refine w_sI (by omega) (by assumption) (by omega) (by omega) ?_ | refine w_aI (by omega) (by assumption) (by omega) (by omega) ?_ | refine w_sZ (by omega) (by assumption) (by omega) (by omega) (by decide) ?_ | refine w_pZ (by omega) (by assumption) (by decide) ?_ | refine w_dv (by omega) (by omega) (by omega) (by omega) ?_ | refine w_rm (by omega) (by omega) (by omega) (by omega) ?_) | ((with_reducible refine w_pos ?_ ?_); focus (first | assumption | trivial | exact (ile (by omega) (by omega) (by omega) (by omega)).2 (by omega) | exact (ilt (by omega) (by omega) (by omega) (by omega)).2 (by omega) | exact (ieq (by omega) (by omega) (by omega) (by omega)).2 (by omega))) | ((with_reducible refine w_neg ?_ ?_); focus (first | assumption | exact not_false | trivial | exact mt (ile (by omega) (by omega) (by omega) (by omega)).1 (by omega) | exact mt (ilt (by omega) (by omega) (by omega) (by omega)).1 (by omega) | exact mt (ieq (by omega) (by omega) (by omega) (by omega)).1 (by omega)))); try simp (disch := omega) only [s8, s15, s13])
    exact w_rt ⟨rfl, h.rs⟩
  rw [if_neg h3]
  by_cases h4 : V.2 0 15 ≤ 0
  · rw [if_pos h4]
    have h15 : V.2 0 15 = 0 := by omega
    repeat ((first | (with_reducible first | refine w_ltA ?_ | refine w_ltS ?_ | refine w_ltM ?_ | refine w_ltN ?_ | refine w_lt ?_ | refine w_jn ?_ | refine w_ck (by omega) (by assumption) ?_ | refine w_gI (by omega) (by assumption) ?_ | refine w_gR (by omega) (by assumption) (by assumption) ?_ | refine w_al (by omega) (by assumption) (by assumption) ?_ | refine w_pI (by omega) (by assumption) ?_ | refine w_set (by omega) (by assumption) (by omega) (by omega) ?_ | refine w_at (by omega) (by assumption) (by omega) (by omega) ?_ | refine w_sI (by omega) (by assumption) (by omega) (by omega) ?_ | refine w_aI (by omega) (by assumption) (by omega) (by omega) ?_ | refine w_sZ (by omega) (by assumption) (by omega) (by omega) (by decide) ?_ | refine w_pZ (by omega) (by assumption) (by decide) ?_ | refine w_dv (by omega) (by omega) (by omega) (by omega) ?_ | refine w_rm (by omega) (by omega) (by omega) (by omega) ?_) | ((with_reducible refine w_pos ?_ ?_); focus (first | assumption | trivial | exact (ile (by omega) (by omega) (by omega) (by omega)).2 (by omega) | exact (ilt (by omega) (by omega) (by omega) (by omega)).2 (by omega) | exact (ieq (by omega) (by omega) (by omega) (by omega)).2 (by omega))) | ((with_reducible refine w_neg ?_ ?_); focus (first | assumption | exact not_false | trivial | exact mt (ile (by omega) (by omega) (by omega) (by omega)).1 (by omega) | exact mt (ilt (by omega) (by omega) (by omega) (by omega)).1 (by omega) | exact mt (ieq (by omega) (by omega) (by omega) (by omega)).1 (by omega)))); try simp (disch := omega) only [s8, s15, s13])
    refine w_lp (V.2 0 13 - n).toNat (fun j y => ∃ I' R' σ' W s, y = (iI s, iI (V.2 0 13 - n - j), (381, I', J, R')) ∧ CTo r σ' I0 R0 I' R' W ∧ WR W ∧ W.2 0 13 = V.2 0 13 - j ∧ W.2 0 15 = 0 ∧ j ≤ (V.2 0 13 - n).toNat ∧ ovwS (V.2 0 13 - n).toNat V = s + ovwS ((V.2 0 13 - n).toNat - j) W ∧ ovwN (V.2 0 13 - n).toNat V = ovwN ((V.2 0 13 - n).toNat - j) W) ⟨I, R, σ, V, 0, ?_, h, hw, by omega, h15, by omega, ?_, rfl⟩ (by rw [FU_eq]; omega) (fun i y h => by obtain ⟨_, _, _, _, _, _, _, _, _, _, h, _⟩ := h; exact h) ?_
    · show _ = (iI 0, iI (V.2 0 13 - n - 0), _)
      rw [Int.sub_zero]
    · show _ = 0 + ovwS (V.2 0 13 - n).toNat V
      omega
    rintro j y self ⟨I', R', σ', W, s, rfl, g, hwW, w13, w15, hj, hs1, hs2⟩ ih
    try dsimp only
    by_cases hn : j < (V.2 0 13 - n).toNat
    · obtain ⟨d, hd⟩ : ∃ d, (V.2 0 13 - n).toNat - j = d + 1 := ⟨(V.2 0 13 - n).toNat - j - 1, by omega⟩
      rw [hd] at hs1 hs2
      repeat ((first | (with_reducible first | refine w_ltA ?_ | refine w_ltS ?_ | refine w_ltM ?_ | refine w_ltN ?_ | refine w_lt ?_ | refine w_jn ?_ | refine w_ck (by omega) (by assumption) ?_ | refine w_gI (by omega) (by assumption) ?_ | refine w_gR (by omega) (by assumption) (by assumption) ?_ | refine w_al (by omega) (by assumption) (by assumption) ?_ | refine w_pI (by omega) (by assumption) ?_ | refine w_set (by omega) (by assumption) (by omega) (by omega) ?_ | refine w_at (by omega) (by assumption) (by omega) (by omega) ?_ | refine w_sI (by omega) (by assumption) (by omega) (by omega) ?_ | refine w_aI (by omega) (by assumption) (by omega) (by omega) ?_ | refine w_sZ (by omega) (by assumption) (by omega) (by omega) (by decide) ?_ | refine w_pZ (by omega) (by assumption) (by decide) ?_ | refine w_dv (by omega) (by omega) (by omega) (by omega) ?_ | refine w_rm (by omega) (by omega) (by omega) (by omega) ?_) | ((with_reducible refine w_pos ?_ ?_); focus (first | assumption | trivial | exact (ile (by omega) (by omega) (by omega) (by omega)).2 (by omega) | exact (ilt (by omega) (by omega) (by omega) (by omega)).2 (by omega) | exact (ieq (by omega) (by omega) (by omega) (by omega)).2 (by omega))) | ((with_reducible refine w_neg ?_ ?_); focus (first | assumption | exact not_false | trivial | exact mt (ile (by omega) (by omega) (by omega) (by omega)).1 (by omega) | exact mt (ilt (by omega) (by omega) (by omega) (by omega)).1 (by omega) | exact mt (ieq (by omega) (by omega) (by omega) (by omega)).1 (by omega)))); try simp (disch := omega) only [s8, s15, s13])
      refine w_cI (overwrite_C (J := J) hrg1 g hwW) ?_
      rintro v S4 ⟨rfl, I4, R4, σ4, rfl, g4⟩
      repeat ((first | (with_reducible first | refine w_ltA ?_ | refine w_ltS ?_ | refine w_ltM ?_ | refine w_ltN ?_ | refine w_lt ?_ | refine w_jn ?_ | refine w_ck (by omega) (by assumption) ?_ | refine w_gI (by omega) (by assumption) ?_ | refine w_gR (by omega) (by assumption) (by assumption) ?_ | refine w_al (by omega) (by assumption) (by assumption) ?_ | refine w_pI (by omega) (by assumption) ?_ | refine w_set (by omega) (by assumption) (by omega) (by omega) ?_ | refine w_at (by omega) (by assumption) (by omega) (by omega) ?_ | refine w_sI (by omega) (by assumption) (by omega) (by omega) ?_ | refine w_aI (by omega) (by assumption) (by omega) (by omega) ?_ | refine w_sZ (by omega) (by assumption) (by omega) (by omega) (by decide) ?_ | refine w_pZ (by omega) (by assumption) (by decide) ?_ | refine w_dv (by omega) (by omega) (by omega) (by omega) ?_ | refine w_rm (by omega) (by omega) (by omega) (by omega) ?_) | ((with_reducible refine w_pos ?_ ?_); focus (first | assumption | trivial | exact (ile (by omega) (by omega) (by omega) (by omega)).2 (by omega) | exact (ilt (by omega) (by omega) (by omega) (by omega)).2 (by omega) | exact (ieq (by omega) (by omega) (by omega) (by omega)).2 (by omega))) | ((with_reducible refine w_neg ?_ ?_); focus (first | assumption | exact not_false | trivial | exact mt (ile (by omega) (by omega) (by omega) (by omega)).1 (by omega) | exact mt (ilt (by omega) (by omega) (by omega) (by omega)).1 (by omega) | exact mt (ieq (by omega) (by omega) (by omega) (by omega)).1 (by omega)))); try simp (disch := omega) only [s8, s15, s13])
      refine ih _ ⟨I4, R4, σ4, ovwV W, s + recs (W.1 (W.2 0 12).toNat), ?_, g4, wr_ovw hwW (by omega) (op_no (by omega)), ?_, ?_, by omega, ?_, ?_⟩
      · have : V.2 0 13 - n - j + -1 = V.2 0 13 - n - ((j + 1 : Nat) : Int) := by omega
        rw [this]
      · show W.2 0 13 - 1 = _
        omega
      · rw [ovw_g (by omega) (by omega) (by omega)]
        exact w15
      · rw [hs1, show (V.2 0 13 - n).toNat - (j + 1) = d by omega]
        show s + (recs (W.1 (W.2 0 12).toNat) + ovwS d (ovwV W)) = _
        omega
      · rw [hs2, show (V.2 0 13 - n).toNat - (j + 1) = d by omega]
        rfl
    · have hj0 : (V.2 0 13 - n).toNat - j = 0 := by omega
      rw [hj0] at hs1 hs2
      have hs1 : ovwS (V.2 0 13 - n).toNat V = s := by
        rw [hs1]
        show s + 0 = s
        omega
      have hs2 : ovwN (V.2 0 13 - n).toNat V = W := hs2
      rw [hs1, hs2]
      have t12 := cr_s g.1 12 (by decide)
      have hbW := hwW.1
      unfold WB at hbW
      repeat ((first | (with_reducible first | refine w_ltA ?_ | refine w_ltS ?_ | refine w_ltM ?_ | refine w_ltN ?_ | refine w_lt ?_ | refine w_jn ?_ | refine w_ck (by omega) (by assumption) ?_ | refine w_gI (by omega) (by assumption) ?_ | refine w_gR (by omega) (by assumption) (by assumption) ?_ | refine w_al (by omega) (by assumption) (by assumption) ?_ | refine w_pI (by omega) (by assumption) ?_ | refine w_set (by omega) (by assumption) (by omega) (by omega) ?_ | refine w_at (by omega) (by assumption) (by omega) (by omega) ?_ | refine w_sI (by omega) (by assumption) (by omega) (by omega) ?_ | refine w_aI (by omega) (by assumption) (by omega) (by omega) ?_ | refine w_sZ (by omega) (by assumption) (by omega) (by omega) (by decide) ?_ | refine w_pZ (by omega) (by assumption) (by decide) ?_ | refine w_dv (by omega) (by omega) (by omega) (by omega) ?_ | refine w_rm (by omega) (by omega) (by omega) (by omega) ?_) | ((with_reducible refine w_pos ?_ ?_); focus (first | assumption | trivial | exact (ile (by omega) (by omega) (by omega) (by omega)).2 (by omega) | exact (ilt (by omega) (by omega) (by omega) (by omega)).2 (by omega) | exact (ieq (by omega) (by omega) (by omega) (by omega)).2 (by omega))) | ((with_reducible refine w_neg ?_ ?_); focus (first | assumption | exact not_false | trivial | exact mt (ile (by omega) (by omega) (by omega) (by omega)).1 (by omega) | exact mt (ilt (by omega) (by omega) (by omega) (by omega)).1 (by omega) | exact mt (ieq (by omega) (by omega) (by omega) (by omega)).1 (by omega)))); try simp (disch := omega) only [t12])
      refine w_lp (W.2 0 12).toNat (fun i y => ∃ R2 σ2 U, y = (iI (W.2 0 12 - i), (381, I', J, R2)) ∧ CTo r σ2 I0 R0 I' R2 (upG U 0 12 (W.2 0 12)) ∧ WR U ∧ U.2 0 12 = W.2 0 12 - i ∧ U.2 0 15 = 0 ∧ i ≤ (W.2 0 12).toNat ∧ trnN (W.2 0 12).toNat W = trnN ((W.2 0 12).toNat - i) U ∧ U.2 0 8 = W.2 0 8) ⟨R', σ', W, ?_, ?_, hwW, by omega, w15, by omega, rfl, rfl⟩ (by rw [FU_eq]; omega) (fun i y h => by obtain ⟨_, _, _, _, _, _, _, _, h, _⟩ := h; exact h) ?_
      · show _ = (iI (W.2 0 12 - 0), _)
        rw [Int.sub_zero]
      · refine cto_congr g (fun _ _ _ _ _ => rfl) (fun g k _ => ?_)
        show (if g = 0 ∧ k = 12 then W.2 0 12 else W.2 g k) = _
        split
        · next hx => rw [hx.1, hx.2]
        · rfl
      rintro i y self2 ⟨R2, σ2, U, rfl, g2, hwU, u12, u15, hi, hU, u8⟩ ih2
      try dsimp only
      by_cases hin : i < (W.2 0 12).toNat
      · obtain ⟨d, hd⟩ : ∃ d, (W.2 0 12).toNat - i = d + 1 := ⟨(W.2 0 12).toNat - i - 1, by omega⟩
        rw [hd] at hU
        have hwb : WB (upG U 0 12 (W.2 0 12)) := by
          have hbU := hwU.1
          unfold WB at *
          rw [upG_eq, upG_1]
          simp (disch := omega) only [upG_ne]
          omega
        repeat ((first | (with_reducible first | refine w_ltA ?_ | refine w_ltS ?_ | refine w_ltM ?_ | refine w_ltN ?_ | refine w_lt ?_ | refine w_jn ?_ | refine w_ck (by omega) (by assumption) ?_ | refine w_gI (by omega) (by assumption) ?_ | refine w_gR (by omega) (by assumption) (by assumption) ?_ | refine w_al (by omega) (by assumption) (by assumption) ?_ | refine w_pI (by omega) (by assumption) ?_ | refine w_set (by omega) (by assumption) (by omega) (by omega) ?_ | refine w_at (by omega) (by assumption) (by omega) (by omega) ?_ | refine w_sI (by omega) (by assumption) (by omega) (by omega) ?_ | refine w_aI (by omega) (by assumption) (by omega) (by omega) ?_ | refine w_sZ (by omega) (by assumption) (by omega) (by omega) (by decide) ?_ | refine w_pZ (by omega) (by assumption) (by decide) ?_ | refine w_dv (by omega) (by omega) (by omega) (by omega) ?_ | refine w_rm (by omega) (by omega) (by omega) (by omega) ?_) | ((with_reducible refine w_pos ?_ ?_); focus (first | assumption | trivial | exact (ile (by omega) (by omega) (by omega) (by omega)).2 (by omega) | exact (ilt (by omega) (by omega) (by omega) (by omega)).2 (by omega) | exact (ieq (by omega) (by omega) (by omega) (by omega)).2 (by omega))) | ((with_reducible refine w_neg ?_ ?_); focus (first | assumption | exact not_false | trivial | exact mt (ile (by omega) (by omega) (by omega) (by omega)).1 (by omega) | exact mt (ilt (by omega) (by omega) (by omega) (by omega)).1 (by omega) | exact mt (ieq (by omega) (by omega) (by omega) (by omega)).1 (by omega)))); try simp (disch := omega) only [t12])
        refine w_cV (turn_C (J := J) hrg1 g2 hwb) ?_
        rintro S ⟨R3, σ3, rfl, g3⟩
        rw [trn_turn] at g3
        repeat ((first | (with_reducible first | refine w_ltA ?_ | refine w_ltS ?_ | refine w_ltM ?_ | refine w_ltN ?_ | refine w_lt ?_ | refine w_jn ?_ | refine w_ck (by omega) (by assumption) ?_ | refine w_gI (by omega) (by assumption) ?_ | refine w_gR (by omega) (by assumption) (by assumption) ?_ | refine w_al (by omega) (by assumption) (by assumption) ?_ | refine w_pI (by omega) (by assumption) ?_ | refine w_set (by omega) (by assumption) (by omega) (by omega) ?_ | refine w_at (by omega) (by assumption) (by omega) (by omega) ?_ | refine w_sI (by omega) (by assumption) (by omega) (by omega) ?_ | refine w_aI (by omega) (by assumption) (by omega) (by omega) ?_ | refine w_sZ (by omega) (by assumption) (by omega) (by omega) (by decide) ?_ | refine w_pZ (by omega) (by assumption) (by decide) ?_ | refine w_dv (by omega) (by omega) (by omega) (by omega) ?_ | refine w_rm (by omega) (by omega) (by omega) (by omega) ?_) | ((with_reducible refine w_pos ?_ ?_); focus (first | assumption | trivial | exact (ile (by omega) (by omega) (by omega) (by omega)).2 (by omega) | exact (ilt (by omega) (by omega) (by omega) (by omega)).2 (by omega) | exact (ieq (by omega) (by omega) (by omega) (by omega)).2 (by omega))) | ((with_reducible refine w_neg ?_ ?_); focus (first | assumption | exact not_false | trivial | exact mt (ile (by omega) (by omega) (by omega) (by omega)).1 (by omega) | exact mt (ilt (by omega) (by omega) (by omega) (by omega)).1 (by omega) | exact mt (ieq (by omega) (by omega) (by omega) (by omega)).1 (by omega)))); try simp (disch := omega) only [t12])
        refine ih2 _ ⟨R3, σ3, trnV U, ?_, g3, wr_trn hwU (by omega) u15, ?_, ?_, by omega, ?_, ?_⟩
        · have : W.2 0 12 - i + -1 = W.2 0 12 - ((i + 1 : Nat) : Int) := by omega
          rw [this]
        · unfold trnV
          rw [upG_eq]
          omega
        · unfold trnV
          rw [upG_ne (by omega)]
          exact u15
        · rw [hU, show (W.2 0 12).toNat - (i + 1) = d by omega]
          rfl
        · unfold trnV
          rw [upG_ne (by omega)]
          exact u8
      · have hj0 : (W.2 0 12).toNat - i = 0 := by omega
        rw [hj0] at hU
        have hU : trnN (W.2 0 12).toNat W = U := hU
        repeat ((first | (with_reducible first | refine w_ltA ?_ | refine w_ltS ?_ | refine w_ltM ?_ | refine w_ltN ?_ | refine w_lt ?_ | refine w_jn ?_ | refine w_ck (by omega) (by assumption) ?_ | refine w_gI (by omega) (by assumption) ?_ | refine w_gR (by omega) (by assumption) (by assumption) ?_ | refine w_al (by omega) (by assumption) (by assumption) ?_ | refine w_pI (by omega) (by assumption) ?_ | refine w_set (by omega) (by assumption) (by omega) (by omega) ?_ | refine w_at (by omega) (by assumption) (by omega) (by omega) ?_ | refine w_sI (by omega) (by assumption) (by omega) (by omega) ?_ | refine w_aI (by omega) (by assumption) (by omega) (by omega) ?_ | refine w_sZ (by omega) (by assumption) (by omega) (by omega) (by decide) ?_ | refine w_pZ (by omega) (by assumption) (by decide) ?_ | refine w_dv (by omega) (by omega) (by omega) (by omega) ?_ | refine w_rm (by omega) (by omega) (by omega) (by omega) ?_) | ((with_reducible refine w_pos ?_ ?_); focus (first | assumption | trivial | exact (ile (by omega) (by omega) (by omega) (by omega)).2 (by omega) | exact (ilt (by omega) (by omega) (by omega) (by omega)).2 (by omega) | exact (ieq (by omega) (by omega) (by omega) (by omega)).2 (by omega))) | ((with_reducible refine w_neg ?_ ?_); focus (first | assumption | exact not_false | trivial | exact mt (ile (by omega) (by omega) (by omega) (by omega)).1 (by omega) | exact mt (ilt (by omega) (by omega) (by omega) (by omega)).1 (by omega) | exact mt (ieq (by omega) (by omega) (by omega) (by omega)).1 (by omega)))); try simp (disch := omega) only [t12])
        refine w_rt ⟨rfl, ?_⟩
        have g4 := cto_up0 (cto_up0 g2 12 0) 8 n
        refine RS.congr (V := upG (upG (upG U 0 12 (W.2 0 12)) 0 12 0) 0 8 n) g4.rs (fun _ _ _ _ _ => ?_) (fun g k _ => ?_)
        · rw [rsz2, hU]
          rfl
        · rw [rsz2, hU]
          show (if g = 0 ∧ k = 8 then n else U.2 g k) = if g = 0 ∧ k = 8 then n else if g = 0 ∧ k = 12 then 0 else if g = 0 ∧ k = 12 then _ else U.2 g k
          by_cases hx : g = 0 ∧ k = 8
          · rw [if_pos hx, if_pos hx]
          · rw [if_neg hx, if_neg hx]
            by_cases hy : g = 0 ∧ k = 12
            · rw [if_pos hy, hy.1, hy.2]
              omega
            · rw [if_neg hy, if_neg hy]
  · rw [if_neg h4]
    repeat ((first | (with_reducible first | refine w_ltA ?_ | refine w_ltS ?_ | refine w_ltM ?_ | refine w_ltN ?_ | refine w_lt ?_ | refine w_jn ?_ | refine w_ck (by omega) (by assumption) ?_ | refine w_gI (by omega) (by assumption) ?_ | refine w_gR (by omega) (by assumption) (by assumption) ?_ | refine w_al (by omega) (by assumption) (by assumption) ?_ | refine w_pI (by omega) (by assumption) ?_ | refine w_set (by omega) (by assumption) (by omega) (by omega) ?_ | refine w_at (by omega) (by assumption) (by omega) (by omega) ?_ | refine w_sI (by omega) (by assumption) (by omega) (by omega) ?_ | refine w_aI (by omega) (by assumption) (by omega) (by omega) ?_ | refine w_sZ (by omega) (by assumption) (by omega) (by omega) (by decide) ?_ | refine w_pZ (by omega) (by assumption) (by decide) ?_ | refine w_dv (by omega) (by omega) (by omega) (by omega) ?_ | refine w_rm (by omega) (by omega) (by omega) (by omega) ?_) | ((with_reducible refine w_pos ?_ ?_); focus (first | assumption | trivial | exact (ile (by omega) (by omega) (by omega) (by omega)).2 (by omega) | exact (ilt (by omega) (by omega) (by omega) (by omega)).2 (by omega) | exact (ieq (by omega) (by omega) (by omega) (by omega)).2 (by omega))) | ((with_reducible refine w_neg ?_ ?_); focus (first | assumption | exact not_false | trivial | exact mt (ile (by omega) (by omega) (by omega) (by omega)).1 (by omega) | exact mt (ilt (by omega) (by omega) (by omega) (by omega)).1 (by omega) | exact mt (ieq (by omega) (by omega) (by omega) (by omega)).1 (by omega)))); try simp (disch := omega) only [s8, s15, s13])
    exact w_rt ⟨rfl, h.rs⟩
end RGJ
