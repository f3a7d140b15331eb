/-! RINGS: the class's end and drop -/
theorem cto_congr {r : Nat} {σ : Nat → Nat} {I0 I : MI} {R0 R : MR} {V V' : RV} (h : CTo r σ I0 R0 I R V) (h1 : ∀ p, p < 7 → ∀ f k, vld f k → V'.1 p f k = V.1 p f k) (h2 : ∀ g k, vldR g k → V'.2 g k = V.2 g k) : CTo r σ I0 R0 I R V' := by
  obtain ⟨⟨a, b, c⟩, d, e⟩ := h
  refine ⟨⟨a, fun p hp f k hv => ?_, fun g k hv => ?_⟩, d, e⟩
  · rw [h1 p hp f k hv]
    exact b p hp f k hv
  · rw [h2 g k hv]
    exact c g k hv
def decV (V : RV) : RV := upG V 0 15 (V.2 0 15 - 1)
def rdA (V : RV) : RV := (fun p => if p < 6 then rdP (V.1 p) else V.1 p, V.2)
def clsV (V : RV) : RV := if V.2 0 15 - 1 = 0 then rdA (decV V) else decV V
def rdk (V : RV) : Nat → RV
  | 0 => V
  | i + 1 => upP (rdk V i) (plc V i).toNat (rdP ((rdk V i).1 (plc V i).toNat))
theorem rdk_2 {V : RV} : ∀ i, (rdk V i).2 = V.2
  | 0 => rfl
  | i + 1 => rdk_2 i
theorem rdP_rd {P : PV} : rdP (rdP P) = rdP P := by
  funext f k
  unfold rdP upv
  by_cases h : f = 0 ∧ k = 10
  · rw [if_pos h, if_pos h, if_neg (by omega)]
  · rw [if_neg h, if_neg h]
theorem rdk_1 {V : RV} : ∀ (i p : Nat), (rdk V i).1 p = V.1 p ∨ (rdk V i).1 p = rdP (V.1 p)
  | 0, p => Or.inl rfl
  | i + 1, p => by
    have h1 := rdk_1 (V := V) i p
    show (if p = (plc V i).toNat then _ else (rdk V i).1 p) = _ ∨ (if p = (plc V i).toNat then _ else (rdk V i).1 p) = _
    by_cases he : p = (plc V i).toNat
    · rw [if_pos he, ← he]
      rcases h1 with h | h
      · rw [h]
        exact Or.inr rfl
      · rw [h, rdP_rd]
        exact Or.inr rfl
    · rw [if_neg he]
      exact h1
theorem rdk_in {V : RV} {k : Nat} : ∀ {i : Nat}, k < i → (rdk V i).1 (plc V k).toNat = rdP (V.1 (plc V k).toNat)
  | 0, h => by omega
  | i + 1, h => by
    show (if (plc V k).toNat = (plc V i).toNat then _ else (rdk V i).1 (plc V k).toNat) = _
    by_cases he : (plc V k).toNat = (plc V i).toNat
    · rw [if_pos he, ← he]
      rcases rdk_1 (V := V) i (plc V k).toNat with h1 | h1
      · rw [h1]
      · rw [h1, rdP_rd]
    · rw [if_neg he]
      have : k ≠ i := fun hk => he (by rw [hk])
      exact rdk_in (by omega)
theorem rdk_out {V : RV} {p : Nat} : ∀ {i : Nat}, (∀ k, k < i → (plc V k).toNat ≠ p) → (rdk V i).1 p = V.1 p
  | 0, _ => rfl
  | i + 1, h => by
    show (if p = (plc V i).toNat then _ else (rdk V i).1 p) = _
    rw [if_neg (fun he => h i (by omega) he.symm)]
    exact rdk_out fun k hk => h k (by omega)
theorem live_plc {V : RV} (hw : WB V) {p : Nat} (h : liveAt V p) : ∃ k : Nat, (k : Int) < V.2 0 13 ∧ (plc V k).toNat = p := by
  unfold WB at hw
  unfold liveAt at h
  rcases h.2 with h2 | h2
  · refine ⟨(p - V.2 0 12).toNat, by omega, ?_⟩
    unfold plc
    split <;> omega
  · refine ⟨(p - V.2 0 12 + V.2 0 8).toNat, by omega, ?_⟩
    unfold plc
    split <;> omega
theorem rdP_ep {P : PV} (h : EP P) : ∀ f k, rdP P f k = P f k := fun f k => by
  unfold rdP upv
  by_cases he : f = 0 ∧ k = 10
  · rw [if_pos he, he.1, he.2, h.2.1, h.2.2.1]
  · rw [if_neg he]
/-- all live ones have been made ready -/
theorem rdk_all {V : RV} (hb : WB V) (he : ∀ p : Nat, p < 6 → ¬ liveAt V p → EP (V.1 p)) {p : Nat} : ∀ f k, (rdA V).1 p f k = (rdk V (V.2 0 13).toNat).1 p f k := by
  intro f k
  have hb1 := hb
  unfold WB at hb
  show (if p < 6 then rdP (V.1 p) else V.1 p) f k = _
  by_cases hp : p < 6
  · rw [if_pos hp]
    by_cases hl : liveAt V p
    · obtain ⟨j, h1, h2⟩ := live_plc hb1 hl
      rw [← h2, rdk_in (by omega)]
    · rcases rdk_1 (V := V) (V.2 0 13).toNat p with h | h
      · rw [h]
        exact rdP_ep (he p hp hl) f k
      · rw [h]
  · rw [if_neg hp, rdk_out]
    intro k hk
    have := plc_live hb1 (k := k) (by omega) (by omega)
    omega
theorem wb_rdk {V : RV} {i : Nat} (hb : WB V) : WB (rdk V i) := by
  have e : (rdk V i).1 6 0 8 = V.1 6 0 8 := by
    rcases rdk_1 (V := V) i 6 with h | h
    · rw [h]
    · rw [h]
      exact upv_ne (by omega)
  unfold WB at *
  rw [e, rdk_2]
  exact hb
theorem plc_rdk {V : RV} {i : Nat} {k : Int} : plc (rdk V i) k = plc V k := by
  unfold plc
  rw [rdk_2]
theorem wr_rdA {V : RV} (hw : WR V) (h : V.2 0 15 = 0) : WR (rdA V) := by
  obtain ⟨a1, a2, a3, a4, a5⟩ := hw
  have e2 : (rdA V).2 = V.2 := rfl
  have e8 : ∀ p, (rdA V).1 p 0 8 = V.1 p 0 8 := fun p => by
    show (if p < 6 then rdP (V.1 p) else V.1 p) 0 8 = _
    split
    · exact upv_ne (by omega)
    · rfl
  refine ⟨?_, fun p hp => ?_, fun p hp hd => ?_, fun k hk => ?_, fun k k' hk hk' => ?_⟩
  · unfold WB at *
    rw [e8, e2]
    exact a1
  · show WP _ _ (if p < 6 then rdP (V.1 p) else V.1 p)
    split
    · exact wp_rd (a2 p hp)
    · exact a2 p hp
  · have h1 := a3 p hp hd
    have h2 := rdP_ep h1
    show EP (if p < 6 then rdP (V.1 p) else V.1 p)
    rw [if_pos hp]
    unfold EP at *
    simp only [h2]
    exact h1
  · rw [e2] at hk
    omega
  · rw [e2] at hk'
    omega
theorem wr_cls {V : RV} (hw : WR (decV V)) : WR (clsV V) := by
  unfold clsV
  split
  · next h =>
    refine wr_rdA hw ?_
    show (upG V 0 15 (V.2 0 15 - 1)).2 0 15 = 0
    rw [upG_eq, h]
  · exact hw
theorem wr_dec {V V' : RV} {P' : PV} (hw : WR V) (h : 0 < V.2 0 15) (h2 : V'.2 = (decV V).2) (hp : ∀ p, V'.1 p = if p = (iPl V).toNat then P' else V.1 p) (hP : WP (V.2 0 9) (V.2 0 11) P') (hk : ∀ k : Nat, (k : Int) < V.2 0 15 - 1 → V.2 2 k = iPl V → V.2 3 k < P' 0 8 ∧ (∀ f, 2 ≤ f → P' f (V.2 3 k).toNat = iPg V f (V.2 3 k).toNat) ∧ P' 0 10 = iPg V 0 10) : WR V' := by
  have hi := hw.i h
  obtain ⟨a1, a2, a3, a4, a5⟩ := hw
  have g : ∀ g k, ¬ (g = 0 ∧ k = 15) → V'.2 g k = V.2 g k := fun g k hh => by
    rw [h2]
    exact upG_ne hh
  have g15 : V'.2 0 15 = V.2 0 15 - 1 := by
    rw [h2]
    exact upG_eq
  have hb := a1
  unfold WB at hb
  have hl : ∀ p, liveAt V' p ↔ liveAt V p := fun p => liveAt_congr (g _ _ (by omega)) (g _ _ (by omega)) (g _ _ (by omega))
  refine ⟨?_, fun p hp' => ?_, fun p hp' hd => ?_, fun k hk' => ?_, fun k k' hk1 hk2 => ?_⟩
  · unfold WB
    rw [g15, hp, if_neg (by omega)]
    simp (disch := omega) only [g]
    omega
  · rw [hp, g _ _ (by omega), g _ _ (by omega)]
    split
    · exact hP
    · exact a2 p hp'
  · have hd' : ¬ liveAt V p := fun hh => hd ((hl _).2 hh)
    rw [hp, if_neg]
    · exact a3 p hp' hd'
    · intro he
      refine hd' ?_
      have : (p : Int) = iPl V := by omega
      rw [this]
      exact hi.2.2.1
  · rw [g15] at hk'
    have ho := a4 k (by omega)
    unfold WO at *
    rw [hl, hp, g 2 _ (by omega), g 3 _ (by omega), g 4 _ (by omega)]
    obtain ⟨o1, o2, o3, o4, o5, o6, o7, o8, o9⟩ := ho
    by_cases he : V.2 2 k = iPl V
    · have hkk := hk k hk' he
      have hpe : V.1 (V.2 2 k).toNat = iPg V := by
        rw [he]
        rfl
      rw [hpe] at o4 o5 o6 o8 o9
      rw [if_pos (by rw [he]), hkk.2.1 8 (by omega), hkk.2.1 5 (by omega), hkk.2.1 7 (by omega), hkk.2.1 3 (by omega), hkk.2.2]
      exact ⟨o1, o2, o3, hkk.1, o5, o6, o7, o8, o9⟩
    · rw [if_neg (by omega)]
      exact ⟨o1, o2, o3, o4, o5, o6, o7, o8, o9⟩
  · rw [g15] at hk2
    rw [g 2 _ (by omega), g 3 _ (by omega), g 2 _ (by omega), g 3 _ (by omega)]
    exact a5 k k' hk1 (by omega)
def lgV (V : RV) : RV := if iI (V.2 5 17) = iI (-1) ∨ V.2 5 16 < V.2 0 11 - iPg V 4 (iIt V).toNat then upG (upG V 5 16 (V.2 0 11 - iPg V 4 (iIt V).toNat)) 5 17 (iPg V 2 (iIt V).toNat) else V
def endV (V : RV) (l : Int) : Int × RV := if isIn V l then (V.2 0 15 - 1, clsV (lgV V)) else (-1, V)
abbrev goes (V : RV) : Prop := iPl V = plc V (V.2 0 13 - 1) ∧ iIt V = iPg V 0 8 - 1
def drp1 (V : RV) : RV := upG (upP V (iPl V).toNat (if goes V then tbP (iPg V) else gpP (iPg V) (iIt V).toNat)) 5 9 (V.2 5 9 + 1)
def drpV (V : RV) (l : Int) : Int × RV := if isIn V l then (if goes V then 0 else 1, clsV (drp1 V)) else (-1, V)
theorem lg_15 {V : RV} : (lgV V).2 0 15 = V.2 0 15 := by
  unfold lgV
  split
  · rw [upG_ne (by omega), upG_ne (by omega)]
  · rfl
theorem wr_lg {V : RV} (hw : WR V) (h : 0 < V.2 0 15) : WR (lgV V) := by
  have hi := hw.i h
  have hb := hw.1
  unfold WB at hb
  have h4 := hi.2.2.2.2.2.2.2.2.2.2.1.2.2.2.2.2.2.1 (iIt V).toNat (by omega)
  have h4' := (hi.2.2.2.2.2.2.2.2.2.2.1.2.2.2.2.2.1 (iIt V).toNat (by omega)).2.2.2.2.2.2.2.1
  unfold lgV
  split
  · exact wr_t (wr_t hw _ _ (Or.inr (by omega))) _ _ (Or.inl (by omega))
  · exact hw
theorem wr_end {V : RV} {l : Int} (hw : WR V) : WR (endV V l).2 := by
  unfold endV
  split
  · next h =>
    refine wr_cls (wr_dec (P' := iPg (lgV V)) (wr_lg hw h.1) (by rw [lg_15]; exact h.1) rfl (fun p => ?_) ?_ (fun k hk he => ?_))
    · split
      · next he =>
        rw [he]
        rfl
      · rfl
    · exact (wr_lg hw h.1).i (by rw [lg_15]; exact h.1) |>.2.2.2.2.2.2.2.2.2.2.1
    · have := ((wr_lg hw h.1).o (k := k) (by omega)).2.2.2.2.1
      rw [he] at this
      exact ⟨this, fun _ _ => rfl, rfl⟩
  · exact hw
theorem dec_t {V : RV} {k : Nat} {v : Int} : decV (upG V 5 k v) = upG (decV V) 5 k v := by
  unfold decV
  rw [upG_ne (by omega)]
  refine Prod.ext rfl ?_
  funext a b
  show (if a = 0 ∧ b = 15 then _ else if a = 5 ∧ b = k then v else _) = if a = 5 ∧ b = k then v else if a = 0 ∧ b = 15 then _ else _
  by_cases h : a = 0 ∧ b = 15
  · rw [if_pos h, if_neg (by omega), if_pos h]
  · rw [if_neg h, if_neg h]
theorem wr_drp1 {V : RV} (hw : WR V) (h : 0 < V.2 0 15) : WR (decV (drp1 V)) := by
  have hi := hw.i h
  obtain ⟨i1, i2, i3, i4, i5, i6, i7, i8, i9, i10, i11, i12⟩ := hi
  have hoth : ∀ k : Nat, (k : Int) < V.2 0 15 - 1 → V.2 2 k = iPl V → V.2 3 k ≠ iIt V ∧ 0 ≤ V.2 3 k ∧ V.2 3 k < iPg V 0 8 := fun k hk he => by
    have h1 := hw.2.2.2.2 k (V.2 0 15 - 1).toNat (by omega) (by omega)
    have h2 := hw.o (k := k) (by omega)
    rw [he] at h2
    exact ⟨fun h3 => h1 ⟨he, h3⟩, h2.2.2.1, h2.2.2.2.2.1⟩
  unfold drp1
  rw [dec_t]
  refine wr_t ?_ _ _ (Or.inl (by omega))
  refine wr_dec (P' := if goes V then tbP (iPg V) else gpP (iPg V) (iIt V).toNat) hw h rfl (fun p => rfl) ?_ (fun k hk he => ?_)
  · split
    · next hg =>
      refine wp_tb i11 (by omega) ?_
      have : (iPg V 0 8).toNat - 1 = (iIt V).toNat := by
        have := hg.2
        omega
      rw [this]
      exact i8
    · exact wp_gp i11 (by omega)
  · have ho := hoth k hk he
    split
    · next hg =>
      have := hg.2
      obtain ⟨t1, t2, t3⟩ := tbP_v (P := iPg V)
      refine ⟨by omega, fun f hf => tbP_r hf, t3⟩
    · exact ⟨by rw [gpP_0]; omega, fun f hf => gpP_r hf (by omega), gpP_0⟩
theorem wr_drp {V : RV} {l : Int} (hw : WR V) : WR (drpV V l).2 := by
  unfold drpV
  split
  · next h => exact wr_cls (wr_drp1 hw h.1)
  · exact hw
section RGG
variable {I I0 : MI} {J : MJ} {R R0 : MR} {r : Nat} {σ : Nat → Nat} {γ : Type} {Q : γ → Prop} {x : Int32} {i t l n m : Int} {V : RV}
theorem close_C (hrg : isRg r) (h : CTo r σ I0 R0 I R V) (hw : WR (decV V)) : En (fun y => RS r J I0 R0 y (clsV V)) (f_X4_closeInnermost (381, I, J, R) r) := by
  have hc := h.1
  have hb := hw.1
  have hb1 := hb
  unfold WB at hb
  have e15 : (decV V).2 0 15 = V.2 0 15 - 1 := upG_eq
  rw [e15] at hb
  have h1 : CTo r σ I0 R0 _ R (decV V) := cto_up0 h 15 (V.2 0 15 - 1)
  have hrg1 := hrg
  have hc0 := hc
  obtain ⟨hq, kr0, kr1, kr2, kr3, kr4, kr5, kr6, kr7, lr1, lr2, lr3, lr4, lr5, lr7, hpg⟩ := hrg
  have hsc := cr_s hc
  obtain ⟨⟨e0, e1, e2, e3, e4, e5, e6, e7, ep, ed, hσ, hσi⟩, hpp, hgg⟩ := hc
  have s7 := hsc 7 (by decide)
  have s8 := hsc 8 (by decide)
  have s9 := hsc 9 (by decide)
  have s10 := hsc 10 (by decide)
  have s11 := hsc 11 (by decide)
  have s12 := hsc 12 (by decide)
  have s13 := hsc 13 (by decide)
  have s14 := hsc 14 (by decide)
  have s15 := hsc 15 (by decide)
  rw [u_X4_closeInnermost]
  unfold clsV
  by_cases h0 : V.2 0 15 - 1 = 0
  · rw [if_pos h0]
    repeat ((first | (with_reducible first | refine w_ltA ?_ | refine w_ltS ?_ | refine w_ltM ?_ | refine w_ltN ?_ | refine w_lt ?_ | refine w_jn ?_ | refine w_ck (by omega) (by assumption) ?_ | refine w_gI (by omega) (by assumption) ?_ | refine w_gR (by omega) (by assumption) (by assumption) ?_ | refine w_al (by omega) (by assumption) (by assumption) ?_ | refine w_pI (by omega) (by assumption) ?_ | refine w_set (by omega) (by assumption) (by omega) (by omega) ?_ | refine w_at (by omega) (by assumption) (by omega) (by omega) ?_ | refine w_sI (by omega) (by assumption) (by omega) (by omega) ?_ | refine w_aI (by omega) (by assumption) (by omega) (by omega) ?_ | refine w_sZ (by omega) (by assumption) (by omega) (by omega) (by decide) ?_ | refine w_pZ (by omega) (by assumption) (by decide) ?_ | refine w_dv (by omega) (by omega) (by omega) (by omega) ?_ | refine w_rm (by omega) (by omega) (by omega) (by omega) ?_) | ((with_reducible refine w_pos ?_ ?_); focus (first | assumption | trivial | exact (ile (by omega) (by omega) (by omega) (by omega)).2 (by omega) | exact (ilt (by omega) (by omega) (by omega) (by omega)).2 (by omega) | exact (ieq (by omega) (by omega) (by omega) (by omega)).2 (by omega))) | ((with_reducible refine w_neg ?_ ?_); focus (first | assumption | exact not_false | trivial | exact mt (ile (by omega) (by omega) (by omega) (by omega)).1 (by omega) | exact mt (ilt (by omega) (by omega) (by omega) (by omega)).1 (by omega) | exact mt (ieq (by omega) (by omega) (by omega) (by omega)).1 (by omega)))); try simp (disch := omega) only [s15, up_eq])
    refine w_lp ((decV V).2 0 13).toNat (fun j y => j ≤ ((decV V).2 0 13).toNat ∧ ∃ I', y = (iI j, (381, I', J, R)) ∧ CTo r σ I0 R0 I' R (rdk (decV V) j)) ⟨by omega, _, rfl, h1⟩ (by rw [FU_eq]; omega) (fun i y h => h.1) ?_
    rintro j y self ⟨hj, I', rfl, hI⟩ ih
    try dsimp only
    have t13 := cr_s hI.1 13 (by decide)
    rw [rdk_2] at t13
    have hpl := placeOf_C (J := J) (k := j) hrg1 hI.1 (wb_rdk hb1) (by omega) (by omega)
    rw [plc_rdk] at hpl
    by_cases hn : j < ((decV V).2 0 13).toNat
    · have hli := plc_live hb1 (k := j) (by omega) (by omega)
      have hpa := pageAt_C (J := J) (p := plc (decV V) j) hrg1 hI.1 hli.1 (by omega)
      have hP := hI.1.2.1 (plc (decV V) j).toNat (by omega)
      have hpg1 := hpg _ (hσ (plc (decV V) j).toNat (by omega))
      have hkq := hpg1.2.1
      have hq9 := hpg1.1
      have c9 := hP.old.1.2.1
      have hto := cto_pg hI (show (plc (decV V) j).toNat < 7 by omega) (pto_up0 (pto_0 hP) 10 ((rdk (decV V) j).1 (plc (decV V) j).toNat 0 9))
      repeat ((first | (with_reducible first | refine w_ltA ?_ | refine w_ltS ?_ | refine w_ltM ?_ | refine w_ltN ?_ | refine w_lt ?_ | refine w_jn ?_ | refine w_ck (by omega) (by assumption) ?_ | refine w_gI (by omega) (by assumption) ?_ | refine w_gR (by omega) (by assumption) (by assumption) ?_ | refine w_al (by omega) (by assumption) (by assumption) ?_ | refine w_pI (by omega) (by assumption) ?_ | refine w_set (by omega) (by assumption) (by omega) (by omega) ?_ | refine w_at (by omega) (by assumption) (by omega) (by omega) ?_ | refine w_sI (by omega) (by assumption) (by omega) (by omega) ?_ | refine w_aI (by omega) (by assumption) (by omega) (by omega) ?_ | refine w_sZ (by omega) (by assumption) (by omega) (by omega) (by decide) ?_ | refine w_pZ (by omega) (by assumption) (by decide) ?_ | refine w_dv (by omega) (by omega) (by omega) (by omega) ?_ | refine w_rm (by omega) (by omega) (by omega) (by omega) ?_) | ((with_reducible refine w_pos ?_ ?_); focus (first | assumption | trivial | exact (ile (by omega) (by omega) (by omega) (by omega)).2 (by omega) | exact (ilt (by omega) (by omega) (by omega) (by omega)).2 (by omega) | exact (ieq (by omega) (by omega) (by omega) (by omega)).2 (by omega))) | ((with_reducible refine w_neg ?_ ?_); focus (first | assumption | exact not_false | trivial | exact mt (ile (by omega) (by omega) (by omega) (by omega)).1 (by omega) | exact mt (ilt (by omega) (by omega) (by omega) (by omega)).1 (by omega) | exact mt (ieq (by omega) (by omega) (by omega) (by omega)).1 (by omega)))); try simp (disch := omega) only [t13])
      refine w_cP hpl ?_
      repeat ((first | (with_reducible first | refine w_ltA ?_ | refine w_ltS ?_ | refine w_ltM ?_ | refine w_ltN ?_ | refine w_lt ?_ | refine w_jn ?_ | refine w_ck (by omega) (by assumption) ?_ | refine w_gI (by omega) (by assumption) ?_ | refine w_gR (by omega) (by assumption) (by assumption) ?_ | refine w_al (by omega) (by assumption) (by assumption) ?_ | refine w_pI (by omega) (by assumption) ?_ | refine w_set (by omega) (by assumption) (by omega) (by omega) ?_ | refine w_at (by omega) (by assumption) (by omega) (by omega) ?_ | refine w_sI (by omega) (by assumption) (by omega) (by omega) ?_ | refine w_aI (by omega) (by assumption) (by omega) (by omega) ?_ | refine w_sZ (by omega) (by assumption) (by omega) (by omega) (by decide) ?_ | refine w_pZ (by omega) (by assumption) (by decide) ?_ | refine w_dv (by omega) (by omega) (by omega) (by omega) ?_ | refine w_rm (by omega) (by omega) (by omega) (by omega) ?_) | ((with_reducible refine w_pos ?_ ?_); focus (first | assumption | trivial | exact (ile (by omega) (by omega) (by omega) (by omega)).2 (by omega) | exact (ilt (by omega) (by omega) (by omega) (by omega)).2 (by omega) | exact (ieq (by omega) (by omega) (by omega) (by omega)).2 (by omega))) | ((with_reducible refine w_neg ?_ ?_); focus (first | assumption | exact not_false | trivial | exact mt (ile (by omega) (by omega) (by omega) (by omega)).1 (by omega) | exact mt (ilt (by omega) (by omega) (by omega) (by omega)).1 (by omega) | exact mt (ieq (by omega) (by omega) (by omega) (by omega)).1 (by omega)))); try simp (disch := omega) only [t13])
      refine w_cP hpa ?_
      repeat ((first | (with_reducible first | refine w_ltA ?_ | refine w_ltS ?_ | refine w_ltM ?_ | refine w_ltN ?_ | refine w_lt ?_ | refine w_jn ?_ | refine w_ck (by omega) (by assumption) ?_ | refine w_gI (by omega) (by assumption) ?_ | refine w_gR (by omega) (by assumption) (by assumption) ?_ | refine w_al (by omega) (by assumption) (by assumption) ?_ | refine w_pI (by omega) (by assumption) ?_ | refine w_set (by omega) (by assumption) (by omega) (by omega) ?_ | refine w_at (by omega) (by assumption) (by omega) (by omega) ?_ | refine w_sI (by omega) (by assumption) (by omega) (by omega) ?_ | refine w_aI (by omega) (by assumption) (by omega) (by omega) ?_ | refine w_sZ (by omega) (by assumption) (by omega) (by omega) (by decide) ?_ | refine w_pZ (by omega) (by assumption) (by decide) ?_ | refine w_dv (by omega) (by omega) (by omega) (by omega) ?_ | refine w_rm (by omega) (by omega) (by omega) (by omega) ?_) | ((with_reducible refine w_pos ?_ ?_); focus (first | assumption | trivial | exact (ile (by omega) (by omega) (by omega) (by omega)).2 (by omega) | exact (ilt (by omega) (by omega) (by omega) (by omega)).2 (by omega) | exact (ieq (by omega) (by omega) (by omega) (by omega)).2 (by omega))) | ((with_reducible refine w_neg ?_ ?_); focus (first | assumption | exact not_false | trivial | exact mt (ile (by omega) (by omega) (by omega) (by omega)).1 (by omega) | exact mt (ilt (by omega) (by omega) (by omega) (by omega)).1 (by omega) | exact mt (ieq (by omega) (by omega) (by omega) (by omega)).1 (by omega)))); try simp (disch := omega) only [c9])
      refine ih _ ⟨by omega, _, ?_, hto⟩
      have : (j : Int) + 1 = ((j + 1 : Nat) : Int) := by omega
      rw [this]
    · repeat ((first | (with_reducible first | refine w_ltA ?_ | refine w_ltS ?_ | refine w_ltM ?_ | refine w_ltN ?_ | refine w_lt ?_ | refine w_jn ?_ | refine w_ck (by omega) (by assumption) ?_ | refine w_gI (by omega) (by assumption) ?_ | refine w_gR (by omega) (by assumption) (by assumption) ?_ | refine w_al (by omega) (by assumption) (by assumption) ?_ | refine w_pI (by omega) (by assumption) ?_ | refine w_set (by omega) (by assumption) (by omega) (by omega) ?_ | refine w_at (by omega) (by assumption) (by omega) (by omega) ?_ | refine w_sI (by omega) (by assumption) (by omega) (by omega) ?_ | refine w_aI (by omega) (by assumption) (by omega) (by omega) ?_ | refine w_sZ (by omega) (by assumption) (by omega) (by omega) (by decide) ?_ | refine w_pZ (by omega) (by assumption) (by decide) ?_ | refine w_dv (by omega) (by omega) (by omega) (by omega) ?_ | refine w_rm (by omega) (by omega) (by omega) (by omega) ?_) | ((with_reducible refine w_pos ?_ ?_); focus (first | assumption | trivial | exact (ile (by omega) (by omega) (by omega) (by omega)).2 (by omega) | exact (ilt (by omega) (by omega) (by omega) (by omega)).2 (by omega) | exact (ieq (by omega) (by omega) (by omega) (by omega)).2 (by omega))) | ((with_reducible refine w_neg ?_ ?_); focus (first | assumption | exact not_false | trivial | exact mt (ile (by omega) (by omega) (by omega) (by omega)).1 (by omega) | exact mt (ilt (by omega) (by omega) (by omega) (by omega)).1 (by omega) | exact mt (ieq (by omega) (by omega) (by omega) (by omega)).1 (by omega)))); try simp (disch := omega) only [t13])
      have : j = ((decV V).2 0 13).toNat := by omega
      subst this
      exact w_rt (cto_congr (V' := rdA (decV V)) hI (fun p hp f k hv => rdk_all hb1 hw.2.2.1 f k) (fun g k hv => by rw [rdk_2]; rfl)).rs
  · rw [if_neg h0]
    repeat ((first | (with_reducible first | refine w_ltA ?_ | refine w_ltS ?_ | refine w_ltM ?_ | refine w_ltN ?_ | refine w_lt ?_ | refine w_jn ?_ | refine w_ck (by omega) (by assumption) ?_ | refine w_gI (by omega) (by assumption) ?_ | refine w_gR (by omega) (by assumption) (by assumption) ?_ | refine w_al (by omega) (by assumption) (by assumption) ?_ | refine w_pI (by omega) (by assumption) ?_ | refine w_set (by omega) (by assumption) (by omega) (by omega) ?_ | refine w_at (by omega) (by assumption) (by omega) (by omega) ?_ | refine w_sI (by omega) (by assumption) (by omega) (by omega) ?_ | refine w_aI (by omega) (by assumption) (by omega) (by omega) ?_ | refine w_sZ (by omega) (by assumption) (by omega) (by omega) (by decide) ?_ | refine w_pZ (by omega) (by assumption) (by decide) ?_ | refine w_dv (by omega) (by omega) (by omega) (by omega) ?_ | refine w_rm (by omega) (by omega) (by omega) (by omega) ?_) | ((with_reducible refine w_pos ?_ ?_); focus (first | assumption | trivial | exact (ile (by omega) (by omega) (by omega) (by omega)).2 (by omega) | exact (ilt (by omega) (by omega) (by omega) (by omega)).2 (by omega) | exact (ieq (by omega) (by omega) (by omega) (by omega)).2 (by omega))) | ((with_reducible refine w_neg ?_ ?_); focus (first | assumption | exact not_false | trivial | exact mt (ile (by omega) (by omega) (by omega) (by omega)).1 (by omega) | exact mt (ilt (by omega) (by omega) (by omega) (by omega)).1 (by omega) | exact mt (ieq (by omega) (by omega) (by omega) (by omega)).1 (by omega)))); try simp (disch := omega) only [s15, up_eq])
    exact w_rt h1.rs
theorem end_C (hrg : isRg r) (h : CTo r σ I0 R0 I R V) (hw : WR V) (hl1 : -2147483648 ≤ l) (hl2 : l < 2147483648) : En (fun y => y.1 = iI (endV V l).1 ∧ RS r J I0 R0 y.2 (endV V l).2) (f_X4_endInnermost (381, I, J, R) r (iI l)) := by
  have hc := h.1
  have hb := hw.1
  unfold WB at hb
  have hii := isIn_C (J := J) hrg hc hw hl1 hl2
  have hc1 := hc
  have hrg1 := hrg
  have hc0 := hc
  obtain ⟨hq, kr0, kr1, kr2, kr3, kr4, kr5, kr6, kr7, lr1, lr2, lr3, lr4, lr5, lr7, hpg⟩ := hrg
  have hsc := cr_s hc
  obtain ⟨⟨e0, e1, e2, e3, e4, e5, e6, e7, ep, ed, hσ, hσi⟩, hpp, hgg⟩ := hc
  have s7 := hsc 7 (by decide)
  have s8 := hsc 8 (by decide)
  have s9 := hsc 9 (by decide)
  have s10 := hsc 10 (by decide)
  have s11 := hsc 11 (by decide)
  have s12 := hsc 12 (by decide)
  have s13 := hsc 13 (by decide)
  have s14 := hsc 14 (by decide)
  have s15 := hsc 15 (by decide)
  rw [u_X4_endInnermost]
  unfold endV
  by_cases h3 : isIn V l
  · rw [if_pos h3] at hii ⊢
    obtain ⟨i1, i2, i3, i4, i5, i6, i7, i8, i9, i10, i11, i12⟩ := hw.i h3.1
    have h15 := h3.1
    have hpa := pageAt_C (J := J) (p := iPl V) hrg1 hc1 i1 i2
    have q2 : I (r + 2) (V.2 0 15 - 1).toNat = iI (iPl V) := cr_o hc1 2 (by omega) _ i12
    have q3 : I (r + 3) (V.2 0 15 - 1).toNat = iI (iIt V) := cr_o hc1 3 (by omega) _ i12
    have t16 : I (r + 5) (Int.toNat 16) = _ := cr_t hc1 16 (by decide)
    have t17 : I (r + 5) (Int.toNat 17) = _ := cr_t hc1 17 (by decide)
    have hP : CP I _ (iPg V) := hpp (iPl V).toNat (by omega)
    have c4 := hP.it i11 4 (by decide) (i := (iIt V).toNat) (by omega)
    have c2 := hP.it i11 2 (by decide) (i := (iIt V).toNat) (by omega)
    have h4 := i11.2.2.2.2.2.2.1 (iIt V).toNat (by omega)
    have h4' := (i11.2.2.2.2.2.1 (iIt V).toNat (by omega)).2.2.2.2.2.2.2.1
    have hpg1 := hpg _ (hσ (iPl V).toNat (by omega))
    have hr1 := ed _ (hσ (iPl V).toNat (by omega))
    have hwl : WR (decV (lgV V)) := by
      refine wr_dec (P' := iPg (lgV V)) (wr_lg hw h3.1) (by rw [lg_15]; exact h3.1) rfl (fun p => ?_) ?_ (fun k hk he => ?_)
      · split
        · next he =>
          rw [he]
          rfl
        · rfl
      · exact (wr_lg hw h3.1).i (by rw [lg_15]; exact h3.1) |>.2.2.2.2.2.2.2.2.2.2.1
      · have := ((wr_lg hw h3.1).o (k := k) (by omega)).2.2.2.2.1
        rw [he] at this
        exact ⟨this, fun _ _ => rfl, rfl⟩
    repeat ((first | (with_reducible first | refine w_ltA ?_ | refine w_ltS ?_ | refine w_ltM ?_ | refine w_ltN ?_ | refine w_lt ?_ | refine w_jn ?_ | refine w_ck (by omega) (by assumption) ?_ | refine w_gI (by omega) (by assumption) ?_ | refine w_gR (by omega) (by assumption) (by assumption) ?_ | refine w_al (by omega) (by assumption) (by assumption) ?_ | refine w_pI (by omega) (by assumption) ?_ | refine w_set (by omega) (by assumption) (by omega) (by omega) ?_ | refine w_at (by omega) (by assumption) (by omega) (by omega) ?_ | refine w_sI (by omega) (by assumption) (by omega) (by omega) ?_ | refine w_aI (by omega) (by assumption) (by omega) (by omega) ?_ | refine w_sZ (by omega) (by assumption) (by omega) (by omega) (by decide) ?_ | refine w_pZ (by omega) (by assumption) (by decide) ?_ | refine w_dv (by omega) (by omega) (by omega) (by omega) ?_ | refine w_rm (by omega) (by omega) (by omega) (by omega) ?_) | ((with_reducible refine w_pos ?_ ?_); focus (first | assumption | trivial | exact (ile (by omega) (by omega) (by omega) (by omega)).2 (by omega) | exact (ilt (by omega) (by omega) (by omega) (by omega)).2 (by omega) | exact (ieq (by omega) (by omega) (by omega) (by omega)).2 (by omega))) | ((with_reducible refine w_neg ?_ ?_); focus (first | assumption | exact not_false | trivial | exact mt (ile (by omega) (by omega) (by omega) (by omega)).1 (by omega) | exact mt (ilt (by omega) (by omega) (by omega) (by omega)).1 (by omega) | exact mt (ieq (by omega) (by omega) (by omega) (by omega)).1 (by omega)))); try simp (disch := omega) only [s15, up_eq])
    refine w_cP hii ?_
    repeat ((first | (with_reducible first | refine w_ltA ?_ | refine w_ltS ?_ | refine w_ltM ?_ | refine w_ltN ?_ | refine w_lt ?_ | refine w_jn ?_ | refine w_ck (by omega) (by assumption) ?_ | refine w_gI (by omega) (by assumption) ?_ | refine w_gR (by omega) (by assumption) (by assumption) ?_ | refine w_al (by omega) (by assumption) (by assumption) ?_ | refine w_pI (by omega) (by assumption) ?_ | refine w_set (by omega) (by assumption) (by omega) (by omega) ?_ | refine w_at (by omega) (by assumption) (by omega) (by omega) ?_ | refine w_sI (by omega) (by assumption) (by omega) (by omega) ?_ | refine w_aI (by omega) (by assumption) (by omega) (by omega) ?_ | refine w_sZ (by omega) (by assumption) (by omega) (by omega) (by decide) ?_ | refine w_pZ (by omega) (by assumption) (by decide) ?_ | refine w_dv (by omega) (by omega) (by omega) (by omega) ?_ | refine w_rm (by omega) (by omega) (by omega) (by omega) ?_) | ((with_reducible refine w_pos ?_ ?_); focus (first | assumption | trivial | exact (ile (by omega) (by omega) (by omega) (by omega)).2 (by omega) | exact (ilt (by omega) (by omega) (by omega) (by omega)).2 (by omega) | exact (ieq (by omega) (by omega) (by omega) (by omega)).2 (by omega))) | ((with_reducible refine w_neg ?_ ?_); focus (first | assumption | exact not_false | trivial | exact mt (ile (by omega) (by omega) (by omega) (by omega)).1 (by omega) | exact mt (ilt (by omega) (by omega) (by omega) (by omega)).1 (by omega) | exact mt (ieq (by omega) (by omega) (by omega) (by omega)).1 (by omega)))); try simp (disch := omega) only [s15, s11, q2, q3, c4, t16, t17])
    refine w_cP hpa ?_
    have hpin := pa_in (r := r) (hσ (iPl V).toNat (by omega))
    generalize pa r (σ (iPl V).toNat) = q at *
    obtain ⟨hq9, k0, k1, k2, k3, k4, k5, k6, k7, k8, l1, l2, l3, l4, l5, l6, l7, l8⟩ := hpg1
    obtain ⟨r0, r1, r2, r3, r4, r5, r6, r7⟩ := hr1
    repeat (first | refine w_jnP (fun x15 => ∃ I1, x15 = (381, I1, J, R) ∧ CTo r σ I0 R0 I1 R (lgV V)) ?_ ?_ | ((first | (with_reducible first | refine w_ltA ?_ | refine w_ltS ?_ | refine w_ltM ?_ | refine w_ltN ?_ | refine w_lt ?_ | refine w_jn ?_ | refine w_ck (by omega) (by assumption) ?_ | refine w_gI (by omega) (by assumption) ?_ | refine w_gR (by omega) (by assumption) (by assumption) ?_ | refine w_al (by omega) (by assumption) (by assumption) ?_ | refine w_pI (by omega) (by assumption) ?_ | refine w_set (by omega) (by assumption) (by omega) (by omega) ?_ | refine w_at (by omega) (by assumption) (by omega) (by omega) ?_ | refine w_sI (by omega) (by assumption) (by omega) (by omega) ?_ | refine w_aI (by omega) (by assumption) (by omega) (by omega) ?_ | refine w_sZ (by omega) (by assumption) (by omega) (by omega) (by decide) ?_ | refine w_pZ (by omega) (by assumption) (by decide) ?_ | refine w_dv (by omega) (by omega) (by omega) (by omega) ?_ | refine w_rm (by omega) (by omega) (by omega) (by omega) ?_) | ((with_reducible refine w_pos ?_ ?_); focus (first | assumption | trivial | exact (ile (by omega) (by omega) (by omega) (by omega)).2 (by omega) | exact (ilt (by omega) (by omega) (by omega) (by omega)).2 (by omega) | exact (ieq (by omega) (by omega) (by omega) (by omega)).2 (by omega))) | ((with_reducible refine w_neg ?_ ?_); focus (first | assumption | exact not_false | trivial | exact mt (ile (by omega) (by omega) (by omega) (by omega)).1 (by omega) | exact mt (ilt (by omega) (by omega) (by omega) (by omega)).1 (by omega) | exact mt (ieq (by omega) (by omega) (by omega) (by omega)).1 (by omega)))); try simp (disch := omega) only [s15, s11, q2, q3, c4, t16, t17]))
    · rintro x15 ⟨I1, rfl, g1⟩
      repeat ((first | (with_reducible first | refine w_ltA ?_ | refine w_ltS ?_ | refine w_ltM ?_ | refine w_ltN ?_ | refine w_lt ?_ | refine w_jn ?_ | refine w_ck (by omega) (by assumption) ?_ | refine w_gI (by omega) (by assumption) ?_ | refine w_gR (by omega) (by assumption) (by assumption) ?_ | refine w_al (by omega) (by assumption) (by assumption) ?_ | refine w_pI (by omega) (by assumption) ?_ | refine w_set (by omega) (by assumption) (by omega) (by omega) ?_ | refine w_at (by omega) (by assumption) (by omega) (by omega) ?_ | refine w_sI (by omega) (by assumption) (by omega) (by omega) ?_ | refine w_aI (by omega) (by assumption) (by omega) (by omega) ?_ | refine w_sZ (by omega) (by assumption) (by omega) (by omega) (by decide) ?_ | refine w_pZ (by omega) (by assumption) (by decide) ?_ | refine w_dv (by omega) (by omega) (by omega) (by omega) ?_ | refine w_rm (by omega) (by omega) (by omega) (by omega) ?_) | ((with_reducible refine w_pos ?_ ?_); focus (first | assumption | trivial | exact (ile (by omega) (by omega) (by omega) (by omega)).2 (by omega) | exact (ilt (by omega) (by omega) (by omega) (by omega)).2 (by omega) | exact (ieq (by omega) (by omega) (by omega) (by omega)).2 (by omega))) | ((with_reducible refine w_neg ?_ ?_); focus (first | assumption | exact not_false | trivial | exact mt (ile (by omega) (by omega) (by omega) (by omega)).1 (by omega) | exact mt (ilt (by omega) (by omega) (by omega) (by omega)).1 (by omega) | exact mt (ieq (by omega) (by omega) (by omega) (by omega)).1 (by omega)))); try simp (disch := omega) only [s15, s11, q2, q3, c4, t16, t17])
      refine w_cV (close_C (J := J) hrg1 g1 hwl) ?_
      rintro S6 ⟨I4, R4, σ4, rfl, g4⟩
      have t15 := cr_s g4.1 15 (by decide)
      have e15 : (clsV (lgV V)).2 0 15 = V.2 0 15 - 1 := by
        unfold clsV
        split
        · show (decV (lgV V)).2 0 15 = _
          unfold decV
          rw [upG_eq, lg_15]
        · unfold decV
          rw [upG_eq, lg_15]
      rw [e15] at t15
      repeat ((first | (with_reducible first | refine w_ltA ?_ | refine w_ltS ?_ | refine w_ltM ?_ | refine w_ltN ?_ | refine w_lt ?_ | refine w_jn ?_ | refine w_ck (by omega) (by assumption) ?_ | refine w_gI (by omega) (by assumption) ?_ | refine w_gR (by omega) (by assumption) (by assumption) ?_ | refine w_al (by omega) (by assumption) (by assumption) ?_ | refine w_pI (by omega) (by assumption) ?_ | refine w_set (by omega) (by assumption) (by omega) (by omega) ?_ | refine w_at (by omega) (by assumption) (by omega) (by omega) ?_ | refine w_sI (by omega) (by assumption) (by omega) (by omega) ?_ | refine w_aI (by omega) (by assumption) (by omega) (by omega) ?_ | refine w_sZ (by omega) (by assumption) (by omega) (by omega) (by decide) ?_ | refine w_pZ (by omega) (by assumption) (by decide) ?_ | refine w_dv (by omega) (by omega) (by omega) (by omega) ?_ | refine w_rm (by omega) (by omega) (by omega) (by omega) ?_) | ((with_reducible refine w_pos ?_ ?_); focus (first | assumption | trivial | exact (ile (by omega) (by omega) (by omega) (by omega)).2 (by omega) | exact (ilt (by omega) (by omega) (by omega) (by omega)).2 (by omega) | exact (ieq (by omega) (by omega) (by omega) (by omega)).2 (by omega))) | ((with_reducible refine w_neg ?_ ?_); focus (first | assumption | exact not_false | trivial | exact mt (ile (by omega) (by omega) (by omega) (by omega)).1 (by omega) | exact mt (ilt (by omega) (by omega) (by omega) (by omega)).1 (by omega) | exact mt (ieq (by omega) (by omega) (by omega) (by omega)).1 (by omega)))); try simp (disch := omega) only [s15, s11, q2, q3, c4, t16, t17])
      exact w_rt ⟨t15, g4.rs⟩
    · intro j hj
      have hup := cto_up (cto_up h 5 16 (V.2 0 11 - iPg V 4 (iIt V).toNat) (by omega)) 5 17 (iPg V 2 (iIt V).toNat) (by omega)
      refine w_jnP (fun x => lgV V = upG (upG V 5 16 (V.2 0 11 - iPg V 4 (iIt V).toNat)) 5 17 (iPg V 2 (iIt V).toNat)) ?_ ?_
      · intro _ hx
        repeat ((first | (with_reducible first | refine w_ltA ?_ | refine w_ltS ?_ | refine w_ltM ?_ | refine w_ltN ?_ | refine w_lt ?_ | refine w_jn ?_ | refine w_ck (by omega) (by assumption) ?_ | refine w_gI (by omega) (by assumption) ?_ | refine w_gR (by omega) (by assumption) (by assumption) ?_ | refine w_al (by omega) (by assumption) (by assumption) ?_ | refine w_pI (by omega) (by assumption) ?_ | refine w_set (by omega) (by assumption) (by omega) (by omega) ?_ | refine w_at (by omega) (by assumption) (by omega) (by omega) ?_ | refine w_sI (by omega) (by assumption) (by omega) (by omega) ?_ | refine w_aI (by omega) (by assumption) (by omega) (by omega) ?_ | refine w_sZ (by omega) (by assumption) (by omega) (by omega) (by decide) ?_ | refine w_pZ (by omega) (by assumption) (by decide) ?_ | refine w_dv (by omega) (by omega) (by omega) (by omega) ?_ | refine w_rm (by omega) (by omega) (by omega) (by omega) ?_) | ((with_reducible refine w_pos ?_ ?_); focus (first | assumption | trivial | exact (ile (by omega) (by omega) (by omega) (by omega)).2 (by omega) | exact (ilt (by omega) (by omega) (by omega) (by omega)).2 (by omega) | exact (ieq (by omega) (by omega) (by omega) (by omega)).2 (by omega))) | ((with_reducible refine w_neg ?_ ?_); focus (first | assumption | exact not_false | trivial | exact mt (ile (by omega) (by omega) (by omega) (by omega)).1 (by omega) | exact mt (ilt (by omega) (by omega) (by omega) (by omega)).1 (by omega) | exact mt (ieq (by omega) (by omega) (by omega) (by omega)).1 (by omega)))); try simp (disch := omega) only [up_ne, c2])
        refine hj _ ⟨_, rfl, ?_⟩
        rw [hx]
        exact hup
      · intro j1 hj1
        by_cases h17 : iI (V.2 5 17) = iI (-1)
        · repeat ((first | (with_reducible first | refine w_ltA ?_ | refine w_ltS ?_ | refine w_ltM ?_ | refine w_ltN ?_ | refine w_lt ?_ | refine w_jn ?_ | refine w_ck (by omega) (by assumption) ?_ | refine w_gI (by omega) (by assumption) ?_ | refine w_gR (by omega) (by assumption) (by assumption) ?_ | refine w_al (by omega) (by assumption) (by assumption) ?_ | refine w_pI (by omega) (by assumption) ?_ | refine w_set (by omega) (by assumption) (by omega) (by omega) ?_ | refine w_at (by omega) (by assumption) (by omega) (by omega) ?_ | refine w_sI (by omega) (by assumption) (by omega) (by omega) ?_ | refine w_aI (by omega) (by assumption) (by omega) (by omega) ?_ | refine w_sZ (by omega) (by assumption) (by omega) (by omega) (by decide) ?_ | refine w_pZ (by omega) (by assumption) (by decide) ?_ | refine w_dv (by omega) (by omega) (by omega) (by omega) ?_ | refine w_rm (by omega) (by omega) (by omega) (by omega) ?_) | ((with_reducible refine w_pos ?_ ?_); focus (first | assumption | trivial | exact (ile (by omega) (by omega) (by omega) (by omega)).2 (by omega) | exact (ilt (by omega) (by omega) (by omega) (by omega)).2 (by omega) | exact (ieq (by omega) (by omega) (by omega) (by omega)).2 (by omega))) | ((with_reducible refine w_neg ?_ ?_); focus (first | assumption | exact not_false | trivial | exact mt (ile (by omega) (by omega) (by omega) (by omega)).1 (by omega) | exact mt (ilt (by omega) (by omega) (by omega) (by omega)).1 (by omega) | exact mt (ieq (by omega) (by omega) (by omega) (by omega)).1 (by omega)))); try simp (disch := omega) only [up_ne, c2])
          exact hj1 _ (if_pos (Or.inl h17))
        · by_cases h16 : V.2 5 16 < V.2 0 11 - iPg V 4 (iIt V).toNat
          · repeat ((first | (with_reducible first | refine w_ltA ?_ | refine w_ltS ?_ | refine w_ltM ?_ | refine w_ltN ?_ | refine w_lt ?_ | refine w_jn ?_ | refine w_ck (by omega) (by assumption) ?_ | refine w_gI (by omega) (by assumption) ?_ | refine w_gR (by omega) (by assumption) (by assumption) ?_ | refine w_al (by omega) (by assumption) (by assumption) ?_ | refine w_pI (by omega) (by assumption) ?_ | refine w_set (by omega) (by assumption) (by omega) (by omega) ?_ | refine w_at (by omega) (by assumption) (by omega) (by omega) ?_ | refine w_sI (by omega) (by assumption) (by omega) (by omega) ?_ | refine w_aI (by omega) (by assumption) (by omega) (by omega) ?_ | refine w_sZ (by omega) (by assumption) (by omega) (by omega) (by decide) ?_ | refine w_pZ (by omega) (by assumption) (by decide) ?_ | refine w_dv (by omega) (by omega) (by omega) (by omega) ?_ | refine w_rm (by omega) (by omega) (by omega) (by omega) ?_) | ((with_reducible refine w_pos ?_ ?_); focus (first | assumption | trivial | exact (ile (by omega) (by omega) (by omega) (by omega)).2 (by omega) | exact (ilt (by omega) (by omega) (by omega) (by omega)).2 (by omega) | exact (ieq (by omega) (by omega) (by omega) (by omega)).2 (by omega))) | ((with_reducible refine w_neg ?_ ?_); focus (first | assumption | exact not_false | trivial | exact mt (ile (by omega) (by omega) (by omega) (by omega)).1 (by omega) | exact mt (ilt (by omega) (by omega) (by omega) (by omega)).1 (by omega) | exact mt (ieq (by omega) (by omega) (by omega) (by omega)).1 (by omega)))); try simp (disch := omega) only [t16])
            exact hj1 _ (if_pos (Or.inr h16))
          · repeat ((first | (with_reducible first | refine w_ltA ?_ | refine w_ltS ?_ | refine w_ltM ?_ | refine w_ltN ?_ | refine w_lt ?_ | refine w_jn ?_ | refine w_ck (by omega) (by assumption) ?_ | refine w_gI (by omega) (by assumption) ?_ | refine w_gR (by omega) (by assumption) (by assumption) ?_ | refine w_al (by omega) (by assumption) (by assumption) ?_ | refine w_pI (by omega) (by assumption) ?_ | refine w_set (by omega) (by assumption) (by omega) (by omega) ?_ | refine w_at (by omega) (by assumption) (by omega) (by omega) ?_ | refine w_sI (by omega) (by assumption) (by omega) (by omega) ?_ | refine w_aI (by omega) (by assumption) (by omega) (by omega) ?_ | refine w_sZ (by omega) (by assumption) (by omega) (by omega) (by decide) ?_ | refine w_pZ (by omega) (by assumption) (by decide) ?_ | refine w_dv (by omega) (by omega) (by omega) (by omega) ?_ | refine w_rm (by omega) (by omega) (by omega) (by omega) ?_) | ((with_reducible refine w_pos ?_ ?_); focus (first | assumption | trivial | exact (ile (by omega) (by omega) (by omega) (by omega)).2 (by omega) | exact (ilt (by omega) (by omega) (by omega) (by omega)).2 (by omega) | exact (ieq (by omega) (by omega) (by omega) (by omega)).2 (by omega))) | ((with_reducible refine w_neg ?_ ?_); focus (first | assumption | exact not_false | trivial | exact mt (ile (by omega) (by omega) (by omega) (by omega)).1 (by omega) | exact mt (ilt (by omega) (by omega) (by omega) (by omega)).1 (by omega) | exact mt (ieq (by omega) (by omega) (by omega) (by omega)).1 (by omega)))); try simp (disch := omega) only [t16])
            refine hj _ ⟨_, rfl, ?_⟩
            rw [lgV, if_neg (by rintro (h' | h'); exact h17 h'; exact h16 h')]
            exact h
  · rw [if_neg h3] at hii ⊢
    repeat ((first | (with_reducible first | refine w_ltA ?_ | refine w_ltS ?_ | refine w_ltM ?_ | refine w_ltN ?_ | refine w_lt ?_ | refine w_jn ?_ | refine w_ck (by omega) (by assumption) ?_ | refine w_gI (by omega) (by assumption) ?_ | refine w_gR (by omega) (by assumption) (by assumption) ?_ | refine w_al (by omega) (by assumption) (by assumption) ?_ | refine w_pI (by omega) (by assumption) ?_ | refine w_set (by omega) (by assumption) (by omega) (by omega) ?_ | refine w_at (by omega) (by assumption) (by omega) (by omega) ?_ | refine w_sI (by omega) (by assumption) (by omega) (by omega) ?_ | refine w_aI (by omega) (by assumption) (by omega) (by omega) ?_ | refine w_sZ (by omega) (by assumption) (by omega) (by omega) (by decide) ?_ | refine w_pZ (by omega) (by assumption) (by decide) ?_ | refine w_dv (by omega) (by omega) (by omega) (by omega) ?_ | refine w_rm (by omega) (by omega) (by omega) (by omega) ?_) | ((with_reducible refine w_pos ?_ ?_); focus (first | assumption | trivial | exact (ile (by omega) (by omega) (by omega) (by omega)).2 (by omega) | exact (ilt (by omega) (by omega) (by omega) (by omega)).2 (by omega) | exact (ieq (by omega) (by omega) (by omega) (by omega)).2 (by omega))) | ((with_reducible refine w_neg ?_ ?_); focus (first | assumption | exact not_false | trivial | exact mt (ile (by omega) (by omega) (by omega) (by omega)).1 (by omega) | exact mt (ilt (by omega) (by omega) (by omega) (by omega)).1 (by omega) | exact mt (ieq (by omega) (by omega) (by omega) (by omega)).1 (by omega)))); skip)
    refine w_cP hii ?_
    repeat ((first | (with_reducible first | refine w_ltA ?_ | refine w_ltS ?_ | refine w_ltM ?_ | refine w_ltN ?_ | refine w_lt ?_ | refine w_jn ?_ | refine w_ck (by omega) (by assumption) ?_ | refine w_gI (by omega) (by assumption) ?_ | refine w_gR (by omega) (by assumption) (by assumption) ?_ | refine w_al (by omega) (by assumption) (by assumption) ?_ | refine w_pI (by omega) (by assumption) ?_ | refine w_set (by omega) (by assumption) (by omega) (by omega) ?_ | refine w_at (by omega) (by assumption) (by omega) (by omega) ?_ | refine w_sI (by omega) (by assumption) (by omega) (by omega) ?_ | refine w_aI (by omega) (by assumption) (by omega) (by omega) ?_ | refine w_sZ (by omega) (by assumption) (by omega) (by omega) (by decide) ?_ | refine w_pZ (by omega) (by assumption) (by decide) ?_ | refine w_dv (by omega) (by omega) (by omega) (by omega) ?_ | refine w_rm (by omega) (by omega) (by omega) (by omega) ?_) | ((with_reducible refine w_pos ?_ ?_); focus (first | assumption | trivial | exact (ile (by omega) (by omega) (by omega) (by omega)).2 (by omega) | exact (ilt (by omega) (by omega) (by omega) (by omega)).2 (by omega) | exact (ieq (by omega) (by omega) (by omega) (by omega)).2 (by omega))) | ((with_reducible refine w_neg ?_ ?_); focus (first | assumption | exact not_false | trivial | exact mt (ile (by omega) (by omega) (by omega) (by omega)).1 (by omega) | exact mt (ilt (by omega) (by omega) (by omega) (by omega)).1 (by omega) | exact mt (ieq (by omega) (by omega) (by omega) (by omega)).1 (by omega)))); skip)
    exact w_rt ⟨rfl, h.rs⟩
theorem drop_C (hrg : isRg r) (h : CTo r σ I0 R0 I R V) (hw : WR V) (hl1 : -2147483648 ≤ l) (hl2 : l < 2147483648) : En (fun y => y.1 = iI (drpV V l).1 ∧ RS r J I0 R0 y.2 (drpV V l).2) (f_X4_dropInnermost (381, I, J, R) r (iI l)) := by
  have hc := h.1
  have hb := hw.1
  unfold WB at hb
  have hii := isIn_C (J := J) hrg hc hw hl1 hl2
  have htp := tailPlace_C (J := J) hrg hc hw.1
  have htl := tlp_in hw
  have hc1 := hc
  have hrg1 := hrg
  have hc0 := hc
  obtain ⟨hq, kr0, kr1, kr2, kr3, kr4, kr5, kr6, kr7, lr1, lr2, lr3, lr4, lr5, lr7, hpg⟩ := hrg
  have hsc := cr_s hc
  obtain ⟨⟨e0, e1, e2, e3, e4, e5, e6, e7, ep, ed, hσ, hσi⟩, hpp, hgg⟩ := hc
  have s7 := hsc 7 (by decide)
  have s8 := hsc 8 (by decide)
  have s9 := hsc 9 (by decide)
  have s10 := hsc 10 (by decide)
  have s11 := hsc 11 (by decide)
  have s12 := hsc 12 (by decide)
  have s13 := hsc 13 (by decide)
  have s14 := hsc 14 (by decide)
  have s15 := hsc 15 (by decide)
  rw [u_X4_dropInnermost]
  unfold drpV
  by_cases h3 : isIn V l
  · rw [if_pos h3] at hii ⊢
    obtain ⟨i1, i2, i3, i4, i5, i6, i7, i8, i9, i10, i11, i12⟩ := hw.i h3.1
    have h15 := h3.1
    have hpa := pageAt_C (J := J) (p := iPl V) hrg1 hc1 i1 i2
    have q2 : I (r + 2) (V.2 0 15 - 1).toNat = iI (iPl V) := cr_o hc1 2 (by omega) _ i12
    have q3 : I (r + 3) (V.2 0 15 - 1).toNat = iI (iIt V) := cr_o hc1 3 (by omega) _ i12
    have hP : CP I _ (iPg V) := hpp (iPl V).toNat (by omega)
    have c8 := hP.old.1.1
    have hpg1 := hpg _ (hσ (iPl V).toNat (by omega))
    have hr1 := ed _ (hσ (iPl V).toNat (by omega))
    have hpg2 := hpg1
    have hq9 := hpg2.1
    have hkq := hpg2.2.1
    have hwl := wr_drp1 hw h15
    repeat ((first | (with_reducible first | refine w_ltA ?_ | refine w_ltS ?_ | refine w_ltM ?_ | refine w_ltN ?_ | refine w_lt ?_ | refine w_jn ?_ | refine w_ck (by omega) (by assumption) ?_ | refine w_gI (by omega) (by assumption) ?_ | refine w_gR (by omega) (by assumption) (by assumption) ?_ | refine w_al (by omega) (by assumption) (by assumption) ?_ | refine w_pI (by omega) (by assumption) ?_ | refine w_set (by omega) (by assumption) (by omega) (by omega) ?_ | refine w_at (by omega) (by assumption) (by omega) (by omega) ?_ | refine w_sI (by omega) (by assumption) (by omega) (by omega) ?_ | refine w_aI (by omega) (by assumption) (by omega) (by omega) ?_ | refine w_sZ (by omega) (by assumption) (by omega) (by omega) (by decide) ?_ | refine w_pZ (by omega) (by assumption) (by decide) ?_ | refine w_dv (by omega) (by omega) (by omega) (by omega) ?_ | refine w_rm (by omega) (by omega) (by omega) (by omega) ?_) | ((with_reducible refine w_pos ?_ ?_); focus (first | assumption | trivial | exact (ile (by omega) (by omega) (by omega) (by omega)).2 (by omega) | exact (ilt (by omega) (by omega) (by omega) (by omega)).2 (by omega) | exact (ieq (by omega) (by omega) (by omega) (by omega)).2 (by omega))) | ((with_reducible refine w_neg ?_ ?_); focus (first | assumption | exact not_false | trivial | exact mt (ile (by omega) (by omega) (by omega) (by omega)).1 (by omega) | exact mt (ilt (by omega) (by omega) (by omega) (by omega)).1 (by omega) | exact mt (ieq (by omega) (by omega) (by omega) (by omega)).1 (by omega)))); skip)
    refine w_cP hii ?_
    repeat ((first | (with_reducible first | refine w_ltA ?_ | refine w_ltS ?_ | refine w_ltM ?_ | refine w_ltN ?_ | refine w_lt ?_ | refine w_jn ?_ | refine w_ck (by omega) (by assumption) ?_ | refine w_gI (by omega) (by assumption) ?_ | refine w_gR (by omega) (by assumption) (by assumption) ?_ | refine w_al (by omega) (by assumption) (by assumption) ?_ | refine w_pI (by omega) (by assumption) ?_ | refine w_set (by omega) (by assumption) (by omega) (by omega) ?_ | refine w_at (by omega) (by assumption) (by omega) (by omega) ?_ | refine w_sI (by omega) (by assumption) (by omega) (by omega) ?_ | refine w_aI (by omega) (by assumption) (by omega) (by omega) ?_ | refine w_sZ (by omega) (by assumption) (by omega) (by omega) (by decide) ?_ | refine w_pZ (by omega) (by assumption) (by decide) ?_ | refine w_dv (by omega) (by omega) (by omega) (by omega) ?_ | refine w_rm (by omega) (by omega) (by omega) (by omega) ?_) | ((with_reducible refine w_pos ?_ ?_); focus (first | assumption | trivial | exact (ile (by omega) (by omega) (by omega) (by omega)).2 (by omega) | exact (ilt (by omega) (by omega) (by omega) (by omega)).2 (by omega) | exact (ieq (by omega) (by omega) (by omega) (by omega)).2 (by omega))) | ((with_reducible refine w_neg ?_ ?_); focus (first | assumption | exact not_false | trivial | exact mt (ile (by omega) (by omega) (by omega) (by omega)).1 (by omega) | exact mt (ilt (by omega) (by omega) (by omega) (by omega)).1 (by omega) | exact mt (ieq (by omega) (by omega) (by omega) (by omega)).1 (by omega)))); try simp (disch := omega) only [s15, q2, q3, c8])
    refine w_cP hpa ?_
    repeat ((first | (with_reducible first | refine w_ltA ?_ | refine w_ltS ?_ | refine w_ltM ?_ | refine w_ltN ?_ | refine w_lt ?_ | refine w_jn ?_ | refine w_ck (by omega) (by assumption) ?_ | refine w_gI (by omega) (by assumption) ?_ | refine w_gR (by omega) (by assumption) (by assumption) ?_ | refine w_al (by omega) (by assumption) (by assumption) ?_ | refine w_pI (by omega) (by assumption) ?_ | refine w_set (by omega) (by assumption) (by omega) (by omega) ?_ | refine w_at (by omega) (by assumption) (by omega) (by omega) ?_ | refine w_sI (by omega) (by assumption) (by omega) (by omega) ?_ | refine w_aI (by omega) (by assumption) (by omega) (by omega) ?_ | refine w_sZ (by omega) (by assumption) (by omega) (by omega) (by decide) ?_ | refine w_pZ (by omega) (by assumption) (by decide) ?_ | refine w_dv (by omega) (by omega) (by omega) (by omega) ?_ | refine w_rm (by omega) (by omega) (by omega) (by omega) ?_) | ((with_reducible refine w_pos ?_ ?_); focus (first | assumption | trivial | exact (ile (by omega) (by omega) (by omega) (by omega)).2 (by omega) | exact (ilt (by omega) (by omega) (by omega) (by omega)).2 (by omega) | exact (ieq (by omega) (by omega) (by omega) (by omega)).2 (by omega))) | ((with_reducible refine w_neg ?_ ?_); focus (first | assumption | exact not_false | trivial | exact mt (ile (by omega) (by omega) (by omega) (by omega)).1 (by omega) | exact mt (ilt (by omega) (by omega) (by omega) (by omega)).1 (by omega) | exact mt (ieq (by omega) (by omega) (by omega) (by omega)).1 (by omega)))); try simp (disch := omega) only [s15, q2, q3, c8])
    refine w_cP htp ?_
    refine w_jnP (fun x => x = if goes V then iI 1 else iI 0) ?_ ?_
    · rintro x rfl
      refine w_jnP (fun x11 => ∃ I1, x11 = (381, I1, J, R) ∧ CTo r σ I0 R0 I1 R (upP V (iPl V).toNat (if goes V then tbP (iPg V) else gpP (iPg V) (iIt V).toNat))) ?_ ?_
      · rintro x11 ⟨I1, rfl, g1⟩
        repeat ((first | (with_reducible first | refine w_ltA ?_ | refine w_ltS ?_ | refine w_ltM ?_ | refine w_ltN ?_ | refine w_lt ?_ | refine w_jn ?_ | refine w_ck (by omega) (by assumption) ?_ | refine w_gI (by omega) (by assumption) ?_ | refine w_gR (by omega) (by assumption) (by assumption) ?_ | refine w_al (by omega) (by assumption) (by assumption) ?_ | refine w_pI (by omega) (by assumption) ?_ | refine w_set (by omega) (by assumption) (by omega) (by omega) ?_ | refine w_at (by omega) (by assumption) (by omega) (by omega) ?_ | refine w_sI (by omega) (by assumption) (by omega) (by omega) ?_ | refine w_aI (by omega) (by assumption) (by omega) (by omega) ?_ | refine w_sZ (by omega) (by assumption) (by omega) (by omega) (by decide) ?_ | refine w_pZ (by omega) (by assumption) (by decide) ?_ | refine w_dv (by omega) (by omega) (by omega) (by omega) ?_ | refine w_rm (by omega) (by omega) (by omega) (by omega) ?_) | ((with_reducible refine w_pos ?_ ?_); focus (first | assumption | trivial | exact (ile (by omega) (by omega) (by omega) (by omega)).2 (by omega) | exact (ilt (by omega) (by omega) (by omega) (by omega)).2 (by omega) | exact (ieq (by omega) (by omega) (by omega) (by omega)).2 (by omega))) | ((with_reducible refine w_neg ?_ ?_); focus (first | assumption | exact not_false | trivial | exact mt (ile (by omega) (by omega) (by omega) (by omega)).1 (by omega) | exact mt (ilt (by omega) (by omega) (by omega) (by omega)).1 (by omega) | exact mt (ieq (by omega) (by omega) (by omega) (by omega)).1 (by omega)))); try simp (disch := omega) only [s15, q2, q3, c8])
        refine w_raise hrg1 g1 (by omega) (by omega) fun I2 g2 => ?_
        have g2 : CTo r σ I0 R0 I2 R (drp1 V) := g2
        repeat ((first | (with_reducible first | refine w_ltA ?_ | refine w_ltS ?_ | refine w_ltM ?_ | refine w_ltN ?_ | refine w_lt ?_ | refine w_jn ?_ | refine w_ck (by omega) (by assumption) ?_ | refine w_gI (by omega) (by assumption) ?_ | refine w_gR (by omega) (by assumption) (by assumption) ?_ | refine w_al (by omega) (by assumption) (by assumption) ?_ | refine w_pI (by omega) (by assumption) ?_ | refine w_set (by omega) (by assumption) (by omega) (by omega) ?_ | refine w_at (by omega) (by assumption) (by omega) (by omega) ?_ | refine w_sI (by omega) (by assumption) (by omega) (by omega) ?_ | refine w_aI (by omega) (by assumption) (by omega) (by omega) ?_ | refine w_sZ (by omega) (by assumption) (by omega) (by omega) (by decide) ?_ | refine w_pZ (by omega) (by assumption) (by decide) ?_ | refine w_dv (by omega) (by omega) (by omega) (by omega) ?_ | refine w_rm (by omega) (by omega) (by omega) (by omega) ?_) | ((with_reducible refine w_pos ?_ ?_); focus (first | assumption | trivial | exact (ile (by omega) (by omega) (by omega) (by omega)).2 (by omega) | exact (ilt (by omega) (by omega) (by omega) (by omega)).2 (by omega) | exact (ieq (by omega) (by omega) (by omega) (by omega)).2 (by omega))) | ((with_reducible refine w_neg ?_ ?_); focus (first | assumption | exact not_false | trivial | exact mt (ile (by omega) (by omega) (by omega) (by omega)).1 (by omega) | exact mt (ilt (by omega) (by omega) (by omega) (by omega)).1 (by omega) | exact mt (ieq (by omega) (by omega) (by omega) (by omega)).1 (by omega)))); try simp (disch := omega) only [s15, q2, q3, c8])
        refine w_cV (close_C (J := J) hrg1 g2 hwl) ?_
        rintro S6 ⟨I4, R4, σ4, rfl, g4⟩
        by_cases hg : goes V
        · rw [if_pos hg, if_pos hg]
          repeat ((first | (with_reducible first | refine w_ltA ?_ | refine w_ltS ?_ | refine w_ltM ?_ | refine w_ltN ?_ | refine w_lt ?_ | refine w_jn ?_ | refine w_ck (by omega) (by assumption) ?_ | refine w_gI (by omega) (by assumption) ?_ | refine w_gR (by omega) (by assumption) (by assumption) ?_ | refine w_al (by omega) (by assumption) (by assumption) ?_ | refine w_pI (by omega) (by assumption) ?_ | refine w_set (by omega) (by assumption) (by omega) (by omega) ?_ | refine w_at (by omega) (by assumption) (by omega) (by omega) ?_ | refine w_sI (by omega) (by assumption) (by omega) (by omega) ?_ | refine w_aI (by omega) (by assumption) (by omega) (by omega) ?_ | refine w_sZ (by omega) (by assumption) (by omega) (by omega) (by decide) ?_ | refine w_pZ (by omega) (by assumption) (by decide) ?_ | refine w_dv (by omega) (by omega) (by omega) (by omega) ?_ | refine w_rm (by omega) (by omega) (by omega) (by omega) ?_) | ((with_reducible refine w_pos ?_ ?_); focus (first | assumption | trivial | exact (ile (by omega) (by omega) (by omega) (by omega)).2 (by omega) | exact (ilt (by omega) (by omega) (by omega) (by omega)).2 (by omega) | exact (ieq (by omega) (by omega) (by omega) (by omega)).2 (by omega))) | ((with_reducible refine w_neg ?_ ?_); focus (first | assumption | exact not_false | trivial | exact mt (ile (by omega) (by omega) (by omega) (by omega)).1 (by omega) | exact mt (ilt (by omega) (by omega) (by omega) (by omega)).1 (by omega) | exact mt (ieq (by omega) (by omega) (by omega) (by omega)).1 (by omega)))); try simp (disch := omega) only [s15, q2, q3, c8])
          exact w_rt ⟨rfl, g4.rs⟩
        · rw [if_neg hg, if_neg hg]
          repeat ((first | (with_reducible first | refine w_ltA ?_ | refine w_ltS ?_ | refine w_ltM ?_ | refine w_ltN ?_ | refine w_lt ?_ | refine w_jn ?_ | refine w_ck (by omega) (by assumption) ?_ | refine w_gI (by omega) (by assumption) ?_ | refine w_gR (by omega) (by assumption) (by assumption) ?_ | refine w_al (by omega) (by assumption) (by assumption) ?_ | refine w_pI (by omega) (by assumption) ?_ | refine w_set (by omega) (by assumption) (by omega) (by omega) ?_ | refine w_at (by omega) (by assumption) (by omega) (by omega) ?_ | refine w_sI (by omega) (by assumption) (by omega) (by omega) ?_ | refine w_aI (by omega) (by assumption) (by omega) (by omega) ?_ | refine w_sZ (by omega) (by assumption) (by omega) (by omega) (by decide) ?_ | refine w_pZ (by omega) (by assumption) (by decide) ?_ | refine w_dv (by omega) (by omega) (by omega) (by omega) ?_ | refine w_rm (by omega) (by omega) (by omega) (by omega) ?_) | ((with_reducible refine w_pos ?_ ?_); focus (first | assumption | trivial | exact (ile (by omega) (by omega) (by omega) (by omega)).2 (by omega) | exact (ilt (by omega) (by omega) (by omega) (by omega)).2 (by omega) | exact (ieq (by omega) (by omega) (by omega) (by omega)).2 (by omega))) | ((with_reducible refine w_neg ?_ ?_); focus (first | assumption | exact not_false | trivial | exact mt (ile (by omega) (by omega) (by omega) (by omega)).1 (by omega) | exact mt (ilt (by omega) (by omega) (by omega) (by omega)).1 (by omega) | exact mt (ieq (by omega) (by omega) (by omega) (by omega)).1 (by omega)))); try simp (disch := omega) only [s15, q2, q3, c8])
          exact w_rt ⟨rfl, g4.rs⟩
      · intro j hj
        by_cases hg : goes V
        · simp only [if_pos hg] at hj ⊢
          repeat ((first | (with_reducible first | refine w_ltA ?_ | refine w_ltS ?_ | refine w_ltM ?_ | refine w_ltN ?_ | refine w_lt ?_ | refine w_jn ?_ | refine w_ck (by omega) (by assumption) ?_ | refine w_gI (by omega) (by assumption) ?_ | refine w_gR (by omega) (by assumption) (by assumption) ?_ | refine w_al (by omega) (by assumption) (by assumption) ?_ | refine w_pI (by omega) (by assumption) ?_ | refine w_set (by omega) (by assumption) (by omega) (by omega) ?_ | refine w_at (by omega) (by assumption) (by omega) (by omega) ?_ | refine w_sI (by omega) (by assumption) (by omega) (by omega) ?_ | refine w_aI (by omega) (by assumption) (by omega) (by omega) ?_ | refine w_sZ (by omega) (by assumption) (by omega) (by omega) (by decide) ?_ | refine w_pZ (by omega) (by assumption) (by decide) ?_ | refine w_dv (by omega) (by omega) (by omega) (by omega) ?_ | refine w_rm (by omega) (by omega) (by omega) (by omega) ?_) | ((with_reducible refine w_pos ?_ ?_); focus (first | assumption | trivial | exact (ile (by omega) (by omega) (by omega) (by omega)).2 (by omega) | exact (ilt (by omega) (by omega) (by omega) (by omega)).2 (by omega) | exact (ieq (by omega) (by omega) (by omega) (by omega)).2 (by omega))) | ((with_reducible refine w_neg ?_ ?_); focus (first | assumption | exact not_false | trivial | exact mt (ile (by omega) (by omega) (by omega) (by omega)).1 (by omega) | exact mt (ilt (by omega) (by omega) (by omega) (by omega)).1 (by omega) | exact mt (ieq (by omega) (by omega) (by omega) (by omega)).1 (by omega)))); try simp (disch := omega) only [s15, q2, q3, c8])
          refine w_cV (takeBack_C (J := J) hpg1 hr1 hP i11 (by omega) (by omega)) ?_
          rintro S ⟨I1, rfl, h1⟩
          exact hj _ ⟨I1, rfl, cto_pg h (by omega) h1⟩
        · simp only [if_neg hg] at hj ⊢
          repeat ((first | (with_reducible first | refine w_ltA ?_ | refine w_ltS ?_ | refine w_ltM ?_ | refine w_ltN ?_ | refine w_lt ?_ | refine w_jn ?_ | refine w_ck (by omega) (by assumption) ?_ | refine w_gI (by omega) (by assumption) ?_ | refine w_gR (by omega) (by assumption) (by assumption) ?_ | refine w_al (by omega) (by assumption) (by assumption) ?_ | refine w_pI (by omega) (by assumption) ?_ | refine w_set (by omega) (by assumption) (by omega) (by omega) ?_ | refine w_at (by omega) (by assumption) (by omega) (by omega) ?_ | refine w_sI (by omega) (by assumption) (by omega) (by omega) ?_ | refine w_aI (by omega) (by assumption) (by omega) (by omega) ?_ | refine w_sZ (by omega) (by assumption) (by omega) (by omega) (by decide) ?_ | refine w_pZ (by omega) (by assumption) (by decide) ?_ | refine w_dv (by omega) (by omega) (by omega) (by omega) ?_ | refine w_rm (by omega) (by omega) (by omega) (by omega) ?_) | ((with_reducible refine w_pos ?_ ?_); focus (first | assumption | trivial | exact (ile (by omega) (by omega) (by omega) (by omega)).2 (by omega) | exact (ilt (by omega) (by omega) (by omega) (by omega)).2 (by omega) | exact (ieq (by omega) (by omega) (by omega) (by omega)).2 (by omega))) | ((with_reducible refine w_neg ?_ ?_); focus (first | assumption | exact not_false | trivial | exact mt (ile (by omega) (by omega) (by omega) (by omega)).1 (by omega) | exact mt (ilt (by omega) (by omega) (by omega) (by omega)).1 (by omega) | exact mt (ieq (by omega) (by omega) (by omega) (by omega)).1 (by omega)))); try simp (disch := omega) only [s15, q2, q3, c8])
          have e : iIt V = ((iIt V).toNat : Int) := by omega
          rw [e]
          refine w_cV (leaveGap_C (J := J) (i := (iIt V).toNat) hpg1 hr1 hP i11 (by omega) (by omega)) ?_
          rintro S ⟨I1, rfl, h1⟩
          exact hj _ ⟨I1, rfl, cto_pg h (by omega) h1⟩
    · intro j hj
      have hw8 := i11.1
      refine w_jnP (fun x => ¬ goes V) ?_ ?_
      · intro _ hx
        rw [if_neg hx] at hj
        exact hj _ rfl
      · intro j1 hj1
        by_cases ha : iPl V = plc V (V.2 0 13 - 1)
        · by_cases hb' : iIt V = iPg V 0 8 - 1
          · rw [if_pos (⟨ha, hb'⟩ : goes V)] at hj
            repeat ((first | (with_reducible first | refine w_ltA ?_ | refine w_ltS ?_ | refine w_ltM ?_ | refine w_ltN ?_ | refine w_lt ?_ | refine w_jn ?_ | refine w_ck (by omega) (by assumption) ?_ | refine w_gI (by omega) (by assumption) ?_ | refine w_gR (by omega) (by assumption) (by assumption) ?_ | refine w_al (by omega) (by assumption) (by assumption) ?_ | refine w_pI (by omega) (by assumption) ?_ | refine w_set (by omega) (by assumption) (by omega) (by omega) ?_ | refine w_at (by omega) (by assumption) (by omega) (by omega) ?_ | refine w_sI (by omega) (by assumption) (by omega) (by omega) ?_ | refine w_aI (by omega) (by assumption) (by omega) (by omega) ?_ | refine w_sZ (by omega) (by assumption) (by omega) (by omega) (by decide) ?_ | refine w_pZ (by omega) (by assumption) (by decide) ?_ | refine w_dv (by omega) (by omega) (by omega) (by omega) ?_ | refine w_rm (by omega) (by omega) (by omega) (by omega) ?_) | ((with_reducible refine w_pos ?_ ?_); focus (first | assumption | trivial | exact (ile (by omega) (by omega) (by omega) (by omega)).2 (by omega) | exact (ilt (by omega) (by omega) (by omega) (by omega)).2 (by omega) | exact (ieq (by omega) (by omega) (by omega) (by omega)).2 (by omega))) | ((with_reducible refine w_neg ?_ ?_); focus (first | assumption | exact not_false | trivial | exact mt (ile (by omega) (by omega) (by omega) (by omega)).1 (by omega) | exact mt (ilt (by omega) (by omega) (by omega) (by omega)).1 (by omega) | exact mt (ieq (by omega) (by omega) (by omega) (by omega)).1 (by omega)))); try simp (disch := omega) only [s15, q2, q3, c8])
            exact hj _ rfl
          · repeat ((first | (with_reducible first | refine w_ltA ?_ | refine w_ltS ?_ | refine w_ltM ?_ | refine w_ltN ?_ | refine w_lt ?_ | refine w_jn ?_ | refine w_ck (by omega) (by assumption) ?_ | refine w_gI (by omega) (by assumption) ?_ | refine w_gR (by omega) (by assumption) (by assumption) ?_ | refine w_al (by omega) (by assumption) (by assumption) ?_ | refine w_pI (by omega) (by assumption) ?_ | refine w_set (by omega) (by assumption) (by omega) (by omega) ?_ | refine w_at (by omega) (by assumption) (by omega) (by omega) ?_ | refine w_sI (by omega) (by assumption) (by omega) (by omega) ?_ | refine w_aI (by omega) (by assumption) (by omega) (by omega) ?_ | refine w_sZ (by omega) (by assumption) (by omega) (by omega) (by decide) ?_ | refine w_pZ (by omega) (by assumption) (by decide) ?_ | refine w_dv (by omega) (by omega) (by omega) (by omega) ?_ | refine w_rm (by omega) (by omega) (by omega) (by omega) ?_) | ((with_reducible refine w_pos ?_ ?_); focus (first | assumption | trivial | exact (ile (by omega) (by omega) (by omega) (by omega)).2 (by omega) | exact (ilt (by omega) (by omega) (by omega) (by omega)).2 (by omega) | exact (ieq (by omega) (by omega) (by omega) (by omega)).2 (by omega))) | ((with_reducible refine w_neg ?_ ?_); focus (first | assumption | exact not_false | trivial | exact mt (ile (by omega) (by omega) (by omega) (by omega)).1 (by omega) | exact mt (ilt (by omega) (by omega) (by omega) (by omega)).1 (by omega) | exact mt (ieq (by omega) (by omega) (by omega) (by omega)).1 (by omega)))); try simp (disch := omega) only [s15, q2, q3, c8])
            exact hj1 _ (fun hg => hb' hg.2)
        · repeat ((first | (with_reducible first | refine w_ltA ?_ | refine w_ltS ?_ | refine w_ltM ?_ | refine w_ltN ?_ | refine w_lt ?_ | refine w_jn ?_ | refine w_ck (by omega) (by assumption) ?_ | refine w_gI (by omega) (by assumption) ?_ | refine w_gR (by omega) (by assumption) (by assumption) ?_ | refine w_al (by omega) (by assumption) (by assumption) ?_ | refine w_pI (by omega) (by assumption) ?_ | refine w_set (by omega) (by assumption) (by omega) (by omega) ?_ | refine w_at (by omega) (by assumption) (by omega) (by omega) ?_ | refine w_sI (by omega) (by assumption) (by omega) (by omega) ?_ | refine w_aI (by omega) (by assumption) (by omega) (by omega) ?_ | refine w_sZ (by omega) (by assumption) (by omega) (by omega) (by decide) ?_ | refine w_pZ (by omega) (by assumption) (by decide) ?_ | refine w_dv (by omega) (by omega) (by omega) (by omega) ?_ | refine w_rm (by omega) (by omega) (by omega) (by omega) ?_) | ((with_reducible refine w_pos ?_ ?_); focus (first | assumption | trivial | exact (ile (by omega) (by omega) (by omega) (by omega)).2 (by omega) | exact (ilt (by omega) (by omega) (by omega) (by omega)).2 (by omega) | exact (ieq (by omega) (by omega) (by omega) (by omega)).2 (by omega))) | ((with_reducible refine w_neg ?_ ?_); focus (first | assumption | exact not_false | trivial | exact mt (ile (by omega) (by omega) (by omega) (by omega)).1 (by omega) | exact mt (ilt (by omega) (by omega) (by omega) (by omega)).1 (by omega) | exact mt (ieq (by omega) (by omega) (by omega) (by omega)).1 (by omega)))); try simp (disch := omega) only [s15, q2, q3, c8])
          exact hj1 _ (fun hg => ha hg.1)
  · rw [if_neg h3] at hii ⊢
    repeat ((first | (with_reducible first | refine w_ltA ?_ | refine w_ltS ?_ | refine w_ltM ?_ | refine w_ltN ?_ | refine w_lt ?_ | refine w_jn ?_ | refine w_ck (by omega) (by assumption) ?_ | refine w_gI (by omega) (by assumption) ?_ | refine w_gR (by omega) (by assumption) (by assumption) ?_ | refine w_al (by omega) (by assumption) (by assumption) ?_ | refine w_pI (by omega) (by assumption) ?_ | refine w_set (by omega) (by assumption) (by omega) (by omega) ?_ | refine w_at (by omega) (by assumption) (by omega) (by omega) ?_ | refine w_sI (by omega) (by assumption) (by omega) (by omega) ?_ | refine w_aI (by omega) (by assumption) (by omega) (by omega) ?_ | refine w_sZ (by omega) (by assumption) (by omega) (by omega) (by decide) ?_ | refine w_pZ (by omega) (by assumption) (by decide) ?_ | refine w_dv (by omega) (by omega) (by omega) (by omega) ?_ | refine w_rm (by omega) (by omega) (by omega) (by omega) ?_) | ((with_reducible refine w_pos ?_ ?_); focus (first | assumption | trivial | exact (ile (by omega) (by omega) (by omega) (by omega)).2 (by omega) | exact (ilt (by omega) (by omega) (by omega) (by omega)).2 (by omega) | exact (ieq (by omega) (by omega) (by omega) (by omega)).2 (by omega))) | ((with_reducible refine w_neg ?_ ?_); focus (first | assumption | exact not_false | trivial | exact mt (ile (by omega) (by omega) (by omega) (by omega)).1 (by omega) | exact mt (ilt (by omega) (by omega) (by omega) (by omega)).1 (by omega) | exact mt (ieq (by omega) (by omega) (by omega) (by omega)).1 (by omega)))); skip)
    refine w_cP hii ?_
    repeat ((first | (with_reducible first | refine w_ltA ?_ | refine w_ltS ?_ | refine w_ltM ?_ | refine w_ltN ?_ | refine w_lt ?_ | refine w_jn ?_ | refine w_ck (by omega) (by assumption) ?_ | refine w_gI (by omega) (by assumption) ?_ | refine w_gR (by omega) (by assumption) (by assumption) ?_ | refine w_al (by omega) (by assumption) (by assumption) ?_ | refine w_pI (by omega) (by assumption) ?_ | refine w_set (by omega) (by assumption) (by omega) (by omega) ?_ | refine w_at (by omega) (by assumption) (by omega) (by omega) ?_ | refine w_sI (by omega) (by assumption) (by omega) (by omega) ?_ | refine w_aI (by omega) (by assumption) (by omega) (by omega) ?_ | refine w_sZ (by omega) (by assumption) (by omega) (by omega) (by decide) ?_ | refine w_pZ (by omega) (by assumption) (by decide) ?_ | refine w_dv (by omega) (by omega) (by omega) (by omega) ?_ | refine w_rm (by omega) (by omega) (by omega) (by omega) ?_) | ((with_reducible refine w_pos ?_ ?_); focus (first | assumption | trivial | exact (ile (by omega) (by omega) (by omega) (by omega)).2 (by omega) | exact (ilt (by omega) (by omega) (by omega) (by omega)).2 (by omega) | exact (ieq (by omega) (by omega) (by omega) (by omega)).2 (by omega))) | ((with_reducible refine w_neg ?_ ?_); focus (first | assumption | exact not_false | trivial | exact mt (ile (by omega) (by omega) (by omega) (by omega)).1 (by omega) | exact mt (ilt (by omega) (by omega) (by omega) (by omega)).1 (by omega) | exact mt (ieq (by omega) (by omega) (by omega) (by omega)).1 (by omega)))); skip)
    exact w_rt ⟨rfl, h.rs⟩
end RGG
