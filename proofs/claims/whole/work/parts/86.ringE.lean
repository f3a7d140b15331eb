/-! RINGS: the class's tick, mask, put -/
def goV (V : RV) (n : Int) : Int × RV := if n < 1 then (-1, V) else if 5000 < n then (-1, V) else if n ≤ 999999 - V.2 0 11 then (V.2 0 11 + n, upG V 0 11 (V.2 0 11 + n)) else (-1, V)
def mskV (V : RV) (l : Int) : Int × RV := if l < 0 then (0, V) else if 15 < l then (0, V) else if l = V.2 0 14 then (0, V) else (1, upG V 0 14 l)
abbrev isIn (V : RV) (l : Int) : Prop := 0 < V.2 0 15 ∧ inn V = l
def iPl (V : RV) : Int := V.2 2 (V.2 0 15 - 1).toNat
def iIt (V : RV) : Int := V.2 3 (V.2 0 15 - 1).toNat
def iPu (V : RV) : Int := V.2 4 (V.2 0 15 - 1).toNat
def iPg (V : RV) : PV := V.1 (iPl V).toNat
def putV (V : RV) (l m : Int) : Int × RV :=
  if m < 0 then (-1, V) else if 255 < m then (-1, V) else if isIn V l then
    if 1 ≤ iPg V 7 (iIt V).toNat - iPu V then (iPg V 7 (iIt V).toNat - iPu V - 1, upG (upP V (iPl V).toNat (upv (iPg V) 1 (iPg V 6 (iIt V).toNat + 1 + iPu V).toNat m)) 4 (V.2 0 15 - 1).toNat (iPu V + 1))
    else (-1, V)
  else (-1, V)
theorem wr_go {V : RV} {n : Int} (hw : WR V) : WR (goV V n).2 := by
  have hb := hw.1
  unfold WB at hb
  unfold goV
  repeat' split
  all_goals first | exact hw | skip
  refine wr_G hw ?_ rfl (upG_ne (by omega)) (upG_ne (by omega)) (upG_ne (by omega)) (upG_ne (by omega)) (upG_ne (by omega)) ?_ (fun g k h => upG_ne (by omega))
  · unfold WB
    rw [upG_1, upG_eq]
    simp (disch := omega) only [upG_ne]
    omega
  · rw [upG_eq]
    omega
theorem wr_msk {V : RV} {n : Int} (hw : WR V) : WR (mskV V n).2 := by
  have hb := hw.1
  unfold WB at hb
  unfold mskV
  repeat' split
  all_goals first | exact hw | skip
  refine wr_G hw ?_ rfl (upG_ne (by omega)) (upG_ne (by omega)) (upG_ne (by omega)) (upG_ne (by omega)) (upG_ne (by omega)) ?_ (fun g k h => upG_ne (by omega))
  · unfold WB
    rw [upG_1, upG_eq]
    simp (disch := omega) only [upG_ne]
    omega
  · rw [upG_ne (by omega)]
    omega
/-- what the innermost one is -/
theorem WR.i {V : RV} (hw : WR V) (h : 0 < V.2 0 15) : 0 ≤ iPl V ∧ iPl V < 6 ∧ liveAt V (iPl V) ∧ 0 ≤ iIt V ∧ iIt V < 16 ∧ iIt V < iPg V 0 8 ∧ iPg V 8 (iIt V).toNat = 0 ∧ iPg V 0 10 ≤ iPg V 5 (iIt V).toNat ∧ 0 ≤ iPu V ∧ iPu V ≤ iPg V 7 (iIt V).toNat ∧ WP (V.2 0 9) (V.2 0 11) (iPg V) ∧ (V.2 0 15 - 1).toNat < 4 := by
  have ho := hw.o (k := (V.2 0 15 - 1).toNat) (by omega)
  have hv := hw.2.2.2.1 (V.2 0 15 - 1).toNat (by omega)
  exact ⟨ho.1, ho.2.1, hv.2.1, ho.2.2.1, ho.2.2.2.1, ho.2.2.2.2.1, hv.2.2.2.2.1, hv.2.2.2.2.2.1, hv.2.2.2.2.2.2.1, hv.2.2.2.2.2.2.2.1, ho.2.2.2.2.2.2, ho.2.2.2.2.2.1⟩
theorem wp_pd {z now m : Int} {P : PV} {i c : Nat} (hw : WP z now P) (hi : (i : Int) < P 0 8) (hg : P 8 i = 0) (hc : P 6 i < c ∧ (c : Int) < pEnd P i) (hm : 0 ≤ m ∧ m ≤ 255) : WP z now (upv P 1 c m) := by
  have hw1 := hw
  have hat := hw.at hi
  obtain ⟨a1, a2, a3, a4, a5, a6, a7, a8⟩ := hw
  have e : ∀ f k, f ≠ 1 → upv P 1 c m f k = P f k := fun f k hf => upv_ne (by omega)
  refine ⟨by rw [e _ _ (by omega)]; exact a1, by rw [e _ _ (by omega), e _ _ (by omega)]; exact a2, by rw [e _ _ (by omega), e _ _ (by omega)]; exact a3, ?_, fun j hj => ?_, fun j hj => ?_, fun j hj => ?_, fun j hj => ?_⟩
  · rw [e _ _ (by omega), e _ _ (by omega), a4]
    unfold pEnd
    rw [e _ _ (by omega), e _ _ (by omega)]
  · have := a5 j hj
    unfold upv
    split
    · exact hm
    · exact this
  · rw [e _ _ (by omega)] at hj
    have hj1 := hw1.at hj
    have h7 := (a6 j hj).2.2.2.2.1
    obtain ⟨b1, b2, b3, b4, b5, b6, b7, b8, b9, b10, b11, b12, b13, b14⟩ := a6 j hj
    have hfar : c ≠ (P 5 j).toNat ∧ c ≠ (P 6 j).toNat ∧ (j ≠ i → c ≠ (P 6 j + 1).toNat) := by
      rcases Nat.lt_trichotomy j i with h | h | h
      · have h1 := hw1.ord h hi
        unfold pEnd at h1
        omega
      · subst h
        omega
      · have h1 := hw1.ord h hj
        unfold pEnd at *
        omega
    unfold WI pEnd at *
    rw [e 3 _ (by omega), e 4 _ (by omega), e 4 _ (by omega), e 5 _ (by omega), e 6 _ (by omega), e 6 _ (by omega), e 7 _ (by omega), e 7 _ (by omega), e 8 _ (by omega), e 0 _ (by omega), upv_ne (k' := (P 5 j).toNat) (by omega), upv_ne (k' := (P 6 j).toNat) (by omega)]
    refine ⟨b1, b2, b3, b4, b5, b6, b7, b8, b9, b10, b11, b12, b13, fun h => ?_⟩
    rw [upv_ne (by have : j ≠ i := fun he => by rw [he] at h; omega
                   omega)]
    exact b14 h
  · rw [e _ _ (by omega)] at hj
    rw [e _ _ (by omega)]
    exact a7 j hj
  · rw [e _ _ (by omega)]
    exact a8 j hj
theorem wr_put {V : RV} {l m : Int} (hw : WR V) : WR (putV V l m).2 := by
  unfold putV
  split
  · exact hw
  split
  · exact hw
  split
  · next h1 h2 h3 =>
    split
    · next h4 =>
      obtain ⟨i1, i2, i3, i4, i5, i6, i7, i8, i9, i10, i11, i12⟩ := hw.i h3.1
      have hat := i11.at (i := (iIt V).toNat) (by omega)
      obtain ⟨a1, a2, a3, a4, a5⟩ := hw
      have hb := a1
      unfold WB at hb
      have hl : ∀ p, liveAt (upG (upP V (iPl V).toNat (upv (iPg V) 1 (iPg V 6 (iIt V).toNat + 1 + iPu V).toNat m)) 4 (V.2 0 15 - 1).toNat (iPu V + 1)) p ↔ liveAt V p := fun p => liveAt_congr (upG_ne (by omega)) (upG_ne (by omega)) (upG_ne (by omega))
      have e1 : ∀ p f k, f ≠ 1 → (upP V (iPl V).toNat (upv (iPg V) 1 (iPg V 6 (iIt V).toNat + 1 + iPu V).toNat m)).1 p f k = V.1 p f k := fun p f k hf => by
        show (if p = (iPl V).toNat then _ else V.1 p) f k = _
        split
        · next h =>
          rw [upv_ne (by omega), h]
          rfl
        · rfl
      refine ⟨?_, fun p hp => ?_, fun p hp hd => ?_, fun k hk => ?_, fun k k' hk hk' => ?_⟩
      · unfold WB
        rw [upG_1, e1 _ _ _ (by omega)]
        simp (disch := omega) only [upG_ne, upP_2]
        omega
      · rw [upG_1, upG_ne (by omega), upG_ne (by omega), upP_2]
        show WP _ _ (if p = (iPl V).toNat then _ else V.1 p)
        split
        · exact wp_pd i11 (i := (iIt V).toNat) (by omega) i7 (by unfold pEnd; omega) (by omega)
        · exact a2 p hp
      · rw [upG_1]
        have hd' : ¬ liveAt V p := fun h => hd ((hl _).2 h)
        show EP (if p = (iPl V).toNat then _ else V.1 p)
        rw [if_neg]
        · exact a3 p hp hd'
        · intro he
          refine hd' ?_
          have : (p : Int) = iPl V := by omega
          rw [this]
          exact i3
      · rw [upG_ne (by omega), upP_2] at hk
        have ho := a4 k hk
        unfold WO at *
        rw [hl, upG_1]
        rw [e1 _ 0 _ (by omega), e1 _ 0 _ (by omega), e1 _ 8 _ (by omega), e1 _ 5 _ (by omega), e1 _ 7 _ (by omega), e1 _ 3 _ (by omega)]
        rw [upG_ne (g' := 2) (by omega), upG_ne (g' := 3) (by omega), upP_2]
        obtain ⟨o1, o2, o3, o4, o5, o6, o7, o8, o9⟩ := ho
        refine ⟨o1, o2, o3, o4, o5, o6, ?_⟩
        by_cases he : k = (V.2 0 15 - 1).toNat
        · subst he
          rw [upG_eq]
          have : iPg V 7 (iIt V).toNat = V.1 (V.2 2 (V.2 0 15 - 1).toNat).toNat 7 (V.2 3 (V.2 0 15 - 1).toNat).toNat := rfl
          exact ⟨by omega, by omega, o9⟩
        · rw [upG_ne (by omega), upP_2]
          exact ⟨o7, o8, o9⟩
      · rw [upG_ne (by omega), upP_2] at hk'
        rw [upG_ne (g' := 2) (by omega), upG_ne (g' := 3) (by omega), upG_ne (g' := 2) (by omega), upG_ne (g' := 3) (by omega), upP_2]
        exact a5 k k' hk hk'
    · exact hw
  · exact hw
section RGF
variable {I I0 : MI} {J : MJ} {R R0 : MR} {r : Nat} {σ : Nat → Nat} {γ : Type} {Q : γ → Prop} {x : Int32} {i t l n m : Int} {V : RV}
theorem go_C (hrg : isRg r) (h : CTo r σ I0 R0 I R V) (hw : WR V) (hn1 : -2147483648 ≤ n) (hn2 : n < 2147483648) : En (fun y => y.1 = iI (goV V n).1 ∧ RS r J I0 R0 y.2 (goV V n).2) (f_X4_goOn (381, I, J, R) r (iI n)) := by
  have hc := h.1
  have hb := hw.1
  unfold WB at hb
  have hc0 := hc
  obtain ⟨hq, kr0, kr1, kr2, kr3, kr4, kr5, kr6, kr7, lr1, lr2, lr3, lr4, lr5, lr7, hpg⟩ := hrg
  have hsc := cr_s hc
  obtain ⟨⟨e0, e1, e2, e3, e4, e5, e6, e7, ep, ed, hσ, hσi⟩, hpp, hgg⟩ := hc
  have s7 := hsc 7 (by decide)
  have s8 := hsc 8 (by decide)
  have s9 := hsc 9 (by decide)
  have s10 := hsc 10 (by decide)
  have s11 := hsc 11 (by decide)
  have s12 := hsc 12 (by decide)
  have s13 := hsc 13 (by decide)
  have s14 := hsc 14 (by decide)
  have s15 := hsc 15 (by decide)
  rw [u_X4_goOn]
  unfold goV
  by_cases h1 : n < 1
  · rw [if_pos h1]
    repeat ((first | (with_reducible first | refine w_ltA ?_ | refine w_ltS ?_ | refine w_ltM ?_ | refine w_ltN ?_ | refine w_lt ?_ | refine w_jn ?_ | refine w_ck (by omega) (by assumption) ?_ | refine w_gI (by omega) (by assumption) ?_ | refine w_gR (by omega) (by assumption) (by assumption) ?_ | refine w_al (by omega) (by assumption) (by assumption) ?_ | refine w_pI (by omega) (by assumption) ?_ | refine w_set (by omega) (by assumption) (by omega) (by omega) ?_ | refine w_at (by omega) (by assumption) (by omega) (by omega) ?_ | refine w_sI (by omega) (by assumption) (by omega) (by omega) ?_ | refine w_aI (by omega) (by assumption) (by omega) (by omega) ?_ | refine w_sZ (by omega) (by assumption) (by omega) (by omega) (by decide) ?_ | refine w_pZ (by omega) (by assumption) (by decide) ?_ | refine w_dv (by omega) (by omega) (by omega) (by omega) ?_ | refine w_rm (by omega) (by omega) (by omega) (by omega) ?_) | ((with_reducible refine w_pos ?_ ?_); focus (first | assumption | trivial | exact (ile (by omega) (by omega) (by omega) (by omega)).2 (by omega) | exact (ilt (by omega) (by omega) (by omega) (by omega)).2 (by omega) | exact (ieq (by omega) (by omega) (by omega) (by omega)).2 (by omega))) | ((with_reducible refine w_neg ?_ ?_); focus (first | assumption | exact not_false | trivial | exact mt (ile (by omega) (by omega) (by omega) (by omega)).1 (by omega) | exact mt (ilt (by omega) (by omega) (by omega) (by omega)).1 (by omega) | exact mt (ieq (by omega) (by omega) (by omega) (by omega)).1 (by omega)))); try simp (disch := omega) only [s11, up_eq])
    exact w_rt ⟨rfl, h.rs⟩
  rw [if_neg h1]
  by_cases h2 : 5000 < n
  · rw [if_pos h2]
    repeat ((first | (with_reducible first | refine w_ltA ?_ | refine w_ltS ?_ | refine w_ltM ?_ | refine w_ltN ?_ | refine w_lt ?_ | refine w_jn ?_ | refine w_ck (by omega) (by assumption) ?_ | refine w_gI (by omega) (by assumption) ?_ | refine w_gR (by omega) (by assumption) (by assumption) ?_ | refine w_al (by omega) (by assumption) (by assumption) ?_ | refine w_pI (by omega) (by assumption) ?_ | refine w_set (by omega) (by assumption) (by omega) (by omega) ?_ | refine w_at (by omega) (by assumption) (by omega) (by omega) ?_ | refine w_sI (by omega) (by assumption) (by omega) (by omega) ?_ | refine w_aI (by omega) (by assumption) (by omega) (by omega) ?_ | refine w_sZ (by omega) (by assumption) (by omega) (by omega) (by decide) ?_ | refine w_pZ (by omega) (by assumption) (by decide) ?_ | refine w_dv (by omega) (by omega) (by omega) (by omega) ?_ | refine w_rm (by omega) (by omega) (by omega) (by omega) ?_) | ((with_reducible refine w_pos ?_ ?_); focus (first | assumption | trivial | exact (ile (by omega) (by omega) (by omega) (by omega)).2 (by omega) | exact (ilt (by omega) (by omega) (by omega) (by omega)).2 (by omega) | exact (ieq (by omega) (by omega) (by omega) (by omega)).2 (by omega))) | ((with_reducible refine w_neg ?_ ?_); focus (first | assumption | exact not_false | trivial | exact mt (ile (by omega) (by omega) (by omega) (by omega)).1 (by omega) | exact mt (ilt (by omega) (by omega) (by omega) (by omega)).1 (by omega) | exact mt (ieq (by omega) (by omega) (by omega) (by omega)).1 (by omega)))); try simp (disch := omega) only [s11, up_eq])
    exact w_rt ⟨rfl, h.rs⟩
  rw [if_neg h2]
  by_cases h3 : n ≤ 999999 - V.2 0 11
  · rw [if_pos h3]
    repeat ((first | (with_reducible first | refine w_ltA ?_ | refine w_ltS ?_ | refine w_ltM ?_ | refine w_ltN ?_ | refine w_lt ?_ | refine w_jn ?_ | refine w_ck (by omega) (by assumption) ?_ | refine w_gI (by omega) (by assumption) ?_ | refine w_gR (by omega) (by assumption) (by assumption) ?_ | refine w_al (by omega) (by assumption) (by assumption) ?_ | refine w_pI (by omega) (by assumption) ?_ | refine w_set (by omega) (by assumption) (by omega) (by omega) ?_ | refine w_at (by omega) (by assumption) (by omega) (by omega) ?_ | refine w_sI (by omega) (by assumption) (by omega) (by omega) ?_ | refine w_aI (by omega) (by assumption) (by omega) (by omega) ?_ | refine w_sZ (by omega) (by assumption) (by omega) (by omega) (by decide) ?_ | refine w_pZ (by omega) (by assumption) (by decide) ?_ | refine w_dv (by omega) (by omega) (by omega) (by omega) ?_ | refine w_rm (by omega) (by omega) (by omega) (by omega) ?_) | ((with_reducible refine w_pos ?_ ?_); focus (first | assumption | trivial | exact (ile (by omega) (by omega) (by omega) (by omega)).2 (by omega) | exact (ilt (by omega) (by omega) (by omega) (by omega)).2 (by omega) | exact (ieq (by omega) (by omega) (by omega) (by omega)).2 (by omega))) | ((with_reducible refine w_neg ?_ ?_); focus (first | assumption | exact not_false | trivial | exact mt (ile (by omega) (by omega) (by omega) (by omega)).1 (by omega) | exact mt (ilt (by omega) (by omega) (by omega) (by omega)).1 (by omega) | exact mt (ieq (by omega) (by omega) (by omega) (by omega)).1 (by omega)))); try simp (disch := omega) only [s11, up_eq])
    exact w_rt ⟨rfl, (cto_up0 h 11 _).rs⟩
  · rw [if_neg h3]
    repeat ((first | (with_reducible first | refine w_ltA ?_ | refine w_ltS ?_ | refine w_ltM ?_ | refine w_ltN ?_ | refine w_lt ?_ | refine w_jn ?_ | refine w_ck (by omega) (by assumption) ?_ | refine w_gI (by omega) (by assumption) ?_ | refine w_gR (by omega) (by assumption) (by assumption) ?_ | refine w_al (by omega) (by assumption) (by assumption) ?_ | refine w_pI (by omega) (by assumption) ?_ | refine w_set (by omega) (by assumption) (by omega) (by omega) ?_ | refine w_at (by omega) (by assumption) (by omega) (by omega) ?_ | refine w_sI (by omega) (by assumption) (by omega) (by omega) ?_ | refine w_aI (by omega) (by assumption) (by omega) (by omega) ?_ | refine w_sZ (by omega) (by assumption) (by omega) (by omega) (by decide) ?_ | refine w_pZ (by omega) (by assumption) (by decide) ?_ | refine w_dv (by omega) (by omega) (by omega) (by omega) ?_ | refine w_rm (by omega) (by omega) (by omega) (by omega) ?_) | ((with_reducible refine w_pos ?_ ?_); focus (first | assumption | trivial | exact (ile (by omega) (by omega) (by omega) (by omega)).2 (by omega) | exact (ilt (by omega) (by omega) (by omega) (by omega)).2 (by omega) | exact (ieq (by omega) (by omega) (by omega) (by omega)).2 (by omega))) | ((with_reducible refine w_neg ?_ ?_); focus (first | assumption | exact not_false | trivial | exact mt (ile (by omega) (by omega) (by omega) (by omega)).1 (by omega) | exact mt (ilt (by omega) (by omega) (by omega) (by omega)).1 (by omega) | exact mt (ieq (by omega) (by omega) (by omega) (by omega)).1 (by omega)))); try simp (disch := omega) only [s11, up_eq])
    exact w_rt ⟨rfl, h.rs⟩
theorem msk_C (hrg : isRg r) (h : CTo r σ I0 R0 I R V) (hw : WR V) (hn1 : -2147483648 ≤ n) (hn2 : n < 2147483648) : En (fun y => y.1 = iI (mskV V n).1 ∧ RS r J I0 R0 y.2 (mskV V n).2) (f_X4_maskBy (381, I, J, R) r (iI n)) := by
  have hc := h.1
  have hb := hw.1
  unfold WB at hb
  have hc0 := hc
  obtain ⟨hq, kr0, kr1, kr2, kr3, kr4, kr5, kr6, kr7, lr1, lr2, lr3, lr4, lr5, lr7, hpg⟩ := hrg
  have hsc := cr_s hc
  obtain ⟨⟨e0, e1, e2, e3, e4, e5, e6, e7, ep, ed, hσ, hσi⟩, hpp, hgg⟩ := hc
  have s7 := hsc 7 (by decide)
  have s8 := hsc 8 (by decide)
  have s9 := hsc 9 (by decide)
  have s10 := hsc 10 (by decide)
  have s11 := hsc 11 (by decide)
  have s12 := hsc 12 (by decide)
  have s13 := hsc 13 (by decide)
  have s14 := hsc 14 (by decide)
  have s15 := hsc 15 (by decide)
  rw [u_X4_maskBy]
  unfold mskV
  by_cases h1 : n < 0
  · rw [if_pos h1]
    repeat ((first | (with_reducible first | refine w_ltA ?_ | refine w_ltS ?_ | refine w_ltM ?_ | refine w_ltN ?_ | refine w_lt ?_ | refine w_jn ?_ | refine w_ck (by omega) (by assumption) ?_ | refine w_gI (by omega) (by assumption) ?_ | refine w_gR (by omega) (by assumption) (by assumption) ?_ | refine w_al (by omega) (by assumption) (by assumption) ?_ | refine w_pI (by omega) (by assumption) ?_ | refine w_set (by omega) (by assumption) (by omega) (by omega) ?_ | refine w_at (by omega) (by assumption) (by omega) (by omega) ?_ | refine w_sI (by omega) (by assumption) (by omega) (by omega) ?_ | refine w_aI (by omega) (by assumption) (by omega) (by omega) ?_ | refine w_sZ (by omega) (by assumption) (by omega) (by omega) (by decide) ?_ | refine w_pZ (by omega) (by assumption) (by decide) ?_ | refine w_dv (by omega) (by omega) (by omega) (by omega) ?_ | refine w_rm (by omega) (by omega) (by omega) (by omega) ?_) | ((with_reducible refine w_pos ?_ ?_); focus (first | assumption | trivial | exact (ile (by omega) (by omega) (by omega) (by omega)).2 (by omega) | exact (ilt (by omega) (by omega) (by omega) (by omega)).2 (by omega) | exact (ieq (by omega) (by omega) (by omega) (by omega)).2 (by omega))) | ((with_reducible refine w_neg ?_ ?_); focus (first | assumption | exact not_false | trivial | exact mt (ile (by omega) (by omega) (by omega) (by omega)).1 (by omega) | exact mt (ilt (by omega) (by omega) (by omega) (by omega)).1 (by omega) | exact mt (ieq (by omega) (by omega) (by omega) (by omega)).1 (by omega)))); try simp (disch := omega) only [s14, up_eq])
    rw [rz0]
    exact w_some ⟨rfl, h.rs⟩
  rw [if_neg h1]
  by_cases h2 : 15 < n
  · rw [if_pos h2]
    repeat ((first | (with_reducible first | refine w_ltA ?_ | refine w_ltS ?_ | refine w_ltM ?_ | refine w_ltN ?_ | refine w_lt ?_ | refine w_jn ?_ | refine w_ck (by omega) (by assumption) ?_ | refine w_gI (by omega) (by assumption) ?_ | refine w_gR (by omega) (by assumption) (by assumption) ?_ | refine w_al (by omega) (by assumption) (by assumption) ?_ | refine w_pI (by omega) (by assumption) ?_ | refine w_set (by omega) (by assumption) (by omega) (by omega) ?_ | refine w_at (by omega) (by assumption) (by omega) (by omega) ?_ | refine w_sI (by omega) (by assumption) (by omega) (by omega) ?_ | refine w_aI (by omega) (by assumption) (by omega) (by omega) ?_ | refine w_sZ (by omega) (by assumption) (by omega) (by omega) (by decide) ?_ | refine w_pZ (by omega) (by assumption) (by decide) ?_ | refine w_dv (by omega) (by omega) (by omega) (by omega) ?_ | refine w_rm (by omega) (by omega) (by omega) (by omega) ?_) | ((with_reducible refine w_pos ?_ ?_); focus (first | assumption | trivial | exact (ile (by omega) (by omega) (by omega) (by omega)).2 (by omega) | exact (ilt (by omega) (by omega) (by omega) (by omega)).2 (by omega) | exact (ieq (by omega) (by omega) (by omega) (by omega)).2 (by omega))) | ((with_reducible refine w_neg ?_ ?_); focus (first | assumption | exact not_false | trivial | exact mt (ile (by omega) (by omega) (by omega) (by omega)).1 (by omega) | exact mt (ilt (by omega) (by omega) (by omega) (by omega)).1 (by omega) | exact mt (ieq (by omega) (by omega) (by omega) (by omega)).1 (by omega)))); try simp (disch := omega) only [s14, up_eq])
    rw [rz0]
    exact w_some ⟨rfl, h.rs⟩
  rw [if_neg h2]
  by_cases h3 : n = V.2 0 14
  · rw [if_pos h3]
    repeat ((first | (with_reducible first | refine w_ltA ?_ | refine w_ltS ?_ | refine w_ltM ?_ | refine w_ltN ?_ | refine w_lt ?_ | refine w_jn ?_ | refine w_ck (by omega) (by assumption) ?_ | refine w_gI (by omega) (by assumption) ?_ | refine w_gR (by omega) (by assumption) (by assumption) ?_ | refine w_al (by omega) (by assumption) (by assumption) ?_ | refine w_pI (by omega) (by assumption) ?_ | refine w_set (by omega) (by assumption) (by omega) (by omega) ?_ | refine w_at (by omega) (by assumption) (by omega) (by omega) ?_ | refine w_sI (by omega) (by assumption) (by omega) (by omega) ?_ | refine w_aI (by omega) (by assumption) (by omega) (by omega) ?_ | refine w_sZ (by omega) (by assumption) (by omega) (by omega) (by decide) ?_ | refine w_pZ (by omega) (by assumption) (by decide) ?_ | refine w_dv (by omega) (by omega) (by omega) (by omega) ?_ | refine w_rm (by omega) (by omega) (by omega) (by omega) ?_) | ((with_reducible refine w_pos ?_ ?_); focus (first | assumption | trivial | exact (ile (by omega) (by omega) (by omega) (by omega)).2 (by omega) | exact (ilt (by omega) (by omega) (by omega) (by omega)).2 (by omega) | exact (ieq (by omega) (by omega) (by omega) (by omega)).2 (by omega))) | ((with_reducible refine w_neg ?_ ?_); focus (first | assumption | exact not_false | trivial | exact mt (ile (by omega) (by omega) (by omega) (by omega)).1 (by omega) | exact mt (ilt (by omega) (by omega) (by omega) (by omega)).1 (by omega) | exact mt (ieq (by omega) (by omega) (by omega) (by omega)).1 (by omega)))); try simp (disch := omega) only [s14, up_eq])
    rw [rz0]
    exact w_some ⟨rfl, h.rs⟩
  · rw [if_neg h3]
    repeat ((first | (with_reducible first | refine w_ltA ?_ | refine w_ltS ?_ | refine w_ltM ?_ | refine w_ltN ?_ | refine w_lt ?_ | refine w_jn ?_ | refine w_ck (by omega) (by assumption) ?_ | refine w_gI (by omega) (by assumption) ?_ | refine w_gR (by omega) (by assumption) (by assumption) ?_ | refine w_al (by omega) (by assumption) (by assumption) ?_ | refine w_pI (by omega) (by assumption) ?_ | refine w_set (by omega) (by assumption) (by omega) (by omega) ?_ | refine w_at (by omega) (by assumption) (by omega) (by omega) ?_ | refine w_sI (by omega) (by assumption) (by omega) (by omega) ?_ | refine w_aI (by omega) (by assumption) (by omega) (by omega) ?_ | refine w_sZ (by omega) (by assumption) (by omega) (by omega) (by decide) ?_ | refine w_pZ (by omega) (by assumption) (by decide) ?_ | refine w_dv (by omega) (by omega) (by omega) (by omega) ?_ | refine w_rm (by omega) (by omega) (by omega) (by omega) ?_) | ((with_reducible refine w_pos ?_ ?_); focus (first | assumption | trivial | exact (ile (by omega) (by omega) (by omega) (by omega)).2 (by omega) | exact (ilt (by omega) (by omega) (by omega) (by omega)).2 (by omega) | exact (ieq (by omega) (by omega) (by omega) (by omega)).2 (by omega))) | ((with_reducible refine w_neg ?_ ?_); focus (first | assumption | exact not_false | trivial | exact mt (ile (by omega) (by omega) (by omega) (by omega)).1 (by omega) | exact mt (ilt (by omega) (by omega) (by omega) (by omega)).1 (by omega) | exact mt (ieq (by omega) (by omega) (by omega) (by omega)).1 (by omega)))); try simp (disch := omega) only [s14, up_eq])
    rw [rz1]
    exact w_some ⟨rfl, (cto_up0 h 14 _).rs⟩
theorem isIn_C (hrg : isRg r) (hc : CR I R r σ V) (hw : WR V) (hl1 : -2147483648 ≤ l) (hl2 : l < 2147483648) : f_X4_isInnermost (381, I, J, R) r (iI l) = some (if isIn V l then iI 1 else iI 0) := by
  rw [isInnermost_C hrg hc hw]
  have hi := inn_le hw
  unfold isIn
  congr 1
  by_cases h : 0 < V.2 0 15
  · rw [if_pos h]
    by_cases h2 : inn V = l
    · rw [if_pos (by rw [h2]), if_pos ⟨h, h2⟩]
    · rw [if_neg (mt (ieq (by omega) (by omega) (by omega) (by omega)).1 h2), if_neg (fun h' => h2 h'.2)]
  · rw [if_neg h, if_neg (fun h' => h h'.1)]
theorem put_C (hrg : isRg r) (h : CTo r σ I0 R0 I R V) (hw : WR V) (hl1 : -2147483648 ≤ l) (hl2 : l < 2147483648) (hn1 : -2147483648 ≤ m) (hn2 : m < 2147483648) : En (fun y => y.1 = iI (putV V l m).1 ∧ RS r J I0 R0 y.2 (putV V l m).2) (f_X4_putData (381, I, J, R) r (iI l) (iI m)) := by
  have hc := h.1
  have hb := hw.1
  unfold WB at hb
  have hii := isIn_C (J := J) hrg hc hw hl1 hl2
  have hc1 := hc
  have hrg1 := hrg
  have hc0 := hc
  obtain ⟨hq, kr0, kr1, kr2, kr3, kr4, kr5, kr6, kr7, lr1, lr2, lr3, lr4, lr5, lr7, hpg⟩ := hrg
  have hsc := cr_s hc
  obtain ⟨⟨e0, e1, e2, e3, e4, e5, e6, e7, ep, ed, hσ, hσi⟩, hpp, hgg⟩ := hc
  have s7 := hsc 7 (by decide)
  have s8 := hsc 8 (by decide)
  have s9 := hsc 9 (by decide)
  have s10 := hsc 10 (by decide)
  have s11 := hsc 11 (by decide)
  have s12 := hsc 12 (by decide)
  have s13 := hsc 13 (by decide)
  have s14 := hsc 14 (by decide)
  have s15 := hsc 15 (by decide)
  rw [u_X4_putData]
  unfold putV
  by_cases h1 : m < 0
  · rw [if_pos h1]
    repeat ((first | (with_reducible first | refine w_ltA ?_ | refine w_ltS ?_ | refine w_ltM ?_ | refine w_ltN ?_ | refine w_lt ?_ | refine w_jn ?_ | refine w_ck (by omega) (by assumption) ?_ | refine w_gI (by omega) (by assumption) ?_ | refine w_gR (by omega) (by assumption) (by assumption) ?_ | refine w_al (by omega) (by assumption) (by assumption) ?_ | refine w_pI (by omega) (by assumption) ?_ | refine w_set (by omega) (by assumption) (by omega) (by omega) ?_ | refine w_at (by omega) (by assumption) (by omega) (by omega) ?_ | refine w_sI (by omega) (by assumption) (by omega) (by omega) ?_ | refine w_aI (by omega) (by assumption) (by omega) (by omega) ?_ | refine w_sZ (by omega) (by assumption) (by omega) (by omega) (by decide) ?_ | refine w_pZ (by omega) (by assumption) (by decide) ?_ | refine w_dv (by omega) (by omega) (by omega) (by omega) ?_ | refine w_rm (by omega) (by omega) (by omega) (by omega) ?_) | ((with_reducible refine w_pos ?_ ?_); focus (first | assumption | trivial | exact (ile (by omega) (by omega) (by omega) (by omega)).2 (by omega) | exact (ilt (by omega) (by omega) (by omega) (by omega)).2 (by omega) | exact (ieq (by omega) (by omega) (by omega) (by omega)).2 (by omega))) | ((with_reducible refine w_neg ?_ ?_); focus (first | assumption | exact not_false | trivial | exact mt (ile (by omega) (by omega) (by omega) (by omega)).1 (by omega) | exact mt (ilt (by omega) (by omega) (by omega) (by omega)).1 (by omega) | exact mt (ieq (by omega) (by omega) (by omega) (by omega)).1 (by omega)))); try simp (disch := omega) only [s15])
    exact w_rt ⟨rfl, h.rs⟩
  rw [if_neg h1]
  by_cases h2 : 255 < m
  · rw [if_pos h2]
    repeat ((first | (with_reducible first | refine w_ltA ?_ | refine w_ltS ?_ | refine w_ltM ?_ | refine w_ltN ?_ | refine w_lt ?_ | refine w_jn ?_ | refine w_ck (by omega) (by assumption) ?_ | refine w_gI (by omega) (by assumption) ?_ | refine w_gR (by omega) (by assumption) (by assumption) ?_ | refine w_al (by omega) (by assumption) (by assumption) ?_ | refine w_pI (by omega) (by assumption) ?_ | refine w_set (by omega) (by assumption) (by omega) (by omega) ?_ | refine w_at (by omega) (by assumption) (by omega) (by omega) ?_ | refine w_sI (by omega) (by assumption) (by omega) (by omega) ?_ | refine w_aI (by omega) (by assumption) (by omega) (by omega) ?_ | refine w_sZ (by omega) (by assumption) (by omega) (by omega) (by decide) ?_ | refine w_pZ (by omega) (by assumption) (by decide) ?_ | refine w_dv (by omega) (by omega) (by omega) (by omega) ?_ | refine w_rm (by omega) (by omega) (by omega) (by omega) ?_) | ((with_reducible refine w_pos ?_ ?_); focus (first | assumption | trivial | exact (ile (by omega) (by omega) (by omega) (by omega)).2 (by omega) | exact (ilt (by omega) (by omega) (by omega) (by omega)).2 (by omega) | exact (ieq (by omega) (by omega) (by omega) (by omega)).2 (by omega))) | ((with_reducible refine w_neg ?_ ?_); focus (first | assumption | exact not_false | trivial | exact mt (ile (by omega) (by omega) (by omega) (by omega)).1 (by omega) | exact mt (ilt (by omega) (by omega) (by omega) (by omega)).1 (by omega) | exact mt (ieq (by omega) (by omega) (by omega) (by omega)).1 (by omega)))); try simp (disch := omega) only [s15])
    exact w_rt ⟨rfl, h.rs⟩
  rw [if_neg h2]
  by_cases h3 : isIn V l
  · rw [if_pos h3] at hii ⊢
    obtain ⟨i1, i2, i3, i4, i5, i6, i7, i8, i9, i10, i11, i12⟩ := hw.i h3.1
    have h15 := h3.1
    have hat := i11.at (i := (iIt V).toNat) (by omega)
    have hpa := pageAt_C (J := J) (p := iPl V) hrg1 hc1 i1 i2
    have q2 : I (r + 2) (V.2 0 15 - 1).toNat = iI (iPl V) := cr_o hc1 2 (by omega) _ i12
    have q3 : I (r + 3) (V.2 0 15 - 1).toNat = iI (iIt V) := cr_o hc1 3 (by omega) _ i12
    have q4 : I (r + 4) (V.2 0 15 - 1).toNat = iI (iPu V) := cr_o hc1 4 (by omega) _ i12
    have hP : CP I _ (iPg V) := hpp (iPl V).toNat (by omega)
    have c6 := hP.it i11 6 (by decide) (i := (iIt V).toNat) (by omega)
    have c7 := hP.it i11 7 (by decide) (i := (iIt V).toNat) (by omega)
    have hpg1 := hpg _ (hσ (iPl V).toNat (by omega))
    have hr1 := ed _ (hσ (iPl V).toNat (by omega))
    have hup := fun k v (hk : k < 32) => cto_pg h (show (iPl V).toNat < 7 by omega) (pto_up (pto_0 hP) 1 k v (by omega))
    repeat ((first | (with_reducible first | refine w_ltA ?_ | refine w_ltS ?_ | refine w_ltM ?_ | refine w_ltN ?_ | refine w_lt ?_ | refine w_jn ?_ | refine w_ck (by omega) (by assumption) ?_ | refine w_gI (by omega) (by assumption) ?_ | refine w_gR (by omega) (by assumption) (by assumption) ?_ | refine w_al (by omega) (by assumption) (by assumption) ?_ | refine w_pI (by omega) (by assumption) ?_ | refine w_set (by omega) (by assumption) (by omega) (by omega) ?_ | refine w_at (by omega) (by assumption) (by omega) (by omega) ?_ | refine w_sI (by omega) (by assumption) (by omega) (by omega) ?_ | refine w_aI (by omega) (by assumption) (by omega) (by omega) ?_ | refine w_sZ (by omega) (by assumption) (by omega) (by omega) (by decide) ?_ | refine w_pZ (by omega) (by assumption) (by decide) ?_ | refine w_dv (by omega) (by omega) (by omega) (by omega) ?_ | refine w_rm (by omega) (by omega) (by omega) (by omega) ?_) | ((with_reducible refine w_pos ?_ ?_); focus (first | assumption | trivial | exact (ile (by omega) (by omega) (by omega) (by omega)).2 (by omega) | exact (ilt (by omega) (by omega) (by omega) (by omega)).2 (by omega) | exact (ieq (by omega) (by omega) (by omega) (by omega)).2 (by omega))) | ((with_reducible refine w_neg ?_ ?_); focus (first | assumption | exact not_false | trivial | exact mt (ile (by omega) (by omega) (by omega) (by omega)).1 (by omega) | exact mt (ilt (by omega) (by omega) (by omega) (by omega)).1 (by omega) | exact mt (ieq (by omega) (by omega) (by omega) (by omega)).1 (by omega)))); try simp (disch := omega) only [s15])
    refine w_cP hii ?_
    repeat ((first | (with_reducible first | refine w_ltA ?_ | refine w_ltS ?_ | refine w_ltM ?_ | refine w_ltN ?_ | refine w_lt ?_ | refine w_jn ?_ | refine w_ck (by omega) (by assumption) ?_ | refine w_gI (by omega) (by assumption) ?_ | refine w_gR (by omega) (by assumption) (by assumption) ?_ | refine w_al (by omega) (by assumption) (by assumption) ?_ | refine w_pI (by omega) (by assumption) ?_ | refine w_set (by omega) (by assumption) (by omega) (by omega) ?_ | refine w_at (by omega) (by assumption) (by omega) (by omega) ?_ | refine w_sI (by omega) (by assumption) (by omega) (by omega) ?_ | refine w_aI (by omega) (by assumption) (by omega) (by omega) ?_ | refine w_sZ (by omega) (by assumption) (by omega) (by omega) (by decide) ?_ | refine w_pZ (by omega) (by assumption) (by decide) ?_ | refine w_dv (by omega) (by omega) (by omega) (by omega) ?_ | refine w_rm (by omega) (by omega) (by omega) (by omega) ?_) | ((with_reducible refine w_pos ?_ ?_); focus (first | assumption | trivial | exact (ile (by omega) (by omega) (by omega) (by omega)).2 (by omega) | exact (ilt (by omega) (by omega) (by omega) (by omega)).2 (by omega) | exact (ieq (by omega) (by omega) (by omega) (by omega)).2 (by omega))) | ((with_reducible refine w_neg ?_ ?_); focus (first | assumption | exact not_false | trivial | exact mt (ile (by omega) (by omega) (by omega) (by omega)).1 (by omega) | exact mt (ilt (by omega) (by omega) (by omega) (by omega)).1 (by omega) | exact mt (ieq (by omega) (by omega) (by omega) (by omega)).1 (by omega)))); try simp (disch := omega) only [s15, q2, q3, q4, c6, c7])
    refine w_cP hpa ?_
    have hpin := pa_in (r := r) (hσ (iPl V).toNat (by omega))
    generalize pa r (σ (iPl V).toNat) = q at *
    obtain ⟨hq9, k0, k1, k2, k3, k4, k5, k6, k7, k8, l1, l2, l3, l4, l5, l6, l7, l8⟩ := hpg1
    obtain ⟨r0, r1, r2, r3, r4, r5, r6, r7⟩ := hr1
    repeat ((first | (with_reducible first | refine w_ltA ?_ | refine w_ltS ?_ | refine w_ltM ?_ | refine w_ltN ?_ | refine w_lt ?_ | refine w_jn ?_ | refine w_ck (by omega) (by assumption) ?_ | refine w_gI (by omega) (by assumption) ?_ | refine w_gR (by omega) (by assumption) (by assumption) ?_ | refine w_al (by omega) (by assumption) (by assumption) ?_ | refine w_pI (by omega) (by assumption) ?_ | refine w_set (by omega) (by assumption) (by omega) (by omega) ?_ | refine w_at (by omega) (by assumption) (by omega) (by omega) ?_ | refine w_sI (by omega) (by assumption) (by omega) (by omega) ?_ | refine w_aI (by omega) (by assumption) (by omega) (by omega) ?_ | refine w_sZ (by omega) (by assumption) (by omega) (by omega) (by decide) ?_ | refine w_pZ (by omega) (by assumption) (by decide) ?_ | refine w_dv (by omega) (by omega) (by omega) (by omega) ?_ | refine w_rm (by omega) (by omega) (by omega) (by omega) ?_) | ((with_reducible refine w_pos ?_ ?_); focus (first | assumption | trivial | exact (ile (by omega) (by omega) (by omega) (by omega)).2 (by omega) | exact (ilt (by omega) (by omega) (by omega) (by omega)).2 (by omega) | exact (ieq (by omega) (by omega) (by omega) (by omega)).2 (by omega))) | ((with_reducible refine w_neg ?_ ?_); focus (first | assumption | exact not_false | trivial | exact mt (ile (by omega) (by omega) (by omega) (by omega)).1 (by omega) | exact mt (ilt (by omega) (by omega) (by omega) (by omega)).1 (by omega) | exact mt (ieq (by omega) (by omega) (by omega) (by omega)).1 (by omega)))); try simp (disch := omega) only [s15, q2, q3, q4, c6, c7])
    by_cases h4 : 1 ≤ iPg V 7 (iIt V).toNat - iPu V
    · rw [if_pos h4]
      repeat ((first | (with_reducible first | refine w_ltA ?_ | refine w_ltS ?_ | refine w_ltM ?_ | refine w_ltN ?_ | refine w_lt ?_ | refine w_jn ?_ | refine w_ck (by omega) (by assumption) ?_ | refine w_gI (by omega) (by assumption) ?_ | refine w_gR (by omega) (by assumption) (by assumption) ?_ | refine w_al (by omega) (by assumption) (by assumption) ?_ | refine w_pI (by omega) (by assumption) ?_ | refine w_set (by omega) (by assumption) (by omega) (by omega) ?_ | refine w_at (by omega) (by assumption) (by omega) (by omega) ?_ | refine w_sI (by omega) (by assumption) (by omega) (by omega) ?_ | refine w_aI (by omega) (by assumption) (by omega) (by omega) ?_ | refine w_sZ (by omega) (by assumption) (by omega) (by omega) (by decide) ?_ | refine w_pZ (by omega) (by assumption) (by decide) ?_ | refine w_dv (by omega) (by omega) (by omega) (by omega) ?_ | refine w_rm (by omega) (by omega) (by omega) (by omega) ?_) | ((with_reducible refine w_pos ?_ ?_); focus (first | assumption | trivial | exact (ile (by omega) (by omega) (by omega) (by omega)).2 (by omega) | exact (ilt (by omega) (by omega) (by omega) (by omega)).2 (by omega) | exact (ieq (by omega) (by omega) (by omega) (by omega)).2 (by omega))) | ((with_reducible refine w_neg ?_ ?_); focus (first | assumption | exact not_false | trivial | exact mt (ile (by omega) (by omega) (by omega) (by omega)).1 (by omega) | exact mt (ilt (by omega) (by omega) (by omega) (by omega)).1 (by omega) | exact mt (ieq (by omega) (by omega) (by omega) (by omega)).1 (by omega)))); try simp (disch := omega) only [s15, q2, q3, q4, c6, c7])
      refine w_rt ⟨rfl, ?_⟩
      exact (cto_up (hup _ _ (by omega)) 4 _ _ (by omega)).rs
    · rw [if_neg h4]
      repeat ((first | (with_reducible first | refine w_ltA ?_ | refine w_ltS ?_ | refine w_ltM ?_ | refine w_ltN ?_ | refine w_lt ?_ | refine w_jn ?_ | refine w_ck (by omega) (by assumption) ?_ | refine w_gI (by omega) (by assumption) ?_ | refine w_gR (by omega) (by assumption) (by assumption) ?_ | refine w_al (by omega) (by assumption) (by assumption) ?_ | refine w_pI (by omega) (by assumption) ?_ | refine w_set (by omega) (by assumption) (by omega) (by omega) ?_ | refine w_at (by omega) (by assumption) (by omega) (by omega) ?_ | refine w_sI (by omega) (by assumption) (by omega) (by omega) ?_ | refine w_aI (by omega) (by assumption) (by omega) (by omega) ?_ | refine w_sZ (by omega) (by assumption) (by omega) (by omega) (by decide) ?_ | refine w_pZ (by omega) (by assumption) (by decide) ?_ | refine w_dv (by omega) (by omega) (by omega) (by omega) ?_ | refine w_rm (by omega) (by omega) (by omega) (by omega) ?_) | ((with_reducible refine w_pos ?_ ?_); focus (first | assumption | trivial | exact (ile (by omega) (by omega) (by omega) (by omega)).2 (by omega) | exact (ilt (by omega) (by omega) (by omega) (by omega)).2 (by omega) | exact (ieq (by omega) (by omega) (by omega) (by omega)).2 (by omega))) | ((with_reducible refine w_neg ?_ ?_); focus (first | assumption | exact not_false | trivial | exact mt (ile (by omega) (by omega) (by omega) (by omega)).1 (by omega) | exact mt (ilt (by omega) (by omega) (by omega) (by omega)).1 (by omega) | exact mt (ieq (by omega) (by omega) (by omega) (by omega)).1 (by omega)))); try simp (disch := omega) only [s15, q2, q3, q4, c6, c7])
      exact w_rt ⟨rfl, h.rs⟩
  · rw [if_neg h3] at hii ⊢
    repeat ((first | (with_reducible first | refine w_ltA ?_ | refine w_ltS ?_ | refine w_ltM ?_ | refine w_ltN ?_ | refine w_lt ?_ | refine w_jn ?_ | refine w_ck (by omega) (by assumption) ?_ | refine w_gI (by omega) (by assumption) ?_ | refine w_gR (by omega) (by assumption) (by assumption) ?_ | refine w_al (by omega) (by assumption) (by assumption) ?_ | refine w_pI (by omega) (by assumption) ?_ | refine w_set (by omega) (by assumption) (by omega) (by omega) ?_ | refine w_at (by omega) (by assumption) (by omega) (by omega) ?_ | refine w_sI (by omega) (by assumption) (by omega) (by omega) ?_ | refine w_aI (by omega) (by assumption) (by omega) (by omega) ?_ | refine w_sZ (by omega) (by assumption) (by omega) (by omega) (by decide) ?_ | refine w_pZ (by omega) (by assumption) (by decide) ?_ | refine w_dv (by omega) (by omega) (by omega) (by omega) ?_ | refine w_rm (by omega) (by omega) (by omega) (by omega) ?_) | ((with_reducible refine w_pos ?_ ?_); focus (first | assumption | trivial | exact (ile (by omega) (by omega) (by omega) (by omega)).2 (by omega) | exact (ilt (by omega) (by omega) (by omega) (by omega)).2 (by omega) | exact (ieq (by omega) (by omega) (by omega) (by omega)).2 (by omega))) | ((with_reducible refine w_neg ?_ ?_); focus (first | assumption | exact not_false | trivial | exact mt (ile (by omega) (by omega) (by omega) (by omega)).1 (by omega) | exact mt (ilt (by omega) (by omega) (by omega) (by omega)).1 (by omega) | exact mt (ieq (by omega) (by omega) (by omega) (by omega)).1 (by omega)))); try simp (disch := omega) only [s15, q2, q3, q4, c6, c7])
    refine w_cP hii ?_
    repeat ((first | (with_reducible first | refine w_ltA ?_ | refine w_ltS ?_ | refine w_ltM ?_ | refine w_ltN ?_ | refine w_lt ?_ | refine w_jn ?_ | refine w_ck (by omega) (by assumption) ?_ | refine w_gI (by omega) (by assumption) ?_ | refine w_gR (by omega) (by assumption) (by assumption) ?_ | refine w_al (by omega) (by assumption) (by assumption) ?_ | refine w_pI (by omega) (by assumption) ?_ | refine w_set (by omega) (by assumption) (by omega) (by omega) ?_ | refine w_at (by omega) (by assumption) (by omega) (by omega) ?_ | refine w_sI (by omega) (by assumption) (by omega) (by omega) ?_ | refine w_aI (by omega) (by assumption) (by omega) (by omega) ?_ | refine w_sZ (by omega) (by assumption) (by omega) (by omega) (by decide) ?_ | refine w_pZ (by omega) (by assumption) (by decide) ?_ | refine w_dv (by omega) (by omega) (by omega) (by omega) ?_ | refine w_rm (by omega) (by omega) (by omega) (by omega) ?_) | ((with_reducible refine w_pos ?_ ?_); focus (first | assumption | trivial | exact (ile (by omega) (by omega) (by omega) (by omega)).2 (by omega) | exact (ilt (by omega) (by omega) (by omega) (by omega)).2 (by omega) | exact (ieq (by omega) (by omega) (by omega) (by omega)).2 (by omega))) | ((with_reducible refine w_neg ?_ ?_); focus (first | assumption | exact not_false | trivial | exact mt (ile (by omega) (by omega) (by omega) (by omega)).1 (by omega) | exact mt (ilt (by omega) (by omega) (by omega) (by omega)).1 (by omega) | exact mt (ieq (by omega) (by omega) (by omega) (by omega)).1 (by omega)))); try simp (disch := omega) only [s15, q2, q3, q4, c6, c7])
    exact w_rt ⟨rfl, h.rs⟩
end RGF
