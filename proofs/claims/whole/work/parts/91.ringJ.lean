/-! RINGS: the class's begin and copy -/
def pgsV (V : RV) (n : Nat) (f : Nat → PV) : RV := (fun p => if p < n then f p else V.1 p, V.2)
def grpV (V : RV) (g : Nat) (f : Nat → Int) : RV := (V.1, fun g' k => if g' = g then f k else V.2 g' k)
def begV (V : RV) (n c o : Int) : RV :=
  (fun p => if p < 7 then clP (V.1 p) else V.1 p,
   fun g k => if g = 5 then (if k = 17 then -1 else 0) else if g = 6 then 0 else if g = 0 then
     (if k = 8 then n else if k = 9 then c else if k = 10 then o else if k = 13 then 1 else if k = 14 then 15 else 0) else V.2 g k)
theorem wr_beg {V : RV} {n c o : Int} (hg : ∀ p, p < 7 → ∀ i, i < 16 → V.1 p 8 i = 0 ∨ V.1 p 8 i = 1) (hn : 2 ≤ n ∧ n ≤ 6) (hc : 12 ≤ c ∧ c ≤ 32) (ho : o = 0 ∨ o = 1) : WR (begV V n c o) := by
  have e1 : ∀ p, p < 7 → (begV V n c o).1 p = clP (V.1 p) := fun p hp => if_pos hp
  have e8 : (begV V n c o).2 0 8 = n := rfl
  have e9 : (begV V n c o).2 0 9 = c := rfl
  have e10 : (begV V n c o).2 0 10 = o := rfl
  have e11 : (begV V n c o).2 0 11 = 0 := rfl
  have e12 : (begV V n c o).2 0 12 = 0 := rfl
  have e13 : (begV V n c o).2 0 13 = 1 := rfl
  have e14 : (begV V n c o).2 0 14 = 15 := rfl
  have e15 : (begV V n c o).2 0 15 = 0 := rfl
  have e7 : (begV V n c o).2 0 7 = 0 := rfl
  have e64 : (begV V n c o).2 6 4 = 0 := rfl
  have f16 : (begV V n c o).2 5 16 = 0 := rfl
  have f18 : (begV V n c o).2 5 18 = 0 := rfl
  have f19 : (begV V n c o).2 5 19 = 0 := rfl
  have hcl : ∀ P : PV, EP (clP P) := fun P => ep_cl
  have hwp : ∀ P : PV, (∀ i, i < 16 → P 8 i = 0 ∨ P 8 i = 1) → WP c 0 (clP P) := fun P hP => by
    have hx := hcl P
    unfold EP at hx
    obtain ⟨x1, x2, x3, x4⟩ := hx
    refine ⟨by omega, by omega, by omega, by rw [x1, x2, if_pos rfl], fun j hj => by rw [x4 j hj]; omega, fun i hi => by omega, fun i hi => by omega, fun i hi => ?_⟩
    have : clP P 8 i = P 8 i := by
      unfold clP
      rw [upv_ne (by omega), upv_ne (by omega), upv_ne (by omega), zrv_ne (by omega)]
    rw [this]
    exact hP i hi
  refine ⟨?_, fun p hp => ?_, fun p hp hd => ?_, fun k hk => ?_, fun k k' hk hk' => ?_⟩
  · have := (hcl (V.1 6)).1
    unfold WB
    rw [e7, e8, e9, e10, e11, e12, e13, e14, e15, e64, f16, f18, f19, e1 6 (by omega), this]
    omega
  · rw [e1 p hp, e9, e11]
    exact hwp _ (hg p hp)
  · rw [e1 p (by omega)]
    exact hcl _
  · rw [e15] at hk
    omega
  · rw [e15] at hk'
    omega
section RGK
variable {I I0 : MI} {J : MJ} {R R0 : MR} {r : Nat} {σ : Nat → Nat} {γ : Type} {Q : γ → Prop} {x : Int32} {i t l n m f c o : Int} {V : RV}
theorem begin_C (hrg : isRg r) (h : CTo r σ I0 R0 I R V) (ho : o = 0 ∨ o = 1) : En (fun y => ∃ I', y = (381, I', J, R) ∧ CTo r σ I0 R0 I' R (begV V n c o)) (f_X4_begin (381, I, J, R) r (iI n) (iI c) (iI o)) := by
  have hc := h.1
  have hrg1 := hrg
  obtain ⟨hq, kr0, kr1, kr2, kr3, kr4, kr5, kr6, kr7, lr1, lr2, lr3, lr4, lr5, lr7, hpg⟩ := hrg
  obtain ⟨⟨e0, e1, e2, e3, e4, e5, e6, e7, ep, ed, hσ, hσi⟩, hpp, hgg⟩ := hc
  have ho' : iI o = 0 ∨ iI o = 1 := by
    rcases ho with h | h
    · exact Or.inl (by rw [h]; rfl)
    · exact Or.inr (by rw [h]; rfl)
  rw [u_X4_begin]
  refine w_lp 6 (fun j y => j ≤ 6 ∧ ∃ I', y = (iI j, (381, I', J, R)) ∧ CTo r σ I0 R0 I' R (pgsV V j fun p => clP (V.1 p))) ⟨by omega, I, rfl, ?_⟩ (by rw [FU_eq]; omega) (fun i y h => h.1) ?_
  · exact cto_congr h (fun _ _ _ _ _ => rfl) (fun _ _ _ => rfl)
  rintro j y self ⟨hj, I', rfl, g⟩ ih
  try dsimp only
  by_cases hn : j < 6
  · have hpa := pageAt_C (J := J) (p := j) hrg1 g.1 (by omega) (by omega)
    have hP := g.1.2.1 j (by omega)
    have hpg1 := hpg _ (hσ j (by omega))
    have hr1 := ed _ (hσ j (by omega))
    have hkq := hpg1.2.1
    have hq9 := hpg1.1
    rw [Int.toNat_natCast] at hpa
    repeat ((first | (with_reducible first | refine w_ltA ?_ | refine w_ltS ?_ | refine w_ltM ?_ | refine w_ltN ?_ | refine w_lt ?_ | refine w_jn ?_ | refine w_ck (by omega) (by assumption) ?_ | refine w_gI (by omega) (by assumption) ?_ | refine w_gR (by omega) (by assumption) (by assumption) ?_ | refine w_al (by omega) (by assumption) (by assumption) ?_ | refine w_pI (by omega) (by assumption) ?_ | refine w_set (by omega) (by assumption) (by omega) (by omega) ?_ | refine w_at (by omega) (by assumption) (by omega) (by omega) ?_ | refine w_sI (by omega) (by assumption) (by omega) (by omega) ?_ | refine w_aI (by omega) (by assumption) (by omega) (by omega) ?_ | refine w_sZ (by omega) (by assumption) (by omega) (by omega) (by decide) ?_ | refine w_pZ (by omega) (by assumption) (by decide) ?_ | refine w_dv (by omega) (by omega) (by omega) (by omega) ?_ | refine w_rm (by omega) (by omega) (by omega) (by omega) ?_) | ((with_reducible refine w_pos ?_ ?_); focus (first | assumption | trivial | exact (ile (by omega) (by omega) (by omega) (by omega)).2 (by omega) | exact (ilt (by omega) (by omega) (by omega) (by omega)).2 (by omega) | exact (ieq (by omega) (by omega) (by omega) (by omega)).2 (by omega))) | ((with_reducible refine w_neg ?_ ?_); focus (first | assumption | exact not_false | trivial | exact mt (ile (by omega) (by omega) (by omega) (by omega)).1 (by omega) | exact mt (ilt (by omega) (by omega) (by omega) (by omega)).1 (by omega) | exact mt (ieq (by omega) (by omega) (by omega) (by omega)).1 (by omega)))); skip)
    refine w_cP hpa ?_
    repeat ((first | (with_reducible first | refine w_ltA ?_ | refine w_ltS ?_ | refine w_ltM ?_ | refine w_ltN ?_ | refine w_lt ?_ | refine w_jn ?_ | refine w_ck (by omega) (by assumption) ?_ | refine w_gI (by omega) (by assumption) ?_ | refine w_gR (by omega) (by assumption) (by assumption) ?_ | refine w_al (by omega) (by assumption) (by assumption) ?_ | refine w_pI (by omega) (by assumption) ?_ | refine w_set (by omega) (by assumption) (by omega) (by omega) ?_ | refine w_at (by omega) (by assumption) (by omega) (by omega) ?_ | refine w_sI (by omega) (by assumption) (by omega) (by omega) ?_ | refine w_aI (by omega) (by assumption) (by omega) (by omega) ?_ | refine w_sZ (by omega) (by assumption) (by omega) (by omega) (by decide) ?_ | refine w_pZ (by omega) (by assumption) (by decide) ?_ | refine w_dv (by omega) (by omega) (by omega) (by omega) ?_ | refine w_rm (by omega) (by omega) (by omega) (by omega) ?_) | ((with_reducible refine w_pos ?_ ?_); focus (first | assumption | trivial | exact (ile (by omega) (by omega) (by omega) (by omega)).2 (by omega) | exact (ilt (by omega) (by omega) (by omega) (by omega)).2 (by omega) | exact (ieq (by omega) (by omega) (by omega) (by omega)).2 (by omega))) | ((with_reducible refine w_neg ?_ ?_); focus (first | assumption | exact not_false | trivial | exact mt (ile (by omega) (by omega) (by omega) (by omega)).1 (by omega) | exact mt (ilt (by omega) (by omega) (by omega) (by omega)).1 (by omega) | exact mt (ieq (by omega) (by omega) (by omega) (by omega)).1 (by omega)))); skip)
    refine w_cV (pclear_C (J := J) hpg1 hr1 hP) ?_
    rintro S ⟨I2, rfl, h2⟩
    have g2 := cto_pg g (by omega) h2
    repeat ((first | (with_reducible first | refine w_ltA ?_ | refine w_ltS ?_ | refine w_ltM ?_ | refine w_ltN ?_ | refine w_lt ?_ | refine w_jn ?_ | refine w_ck (by omega) (by assumption) ?_ | refine w_gI (by omega) (by assumption) ?_ | refine w_gR (by omega) (by assumption) (by assumption) ?_ | refine w_al (by omega) (by assumption) (by assumption) ?_ | refine w_pI (by omega) (by assumption) ?_ | refine w_set (by omega) (by assumption) (by omega) (by omega) ?_ | refine w_at (by omega) (by assumption) (by omega) (by omega) ?_ | refine w_sI (by omega) (by assumption) (by omega) (by omega) ?_ | refine w_aI (by omega) (by assumption) (by omega) (by omega) ?_ | refine w_sZ (by omega) (by assumption) (by omega) (by omega) (by decide) ?_ | refine w_pZ (by omega) (by assumption) (by decide) ?_ | refine w_dv (by omega) (by omega) (by omega) (by omega) ?_ | refine w_rm (by omega) (by omega) (by omega) (by omega) ?_) | ((with_reducible refine w_pos ?_ ?_); focus (first | assumption | trivial | exact (ile (by omega) (by omega) (by omega) (by omega)).2 (by omega) | exact (ilt (by omega) (by omega) (by omega) (by omega)).2 (by omega) | exact (ieq (by omega) (by omega) (by omega) (by omega)).2 (by omega))) | ((with_reducible refine w_neg ?_ ?_); focus (first | assumption | exact not_false | trivial | exact mt (ile (by omega) (by omega) (by omega) (by omega)).1 (by omega) | exact mt (ilt (by omega) (by omega) (by omega) (by omega)).1 (by omega) | exact mt (ieq (by omega) (by omega) (by omega) (by omega)).1 (by omega)))); skip)
    refine ih _ ⟨by omega, I2, ?_, cto_congr g2 (fun p hp f k _ => ?_) (fun _ _ _ => rfl)⟩
    · have : (j : Int) + 1 = ((j + 1 : Nat) : Int) := by omega
      rw [this]
    · show (if p < j + 1 then clP (V.1 p) else V.1 p) f k = (if p = j then clP (if j < j then clP (V.1 j) else V.1 j) else if p < j then clP (V.1 p) else V.1 p) f k
      by_cases c1 : p = j
      · rw [if_pos c1, if_pos (by omega), if_neg (by omega), c1]
      · rw [if_neg c1]
        by_cases c2 : p < j
        · rw [if_pos c2, if_pos (by omega)]
        · rw [if_neg c2, if_neg (by omega)]
  · have ej : j = 6 := by omega
    subst ej
    repeat ((first | (with_reducible first | refine w_ltA ?_ | refine w_ltS ?_ | refine w_ltM ?_ | refine w_ltN ?_ | refine w_lt ?_ | refine w_jn ?_ | refine w_ck (by omega) (by assumption) ?_ | refine w_gI (by omega) (by assumption) ?_ | refine w_gR (by omega) (by assumption) (by assumption) ?_ | refine w_al (by omega) (by assumption) (by assumption) ?_ | refine w_pI (by omega) (by assumption) ?_ | refine w_set (by omega) (by assumption) (by omega) (by omega) ?_ | refine w_at (by omega) (by assumption) (by omega) (by omega) ?_ | refine w_sI (by omega) (by assumption) (by omega) (by omega) ?_ | refine w_aI (by omega) (by assumption) (by omega) (by omega) ?_ | refine w_sZ (by omega) (by assumption) (by omega) (by omega) (by decide) ?_ | refine w_pZ (by omega) (by assumption) (by decide) ?_ | refine w_dv (by omega) (by omega) (by omega) (by omega) ?_ | refine w_rm (by omega) (by omega) (by omega) (by omega) ?_) | ((with_reducible refine w_pos ?_ ?_); focus (first | assumption | trivial | exact (ile (by omega) (by omega) (by omega) (by omega)).2 (by omega) | exact (ilt (by omega) (by omega) (by omega) (by omega)).2 (by omega) | exact (ieq (by omega) (by omega) (by omega) (by omega)).2 (by omega))) | ((with_reducible refine w_neg ?_ ?_); focus (first | assumption | exact not_false | trivial | exact mt (ile (by omega) (by omega) (by omega) (by omega)).1 (by omega) | exact mt (ilt (by omega) (by omega) (by omega) (by omega)).1 (by omega) | exact mt (ieq (by omega) (by omega) (by omega) (by omega)).1 (by omega)))); skip)
    refine w_lp 34 (fun j y => j ≤ 34 ∧ ∃ I', y = (iI j, (381, I', J, R)) ∧ CTo r σ I0 R0 I' R (grpV (pgsV V 6 fun p => clP (V.1 p)) 5 fun k => if k < j then 0 else V.2 5 k)) ⟨by omega, I', rfl, ?_⟩ (by rw [FU_eq]; omega) (fun i y h => h.1) ?_
    · refine cto_congr g (fun _ _ _ _ _ => rfl) (fun g k _ => ?_)
      show (if g = 5 then (if k < 0 then 0 else V.2 5 k) else V.2 g k) = V.2 g k
      split
      · next hx => rw [if_neg (by omega), hx]
      · rfl
    rintro j2 y self2 ⟨hj2, I2, rfl, g2⟩ ih2
    try dsimp only
    by_cases hn2 : j2 < 34
    · repeat ((first | (with_reducible first | refine w_ltA ?_ | refine w_ltS ?_ | refine w_ltM ?_ | refine w_ltN ?_ | refine w_lt ?_ | refine w_jn ?_ | refine w_ck (by omega) (by assumption) ?_ | refine w_gI (by omega) (by assumption) ?_ | refine w_gR (by omega) (by assumption) (by assumption) ?_ | refine w_al (by omega) (by assumption) (by assumption) ?_ | refine w_pI (by omega) (by assumption) ?_ | refine w_set (by omega) (by assumption) (by omega) (by omega) ?_ | refine w_at (by omega) (by assumption) (by omega) (by omega) ?_ | refine w_sI (by omega) (by assumption) (by omega) (by omega) ?_ | refine w_aI (by omega) (by assumption) (by omega) (by omega) ?_ | refine w_sZ (by omega) (by assumption) (by omega) (by omega) (by decide) ?_ | refine w_pZ (by omega) (by assumption) (by decide) ?_ | refine w_dv (by omega) (by omega) (by omega) (by omega) ?_ | refine w_rm (by omega) (by omega) (by omega) (by omega) ?_) | ((with_reducible refine w_pos ?_ ?_); focus (first | assumption | trivial | exact (ile (by omega) (by omega) (by omega) (by omega)).2 (by omega) | exact (ilt (by omega) (by omega) (by omega) (by omega)).2 (by omega) | exact (ieq (by omega) (by omega) (by omega) (by omega)).2 (by omega))) | ((with_reducible refine w_neg ?_ ?_); focus (first | assumption | exact not_false | trivial | exact mt (ile (by omega) (by omega) (by omega) (by omega)).1 (by omega) | exact mt (ilt (by omega) (by omega) (by omega) (by omega)).1 (by omega) | exact mt (ieq (by omega) (by omega) (by omega) (by omega)).1 (by omega)))); skip)
      refine ih2 _ ⟨by omega, _, ?_, cto_congr (cto_up g2 5 j2 0 (by omega)) (fun _ _ _ _ _ => rfl) (fun g k _ => ?_)⟩
      · have : (j2 : Int) + 1 = ((j2 + 1 : Nat) : Int) := by omega
        rw [this, Int.toNat_natCast]
      · show (if g = 5 then (if k < j2 + 1 then 0 else V.2 5 k) else V.2 g k) = if g = 5 ∧ k = j2 then 0 else if g = 5 then (if k < j2 then 0 else V.2 5 k) else V.2 g k
        by_cases c1 : g = 5
        · rw [if_pos c1, if_pos c1]
          by_cases c2 : k = j2
          · rw [if_pos (by omega), if_pos ⟨c1, c2⟩]
          · rw [if_neg (by omega : ¬ (g = 5 ∧ k = j2))]
            by_cases c3 : k < j2
            · rw [if_pos c3, if_pos (by omega)]
            · rw [if_neg c3, if_neg (by omega)]
        · rw [if_neg c1, if_neg (by omega), if_neg c1]
    · have hpg6 := hpg _ (hσ 6 (by omega))
      have hr6 := ed _ (hσ 6 (by omega))
      have hk6 := hpg6.2.1
      have hq6 := hpg6.1
      have g3 := cto_up g2 5 17 (-1) (by omega)
      repeat ((first | (with_reducible first | refine w_ltA ?_ | refine w_ltS ?_ | refine w_ltM ?_ | refine w_ltN ?_ | refine w_lt ?_ | refine w_jn ?_ | refine w_ck (by omega) (by assumption) ?_ | refine w_gI (by omega) (by assumption) ?_ | refine w_gR (by omega) (by assumption) (by assumption) ?_ | refine w_al (by omega) (by assumption) (by assumption) ?_ | refine w_pI (by omega) (by assumption) ?_ | refine w_set (by omega) (by assumption) (by omega) (by omega) ?_ | refine w_at (by omega) (by assumption) (by omega) (by omega) ?_ | refine w_sI (by omega) (by assumption) (by omega) (by omega) ?_ | refine w_aI (by omega) (by assumption) (by omega) (by omega) ?_ | refine w_sZ (by omega) (by assumption) (by omega) (by omega) (by decide) ?_ | refine w_pZ (by omega) (by assumption) (by decide) ?_ | refine w_dv (by omega) (by omega) (by omega) (by omega) ?_ | refine w_rm (by omega) (by omega) (by omega) (by omega) ?_) | ((with_reducible refine w_pos ?_ ?_); focus (first | assumption | trivial | exact (ile (by omega) (by omega) (by omega) (by omega)).2 (by omega) | exact (ilt (by omega) (by omega) (by omega) (by omega)).2 (by omega) | exact (ieq (by omega) (by omega) (by omega) (by omega)).2 (by omega))) | ((with_reducible refine w_neg ?_ ?_); focus (first | assumption | exact not_false | trivial | exact mt (ile (by omega) (by omega) (by omega) (by omega)).1 (by omega) | exact mt (ilt (by omega) (by omega) (by omega) (by omega)).1 (by omega) | exact mt (ieq (by omega) (by omega) (by omega) (by omega)).1 (by omega)))); skip)
      refine w_cV (pclear_C (J := J) hpg6 hr6 (g3.1.2.1 6 (by omega))) ?_
      rintro S ⟨I4, rfl, h4⟩
      have g4 := cto_pg g3 (by omega) h4
      repeat ((first | (with_reducible first | refine w_ltA ?_ | refine w_ltS ?_ | refine w_ltM ?_ | refine w_ltN ?_ | refine w_lt ?_ | refine w_jn ?_ | refine w_ck (by omega) (by assumption) ?_ | refine w_gI (by omega) (by assumption) ?_ | refine w_gR (by omega) (by assumption) (by assumption) ?_ | refine w_al (by omega) (by assumption) (by assumption) ?_ | refine w_pI (by omega) (by assumption) ?_ | refine w_set (by omega) (by assumption) (by omega) (by omega) ?_ | refine w_at (by omega) (by assumption) (by omega) (by omega) ?_ | refine w_sI (by omega) (by assumption) (by omega) (by omega) ?_ | refine w_aI (by omega) (by assumption) (by omega) (by omega) ?_ | refine w_sZ (by omega) (by assumption) (by omega) (by omega) (by decide) ?_ | refine w_pZ (by omega) (by assumption) (by decide) ?_ | refine w_dv (by omega) (by omega) (by omega) (by omega) ?_ | refine w_rm (by omega) (by omega) (by omega) (by omega) ?_) | ((with_reducible refine w_pos ?_ ?_); focus (first | assumption | trivial | exact (ile (by omega) (by omega) (by omega) (by omega)).2 (by omega) | exact (ilt (by omega) (by omega) (by omega) (by omega)).2 (by omega) | exact (ieq (by omega) (by omega) (by omega) (by omega)).2 (by omega))) | ((with_reducible refine w_neg ?_ ?_); focus (first | assumption | exact not_false | trivial | exact mt (ile (by omega) (by omega) (by omega) (by omega)).1 (by omega) | exact mt (ilt (by omega) (by omega) (by omega) (by omega)).1 (by omega) | exact mt (ieq (by omega) (by omega) (by omega) (by omega)).1 (by omega)))); skip)
      have g5 := cto_up (cto_up (cto_up (cto_up (cto_up g4 6 1 0 (by omega)) 6 2 0 (by omega)) 6 3 0 (by omega)) 6 4 0 (by omega)) 6 5 0 (by omega)
      have el : f_X1_clear (381, I4, J, R) (r + 6) = some (381, up (up (up (up (up I4 (r + 6) 1 (iI 0)) (r + 6) 2 (iI 0)) (r + 6) 3 (iI 0)) (r + 6) 4 (iI 0)) (r + 6) 5 (iI 0), J, R) := by
        refine en_eq ?_
        rw [u_X1_clear]
        repeat ((first | (with_reducible first | refine w_ltA ?_ | refine w_ltS ?_ | refine w_ltM ?_ | refine w_ltN ?_ | refine w_lt ?_ | refine w_jn ?_ | refine w_ck (by omega) (by assumption) ?_ | refine w_gI (by omega) (by assumption) ?_ | refine w_gR (by omega) (by assumption) (by assumption) ?_ | refine w_al (by omega) (by assumption) (by assumption) ?_ | refine w_pI (by omega) (by assumption) ?_ | refine w_set (by omega) (by assumption) (by omega) (by omega) ?_ | refine w_at (by omega) (by assumption) (by omega) (by omega) ?_ | refine w_sI (by omega) (by assumption) (by omega) (by omega) ?_ | refine w_aI (by omega) (by assumption) (by omega) (by omega) ?_ | refine w_sZ (by omega) (by assumption) (by omega) (by omega) (by decide) ?_ | refine w_pZ (by omega) (by assumption) (by decide) ?_ | refine w_dv (by omega) (by omega) (by omega) (by omega) ?_ | refine w_rm (by omega) (by omega) (by omega) (by omega) ?_) | ((with_reducible refine w_pos ?_ ?_); focus (first | assumption | trivial | exact (ile (by omega) (by omega) (by omega) (by omega)).2 (by omega) | exact (ilt (by omega) (by omega) (by omega) (by omega)).2 (by omega) | exact (ieq (by omega) (by omega) (by omega) (by omega)).2 (by omega))) | ((with_reducible refine w_neg ?_ ?_); focus (first | assumption | exact not_false | trivial | exact mt (ile (by omega) (by omega) (by omega) (by omega)).1 (by omega) | exact mt (ilt (by omega) (by omega) (by omega) (by omega)).1 (by omega) | exact mt (ieq (by omega) (by omega) (by omega) (by omega)).1 (by omega)))); skip)
        exact w_rt rfl
      refine w_cV (Q' := fun S => S = _) ⟨_, el, rfl⟩ ?_
      rintro S rfl
      repeat (first | refine w_pZ (by omega) (by assumption) (by assumption) ?_ | ((first | (with_reducible first | refine w_ltA ?_ | refine w_ltS ?_ | refine w_ltM ?_ | refine w_ltN ?_ | refine w_lt ?_ | refine w_jn ?_ | refine w_ck (by omega) (by assumption) ?_ | refine w_gI (by omega) (by assumption) ?_ | refine w_gR (by omega) (by assumption) (by assumption) ?_ | refine w_al (by omega) (by assumption) (by assumption) ?_ | refine w_pI (by omega) (by assumption) ?_ | refine w_set (by omega) (by assumption) (by omega) (by omega) ?_ | refine w_at (by omega) (by assumption) (by omega) (by omega) ?_ | refine w_sI (by omega) (by assumption) (by omega) (by omega) ?_ | refine w_aI (by omega) (by assumption) (by omega) (by omega) ?_ | refine w_sZ (by omega) (by assumption) (by omega) (by omega) (by decide) ?_ | refine w_pZ (by omega) (by assumption) (by decide) ?_ | refine w_dv (by omega) (by omega) (by omega) (by omega) ?_ | refine w_rm (by omega) (by omega) (by omega) (by omega) ?_) | ((with_reducible refine w_pos ?_ ?_); focus (first | assumption | trivial | exact (ile (by omega) (by omega) (by omega) (by omega)).2 (by omega) | exact (ilt (by omega) (by omega) (by omega) (by omega)).2 (by omega) | exact (ieq (by omega) (by omega) (by omega) (by omega)).2 (by omega))) | ((with_reducible refine w_neg ?_ ?_); focus (first | assumption | exact not_false | trivial | exact mt (ile (by omega) (by omega) (by omega) (by omega)).1 (by omega) | exact mt (ilt (by omega) (by omega) (by omega) (by omega)).1 (by omega) | exact mt (ieq (by omega) (by omega) (by omega) (by omega)).1 (by omega)))); skip))
      have g6 := cto_up0 (cto_up0 (cto_up0 (cto_up0 (cto_up0 (cto_up0 (cto_up0 (cto_up0 (cto_up0 g5 7 0) 8 n) 9 c) 10 o) 11 0) 12 0) 13 1) 14 15) 15 0
      refine w_rt ⟨_, rfl, cto_congr g6 (fun p hp f k _ => ?_) (fun g k hv => ?_)⟩
      · show (if p < 7 then clP (V.1 p) else V.1 p) f k = (if p = 6 then clP (if 6 < 6 then clP (V.1 6) else V.1 6) else if p < 6 then clP (V.1 p) else V.1 p) f k
        by_cases c1 : p = 6
        · rw [if_pos c1, if_pos (by omega), if_neg (by omega), c1]
        · rw [if_neg c1, if_pos hp, if_pos (by omega)]
      · have hv7 := vldR_g hv
        show (if g = 5 then (if k = 17 then -1 else 0) else if g = 6 then 0 else if g = 0 then _ else V.2 g k) = if g = 0 ∧ k = 15 then 0 else if g = 0 ∧ k = 14 then 15 else if g = 0 ∧ k = 13 then 1 else if g = 0 ∧ k = 12 then 0 else if g = 0 ∧ k = 11 then 0 else if g = 0 ∧ k = 10 then o else if g = 0 ∧ k = 9 then c else if g = 0 ∧ k = 8 then n else if g = 0 ∧ k = 7 then 0 else if g = 6 ∧ k = 5 then 0 else if g = 6 ∧ k = 4 then 0 else if g = 6 ∧ k = 3 then 0 else if g = 6 ∧ k = 2 then 0 else if g = 6 ∧ k = 1 then 0 else if g = 5 ∧ k = 17 then -1 else if g = 5 then (if k < j2 then 0 else V.2 5 k) else V.2 g k
        unfold vldR at hv
        by_cases c0 : g = 0
        · subst c0
          rw [if_pos rfl] at hv
          obtain ⟨h7, h15⟩ := hv
          rcases (show k = 7 ∨ k = 8 ∨ k = 9 ∨ k = 10 ∨ k = 11 ∨ k = 12 ∨ k = 13 ∨ k = 14 ∨ k = 15 by omega) with h | h | h | h | h | h | h | h | h <;> subst h <;> rfl
        rw [if_neg c0] at hv
        by_cases c5 : g = 5
        · subst c5
          rw [if_neg (by omega), if_pos rfl] at hv
          have : k < j2 := by omega
          by_cases c17 : k = 17
          · subst c17
            rfl
          · simp only [if_pos this, if_pos trivial, c17]
            simp
        by_cases c6 : g = 6
        · subst c6
          rw [if_neg (by omega), if_neg (by omega), if_pos rfl] at hv
          rcases (show k = 1 ∨ k = 2 ∨ k = 3 ∨ k = 4 ∨ k = 5 by omega) with h | h | h | h | h <;> subst h <;> rfl
        simp [c0, c5, c6]
theorem cto_row {a g n : Nat} {V' : RV} (h : CTo r σ I0 R0 I R V) (hg : g ≤ 7 ∧ g ≠ 1 ∧ g ≠ 0) (hn : ∀ k, vldR g k → k < n) (ha : ∀ k, k < n → I a k = iI (V'.2 g k)) : CTo r σ I0 R0 (cpI I a (r + g) n) R (grpV V g (V'.2 g)) := by
  obtain ⟨⟨h1, h2, h3⟩, h4, h5⟩ := h
  refine ⟨⟨h1, fun p hp f k' hv => ?_, fun g' k' hv => ?_⟩, fun b k' hb => ?_, h5⟩
  · have := pa_in (r := r) (h1.2.2.2.2.2.2.2.2.2.2.1 p hp)
    rw [cpI_ne (by omega)]
    exact h2 p hp f k' hv
  · show _ = iI (if g' = g then V'.2 g k' else V.2 g' k')
    by_cases he : g' = g
    · subst he
      rw [if_pos rfl, cpI_in (hn k' hv), ha k' (hn k' hv)]
    · rw [if_neg he, cpI_ne (by omega)]
      exact h3 g' k' hv
  · rw [cpI_ne (by omega)]
    exact h4 b k' hb
theorem copy_C {r' : Nat} {σ' : Nat → Nat} {V' : RV} (hrg : isRg r) (h : CR I R r σ V) (hrg' : isRg r') (h' : CR I R r' σ' V') (hw : WR V') (hd : r' + 70 < r ∨ r + 70 < r') : En (fun y => ∃ I', y = (381, I', J, R) ∧ CTo r σ I R I' R V') (f_X4_copyFrom (381, I, J, R) r r') := by
  have hb := hw.1
  unfold WB at hb
  have hrg1 := hrg
  have hrg1' := hrg'
  have hc1' := h'
  have hc := h
  obtain ⟨hq, kr0, kr1, kr2, kr3, kr4, kr5, kr6, kr7, lr1, lr2, lr3, lr4, lr5, lr7, hpg⟩ := hrg
  obtain ⟨hq', kr0', kr1', kr2', kr3', kr4', kr5', kr6', kr7', lr1', lr2', lr3', lr4', lr5', lr7', hpg'⟩ := hrg'
  obtain ⟨⟨e0, e1, e2, e3, e4, e5, e6, e7, ep, ed, hσ, hσi⟩, hpp, hgg⟩ := hc
  obtain ⟨⟨e0', e1', e2', e3', e4', e5', e6', e7', ep', ed', hσ', hσi'⟩, hpp', hgg'⟩ := h'
  have hsP : ∀ I2 V2, CTo r σ I R I2 R V2 → ∀ p, p < 7 → CP I2 (pa r' (σ' p)) (V'.1 p) := fun I2 V2 g p hp f k hv => by
    have := vld_f hv
    have := pa_in (r := r') (hσ' p hp)
    rw [g.2.1 _ _ (by omega)]
    exact hpp' p hp f k hv
  have hsG : ∀ I2 V2, CTo r σ I R I2 R V2 → ∀ g k, vldR g k → I2 (r' + g) k = iI (V'.2 g k) := fun I2 V2 g g' k hv => by
    have := vldR_g hv
    rw [g.2.1 _ _ (by omega)]
    exact hgg' g' k hv
  rw [u_X4_copyFrom]
  refine w_lp 6 (fun j y => j ≤ 6 ∧ ∃ I', y = (iI j, (381, I', J, R)) ∧ CTo r σ I R I' R (pgsV V j V'.1)) ⟨by omega, I, rfl, ?_⟩ (by rw [FU_eq]; omega) (fun i y h => h.1) ?_
  · exact cto_congr (cto_0 h) (fun _ _ _ _ _ => rfl) (fun _ _ _ => rfl)
  rintro j y self ⟨hj, I1, rfl, g⟩ ih
  try dsimp only
  have hcr' : CR I1 R r' σ' V' := ⟨⟨e0', e1', e2', e3', e4', e5', e6', e7', ep', ed', hσ', hσi'⟩, hsP _ _ g, hsG _ _ g⟩
  by_cases hn : j < 6
  · have hpa := pageAt_C (J := J) (p := j) hrg1 g.1 (by omega) (by omega)
    have hpa' := pageAt_C (J := J) (p := j) hrg1' hcr' (by omega) (by omega)
    have hpg1 := hpg _ (hσ j (by omega))
    have hkq := hpg1.2.1
    have hq9 := hpg1.1
    have i1 := pa_in (r := r') (hσ' j (by omega))
    have i2 := pa_in (r := r) (hσ j (by omega))
    rw [Int.toNat_natCast] at hpa hpa'
    repeat ((first | (with_reducible first | refine w_ltA ?_ | refine w_ltS ?_ | refine w_ltM ?_ | refine w_ltN ?_ | refine w_lt ?_ | refine w_jn ?_ | refine w_ck (by omega) (by assumption) ?_ | refine w_gI (by omega) (by assumption) ?_ | refine w_gR (by omega) (by assumption) (by assumption) ?_ | refine w_al (by omega) (by assumption) (by assumption) ?_ | refine w_pI (by omega) (by assumption) ?_ | refine w_set (by omega) (by assumption) (by omega) (by omega) ?_ | refine w_at (by omega) (by assumption) (by omega) (by omega) ?_ | refine w_sI (by omega) (by assumption) (by omega) (by omega) ?_ | refine w_aI (by omega) (by assumption) (by omega) (by omega) ?_ | refine w_sZ (by omega) (by assumption) (by omega) (by omega) (by decide) ?_ | refine w_pZ (by omega) (by assumption) (by decide) ?_ | refine w_dv (by omega) (by omega) (by omega) (by omega) ?_ | refine w_rm (by omega) (by omega) (by omega) (by omega) ?_) | ((with_reducible refine w_pos ?_ ?_); focus (first | assumption | trivial | exact (ile (by omega) (by omega) (by omega) (by omega)).2 (by omega) | exact (ilt (by omega) (by omega) (by omega) (by omega)).2 (by omega) | exact (ieq (by omega) (by omega) (by omega) (by omega)).2 (by omega))) | ((with_reducible refine w_neg ?_ ?_); focus (first | assumption | exact not_false | trivial | exact mt (ile (by omega) (by omega) (by omega) (by omega)).1 (by omega) | exact mt (ilt (by omega) (by omega) (by omega) (by omega)).1 (by omega) | exact mt (ieq (by omega) (by omega) (by omega) (by omega)).1 (by omega)))); skip)
    refine w_cP hpa ?_
    repeat ((first | (with_reducible first | refine w_ltA ?_ | refine w_ltS ?_ | refine w_ltM ?_ | refine w_ltN ?_ | refine w_lt ?_ | refine w_jn ?_ | refine w_ck (by omega) (by assumption) ?_ | refine w_gI (by omega) (by assumption) ?_ | refine w_gR (by omega) (by assumption) (by assumption) ?_ | refine w_al (by omega) (by assumption) (by assumption) ?_ | refine w_pI (by omega) (by assumption) ?_ | refine w_set (by omega) (by assumption) (by omega) (by omega) ?_ | refine w_at (by omega) (by assumption) (by omega) (by omega) ?_ | refine w_sI (by omega) (by assumption) (by omega) (by omega) ?_ | refine w_aI (by omega) (by assumption) (by omega) (by omega) ?_ | refine w_sZ (by omega) (by assumption) (by omega) (by omega) (by decide) ?_ | refine w_pZ (by omega) (by assumption) (by decide) ?_ | refine w_dv (by omega) (by omega) (by omega) (by omega) ?_ | refine w_rm (by omega) (by omega) (by omega) (by omega) ?_) | ((with_reducible refine w_pos ?_ ?_); focus (first | assumption | trivial | exact (ile (by omega) (by omega) (by omega) (by omega)).2 (by omega) | exact (ilt (by omega) (by omega) (by omega) (by omega)).2 (by omega) | exact (ieq (by omega) (by omega) (by omega) (by omega)).2 (by omega))) | ((with_reducible refine w_neg ?_ ?_); focus (first | assumption | exact not_false | trivial | exact mt (ile (by omega) (by omega) (by omega) (by omega)).1 (by omega) | exact mt (ilt (by omega) (by omega) (by omega) (by omega)).1 (by omega) | exact mt (ieq (by omega) (by omega) (by omega) (by omega)).1 (by omega)))); skip)
    refine w_cP hpa' ?_
    repeat ((first | (with_reducible first | refine w_ltA ?_ | refine w_ltS ?_ | refine w_ltM ?_ | refine w_ltN ?_ | refine w_lt ?_ | refine w_jn ?_ | refine w_ck (by omega) (by assumption) ?_ | refine w_gI (by omega) (by assumption) ?_ | refine w_gR (by omega) (by assumption) (by assumption) ?_ | refine w_al (by omega) (by assumption) (by assumption) ?_ | refine w_pI (by omega) (by assumption) ?_ | refine w_set (by omega) (by assumption) (by omega) (by omega) ?_ | refine w_at (by omega) (by assumption) (by omega) (by omega) ?_ | refine w_sI (by omega) (by assumption) (by omega) (by omega) ?_ | refine w_aI (by omega) (by assumption) (by omega) (by omega) ?_ | refine w_sZ (by omega) (by assumption) (by omega) (by omega) (by decide) ?_ | refine w_pZ (by omega) (by assumption) (by decide) ?_ | refine w_dv (by omega) (by omega) (by omega) (by omega) ?_ | refine w_rm (by omega) (by omega) (by omega) (by omega) ?_) | ((with_reducible refine w_pos ?_ ?_); focus (first | assumption | trivial | exact (ile (by omega) (by omega) (by omega) (by omega)).2 (by omega) | exact (ilt (by omega) (by omega) (by omega) (by omega)).2 (by omega) | exact (ieq (by omega) (by omega) (by omega) (by omega)).2 (by omega))) | ((with_reducible refine w_neg ?_ ?_); focus (first | assumption | exact not_false | trivial | exact mt (ile (by omega) (by omega) (by omega) (by omega)).1 (by omega) | exact mt (ilt (by omega) (by omega) (by omega) (by omega)).1 (by omega) | exact mt (ieq (by omega) (by omega) (by omega) (by omega)).1 (by omega)))); skip)
    refine w_cV (pcopy_C (J := J) hpg1 (ed _ (hσ j (by omega))) (g.1.2.1 j (by omega)) (hpg' _ (hσ' j (by omega))) (ed' _ (hσ' j (by omega))) (hsP _ _ g j (by omega)) (by omega) (hw.2.1 j (by omega)).2.2.2.2.2.2.2) ?_
    rintro S ⟨I2, rfl, h2⟩
    have g2 := cto_pg g (by omega) h2
    repeat ((first | (with_reducible first | refine w_ltA ?_ | refine w_ltS ?_ | refine w_ltM ?_ | refine w_ltN ?_ | refine w_lt ?_ | refine w_jn ?_ | refine w_ck (by omega) (by assumption) ?_ | refine w_gI (by omega) (by assumption) ?_ | refine w_gR (by omega) (by assumption) (by assumption) ?_ | refine w_al (by omega) (by assumption) (by assumption) ?_ | refine w_pI (by omega) (by assumption) ?_ | refine w_set (by omega) (by assumption) (by omega) (by omega) ?_ | refine w_at (by omega) (by assumption) (by omega) (by omega) ?_ | refine w_sI (by omega) (by assumption) (by omega) (by omega) ?_ | refine w_aI (by omega) (by assumption) (by omega) (by omega) ?_ | refine w_sZ (by omega) (by assumption) (by omega) (by omega) (by decide) ?_ | refine w_pZ (by omega) (by assumption) (by decide) ?_ | refine w_dv (by omega) (by omega) (by omega) (by omega) ?_ | refine w_rm (by omega) (by omega) (by omega) (by omega) ?_) | ((with_reducible refine w_pos ?_ ?_); focus (first | assumption | trivial | exact (ile (by omega) (by omega) (by omega) (by omega)).2 (by omega) | exact (ilt (by omega) (by omega) (by omega) (by omega)).2 (by omega) | exact (ieq (by omega) (by omega) (by omega) (by omega)).2 (by omega))) | ((with_reducible refine w_neg ?_ ?_); focus (first | assumption | exact not_false | trivial | exact mt (ile (by omega) (by omega) (by omega) (by omega)).1 (by omega) | exact mt (ilt (by omega) (by omega) (by omega) (by omega)).1 (by omega) | exact mt (ieq (by omega) (by omega) (by omega) (by omega)).1 (by omega)))); skip)
    refine ih _ ⟨by omega, I2, ?_, cto_congr g2 (fun p hp f k _ => ?_) (fun _ _ _ => rfl)⟩
    · have : (j : Int) + 1 = ((j + 1 : Nat) : Int) := by omega
      rw [this]
    · show (if p < j + 1 then V'.1 p else V.1 p) f k = (if p = j then V'.1 j else if p < j then V'.1 p else V.1 p) f k
      by_cases c1 : p = j
      · rw [if_pos c1, if_pos (by omega), c1]
      · rw [if_neg c1]
        by_cases c2 : p < j
        · rw [if_pos c2, if_pos (by omega)]
        · rw [if_neg c2, if_neg (by omega)]
  · have ej : j = 6 := by omega
    subst ej
    have hpg6 := hpg _ (hσ 6 (by omega))
    have hk6 := hpg6.2.1
    have hq6 := hpg6.1
    have i1 := pa_in (r := r') (hσ' 6 (by omega))
    have i2 := pa_in (r := r) (hσ 6 (by omega))
    repeat ((first | (with_reducible first | refine w_ltA ?_ | refine w_ltS ?_ | refine w_ltM ?_ | refine w_ltN ?_ | refine w_lt ?_ | refine w_jn ?_ | refine w_ck (by omega) (by assumption) ?_ | refine w_gI (by omega) (by assumption) ?_ | refine w_gR (by omega) (by assumption) (by assumption) ?_ | refine w_al (by omega) (by assumption) (by assumption) ?_ | refine w_pI (by omega) (by assumption) ?_ | refine w_set (by omega) (by assumption) (by omega) (by omega) ?_ | refine w_at (by omega) (by assumption) (by omega) (by omega) ?_ | refine w_sI (by omega) (by assumption) (by omega) (by omega) ?_ | refine w_aI (by omega) (by assumption) (by omega) (by omega) ?_ | refine w_sZ (by omega) (by assumption) (by omega) (by omega) (by decide) ?_ | refine w_pZ (by omega) (by assumption) (by decide) ?_ | refine w_dv (by omega) (by omega) (by omega) (by omega) ?_ | refine w_rm (by omega) (by omega) (by omega) (by omega) ?_) | ((with_reducible refine w_pos ?_ ?_); focus (first | assumption | trivial | exact (ile (by omega) (by omega) (by omega) (by omega)).2 (by omega) | exact (ilt (by omega) (by omega) (by omega) (by omega)).2 (by omega) | exact (ieq (by omega) (by omega) (by omega) (by omega)).2 (by omega))) | ((with_reducible refine w_neg ?_ ?_); focus (first | assumption | exact not_false | trivial | exact mt (ile (by omega) (by omega) (by omega) (by omega)).1 (by omega) | exact mt (ilt (by omega) (by omega) (by omega) (by omega)).1 (by omega) | exact mt (ieq (by omega) (by omega) (by omega) (by omega)).1 (by omega)))); skip)
    refine w_cV (pcopy_C (J := J) hpg6 (ed _ (hσ 6 (by omega))) (g.1.2.1 6 (by omega)) (hpg' _ (hσ' 6 (by omega))) (ed' _ (hσ' 6 (by omega))) (hsP _ _ g 6 (by omega)) (by omega) (hw.2.1 6 (by omega)).2.2.2.2.2.2.2) ?_
    rintro S ⟨I2, rfl, h2⟩
    have g2 := cto_pg g (by omega) h2
    -- what was read last
    have g3 := cto_row (n := 8) (a := r' + 7) (g := 7) (V' := V') g2 (by omega) (fun k hv => hv.2) (fun k hk => hsG _ _ g2 7 k ⟨rfl, hk⟩)
    have g4 := cto_up (cto_up (cto_up (cto_up (cto_up g3 6 1 (V'.2 6 1) (by omega)) 6 2 (V'.2 6 2) (by omega)) 6 3 (V'.2 6 3) (by omega)) 6 4 (V'.2 6 4) (by omega)) 6 5 (V'.2 6 5) (by omega)
    have hl : ∀ k, 1 ≤ k ∧ k ≤ 5 → cpI I2 (r' + 7) (r + 7) 8 (r' + 6) k = iI (V'.2 6 k) := fun k hk => by
      rw [cpI_ne (by omega)]
      exact hsG _ _ g2 6 k hk
    have l1 := hl 1 (by omega)
    have l2 := hl 2 (by omega)
    have l3 := hl 3 (by omega)
    have l4 := hl 4 (by omega)
    have l5 := hl 5 (by omega)
    have el : f_X1_copyFrom (381, I2, J, R) (r + 6) (r' + 6) = some (381, up (up (up (up (up (cpI I2 (r' + 7) (r + 7) 8) (r + 6) 1 (iI (V'.2 6 1))) (r + 6) 2 (iI (V'.2 6 2))) (r + 6) 3 (iI (V'.2 6 3))) (r + 6) 4 (iI (V'.2 6 4))) (r + 6) 5 (iI (V'.2 6 5)), J, R) := by
      refine en_eq ?_
      rw [u_X1_copyFrom]
      repeat ((first | (with_reducible first | refine w_cpr (by omega) (by assumption) (by assumption) (by omega) (by assumption) (by assumption) ?_ | refine w_ltA ?_ | refine w_ltS ?_ | refine w_ltM ?_ | refine w_ltN ?_ | refine w_lt ?_ | refine w_jn ?_ | refine w_ck (by omega) (by assumption) ?_ | refine w_gI (by omega) (by assumption) ?_ | refine w_gR (by omega) (by assumption) (by assumption) ?_ | refine w_al (by omega) (by assumption) (by assumption) ?_ | refine w_pI (by omega) (by assumption) ?_ | refine w_set (by omega) (by assumption) (by omega) (by omega) ?_ | refine w_at (by omega) (by assumption) (by omega) (by omega) ?_ | refine w_sI (by omega) (by assumption) (by omega) (by omega) ?_ | refine w_aI (by omega) (by assumption) (by omega) (by omega) ?_ | refine w_sZ (by omega) (by assumption) (by omega) (by omega) (by decide) ?_ | refine w_pZ (by omega) (by assumption) (by decide) ?_ | refine w_dv (by omega) (by omega) (by omega) (by omega) ?_ | refine w_rm (by omega) (by omega) (by omega) (by omega) ?_) | ((with_reducible refine w_pos ?_ ?_); focus (first | assumption | trivial | exact (ile (by omega) (by omega) (by omega) (by omega)).2 (by omega) | exact (ilt (by omega) (by omega) (by omega) (by omega)).2 (by omega) | exact (ieq (by omega) (by omega) (by omega) (by omega)).2 (by omega))) | ((with_reducible refine w_neg ?_ ?_); focus (first | assumption | exact not_false | trivial | exact mt (ile (by omega) (by omega) (by omega) (by omega)).1 (by omega) | exact mt (ilt (by omega) (by omega) (by omega) (by omega)).1 (by omega) | exact mt (ieq (by omega) (by omega) (by omega) (by omega)).1 (by omega)))); try simp (disch := omega) only [up_ne, l1, l2, l3, l4, l5])
      exact w_rt rfl
    repeat ((first | (with_reducible first | refine w_cpr (by omega) (by assumption) (by assumption) (by omega) (by assumption) (by assumption) ?_ | refine w_ltA ?_ | refine w_ltS ?_ | refine w_ltM ?_ | refine w_ltN ?_ | refine w_lt ?_ | refine w_jn ?_ | refine w_ck (by omega) (by assumption) ?_ | refine w_gI (by omega) (by assumption) ?_ | refine w_gR (by omega) (by assumption) (by assumption) ?_ | refine w_al (by omega) (by assumption) (by assumption) ?_ | refine w_pI (by omega) (by assumption) ?_ | refine w_set (by omega) (by assumption) (by omega) (by omega) ?_ | refine w_at (by omega) (by assumption) (by omega) (by omega) ?_ | refine w_sI (by omega) (by assumption) (by omega) (by omega) ?_ | refine w_aI (by omega) (by assumption) (by omega) (by omega) ?_ | refine w_sZ (by omega) (by assumption) (by omega) (by omega) (by decide) ?_ | refine w_pZ (by omega) (by assumption) (by decide) ?_ | refine w_dv (by omega) (by omega) (by omega) (by omega) ?_ | refine w_rm (by omega) (by omega) (by omega) (by omega) ?_) | ((with_reducible refine w_pos ?_ ?_); focus (first | assumption | trivial | exact (ile (by omega) (by omega) (by omega) (by omega)).2 (by omega) | exact (ilt (by omega) (by omega) (by omega) (by omega)).2 (by omega) | exact (ieq (by omega) (by omega) (by omega) (by omega)).2 (by omega))) | ((with_reducible refine w_neg ?_ ?_); focus (first | assumption | exact not_false | trivial | exact mt (ile (by omega) (by omega) (by omega) (by omega)).1 (by omega) | exact mt (ilt (by omega) (by omega) (by omega) (by omega)).1 (by omega) | exact mt (ieq (by omega) (by omega) (by omega) (by omega)).1 (by omega)))); skip)
    refine w_cV (Q' := fun S => S = _) ⟨_, el, rfl⟩ ?_
    rintro S rfl
    generalize up (up (up (up (up (cpI I2 (r' + 7) (r + 7) 8) (r + 6) 1 (iI (V'.2 6 1))) (r + 6) 2 (iI (V'.2 6 2))) (r + 6) 3 (iI (V'.2 6 3))) (r + 6) 4 (iI (V'.2 6 4))) (r + 6) 5 (iI (V'.2 6 5)) = I4 at *
    have v4 : ∀ g, g = 2 ∨ g = 3 ∨ g = 4 → ∀ k, vldR g k ↔ k < 4 := fun g hg k => by
      unfold vldR
      rw [if_neg (by omega), if_pos hg]
    have g5 := cto_row (n := 4) (a := r' + 2) (g := 2) (V' := V') g4 (by omega) (fun k hv => (v4 2 (by omega) k).1 hv) (fun k hk => hsG _ _ g4 2 k ((v4 2 (by omega) k).2 hk))
    have g6 := cto_row (n := 4) (a := r' + 3) (g := 3) (V' := V') g5 (by omega) (fun k hv => (v4 3 (by omega) k).1 hv) (fun k hk => hsG _ _ g5 3 k ((v4 3 (by omega) k).2 hk))
    have g7 := cto_row (n := 4) (a := r' + 4) (g := 4) (V' := V') g6 (by omega) (fun k hv => (v4 4 (by omega) k).1 hv) (fun k hk => hsG _ _ g6 4 k ((v4 4 (by omega) k).2 hk))
    have g8 := cto_row (n := 34) (a := r' + 5) (g := 5) (V' := V') g7 (by omega) (fun k hv => hv) (fun k hk => hsG _ _ g7 5 k hk)
    repeat ((first | (with_reducible first | refine w_cpr (by omega) (by assumption) (by assumption) (by omega) (by assumption) (by assumption) ?_ | refine w_ltA ?_ | refine w_ltS ?_ | refine w_ltM ?_ | refine w_ltN ?_ | refine w_lt ?_ | refine w_jn ?_ | refine w_ck (by omega) (by assumption) ?_ | refine w_gI (by omega) (by assumption) ?_ | refine w_gR (by omega) (by assumption) (by assumption) ?_ | refine w_al (by omega) (by assumption) (by assumption) ?_ | refine w_pI (by omega) (by assumption) ?_ | refine w_set (by omega) (by assumption) (by omega) (by omega) ?_ | refine w_at (by omega) (by assumption) (by omega) (by omega) ?_ | refine w_sI (by omega) (by assumption) (by omega) (by omega) ?_ | refine w_aI (by omega) (by assumption) (by omega) (by omega) ?_ | refine w_sZ (by omega) (by assumption) (by omega) (by omega) (by decide) ?_ | refine w_pZ (by omega) (by assumption) (by decide) ?_ | refine w_dv (by omega) (by omega) (by omega) (by omega) ?_ | refine w_rm (by omega) (by omega) (by omega) (by omega) ?_) | ((with_reducible refine w_pos ?_ ?_); focus (first | assumption | trivial | exact (ile (by omega) (by omega) (by omega) (by omega)).2 (by omega) | exact (ilt (by omega) (by omega) (by omega) (by omega)).2 (by omega) | exact (ieq (by omega) (by omega) (by omega) (by omega)).2 (by omega))) | ((with_reducible refine w_neg ?_ ?_); focus (first | assumption | exact not_false | trivial | exact mt (ile (by omega) (by omega) (by omega) (by omega)).1 (by omega) | exact mt (ilt (by omega) (by omega) (by omega) (by omega)).1 (by omega) | exact mt (ieq (by omega) (by omega) (by omega) (by omega)).1 (by omega)))); skip)
    generalize cpI (cpI (cpI (cpI I4 (r' + 2) (r + 2) 4) (r' + 3) (r + 3) 4) (r' + 4) (r + 4) 4) (r' + 5) (r + 5) 34 = I8 at *
    have s : ∀ k, 7 ≤ k ∧ k ≤ 15 → I8 r' k = iI (V'.2 0 k) := fun k hk => hsG _ _ g8 0 k hk
    have s7 := s 7 (by omega)
    have s8 := s 8 (by omega)
    have s9 := s 9 (by omega)
    have s10 := s 10 (by omega)
    have s11 := s 11 (by omega)
    have s12 := s 12 (by omega)
    have s13 := s 13 (by omega)
    have s14 := s 14 (by omega)
    have s15 := s 15 (by omega)
    have ho' : iI (V'.2 0 10) = 0 ∨ iI (V'.2 0 10) = 1 := by
      rcases hb.2.2.2.2.1 with h | h
      · exact Or.inl (by rw [h]; rfl)
      · exact Or.inr (by rw [h]; rfl)
    try simp (disch := omega) only [up_ne, s7, s8, s9, s10, s11, s12, s13, s14, s15]
    repeat ((first | (with_reducible first | refine w_pZ (by omega) (by assumption) (by assumption) ?_ | refine w_ltA ?_ | refine w_ltS ?_ | refine w_ltM ?_ | refine w_ltN ?_ | refine w_lt ?_ | refine w_jn ?_ | refine w_ck (by omega) (by assumption) ?_ | refine w_gI (by omega) (by assumption) ?_ | refine w_gR (by omega) (by assumption) (by assumption) ?_ | refine w_al (by omega) (by assumption) (by assumption) ?_ | refine w_pI (by omega) (by assumption) ?_ | refine w_set (by omega) (by assumption) (by omega) (by omega) ?_ | refine w_at (by omega) (by assumption) (by omega) (by omega) ?_ | refine w_sI (by omega) (by assumption) (by omega) (by omega) ?_ | refine w_aI (by omega) (by assumption) (by omega) (by omega) ?_ | refine w_sZ (by omega) (by assumption) (by omega) (by omega) (by decide) ?_ | refine w_pZ (by omega) (by assumption) (by decide) ?_ | refine w_dv (by omega) (by omega) (by omega) (by omega) ?_ | refine w_rm (by omega) (by omega) (by omega) (by omega) ?_) | ((with_reducible refine w_pos ?_ ?_); focus (first | assumption | trivial | exact (ile (by omega) (by omega) (by omega) (by omega)).2 (by omega) | exact (ilt (by omega) (by omega) (by omega) (by omega)).2 (by omega) | exact (ieq (by omega) (by omega) (by omega) (by omega)).2 (by omega))) | ((with_reducible refine w_neg ?_ ?_); focus (first | assumption | exact not_false | trivial | exact mt (ile (by omega) (by omega) (by omega) (by omega)).1 (by omega) | exact mt (ilt (by omega) (by omega) (by omega) (by omega)).1 (by omega) | exact mt (ieq (by omega) (by omega) (by omega) (by omega)).1 (by omega)))); try simp (disch := omega) only [up_ne, s7, s8, s9, s10, s11, s12, s13, s14, s15])
    have g9 := cto_up0 (cto_up0 (cto_up0 (cto_up0 (cto_up0 (cto_up0 (cto_up0 (cto_up0 (cto_up0 g8 7 (V'.2 0 7)) 8 (V'.2 0 8)) 9 (V'.2 0 9)) 10 (V'.2 0 10)) 11 (V'.2 0 11)) 12 (V'.2 0 12)) 13 (V'.2 0 13)) 14 (V'.2 0 14)) 15 (V'.2 0 15)
    refine w_rt ⟨_, rfl, cto_congr g9 (fun p hp f k _ => ?_) (fun g k hv => ?_)⟩
    · show V'.1 p f k = (if p = 6 then V'.1 6 else if p < 6 then V'.1 p else V.1 p) f k
      by_cases c1 : p = 6
      · rw [if_pos c1, c1]
      · rw [if_neg c1, if_pos (by omega)]
    · have hv7 := vldR_g hv
      show V'.2 g k = if g = 0 ∧ k = 15 then V'.2 0 15 else if g = 0 ∧ k = 14 then V'.2 0 14 else if g = 0 ∧ k = 13 then V'.2 0 13 else if g = 0 ∧ k = 12 then V'.2 0 12 else if g = 0 ∧ k = 11 then V'.2 0 11 else if g = 0 ∧ k = 10 then V'.2 0 10 else if g = 0 ∧ k = 9 then V'.2 0 9 else if g = 0 ∧ k = 8 then V'.2 0 8 else if g = 0 ∧ k = 7 then V'.2 0 7 else if g = 5 then V'.2 5 k else if g = 4 then V'.2 4 k else if g = 3 then V'.2 3 k else if g = 2 then V'.2 2 k else if g = 6 ∧ k = 5 then V'.2 6 5 else if g = 6 ∧ k = 4 then V'.2 6 4 else if g = 6 ∧ k = 3 then V'.2 6 3 else if g = 6 ∧ k = 2 then V'.2 6 2 else if g = 6 ∧ k = 1 then V'.2 6 1 else if g = 7 then V'.2 7 k else V.2 g k
      unfold vldR at hv
      by_cases c0 : g = 0
      · subst c0
        rw [if_pos rfl] at hv
        obtain ⟨h7, h15⟩ := hv
        rcases (show k = 7 ∨ k = 8 ∨ k = 9 ∨ k = 10 ∨ k = 11 ∨ k = 12 ∨ k = 13 ∨ k = 14 ∨ k = 15 by omega) with h | h | h | h | h | h | h | h | h <;> subst h <;> rfl
      rw [if_neg c0] at hv
      by_cases c6 : g = 6
      · subst c6
        rw [if_neg (by omega), if_neg (by omega), if_pos rfl] at hv
        rcases (show k = 1 ∨ k = 2 ∨ k = 3 ∨ k = 4 ∨ k = 5 by omega) with h | h | h | h | h <;> subst h <;> rfl
      rcases (show g = 2 ∨ g = 3 ∨ g = 4 ∨ g = 5 ∨ g = 7 by omega) with h | h | h | h | h <;> subst h <;> simp
end RGK
