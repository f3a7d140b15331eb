/-! THE REFERENCE: its slots, and the beginning -/
theorem rmq_congr {I I' : MI} {π : Nat → Nat} {V : RV} (h : RMQ I π V) (e : ∀ k, k < 985 → I' 374 k = I 374 k) : RMQ I' π V := by
  obtain ⟨b1, b2, b3, b4, b5, b6, b7, b8, b9⟩ := h
  refine ⟨b1, b2, fun j hj => by rw [e _ (by have := hj.1; omega)]; exact b3 j hj, by rw [e _ (by omega)]; exact b4, by rw [e _ (by omega)]; exact b5, fun d h1 h2 => by rw [e _ (by omega)]; exact b6 d h1 h2, fun k h1 h2 => ?_, fun p hp => by rw [e _ (by omega)]; exact b8 p hp, fun p hp => ?_⟩
  · rw [e _ (by omega), e _ (by omega), e _ (by omega)]
    exact b7 k h1 h2
  · have := b1 p hp
    exact pm_congr (b9 p hp) fun k h1 h2 => e k (by omega)
def cpS (I : MI) (s t n : Nat) : MI := fun a k => if a = 374 ∧ 988 * t ≤ k ∧ k < 988 * t + n then I 374 (988 * s + (k - 988 * t)) else I a k
theorem cpS_0 {I : MI} {s t : Nat} : cpS I s t 0 = I := by
  funext a k
  unfold cpS
  rw [if_neg (by omega)]
theorem cpS_up {I : MI} {s t n : Nat} : up (cpS I s t n) 374 (988 * t + n) (I 374 (988 * s + n)) = cpS I s t (n + 1) := by
  funext a k
  unfold up cpS
  by_cases h : a = 374 ∧ k = 988 * t + n
  · rw [if_pos h, if_pos (by omega), h.2, show 988 * t + n - 988 * t = n by omega]
  · rw [if_neg h]
    by_cases h2 : a = 374 ∧ 988 * t ≤ k ∧ k < 988 * t + n
    · rw [if_pos h2, if_pos (by omega)]
    · rw [if_neg h2, if_neg (by omega)]
theorem cpS_ne {I : MI} {s t n a k : Nat} (h : ¬ (a = 374 ∧ 988 * t ≤ k ∧ k < 988 * t + n)) : cpS I s t n a k = I a k := if_neg h
theorem cpS_in {I : MI} {s t n k : Nat} (h : k < n) : cpS I s t n 374 (988 * t + k) = I 374 (988 * s + k) := by
  unfold cpS
  rw [if_pos (by omega), show 988 * t + k - 988 * t = k by omega]
section RFS
variable {I I0 : MI} {J : MJ} {R : MR} {π : Nat → Nat} {γ : Type} {Q : γ → Prop} {V : RV} {x : Int32} {n c o : Int}
theorem copies_Q {s t : Nat} (hR : RQ R) (hs : s ≤ 4) (ht : t ≤ 4) (hst : s ≠ t) : f_X9_copies (381, I, J, R) 373 (iI s) (iI t) = some (381, cpS I s t 988, J, R) := by
  have k374 := kd_374
  have k375 := kd_375
  have l375 := ln_375
  have rq1 := hR.1
  refine en_eq ?_
  rw [u_X9_copies]
  refine w_lp 988 (fun j y => j ≤ 988 ∧ y = (iI (j : Int), (381, cpS I s t j, J, R))) ⟨by omega, by rw [cpS_0]; rfl⟩ (by rw [FU_eq]; omega) (fun i y h => h.1) ?_
  rintro j y self ⟨hj, rfl⟩ ih
  try dsimp only
  by_cases hlt : j < 988
  · repeat ((first | (with_reducible first | refine w_ltA ?_ | refine w_ltS ?_ | refine w_ltM ?_ | refine w_ltN ?_ | refine w_lt ?_ | refine w_jn ?_ | refine w_ck (by omega) (by assumption) ?_ | refine w_gI (by omega) (by assumption) ?_ | refine w_gR (by omega) (by assumption) (by assumption) ?_ | refine w_al (by omega) (by assumption) (by assumption) ?_ | refine w_pI (by omega) (by assumption) ?_ | refine w_set (by omega) (by assumption) (by omega) (by omega) ?_ | refine w_at (by omega) (by assumption) (by omega) (by omega) ?_ | refine w_sI (by omega) (by assumption) (by omega) (by omega) ?_ | refine w_aI (by omega) (by assumption) (by omega) (by omega) ?_ | refine w_sZ (by omega) (by assumption) (by omega) (by omega) (by decide) ?_ | refine w_pZ (by omega) (by assumption) (by decide) ?_ | refine w_dv (by omega) (by omega) (by omega) (by omega) ?_ | refine w_rm (by omega) (by omega) (by omega) (by omega) ?_) | ((with_reducible refine w_pos ?_ ?_); focus (first | assumption | trivial | exact (ile (by omega) (by omega) (by omega) (by omega)).2 (by omega) | exact (ilt (by omega) (by omega) (by omega) (by omega)).2 (by omega) | exact (ieq (by omega) (by omega) (by omega) (by omega)).2 (by omega))) | ((with_reducible refine w_neg ?_ ?_); focus (first | assumption | exact not_false | trivial | exact mt (ile (by omega) (by omega) (by omega) (by omega)).1 (by omega) | exact mt (ilt (by omega) (by omega) (by omega) (by omega)).1 (by omega) | exact mt (ieq (by omega) (by omega) (by omega) (by omega)).1 (by omega)))); skip)
    rw [show (988 * (t : Int) + j).toNat = 988 * t + j by omega, show (988 * (s : Int) + j).toNat = 988 * s + j by omega, cpS_ne (by omega), cpS_up, show (j : Int) + 1 = ((j + 1 : Nat) : Int) by omega]
    exact ih _ ⟨by omega, rfl⟩
  · have : j = 988 := by omega
    subst this
    repeat ((first | (with_reducible first | refine w_ltA ?_ | refine w_ltS ?_ | refine w_ltM ?_ | refine w_ltN ?_ | refine w_lt ?_ | refine w_jn ?_ | refine w_ck (by omega) (by assumption) ?_ | refine w_gI (by omega) (by assumption) ?_ | refine w_gR (by omega) (by assumption) (by assumption) ?_ | refine w_al (by omega) (by assumption) (by assumption) ?_ | refine w_pI (by omega) (by assumption) ?_ | refine w_set (by omega) (by assumption) (by omega) (by omega) ?_ | refine w_at (by omega) (by assumption) (by omega) (by omega) ?_ | refine w_sI (by omega) (by assumption) (by omega) (by omega) ?_ | refine w_aI (by omega) (by assumption) (by omega) (by omega) ?_ | refine w_sZ (by omega) (by assumption) (by omega) (by omega) (by decide) ?_ | refine w_pZ (by omega) (by assumption) (by decide) ?_ | refine w_dv (by omega) (by omega) (by omega) (by omega) ?_ | refine w_rm (by omega) (by omega) (by omega) (by omega) ?_) | ((with_reducible refine w_pos ?_ ?_); focus (first | assumption | trivial | exact (ile (by omega) (by omega) (by omega) (by omega)).2 (by omega) | exact (ilt (by omega) (by omega) (by omega) (by omega)).2 (by omega) | exact (ieq (by omega) (by omega) (by omega) (by omega)).2 (by omega))) | ((with_reducible refine w_neg ?_ ?_); focus (first | assumption | exact not_false | trivial | exact mt (ile (by omega) (by omega) (by omega) (by omega)).1 (by omega) | exact mt (ilt (by omega) (by omega) (by omega) (by omega)).1 (by omega) | exact mt (ieq (by omega) (by omega) (by omega) (by omega)).1 (by omega)))); skip)
    exact w_rt rfl
theorem back_Q (hR : RQ R) : f_X9_back (381, I, J, R) 373 x = some (x, (381, cpS I 4 0 988, J, R)) := by
  have k374 := kd_374
  have hcp := copies_Q (I := I) (J := J) (s := 4) (t := 0) hR (by omega) (by omega) (by omega)
  refine en_eq ?_
  rw [u_X9_back]
  repeat ((first | (with_reducible first | refine w_ltA ?_ | refine w_ltS ?_ | refine w_ltM ?_ | refine w_ltN ?_ | refine w_lt ?_ | refine w_jn ?_ | refine w_ck (by omega) (by assumption) ?_ | refine w_gI (by omega) (by assumption) ?_ | refine w_gR (by omega) (by assumption) (by assumption) ?_ | refine w_al (by omega) (by assumption) (by assumption) ?_ | refine w_pI (by omega) (by assumption) ?_ | refine w_set (by omega) (by assumption) (by omega) (by omega) ?_ | refine w_at (by omega) (by assumption) (by omega) (by omega) ?_ | refine w_sI (by omega) (by assumption) (by omega) (by omega) ?_ | refine w_aI (by omega) (by assumption) (by omega) (by omega) ?_ | refine w_sZ (by omega) (by assumption) (by omega) (by omega) (by decide) ?_ | refine w_pZ (by omega) (by assumption) (by decide) ?_ | refine w_dv (by omega) (by omega) (by omega) (by omega) ?_ | refine w_rm (by omega) (by omega) (by omega) (by omega) ?_) | ((with_reducible refine w_pos ?_ ?_); focus (first | assumption | trivial | exact (ile (by omega) (by omega) (by omega) (by omega)).2 (by omega) | exact (ilt (by omega) (by omega) (by omega) (by omega)).2 (by omega) | exact (ieq (by omega) (by omega) (by omega) (by omega)).2 (by omega))) | ((with_reducible refine w_neg ?_ ?_); focus (first | assumption | exact not_false | trivial | exact mt (ile (by omega) (by omega) (by omega) (by omega)).1 (by omega) | exact mt (ilt (by omega) (by omega) (by omega) (by omega)).1 (by omega) | exact mt (ieq (by omega) (by omega) (by omega) (by omega)).1 (by omega)))); skip)
  refine w_cV (Q' := fun S => S = _) ⟨_, hcp, rfl⟩ ?_
  rintro S rfl
  exact w_rt rfl
def bgz (n c o : Int) (k : Nat) : Int := if k = 0 then n else if k = 1 then c else if k = 2 then o else if k = 9 then 15 else if k = 19 then -1 else if k = 7 then 6 else 0
theorem bgz_0 {k : Nat} (h : 55 ≤ k) : bgz n c o k = 0 := by
  unfold bgz
  rw [if_neg (by omega), if_neg (by omega), if_neg (by omega), if_neg (by omega), if_neg (by omega), if_neg (by omega)]
theorem bgz_s {j : Nat} (h : sj j) : (begV V n c o).2 (sg j).1 (sg j).2 = bgz n c o j := by
  obtain ⟨h1, h5, h7⟩ := h
  rcases (show j = 0 ∨ j = 1 ∨ j = 2 ∨ j = 3 ∨ j = 4 ∨ j = 6 ∨ j = 8 ∨ j = 9 ∨ j = 10 ∨ j = 11 ∨ j = 12 ∨ j = 13 ∨ j = 14 ∨ j = 15 ∨ j = 16 ∨ j = 17 ∨ j = 18 ∨ j = 19 ∨ j = 20 ∨ j = 21 ∨ j = 22 ∨ j = 23 ∨ j = 24 ∨ j = 25 ∨ j = 26 ∨ j = 27 ∨ j = 28 ∨ j = 29 ∨ j = 30 ∨ j = 31 ∨ j = 32 ∨ j = 33 ∨ j = 34 by omega) with rfl | rfl | rfl | rfl | rfl | rfl | rfl | rfl | rfl | rfl | rfl | rfl | rfl | rfl | rfl | rfl | rfl | rfl | rfl | rfl | rfl | rfl | rfl | rfl | rfl | rfl | rfl | rfl | rfl | rfl | rfl | rfl | rfl <;> rfl
def bgA (I : MI) (j : Nat) : MI := fun a k => if a = 374 ∧ k < j then iI 0 else I a k
def bgB (I : MI) (j : Nat) : MI := fun a k => if a = 374 ∧ 55 ≤ k ∧ k < 55 + j then iI ((k : Int) - 55) else I a k
def bgC (I : MI) (j : Nat) : MI := fun a k => if a = 374 ∧ 61 ≤ k ∧ (k - 61) % 132 = 0 ∧ (k - 61) / 132 < j then iI (-1) else I a k
theorem bgA_up {j : Nat} : up (bgA I j) 374 j (iI 0) = bgA I (j + 1) := by
  funext a k
  unfold up bgA
  by_cases h : a = 374 ∧ k = j
  · rw [if_pos h, if_pos (by omega)]
  · rw [if_neg h]
    by_cases h2 : a = 374 ∧ k < j
    · rw [if_pos h2, if_pos (by omega)]
    · rw [if_neg h2, if_neg (by omega)]
theorem bgB_up {j : Nat} : up (bgB I j) 374 (55 + j) (iI j) = bgB I (j + 1) := by
  funext a k
  unfold up bgB
  by_cases h : a = 374 ∧ k = 55 + j
  · rw [if_pos h, if_pos (by omega), show (k : Int) - 55 = j by omega]
  · rw [if_neg h]
    by_cases h2 : a = 374 ∧ 55 ≤ k ∧ k < 55 + j
    · rw [if_pos h2, if_pos (by omega)]
    · rw [if_neg h2, if_neg (by omega)]
theorem bgC_up {j : Nat} : up (bgC I j) 374 (61 + 132 * j) (iI (-1)) = bgC I (j + 1) := by
  funext a k
  unfold up bgC
  by_cases h : a = 374 ∧ k = 61 + 132 * j
  · rw [if_pos h, if_pos (by omega)]
  · rw [if_neg h]
    by_cases h2 : a = 374 ∧ 61 ≤ k ∧ (k - 61) % 132 = 0 ∧ (k - 61) / 132 < j
    · rw [if_pos h2, if_pos (by omega)]
    · rw [if_neg h2, if_neg (by omega)]
theorem begins_M {I2 : MI} (hn : 2 ≤ n ∧ n ≤ 6) (ha : ∀ a k, ¬ (a = 374 ∧ k < 985) → I2 a k = I a k) (hb : ∀ k, k < 985 → I2 374 k = iI (bgz n c o k)) : MTo I (bgC (bgB I2 6) 7) (fun p => p) (begV V n c o) := by
  have e0 : ∀ k, k < 985 → ¬ (61 ≤ k ∧ (k - 61) % 132 = 0) → ¬ (55 ≤ k ∧ k < 61) → bgC (bgB I2 6) 7 374 k = iI (bgz n c o k) := fun k h1 h2 h3 => by
    unfold bgC bgB
    rw [if_neg (by omega), if_neg (by omega)]
    exact hb k h1
  refine ⟨⟨fun p hp => hp, fun p p' _ _ h => h, fun j hj => ?_, ?_, ?_, fun d h1 h2 => ?_, fun k h1 h2 => ?_, fun p hp => ?_, fun p hp => ?_⟩, fun a k h1 h2 => ?_, fun k hk => ?_⟩
  · have := hj.1
    rw [e0 j (by omega) (by omega) (by omega), bgz_s hj]
  · rw [e0 5 (by omega) (by omega) (by omega)]
    have e : plc (begV V n c o) ((begV V n c o).2 0 13 - 1) = 0 := by
      unfold plc
      exact if_neg (show ¬ (n ≤ (0 : Int) + (1 - 1)) by omega)
    rw [e]
    rfl
  · rw [e0 7 (by omega) (by omega) (by omega)]
    rfl
  · have : (begV V n c o).2 6 4 = 0 := rfl
    omega
  · have : (begV V n c o).2 0 15 = 0 := rfl
    omega
  · show bgC (bgB I2 6) 7 374 (55 + p) = iI (p : Nat)
    unfold bgC bgB
    rw [if_neg (by omega), if_pos (by omega)]
    congr 1
    omega
  · show PM (bgC (bgB I2 6) 7) (61 + 132 * p) ((begV V n c o).1 p)
    have e1 : (begV V n c o).1 p = clP (V.1 p) := if_pos hp
    have hx := ep_cl (P := V.1 p)
    unfold EP at hx
    obtain ⟨x1, x2, x3, x4⟩ := hx
    rw [e1]
    have ez : ∀ k, 0 < k → k < 132 → bgC (bgB I2 6) 7 374 (61 + 132 * p + k) = iI 0 := fun k h1 h2 => by
      rw [e0 _ (by omega) (by omega) (by omega), bgz_0 (by omega)]
    refine ⟨?_, by rw [ez 1 (by omega) (by omega), x2], by rw [ez 2 (by omega) (by omega), x3], by rw [ez 3 (by omega) (by omega), x1], fun k hk => ?_, fun i f hi _ _ => by omega⟩
    · unfold bgC
      rw [if_pos (by omega), if_pos x1]
    · rw [x4 k hk, Nat.add_assoc]
      exact ez (4 + k) (by omega) (by omega)
  · unfold bgC bgB
    rw [if_neg (by omega), if_neg (by omega)]
    exact ha a k (by omega)
  · unfold bgC bgB
    rw [if_neg (by omega), if_neg (by omega)]
    exact ha 374 k (by omega)
theorem begins_Q (hR : RQ R) (hn : 2 ≤ n ∧ n ≤ 6) : En (fun y => ∃ I', y = (381, I', J, R) ∧ ∀ V : RV, MTo I I' (fun p => p) (begV V n c o)) (f_X9_begins (381, I, J, R) 373 (iI n) (iI c) (iI o)) := by
  have k374 := kd_374
  have k375 := kd_375
  have l375 := ln_375
  have rq1 := hR.1
  rw [u_X9_begins]
  refine w_lp 985 (fun j y => j ≤ 985 ∧ y = (iI (j : Int), (381, bgA I j, J, R))) ⟨by omega, ?_⟩ (by rw [FU_eq]; omega) (fun i y h => h.1) ?_
  · have : bgA I 0 = I := by
      funext a k
      unfold bgA
      rw [if_neg (by omega)]
    rw [this]
    rfl
  rintro j y self ⟨hj, rfl⟩ ih
  try dsimp only
  by_cases hlt : j < 985
  · repeat ((first | (with_reducible first | refine w_ltA ?_ | refine w_ltS ?_ | refine w_ltM ?_ | refine w_ltN ?_ | refine w_lt ?_ | refine w_jn ?_ | refine w_ck (by omega) (by assumption) ?_ | refine w_gI (by omega) (by assumption) ?_ | refine w_gR (by omega) (by assumption) (by assumption) ?_ | refine w_al (by omega) (by assumption) (by assumption) ?_ | refine w_pI (by omega) (by assumption) ?_ | refine w_set (by omega) (by assumption) (by omega) (by omega) ?_ | refine w_at (by omega) (by assumption) (by omega) (by omega) ?_ | refine w_sI (by omega) (by assumption) (by omega) (by omega) ?_ | refine w_aI (by omega) (by assumption) (by omega) (by omega) ?_ | refine w_sZ (by omega) (by assumption) (by omega) (by omega) (by decide) ?_ | refine w_pZ (by omega) (by assumption) (by decide) ?_ | refine w_dv (by omega) (by omega) (by omega) (by omega) ?_ | refine w_rm (by omega) (by omega) (by omega) (by omega) ?_) | ((with_reducible refine w_pos ?_ ?_); focus (first | assumption | trivial | exact (ile (by omega) (by omega) (by omega) (by omega)).2 (by omega) | exact (ilt (by omega) (by omega) (by omega) (by omega)).2 (by omega) | exact (ieq (by omega) (by omega) (by omega) (by omega)).2 (by omega))) | ((with_reducible refine w_neg ?_ ?_); focus (first | assumption | exact not_false | trivial | exact mt (ile (by omega) (by omega) (by omega) (by omega)).1 (by omega) | exact mt (ilt (by omega) (by omega) (by omega) (by omega)).1 (by omega) | exact mt (ieq (by omega) (by omega) (by omega) (by omega)).1 (by omega)))); skip)
    rw [show (j : Int).toNat = j from rfl, bgA_up, show (j : Int) + 1 = ((j + 1 : Nat) : Int) by omega]
    exact ih _ ⟨by omega, rfl⟩
  · have : j = 985 := by omega
    subst this
    clear ih hj hlt
    repeat ((first | (with_reducible first | refine w_ltA ?_ | refine w_ltS ?_ | refine w_ltM ?_ | refine w_ltN ?_ | refine w_lt ?_ | refine w_jn ?_ | refine w_ck (by omega) (by assumption) ?_ | refine w_gI (by omega) (by assumption) ?_ | refine w_gR (by omega) (by assumption) (by assumption) ?_ | refine w_al (by omega) (by assumption) (by assumption) ?_ | refine w_pI (by omega) (by assumption) ?_ | refine w_set (by omega) (by assumption) (by omega) (by omega) ?_ | refine w_at (by omega) (by assumption) (by omega) (by omega) ?_ | refine w_sI (by omega) (by assumption) (by omega) (by omega) ?_ | refine w_aI (by omega) (by assumption) (by omega) (by omega) ?_ | refine w_sZ (by omega) (by assumption) (by omega) (by omega) (by decide) ?_ | refine w_pZ (by omega) (by assumption) (by decide) ?_ | refine w_dv (by omega) (by omega) (by omega) (by omega) ?_ | refine w_rm (by omega) (by omega) (by omega) (by omega) ?_) | ((with_reducible refine w_pos ?_ ?_); focus (first | assumption | trivial | exact (ile (by omega) (by omega) (by omega) (by omega)).2 (by omega) | exact (ilt (by omega) (by omega) (by omega) (by omega)).2 (by omega) | exact (ieq (by omega) (by omega) (by omega) (by omega)).2 (by omega))) | ((with_reducible refine w_neg ?_ ?_); focus (first | assumption | exact not_false | trivial | exact mt (ile (by omega) (by omega) (by omega) (by omega)).1 (by omega) | exact mt (ilt (by omega) (by omega) (by omega) (by omega)).1 (by omega) | exact mt (ieq (by omega) (by omega) (by omega) (by omega)).1 (by omega)))); skip)
    have ha : ∀ a k, ¬ (a = 374 ∧ k < 985) → up (up (up (up (up (up (bgA I 985) 374 (Int.toNat 0) (iI n)) 374 (Int.toNat 1) (iI c)) 374 (Int.toNat 2) (iI o)) 374 (Int.toNat 9) (iI 15)) 374 (Int.toNat 19) (iI (-1))) 374 (Int.toNat 7) (iI 6) a k = I a k := fun a k h => by
      rw [up_ne (by omega), up_ne (by omega), up_ne (by omega), up_ne (by omega), up_ne (by omega), up_ne (by omega)]
      exact if_neg h
    have hb : ∀ k, k < 985 → up (up (up (up (up (up (bgA I 985) 374 (Int.toNat 0) (iI n)) 374 (Int.toNat 1) (iI c)) 374 (Int.toNat 2) (iI o)) 374 (Int.toNat 9) (iI 15)) 374 (Int.toNat 19) (iI (-1))) 374 (Int.toNat 7) (iI 6) 374 k = iI (bgz n c o k) := fun k hk => by
      unfold bgz
      by_cases h7 : k = 7
      · subst h7
        rfl
      rw [up_ne (by omega)]
      by_cases h19 : k = 19
      · subst h19
        rfl
      rw [up_ne (by omega)]
      by_cases h9 : k = 9
      · subst h9
        rfl
      rw [up_ne (by omega)]
      by_cases h2 : k = 2
      · subst h2
        rfl
      rw [up_ne (by omega)]
      by_cases h1 : k = 1
      · subst h1
        rfl
      rw [up_ne (by omega)]
      by_cases h0 : k = 0
      · subst h0
        rfl
      rw [up_ne (by omega), if_neg h0, if_neg h1, if_neg h2, if_neg h9, if_neg h19, if_neg h7]
      exact if_pos ⟨rfl, hk⟩
    generalize up (up (up (up (up (up (bgA I 985) 374 (Int.toNat 0) (iI n)) 374 (Int.toNat 1) (iI c)) 374 (Int.toNat 2) (iI o)) 374 (Int.toNat 9) (iI 15)) 374 (Int.toNat 19) (iI (-1))) 374 (Int.toNat 7) (iI 6) = I2 at *
    refine w_lp 6 (fun j y => j ≤ 6 ∧ y = (iI (j : Int), (381, bgB I2 j, J, R))) ⟨by omega, ?_⟩ (by rw [FU_eq]; omega) (fun i y h => h.1) ?_
    · have : bgB I2 0 = I2 := by
        funext a k
        unfold bgB
        rw [if_neg (by omega)]
      rw [this]
      rfl
    rintro j y self2 ⟨hj, rfl⟩ ih
    try dsimp only
    by_cases hlt : j < 6
    · repeat ((first | (with_reducible first | refine w_ltA ?_ | refine w_ltS ?_ | refine w_ltM ?_ | refine w_ltN ?_ | refine w_lt ?_ | refine w_jn ?_ | refine w_ck (by omega) (by assumption) ?_ | refine w_gI (by omega) (by assumption) ?_ | refine w_gR (by omega) (by assumption) (by assumption) ?_ | refine w_al (by omega) (by assumption) (by assumption) ?_ | refine w_pI (by omega) (by assumption) ?_ | refine w_set (by omega) (by assumption) (by omega) (by omega) ?_ | refine w_at (by omega) (by assumption) (by omega) (by omega) ?_ | refine w_sI (by omega) (by assumption) (by omega) (by omega) ?_ | refine w_aI (by omega) (by assumption) (by omega) (by omega) ?_ | refine w_sZ (by omega) (by assumption) (by omega) (by omega) (by decide) ?_ | refine w_pZ (by omega) (by assumption) (by decide) ?_ | refine w_dv (by omega) (by omega) (by omega) (by omega) ?_ | refine w_rm (by omega) (by omega) (by omega) (by omega) ?_) | ((with_reducible refine w_pos ?_ ?_); focus (first | assumption | trivial | exact (ile (by omega) (by omega) (by omega) (by omega)).2 (by omega) | exact (ilt (by omega) (by omega) (by omega) (by omega)).2 (by omega) | exact (ieq (by omega) (by omega) (by omega) (by omega)).2 (by omega))) | ((with_reducible refine w_neg ?_ ?_); focus (first | assumption | exact not_false | trivial | exact mt (ile (by omega) (by omega) (by omega) (by omega)).1 (by omega) | exact mt (ilt (by omega) (by omega) (by omega) (by omega)).1 (by omega) | exact mt (ieq (by omega) (by omega) (by omega) (by omega)).1 (by omega)))); skip)
      rw [show (55 + (j : Int)).toNat = 55 + j by omega, bgB_up, show (j : Int) + 1 = ((j + 1 : Nat) : Int) by omega]
      exact ih _ ⟨by omega, rfl⟩
    · have : j = 6 := by omega
      subst this
      clear ih hj hlt
      repeat ((first | (with_reducible first | refine w_ltA ?_ | refine w_ltS ?_ | refine w_ltM ?_ | refine w_ltN ?_ | refine w_lt ?_ | refine w_jn ?_ | refine w_ck (by omega) (by assumption) ?_ | refine w_gI (by omega) (by assumption) ?_ | refine w_gR (by omega) (by assumption) (by assumption) ?_ | refine w_al (by omega) (by assumption) (by assumption) ?_ | refine w_pI (by omega) (by assumption) ?_ | refine w_set (by omega) (by assumption) (by omega) (by omega) ?_ | refine w_at (by omega) (by assumption) (by omega) (by omega) ?_ | refine w_sI (by omega) (by assumption) (by omega) (by omega) ?_ | refine w_aI (by omega) (by assumption) (by omega) (by omega) ?_ | refine w_sZ (by omega) (by assumption) (by omega) (by omega) (by decide) ?_ | refine w_pZ (by omega) (by assumption) (by decide) ?_ | refine w_dv (by omega) (by omega) (by omega) (by omega) ?_ | refine w_rm (by omega) (by omega) (by omega) (by omega) ?_) | ((with_reducible refine w_pos ?_ ?_); focus (first | assumption | trivial | exact (ile (by omega) (by omega) (by omega) (by omega)).2 (by omega) | exact (ilt (by omega) (by omega) (by omega) (by omega)).2 (by omega) | exact (ieq (by omega) (by omega) (by omega) (by omega)).2 (by omega))) | ((with_reducible refine w_neg ?_ ?_); focus (first | assumption | exact not_false | trivial | exact mt (ile (by omega) (by omega) (by omega) (by omega)).1 (by omega) | exact mt (ilt (by omega) (by omega) (by omega) (by omega)).1 (by omega) | exact mt (ieq (by omega) (by omega) (by omega) (by omega)).1 (by omega)))); skip)
      refine w_lp 7 (fun j y => j ≤ 7 ∧ y = (iI (j : Int), (381, bgC (bgB I2 6) j, J, R))) ⟨by omega, ?_⟩ (by rw [FU_eq]; omega) (fun i y h => h.1) ?_
      · have : bgC (bgB I2 6) 0 = bgB I2 6 := by
          funext a k
          unfold bgC
          rw [if_neg (by omega)]
        rw [this]
        rfl
      rintro j y self3 ⟨hj, rfl⟩ ih
      try dsimp only
      by_cases hlt : j < 7
      · repeat ((first | (with_reducible first | refine w_lay hR (by omega) (by omega) ?_ | refine w_ltA ?_ | refine w_ltS ?_ | refine w_ltM ?_ | refine w_ltN ?_ | refine w_lt ?_ | refine w_jn ?_ | refine w_ck (by omega) (by assumption) ?_ | refine w_gI (by omega) (by assumption) ?_ | refine w_gR (by omega) (by assumption) (by assumption) ?_ | refine w_al (by omega) (by assumption) (by assumption) ?_ | refine w_pI (by omega) (by assumption) ?_ | refine w_set (by omega) (by assumption) (by omega) (by omega) ?_ | refine w_at (by omega) (by assumption) (by omega) (by omega) ?_ | refine w_sI (by omega) (by assumption) (by omega) (by omega) ?_ | refine w_aI (by omega) (by assumption) (by omega) (by omega) ?_ | refine w_sZ (by omega) (by assumption) (by omega) (by omega) (by decide) ?_ | refine w_pZ (by omega) (by assumption) (by decide) ?_ | refine w_dv (by omega) (by omega) (by omega) (by omega) ?_ | refine w_rm (by omega) (by omega) (by omega) (by omega) ?_) | ((with_reducible refine w_pos ?_ ?_); focus (first | assumption | trivial | exact (ile (by omega) (by omega) (by omega) (by omega)).2 (by omega) | exact (ilt (by omega) (by omega) (by omega) (by omega)).2 (by omega) | exact (ieq (by omega) (by omega) (by omega) (by omega)).2 (by omega))) | ((with_reducible refine w_neg ?_ ?_); focus (first | assumption | exact not_false | trivial | exact mt (ile (by omega) (by omega) (by omega) (by omega)).1 (by omega) | exact mt (ilt (by omega) (by omega) (by omega) (by omega)).1 (by omega) | exact mt (ieq (by omega) (by omega) (by omega) (by omega)).1 (by omega)))); skip)
        rw [show (61 + 132 * (j : Int) + 0).toNat = 61 + 132 * j by omega, bgC_up, show (j : Int) + 1 = ((j + 1 : Nat) : Int) by omega]
        exact ih _ ⟨by omega, rfl⟩
      · have : j = 7 := by omega
        subst this
        clear ih hj hlt
        repeat ((first | (with_reducible first | refine w_lay hR (by omega) (by omega) ?_ | refine w_ltA ?_ | refine w_ltS ?_ | refine w_ltM ?_ | refine w_ltN ?_ | refine w_lt ?_ | refine w_jn ?_ | refine w_ck (by omega) (by assumption) ?_ | refine w_gI (by omega) (by assumption) ?_ | refine w_gR (by omega) (by assumption) (by assumption) ?_ | refine w_al (by omega) (by assumption) (by assumption) ?_ | refine w_pI (by omega) (by assumption) ?_ | refine w_set (by omega) (by assumption) (by omega) (by omega) ?_ | refine w_at (by omega) (by assumption) (by omega) (by omega) ?_ | refine w_sI (by omega) (by assumption) (by omega) (by omega) ?_ | refine w_aI (by omega) (by assumption) (by omega) (by omega) ?_ | refine w_sZ (by omega) (by assumption) (by omega) (by omega) (by decide) ?_ | refine w_pZ (by omega) (by assumption) (by decide) ?_ | refine w_dv (by omega) (by omega) (by omega) (by omega) ?_ | refine w_rm (by omega) (by omega) (by omega) (by omega) ?_) | ((with_reducible refine w_pos ?_ ?_); focus (first | assumption | trivial | exact (ile (by omega) (by omega) (by omega) (by omega)).2 (by omega) | exact (ilt (by omega) (by omega) (by omega) (by omega)).2 (by omega) | exact (ieq (by omega) (by omega) (by omega) (by omega)).2 (by omega))) | ((with_reducible refine w_neg ?_ ?_); focus (first | assumption | exact not_false | trivial | exact mt (ile (by omega) (by omega) (by omega) (by omega)).1 (by omega) | exact mt (ilt (by omega) (by omega) (by omega) (by omega)).1 (by omega) | exact mt (ieq (by omega) (by omega) (by omega) (by omega)).1 (by omega)))); skip)
        exact w_rt ⟨_, rfl, fun V => begins_M hn ha hb⟩
end RFS
