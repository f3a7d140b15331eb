/-! TEXTS: the reference reads all -/
section RDB
variable {I : MI} {J : MJ} {R : MR} {α γ : Type} {Q : γ → Prop} {T : TX} {n i p s v lo hi m k : Nat} {c w x a b : Int} {S : St} {L : LN}
/-- how a reading ends -/
def RdP (I : MI) (J : MJ) (ring : Bool) (P : Int × Int × Nat × LN) : Prop := I 374 985 = iI 0 ∧ I 374 986 = iI P.1 ∧ I 374 987 = iI P.2.1 ∧ (P.1 = 0 → if ring then (I 373 13 = iI (fdV P.2.2.2 P.2.2.1).1 ∧ I 373 14 = iI (fdV P.2.2.2 P.2.2.1).2.1 ∧ I 373 15 = iI (fdV P.2.2.2 P.2.2.1).2.2) else (I 373 18 = iI (P.2.2.1 : Nat) ∧ LnR I J P.2.2.1 P.2.2.2))
def RdF (I I' : MI) : Prop := ∀ a k, a ≠ 373 → a ≠ 377 → a ≠ 379 → ¬ (a = 374 ∧ 985 ≤ k ∧ k < 988) → I' a k = I a k
theorem five_s {j i e : Nat} (h1 : 5 * j ≤ i) (h2 : i + 5 ≤ e) : 5 * (j + 1) ≤ e := by omega
theorem rdf_g {I0 I1 I2 : MI} (h : RdF I0 I1) (h2 : GQ I1 I2) : RdF I0 I2 := fun a k h1 h3 h4 h5 => (h2 a k h1 h3 h4).trans (h a k h1 h3 h4 h5)
theorem fdV_upL {L : LN} {m : Nat} {x : Nat × Int × Int} : ∀ k, k ≤ m → fdV (upL L m x) k = fdV L k
  | 0, _ => rfl
  | k + 1, h => by
    have ih := fdV_upL (L := L) (m := m) (x := x) k (by omega)
    have e : upL L m x k = L k := if_neg (by omega)
    rw [fdV_s, fdV_s, ih, e]
theorem wOf_n (h : tK T n i ≠ 1) : wOf T n i = 0 := if_neg (fun h2 => h h2.1)
theorem lnO_t (h : (lnV T n v i w).1 = true) : lnO T n v i w = decide (tK T n (lnV T n v i w).2.1 = 3) := by
  unfold lnO
  rw [h, Bool.true_and]
theorem lnO_f (h : (lnV T n v i w).1 = false) : lnO T n v i w = false := by
  unfold lnO
  rw [h, Bool.false_and]
set_option maxHeartbeats 8000000 in
theorem readsAll_Q {rg : Bool} (hR : RQ R) (hx : I 374 985 = iI (n : Nat) ∧ ∀ i, i < n → I 375 i &&& iI 255 = iI (T i)) (ht : Tok T n) (hlh : lo = (if rg then 0 else 4) ∧ hi = (if rg then 3 else 13)) : En (fun y => ∃ I' J', y = (381, I', J', R) ∧ RdF I I' ∧ RdP I' J' rg (pS0 T n lo hi)) (f_X9_readsAll (381, I, J, R) 373 (if rg then iI 1 else iI 0)) := by
  have k374 := kd_374
  have k375 := kd_375
  have l375 := ln_375
  have rq1 := hR.1
  have hn4 := ht.1
  have hx985 : I 374 (Int.toNat 985) = iI (n : Nat) := hx.1
  have hF10 : hi + 1 - lo = (if rg then 4 else 10) := by
    rw [hlh.1, hlh.2]
    cases rg <;> rfl
  rw [u_X9_readsAll]
  repeat ((first | (with_reducible first | refine w_ltA ?_ | refine w_ltS ?_ | refine w_ltM ?_ | refine w_ltN ?_ | refine w_lt ?_ | refine w_jn ?_ | refine w_ck (by omega) (by assumption) ?_ | refine w_gI (by omega) (by assumption) ?_ | refine w_gR (by omega) (by assumption) (by assumption) ?_ | refine w_al (by omega) (by assumption) (by assumption) ?_ | refine w_pI (by omega) (by assumption) ?_ | refine w_set (by omega) (by assumption) (by omega) (by omega) ?_ | refine w_at (by omega) (by assumption) (by omega) (by omega) ?_ | refine w_sI (by omega) (by assumption) (by omega) (by omega) ?_ | refine w_aI (by omega) (by assumption) (by omega) (by omega) ?_ | refine w_sZ (by omega) (by assumption) (by omega) (by omega) (by decide) ?_ | refine w_pZ (by omega) (by assumption) (by decide) ?_ | refine w_dv (by omega) (by omega) (by omega) (by omega) ?_ | refine w_rm (by omega) (by omega) (by omega) (by omega) ?_) | ((with_reducible refine w_pos ?_ ?_); focus (first | assumption | trivial | exact (ile (by omega) (by omega) (by omega) (by omega)).2 (by omega) | exact (ilt (by omega) (by omega) (by omega) (by omega)).2 (by omega) | exact (ieq (by omega) (by omega) (by omega) (by omega)).2 (by omega))) | ((with_reducible refine w_neg ?_ ?_); focus (first | assumption | exact not_false | trivial | exact mt (ile (by omega) (by omega) (by omega) (by omega)).1 (by omega) | exact mt (ilt (by omega) (by omega) (by omega) (by omega)).1 (by omega) | exact mt (ieq (by omega) (by omega) (by omega) (by omega)).1 (by omega)))); try simp (disch := omega) only [hx985])
  rw [u_X9_atFirst]
  generalize hI1 : up (up (up (up (up I 373 5 (iI (n : Nat))) 374 (Int.toNat 985) (iI 0)) 373 11 (iI (-1))) 373 4 (iI 0)) 373 18 (iI 0) = I1
  refine w_cV (Q' := fun S => S = (381, up (up (up I1 373 13 (iI 3)) 373 14 (iI 16)) 373 15 (iI 1), J, R)) ?_ ?_
  · --N skip
    repeat ((first | (with_reducible first | refine w_ltA ?_ | refine w_ltS ?_ | refine w_ltM ?_ | refine w_ltN ?_ | refine w_lt ?_ | refine w_jn ?_ | refine w_ck (by omega) (by assumption) ?_ | refine w_gI (by omega) (by assumption) ?_ | refine w_gR (by omega) (by assumption) (by assumption) ?_ | refine w_al (by omega) (by assumption) (by assumption) ?_ | refine w_pI (by omega) (by assumption) ?_ | refine w_set (by omega) (by assumption) (by omega) (by omega) ?_ | refine w_at (by omega) (by assumption) (by omega) (by omega) ?_ | refine w_sI (by omega) (by assumption) (by omega) (by omega) ?_ | refine w_aI (by omega) (by assumption) (by omega) (by omega) ?_ | refine w_sZ (by omega) (by assumption) (by omega) (by omega) (by decide) ?_ | refine w_pZ (by omega) (by assumption) (by decide) ?_ | refine w_dv (by omega) (by omega) (by omega) (by omega) ?_ | refine w_rm (by omega) (by omega) (by omega) (by omega) ?_) | ((with_reducible refine w_pos ?_ ?_); focus (first | assumption | trivial | exact (ile (by omega) (by omega) (by omega) (by omega)).2 (by omega) | exact (ilt (by omega) (by omega) (by omega) (by omega)).2 (by omega) | exact (ieq (by omega) (by omega) (by omega) (by omega)).2 (by omega))) | ((with_reducible refine w_neg ?_ ?_); focus (first | assumption | exact not_false | trivial | exact mt (ile (by omega) (by omega) (by omega) (by omega)).1 (by omega) | exact mt (ilt (by omega) (by omega) (by omega) (by omega)).1 (by omega) | exact mt (ieq (by omega) (by omega) (by omega) (by omega)).1 (by omega)))); try simp (disch := omega) only [hx985])
    exact w_rt rfl
  rintro S rfl
  have hT : ∀ (I' : MI), I' 373 5 = iI (n : Nat) → (∀ k, I' 375 k = I 375 k) → TXR I' T n := fun I' h1 h2 => ⟨h1, fun i hi => by rw [h2]; exact hx.2 i hi⟩
  have hx2 : TXR (up (up (up I1 373 13 (iI 3)) 373 14 (iI 16)) 373 15 (iI 1)) T n := hT _ (by rw [← hI1, up_ne (by omega), up_ne (by omega), up_ne (by omega), up_ne (by omega), up_ne (by omega), up_ne (by omega), up_ne (by omega), up_eq]) (fun k => by rw [← hI1, up_ne (by omega), up_ne (by omega), up_ne (by omega), up_ne (by omega), up_ne (by omega), up_ne (by omega), up_ne (by omega), up_ne (by omega)])
  have h4 : up (up (up I1 373 13 (iI 3)) 373 14 (iI 16)) 373 15 (iI 1) 373 4 = iI ((0 : Nat) : Int) := by
    rw [← hI1, up_ne (by omega), up_ne (by omega), up_ne (by omega), up_ne (by omega), up_eq]
    rfl
  have h11 : up (up (up I1 373 13 (iI 3)) 373 14 (iI 16)) 373 15 (iI 1) 373 11 = iI (-1) := by
    rw [← hI1, up_ne (by omega), up_ne (by omega), up_ne (by omega), up_ne (by omega), up_ne (by omega), up_eq]
  have h18 : up (up (up I1 373 13 (iI 3)) 373 14 (iI 16)) 373 15 (iI 1) 373 18 = iI ((0 : Nat) : Int) := by
    rw [← hI1, up_ne (by omega), up_ne (by omega), up_ne (by omega), up_eq]
    rfl
  have h13 : up (up (up I1 373 13 (iI 3)) 373 14 (iI 16)) 373 15 (iI 1) 373 13 = iI 3 := by
    rw [up_ne (by omega), up_ne (by omega), up_eq]
  have h14 : up (up (up I1 373 13 (iI 3)) 373 14 (iI 16)) 373 15 (iI 1) 373 14 = iI 16 := by
    rw [up_ne (by omega), up_eq]
  have h15 : up (up (up I1 373 13 (iI 3)) 373 14 (iI 16)) 373 15 (iI 1) 373 15 = iI 1 := up_eq _ _ _ _
  have h985 : up (up (up I1 373 13 (iI 3)) 373 14 (iI 16)) 373 15 (iI 1) 374 985 = iI 0 := by
    rw [← hI1, up_ne (by omega), up_ne (by omega), up_ne (by omega), up_ne (by omega), up_ne (by omega), up_ne (by omega)]
    exact up_eq _ _ _ _
  have hF2 : RdF I (up (up (up I1 373 13 (iI 3)) 373 14 (iI 16)) 373 15 (iI 1)) := fun a k g1 g2 g3 g4 => by
    rw [← hI1, up_ne (by omega), up_ne (by omega), up_ne (by omega), up_ne (by omega), up_ne (by omega), up_ne (by omega), up_ne (show ¬ (a = 374 ∧ k = Int.toNat 985) by omega), up_ne (by omega)]
  generalize up (up (up I1 373 13 (iI 3)) 373 14 (iI 16)) 373 15 (iI 1) = I2 at *
  clear hI1
  refine w_ck (by omega) k374 ?_
  refine w_cV (token_Q (J := J) (i := 0) hR hx2 ht h4 (by omega)) ?_
  rintro S ⟨I3, J3, rfl, hF3, hk3⟩
  have hx3 := hF3.x hx2
  refine w_lp 82 (fun j y => j ≤ 82 ∧ ∃ (I' : MI) (J' : MJ), y.2 = (381, I', J', R) ∧ RdF I I' ∧ I' 374 985 = iI 0 ∧ ((j ≤ 80 ∧ y.1 = iI 1 ∧ TXR I' T n ∧ ∃ (i : Nat) (w : Int) (L : LN), I' 373 11 = iI w ∧ (-1 ≤ w ∧ w ≤ n) ∧ TkR I' J' T n i ∧ 5 * j ≤ i ∧ i ≤ n ∧ (rg = true → I' 373 13 = iI (fdV L j).1 ∧ I' 373 14 = iI (fdV L j).2.1 ∧ I' 373 15 = iI (fdV L j).2.2) ∧ (rg = false → I' 373 18 = iI (j : Nat) ∧ LnR I' J' j L) ∧ pS0 T n lo hi = psV T n lo hi (90 - j) i w j L) ∨ (y.1 = iI 0 ∧ (pS0 T n lo hi).1 = 1 ∧ I' 373 10 = iI (pS0 T n lo hi).2.1))) ⟨by omega, I3, J3, rfl, rdf_g hF2 (ft_g hF3), (hF3.1 _ _ (by omega)).trans h985, Or.inl ⟨by omega, rfl, hx3, 0, -1, fun _ => (0, 0, 0), (hF3.1 _ _ (by omega)).trans h11, by omega, hk3, by omega, by omega, fun _ => ⟨(hF3.1 _ _ (by omega)).trans h13, (hF3.1 _ _ (by omega)).trans h14, (hF3.1 _ _ (by omega)).trans h15⟩, fun _ => ⟨(hF3.1 _ _ (by omega)).trans h18, fun k hk => by omega⟩, rfl⟩⟩ (by rw [FU_eq]; omega) (fun i y h => h.1) ?_
  rintro j ⟨fi, S⟩ self ⟨hj, I4, J4, hS4, hF4, g985, hcase⟩ ih
  have hS4 : S = (381, I4, J4, R) := hS4
  subst hS4
  try dsimp only
  refine w_jnP (fun _ => (fi = iI 0 ∧ (pS0 T n lo hi).1 = 1 ∧ I4 373 10 = iI (pS0 T n lo hi).2.1) ∨ (fi = iI 1 ∧ ∃ (w : Int) (L : LN), (-1 ≤ w ∧ w ≤ n) ∧ I4 373 11 = iI w ∧ (rg = true → I4 373 13 = iI (fdV L j).1 ∧ I4 373 14 = iI (fdV L j).2.1 ∧ I4 373 15 = iI (fdV L j).2.2) ∧ (rg = false → I4 373 18 = iI (j : Nat) ∧ LnR I4 J4 j L) ∧ pS0 T n lo hi = (if w = -1 then 0 else 2, w, j, L))) ?_ ?_
  · rintro _ (⟨rfl, hp1, h10⟩ | ⟨rfl, w, L, hwb, h11, hrg, hsc, hps⟩)
    · --N h10, up_ne
      repeat ((first | (with_reducible first | refine w_ltA ?_ | refine w_ltS ?_ | refine w_ltM ?_ | refine w_ltN ?_ | refine w_lt ?_ | refine w_jn ?_ | refine w_ck (by omega) (by assumption) ?_ | refine w_gI (by omega) (by assumption) ?_ | refine w_gR (by omega) (by assumption) (by assumption) ?_ | refine w_al (by omega) (by assumption) (by assumption) ?_ | refine w_pI (by omega) (by assumption) ?_ | refine w_set (by omega) (by assumption) (by omega) (by omega) ?_ | refine w_at (by omega) (by assumption) (by omega) (by omega) ?_ | refine w_sI (by omega) (by assumption) (by omega) (by omega) ?_ | refine w_aI (by omega) (by assumption) (by omega) (by omega) ?_ | refine w_sZ (by omega) (by assumption) (by omega) (by omega) (by decide) ?_ | refine w_pZ (by omega) (by assumption) (by decide) ?_ | refine w_dv (by omega) (by omega) (by omega) (by omega) ?_ | refine w_rm (by omega) (by omega) (by omega) (by omega) ?_) | ((with_reducible refine w_pos ?_ ?_); focus (first | assumption | trivial | exact (ile (by omega) (by omega) (by omega) (by omega)).2 (by omega) | exact (ilt (by omega) (by omega) (by omega) (by omega)).2 (by omega) | exact (ieq (by omega) (by omega) (by omega) (by omega)).2 (by omega))) | ((with_reducible refine w_neg ?_ ?_); focus (first | assumption | exact not_false | trivial | exact mt (ile (by omega) (by omega) (by omega) (by omega)).1 (by omega) | exact mt (ilt (by omega) (by omega) (by omega) (by omega)).1 (by omega) | exact mt (ieq (by omega) (by omega) (by omega) (by omega)).1 (by omega)))); try simp (disch := omega) only [hx985])
      refine w_rt ⟨_, _, rfl, fun a k g1 g2 g3 g4 => ?_, ?_, ?_, ?_, fun h => ?_⟩
      · rw [up_ne (show ¬ (a = 374 ∧ k = Int.toNat 987) by omega), up_ne (show ¬ (a = 374 ∧ k = Int.toNat 986) by omega)]
        exact hF4 a k g1 g2 g3 g4
      · rw [up_ne (show ¬ (374 = 374 ∧ 985 = Int.toNat 987) by omega), up_ne (show ¬ (374 = 374 ∧ 985 = Int.toNat 986) by omega)]
        exact g985
      · rw [hp1, up_ne (show ¬ (374 = 374 ∧ 986 = Int.toNat 987) by omega)]
        exact up_eq _ _ _ _
      · exact (up_eq _ _ _ _).trans ((up_ne (by omega)).trans h10)
      · omega
    · rw [hps]
      have fin : ∀ fl, fl = (if w = -1 then (0 : Int) else 2) → En (fun y => ∃ I' J', y = (381, I', J', R) ∧ RdF I I' ∧ RdP I' J' rg (if w = -1 then 0 else 2, w, j, L)) (rt_ (381, up (up I4 374 (Int.toNat 986) (iI fl)) 374 (Int.toNat 987) (iI w), J4, R)) := fun fl hfl => by
        refine w_rt ⟨_, _, rfl, fun a k g1 g2 g3 g4 => ?_, ?_, ?_, ?_, fun h => ?_⟩
        · rw [up_ne (show ¬ (a = 374 ∧ k = Int.toNat 987) by omega), up_ne (show ¬ (a = 374 ∧ k = Int.toNat 986) by omega)]
          exact hF4 a k g1 g2 g3 g4
        · rw [up_ne (show ¬ (374 = 374 ∧ 985 = Int.toNat 987) by omega), up_ne (show ¬ (374 = 374 ∧ 985 = Int.toNat 986) by omega)]
          exact g985
        · rw [up_ne (show ¬ (374 = 374 ∧ 986 = Int.toNat 987) by omega), hfl]
          exact up_eq _ _ _ _
        · exact up_eq _ _ _ _
        · cases hr : rg
          · have := hsc hr
            refine ⟨?_, fun k hk => ?_⟩
            · rw [up_ne (by omega), up_ne (by omega)]
              exact this.1
            · have h3 := this.2 k hk
              exact ⟨h3.1, by rw [up_ne (by omega), up_ne (by omega)]; exact h3.2.1, by rw [up_ne (by omega), up_ne (by omega)]; exact h3.2.2⟩
          · have := hrg hr
            exact ⟨by rw [up_ne (by omega), up_ne (by omega)]; exact this.1, by rw [up_ne (by omega), up_ne (by omega)]; exact this.2.1, by rw [up_ne (by omega), up_ne (by omega)]; exact this.2.2⟩
      by_cases hw : w = -1
      · repeat ((first | (with_reducible first | refine w_ltA ?_ | refine w_ltS ?_ | refine w_ltM ?_ | refine w_ltN ?_ | refine w_lt ?_ | refine w_jn ?_ | refine w_ck (by omega) (by assumption) ?_ | refine w_gI (by omega) (by assumption) ?_ | refine w_gR (by omega) (by assumption) (by assumption) ?_ | refine w_al (by omega) (by assumption) (by assumption) ?_ | refine w_pI (by omega) (by assumption) ?_ | refine w_set (by omega) (by assumption) (by omega) (by omega) ?_ | refine w_at (by omega) (by assumption) (by omega) (by omega) ?_ | refine w_sI (by omega) (by assumption) (by omega) (by omega) ?_ | refine w_aI (by omega) (by assumption) (by omega) (by omega) ?_ | refine w_sZ (by omega) (by assumption) (by omega) (by omega) (by decide) ?_ | refine w_pZ (by omega) (by assumption) (by decide) ?_ | refine w_dv (by omega) (by omega) (by omega) (by omega) ?_ | refine w_rm (by omega) (by omega) (by omega) (by omega) ?_) | ((with_reducible refine w_pos ?_ ?_); focus (first | assumption | trivial | exact (ile (by omega) (by omega) (by omega) (by omega)).2 (by omega) | exact (ilt (by omega) (by omega) (by omega) (by omega)).2 (by omega) | exact (ieq (by omega) (by omega) (by omega) (by omega)).2 (by omega))) | ((with_reducible refine w_neg ?_ ?_); focus (first | assumption | exact not_false | trivial | exact mt (ile (by omega) (by omega) (by omega) (by omega)).1 (by omega) | exact mt (ilt (by omega) (by omega) (by omega) (by omega)).1 (by omega) | exact mt (ieq (by omega) (by omega) (by omega) (by omega)).1 (by omega)))); try simp (disch := omega) only [h11, up_ne])
        rw [hw] at fin ⊢
        exact fin 0 rfl
      · repeat ((first | (with_reducible first | refine w_ltA ?_ | refine w_ltS ?_ | refine w_ltM ?_ | refine w_ltN ?_ | refine w_lt ?_ | refine w_jn ?_ | refine w_ck (by omega) (by assumption) ?_ | refine w_gI (by omega) (by assumption) ?_ | refine w_gR (by omega) (by assumption) (by assumption) ?_ | refine w_al (by omega) (by assumption) (by assumption) ?_ | refine w_pI (by omega) (by assumption) ?_ | refine w_set (by omega) (by assumption) (by omega) (by omega) ?_ | refine w_at (by omega) (by assumption) (by omega) (by omega) ?_ | refine w_sI (by omega) (by assumption) (by omega) (by omega) ?_ | refine w_aI (by omega) (by assumption) (by omega) (by omega) ?_ | refine w_sZ (by omega) (by assumption) (by omega) (by omega) (by decide) ?_ | refine w_pZ (by omega) (by assumption) (by decide) ?_ | refine w_dv (by omega) (by omega) (by omega) (by omega) ?_ | refine w_rm (by omega) (by omega) (by omega) (by omega) ?_) | ((with_reducible refine w_pos ?_ ?_); focus (first | assumption | trivial | exact (ile (by omega) (by omega) (by omega) (by omega)).2 (by omega) | exact (ilt (by omega) (by omega) (by omega) (by omega)).2 (by omega) | exact (ieq (by omega) (by omega) (by omega) (by omega)).2 (by omega))) | ((with_reducible refine w_neg ?_ ?_); focus (first | assumption | exact not_false | trivial | exact mt (ile (by omega) (by omega) (by omega) (by omega)).1 (by omega) | exact mt (ilt (by omega) (by omega) (by omega) (by omega)).1 (by omega) | exact mt (ieq (by omega) (by omega) (by omega) (by omega)).1 (by omega)))); try simp (disch := omega) only [h11, up_ne])
        exact fin 2 (by rw [if_neg hw])
  intro j12 hj12
  rcases hcase with ⟨hj80, hfi, hx4, i, w, L, g11, hwb, hk, hji, hin, hrg, hsc, hps⟩ | ⟨hfi, hp1, h10⟩
  · have hfi : fi = iI 1 := hfi
    subst hfi
    have hKb := tK_b (T := T) (n := n) (i := i)
    obtain ⟨q1, q2, q3, q4, q5⟩ := id hk
    obtain ⟨d, hd⟩ : ∃ d, 90 - j = d + 1 := ⟨89 - j, by omega⟩
    have hd2 : 90 - (j + 1) = d := by omega
    rw [hd] at hps
    refine w_neg (show ¬ (iI 1 = iI 0) by decide) ?_
    refine w_gI (by omega) k374 ?_
    rw [q3]
    by_cases h0 : tK T n i = 0
    · rw [ps_0 h0] at hps
      refine w_pos (by rw [h0]; rfl) ?_
      exact hj12 _ (Or.inr ⟨rfl, w, L, hwb, g11, hrg, hsc, hps⟩)
    have hkr : ¬ iI (kR (tK T n i)) = iI 0 := by
      unfold kR
      rcases (show tK T n i = 1 ∨ tK T n i = 2 ∨ tK T n i = 3 ∨ tK T n i = 4 by omega) with h | h | h | h <;> rw [h] <;> decide
    refine w_neg hkr ?_
    have hj79 : j < 80 := by
      have hS := tS_b (T := T) hin
      have : ¬ (n ≤ tS T n i) := fun h => h0 (if_pos h)
      omega
    refine w_gI (by omega) k374 ?_
    refine w_jnP (fun x => x = wOf T n i) ?_ ?_
    · rintro x rfl
      refine w_jnP (fun (x : Int32 × St) => ∃ I' J', x.2 = (381, I', J', R) ∧ RdF I I' ∧ I' 374 985 = iI 0 ∧ ((x.1 = iI 1 ∧ TXR I' T n ∧ ∃ v : Nat, vbH T n i lo (hi + 1 - lo) = v ∧ v < 14 ∧ vB T n i v = true ∧ (lnV T n v i w).1 = true ∧ TkR I' J' T n (lnV T n v i w).2.1 ∧ I' 373 11 = iI (lnV T n v i w).2.2.1 ∧ (rg = true → I' 373 13 = iI (fdV (upL L j (v, (lnV T n v i w).2.2.2 0, (lnV T n v i w).2.2.2 1)) (j + 1)).1 ∧ I' 373 14 = iI (fdV (upL L j (v, (lnV T n v i w).2.2.2 0, (lnV T n v i w).2.2.2 1)) (j + 1)).2.1 ∧ I' 373 15 = iI (fdV (upL L j (v, (lnV T n v i w).2.2.2 0, (lnV T n v i w).2.2.2 1)) (j + 1)).2.2) ∧ (rg = false → I' 373 18 = iI ((j + 1 : Nat) : Int) ∧ LnR I' J' (j + 1) (upL L j (v, (lnV T n v i w).2.2.2 0, (lnV T n v i w).2.2.2 1)))) ∨ (x.1 = iI 0 ∧ (pS0 T n lo hi).1 = 1 ∧ I' 373 10 = iI (pS0 T n lo hi).2.1))) ?_ ?_
      · rintro ⟨fi, S⟩ ⟨I5, J5, hS5, hF5, f985, hc⟩
        have hS5 : S = (381, I5, J5, R) := hS5
        subst hS5
        refine w_jnP (fun (x : Int32 × St) => ∃ I' J', x.2 = (381, I', J', R) ∧ RdF I I' ∧ I' 374 985 = iI 0 ∧ ((x.1 = iI 1 ∧ TXR I' T n ∧ ∃ v : Nat, vbH T n i lo (hi + 1 - lo) = v ∧ v < 14 ∧ vB T n i v = true ∧ lnO T n v i w = true ∧ TkR I' J' T n (lnV T n v i w).2.1 ∧ I' 373 11 = iI (lnV T n v i w).2.2.1 ∧ (rg = true → I' 373 13 = iI (fdV (upL L j (v, (lnV T n v i w).2.2.2 0, (lnV T n v i w).2.2.2 1)) (j + 1)).1 ∧ I' 373 14 = iI (fdV (upL L j (v, (lnV T n v i w).2.2.2 0, (lnV T n v i w).2.2.2 1)) (j + 1)).2.1 ∧ I' 373 15 = iI (fdV (upL L j (v, (lnV T n v i w).2.2.2 0, (lnV T n v i w).2.2.2 1)) (j + 1)).2.2) ∧ (rg = false → I' 373 18 = iI ((j + 1 : Nat) : Int) ∧ LnR I' J' (j + 1) (upL L j (v, (lnV T n v i w).2.2.2 0, (lnV T n v i w).2.2.2 1)))) ∨ (x.1 = iI 0 ∧ (pS0 T n lo hi).1 = 1 ∧ I' 373 10 = iI (pS0 T n lo hi).2.1))) ?_ ?_
        · rintro ⟨fi, S⟩ ⟨I6, J6, hS6, hF6, e985, hc6⟩
          have hS6 : S = (381, I6, J6, R) := hS6
          subst hS6
          rcases hc6 with ⟨hfi6, hx6, v, hv, hv14, hvb, ho, hk6, h611, hrg6, hsc6⟩ | ⟨hfi6, hp6, h610⟩
          · have hfi6 : fi = iI 1 := hfi6
            subst hfi6
            have h5 := ln_5 hin hwb hv14 hvb ho
            have h5j := five_s hji h5.1
            have hE := tE_b (T := T) hin
            have hnt := nt_b (T := T) (n := n) (v := v) (nOf v) 0 (tE T n i) w (fun _ => 0) hE.2.1 hwb
            rw [ps_s h0 hv ho] at hps
            refine w_jn ?_
            refine w_neg (show ¬ (iI 1 = iI 0) by decide) ?_
            refine w_ck (by omega) k374 ?_
            have hpn : (lnV T n v i w).2.1 ≤ n := hnt.2.1
            have hE2 := tE_b (T := T) hpn
            refine w_cV (token_Q (J := J6) (i := tE T n (lnV T n v i w).2.1) hR hx6 ht hk6.1 h5.2.1) ?_
            rintro S ⟨I7, J7, rfl, hF7, hk7⟩
            refine ih (iI 1, 381, I7, J7, R) ⟨by omega, I7, J7, rfl, rdf_g hF6 (ft_g hF7), (hF7.1 _ _ (by omega)).trans e985, Or.inl ⟨by omega, rfl, hF7.x hx6, tE T n (lnV T n v i w).2.1, (lnV T n v i w).2.2.1, _, (hF7.1 _ _ (by omega)).trans h611, hnt.2.2.1, hk7, h5j, h5.2.1, fun h => ?_, fun h => ?_, by rw [hps, hd2]⟩⟩
            · have := hrg6 h
              exact ⟨(hF7.1 _ _ (by omega)).trans this.1, (hF7.1 _ _ (by omega)).trans this.2.1, (hF7.1 _ _ (by omega)).trans this.2.2⟩
            · have := hsc6 h
              refine ⟨(hF7.1 _ _ (by omega)).trans this.1, fun k hk => ?_⟩
              have h3 := this.2 k hk
              exact ⟨(hF7.2 _ _ (by omega)).trans h3.1, (hF7.1 _ _ (by omega)).trans h3.2.1, (hF7.1 _ _ (by omega)).trans h3.2.2⟩
          · have hfi6 : fi = iI 0 := hfi6
            subst hfi6
            refine w_jn ?_
            refine w_pos rfl ?_
            exact ih _ ⟨by omega, I6, J6, rfl, hF6, e985, Or.inr ⟨rfl, hp6, h610⟩⟩
        · intro j26 hj26
          rcases hc with ⟨hfi5, hx5, v, hv, hv14, hvb, hl1, hk5, h511, hrg5, hsc5⟩ | ⟨hfi5, hp5, h510⟩
          · have hfi5 : fi = iI 1 := hfi5
            subst hfi5
            have hKb5 := tK_b (T := T) (n := n) (i := (lnV T n v i w).2.1)
            refine w_neg (show ¬ (iI 1 = iI 0) by decide) ?_
            refine w_gI (by omega) k374 ?_
            rw [hk5.2.2.1]
            by_cases h3 : tK T n (lnV T n v i w).2.1 = 3
            · refine w_pos (by rw [h3]; rfl) ?_
              exact hj26 _ ⟨I5, J5, rfl, hF5, f985, Or.inl ⟨rfl, hx5, v, hv, hv14, hvb, by rw [lnO_t hl1]; exact decide_eq_true h3, hk5, h511, hrg5, hsc5⟩⟩
            · have hne : ¬ iI (kR (tK T n (lnV T n v i w).2.1)) = iI 4 := by
                unfold kR
                rcases (show tK T n (lnV T n v i w).2.1 = 0 ∨ tK T n (lnV T n v i w).2.1 = 1 ∨ tK T n (lnV T n v i w).2.1 = 2 ∨ tK T n (lnV T n v i w).2.1 = 4 by omega) with h | h | h | h <;> rw [h] <;> decide
              have hof : lnO T n v i w = false := by
                rw [lnO_t hl1]
                exact decide_eq_false h3
              rw [ps_f h0 hv hof] at hps
              refine w_neg hne ?_
              refine w_ck (by omega) k374 ?_
              refine w_cI (Q' := fun y => y = _) ⟨_, fails_Q hk5.2.1, rfl⟩ ?_
              rintro y S he
              cases he
              refine hj26 _ ⟨_, J5, rfl, rdf_g hF5 (gq_u gq_r (by omega)), by rw [up_ne (by omega)]; exact f985, Or.inr ⟨rfl, by rw [hps], by rw [hps]; exact up_eq _ _ _ _⟩⟩
          · have hfi5 : fi = iI 0 := hfi5
            subst hfi5
            refine w_pos rfl ?_
            exact hj26 _ ⟨I5, J5, rfl, hF5, f985, Or.inr ⟨rfl, hp5, h510⟩⟩
      · intro j25 hj25
        rcases (show rg = false ∨ rg = true by cases rg <;> simp) with rfl | rfl
        · refine w_pos rfl ?_
          refine w_ck (by omega) k374 ?_
          have hl4 : lo = 4 ∧ hi = 13 := by
            exact hlh
          have hf10 : hi + 1 - lo = 10 := by omega
          have hsq := scriptLine_Q (J := J4) hR hx4 ht hk hin g11 hwb (hsc rfl).1 (by omega)
          refine w_cI hsq ?_
          rintro y S ⟨I5, J5, rfl, hx5, hg5, (⟨hN, rfl, h510⟩ | ⟨v, hv, hv14, hvb, (⟨hl1, rfl, hk5, h511, h518, hln, hold⟩ | ⟨hl1, rfl, h510⟩)⟩)⟩
          · rw [← hf10, ← hl4.1] at hN
            rw [ps_n h0 hN] at hps
            exact hj25 (iI 0, 381, I5, J5, R) ⟨I5, J5, rfl, rdf_g hF4 hg5, (hg5 _ _ (by omega) (by omega) (by omega)).trans g985, Or.inr ⟨rfl, by rw [hps], by rw [hps]; exact h510⟩⟩
          · have hv' : vbH T n i lo (hi + 1 - lo) = v := by
              rw [hf10, hl4.1]
              exact hv
            refine hj25 (iI 1, 381, I5, J5, R) ⟨I5, J5, rfl, rdf_g hF4 hg5, (hg5 _ _ (by omega) (by omega) (by omega)).trans g985, Or.inl ⟨rfl, hx5, v, hv', hv14, hvb, hl1, hk5, h511, fun h => (by cases h), fun _ => ⟨h518, fun k hk => ?_⟩⟩⟩
            unfold upL
            by_cases e : k = j
            · rw [if_pos e, e]
              exact hln
            · rw [if_neg e]
              have h1 := (hsc rfl).2 k (by omega)
              have h2 := hold k (by omega)
              exact ⟨h2.1.trans h1.1, h2.2.1.trans h1.2.1, h2.2.2.trans h1.2.2⟩
          · have hv' : vbH T n i lo (hi + 1 - lo) = v := by
              rw [hf10, hl4.1]
              exact hv
            rw [ps_f h0 hv' (lnO_f hl1)] at hps
            exact hj25 (iI 0, 381, I5, J5, R) ⟨I5, J5, rfl, rdf_g hF4 hg5, (hg5 _ _ (by omega) (by omega) (by omega)).trans g985, Or.inr ⟨rfl, by rw [hps], by rw [hps]; exact h510⟩⟩
        · refine w_neg (show ¬ (iI 1 = iI 0) by decide) ?_
          refine w_ck (by omega) k374 ?_
          have hl4 : lo = 0 ∧ hi = 3 := by
            exact hlh
          have hf10 : hi + 1 - lo = 4 := by omega
          have hg := hrg rfl
          have hsq := ringLine_Q (J := J4) (f := fdV L j) hR hx4 ht hk hin g11 hwb hg.1 hg.2.1 hg.2.2
          refine w_cI hsq ?_
          rintro y S ⟨I5, J5, rfl, hx5, hg5, (⟨hN, rfl, h510⟩ | ⟨v, hv, hv14, hvb, (⟨hl1, rfl, hk5, h511, h513, h514, h515⟩ | ⟨hl1, rfl, h510⟩)⟩)⟩
          · rw [← hf10, ← hl4.1] at hN
            rw [ps_n h0 hN] at hps
            exact hj25 (iI 0, 381, I5, J5, R) ⟨I5, J5, rfl, rdf_g hF4 hg5, (hg5 _ _ (by omega) (by omega) (by omega)).trans g985, Or.inr ⟨rfl, by rw [hps], by rw [hps]; exact h510⟩⟩
          · have hv' : vbH T n i lo (hi + 1 - lo) = v := by
              rw [hf10, hl4.1]
              exact hv
            have ef : ∀ x : Nat × Int × Int, fdV (upL L j x) (j + 1) = fdS (fdV L j) x.1 x.2.1 := fun x => by
              have e : upL L j x j = x := if_pos rfl
              rw [fdV_s, fdV_upL j (Nat.le_refl _), e]
            refine hj25 (iI 1, 381, I5, J5, R) ⟨I5, J5, rfl, rdf_g hF4 hg5, (hg5 _ _ (by omega) (by omega) (by omega)).trans g985, Or.inl ⟨rfl, hx5, v, hv', by omega, hvb, hl1, hk5, h511, fun _ => ?_, fun h => (by cases h)⟩⟩
            rw [ef]
            exact ⟨h513, h514, h515⟩
          · have hv' : vbH T n i lo (hi + 1 - lo) = v := by
              rw [hf10, hl4.1]
              exact hv
            rw [ps_f h0 hv' (lnO_f hl1)] at hps
            exact hj25 (iI 0, 381, I5, J5, R) ⟨I5, J5, rfl, rdf_g hF4 hg5, (hg5 _ _ (by omega) (by omega) (by omega)).trans g985, Or.inr ⟨rfl, by rw [hps], by rw [hps]; exact h510⟩⟩
    · intro j24 hj24
      by_cases h1 : tK T n i = 1
      · refine w_pos (by rw [q3, h1]; rfl) ?_
        refine w_gJ (by omega) k374 ?_
        refine hj24 _ ?_
        rw [q5 h1]
        unfold wOf
        by_cases h8 : tE T n i - tS T n i ≤ 8
        · rw [if_pos h8, if_pos ⟨h1, h8⟩]
        · rw [if_neg h8, if_neg (fun h => h8 h.2)]
      · refine w_neg ?_ ?_
        · rw [q3]
          unfold kR
          rcases (show tK T n i = 2 ∨ tK T n i = 3 ∨ tK T n i = 4 by omega) with h | h | h <;> rw [h] <;> decide
        · exact hj24 _ (wOf_n h1).symm
  · have hfi : fi = iI 0 := hfi
    subst hfi
    refine w_pos rfl ?_
    exact hj12 _ (Or.inl ⟨rfl, hp1, h10⟩)
end RDB
