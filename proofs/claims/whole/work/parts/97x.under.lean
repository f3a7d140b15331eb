/-! TEXTS: the class reads all lines -/
def pS0 (T : TX) (n lo hi : Nat) : Int × Int × Nat × LN := psV T n lo hi 90 0 (-1) 0 (fun _ => (0, 0, 0))
/-- what the reading of a text may change -/
def FU2 (I I' : MI) : Prop := ∀ a k, ¬ (a = 143 ∧ 4 ≤ k) → ¬ (a = 145 ∧ (k = 3 ∨ k = 4)) → ¬ (a = 143 ∧ (k = 2 ∨ k = 3)) → a ≠ 146 → a ≠ 147 → a ≠ 148 → I' a k = I a k
def fdV (L : LN) : Nat → Int × Int × Int
  | 0 => (3, 16, 1)
  | m + 1 => if (L m).1 = 0 then ((L m).2.1, (fdV L m).2) else if (L m).1 = 1 then ((fdV L m).1, (L m).2.1, (fdV L m).2.2) else if (L m).1 = 2 then ((fdV L m).1, (fdV L m).2.1, 1) else ((fdV L m).1, (fdV L m).2.1, 0)
def lnOk (lo hi : Nat) (x : Nat × Int × Int) : Prop := lo ≤ x.1 ∧ x.1 ≤ hi ∧ (1 ≤ nOf x.1 → canB x.1 0 x.2.1) ∧ (2 ≤ nOf x.1 → canB x.1 1 x.2.2)
theorem lnC_upL {I : MI} {m : Nat} {L : LN} {x : Nat × Int × Int} (h : LnC I m L) (hx : LNe I m x) : LnC I (m + 1) (upL L m x) := fun k hk => by
  unfold upL
  by_cases e : k = m
  · rw [if_pos e, e]
    exact hx
  · rw [if_neg e]
    exact h k (by omega)
theorem nt_w {T : TX} {n v : Nat} : ∀ (d j p : Nat) (w : Int) (f : Nat → Int), (ntN T n v d j p w f).1 = true → (ntN T n v d j p w f).2.2.1 = -1 → w = -1 ∧ (∀ k, j ≤ k → k < j + d → canB v k ((ntN T n v d j p w f).2.2.2 k)) ∧ ∀ k, k < j → (ntN T n v d j p w f).2.2.2 k = f k
  | 0, j, p, w, f, _, h => ⟨h, fun k h1 h2 => by omega, fun k _ => rfl⟩
  | d + 1, j, p, w, f, h, h1 => by
    unfold ntN at h h1 ⊢
    by_cases hk : tK T n p = 2
    · rw [if_pos hk] at h h1 ⊢
      obtain ⟨i1, i2, i3⟩ := nt_w d (j + 1) (tE T n p) (nmW T n v j p w) (fun k => if k = j then tN T n p else f k) h h1
      unfold nmW at i1
      by_cases hw : w = -1
      · rw [if_pos hw] at i1
        by_cases hc : canB v j (tN T n p)
        · refine ⟨hw, fun k h2 h3 => ?_, fun k h2 => ?_⟩
          · by_cases e : k = j
            · rw [e, i3 j (by omega), if_pos rfl]
              exact hc
            · exact i2 k (by omega) (by omega)
          · rw [i3 k (by omega), if_neg (by omega)]
        · rw [if_neg hc] at i1
          omega
      · rw [if_neg hw] at i1
        exact absurd i1 hw
    · rw [if_neg hk] at h
      cases h
theorem ps_ok {T : TX} {n lo hi : Nat} : ∀ (d i : Nat) (w : Int) (m : Nat) (L : LN), i ≤ n → -1 ≤ w ∧ w ≤ n → hi < 14 → (w = -1 → ∀ k, k < m → lnOk lo hi (L k)) → (psV T n lo hi d i w m L).1 = 0 → (d ≠ 0 ∧ n < i + 5 * d) → ∀ k, k < (psV T n lo hi d i w m L).2.2.1 → lnOk lo hi ((psV T n lo hi d i w m L).2.2.2 k)
  | 0, i, w, m, L, _, _, _, _, _, hd, _ => absurd rfl hd.1
  | d + 1, i, w, m, L, hin, hw, hhi, hL, h, hd, k => by
    intro hk
    by_cases h0 : tK T n i = 0
    · rw [ps_0 h0] at h hk ⊢
      have h : (if w = -1 then (0 : Int) else 2) = 0 := h
      have hw1 : w = -1 := by
        by_cases e : w = -1
        · exact e
        · rw [if_neg e] at h
          omega
      exact hL hw1 k hk
    by_cases h1 : vbH T n i lo (hi + 1 - lo) = -1
    · rw [ps_n h0 h1] at h
      have h : (1 : Int) = 0 := h
      omega
    obtain ⟨v, hv, hv1, hv2, hvb⟩ := vbH_is _ _ h1
    cases ho : lnO T n v i w
    · rw [ps_f h0 hv ho] at h
      have h : (1 : Int) = 0 := h
      omega
    · rw [ps_s h0 hv ho] at h hk ⊢
      have h5 := ln_5 hin hw (by omega) hvb ho
      have hE := tE_b (T := T) hin
      have hnt := nt_b (T := T) (n := n) (v := v) (nOf v) 0 (tE T n i) w (fun _ => 0) hE.2.1 hw
      have ho1 : (lnV T n v i w).1 = true := by
        unfold lnO at ho
        rw [Bool.and_eq_true] at ho
        exact ho.1
      refine ps_ok d _ _ _ _ h5.2.1 hnt.2.2.1 hhi (fun hw1 => ?_) h ⟨?_, by omega⟩ k hk
      · have hn := nt_w (T := T) (n := n) (v := v) (nOf v) 0 (tE T n i) w (fun _ => 0) ho1 hw1
        intro k hk
        unfold upL
        by_cases e : k = m
        · rw [if_pos e]
          exact ⟨hv1, by show v ≤ hi; omega, fun h1 => hn.2.1 0 (by omega) (by have h1 : 1 ≤ nOf v := h1; omega), fun h1 => hn.2.1 1 (by omega) (by have h1 : 2 ≤ nOf v := h1; omega)⟩
        · rw [if_neg e]
          exact hL hn.1 k (by omega)
      · intro hd0
        subst hd0
        have h6 := tS_b (T := T) h5.2.1
        omega
section UND
variable {I : MI} {J : MJ} {R : MR} {α γ : Type} {Q : γ → Prop} {T : TX} {n i p s v lo hi m k : Nat} {c w x : Int} {S : St} {L : LN}
theorem fl_lnC {I I' : MI} {m : Nat} {L : LN} (h : FL m I I') (hL : LnC I m L) : LnC I' m L := fun k hk => by
  have := hL k hk
  exact ⟨(h 146 k (by omega) (by omega) (by omega)).trans this.1, fun h1 => (h 147 k (by omega) (by omega) (by omega)).trans (this.2.1 h1), fun h1 => (h 148 k (by omega) (by omega) (by omega)).trans (this.2.2 h1)⟩
theorem fu2_fl {I I1 I' : MI} {m : Nat} (h : FU2 I I1) (h2 : FL m I1 I') : FU2 I I' := fun a k h1 h3 h4 h5 h6 h7 => (h2 a k h1 (by omega) (by omega)).trans (h a k h1 h3 h4 h5 h6 h7)
theorem fu2_u {I I1 : MI} {a k : Nat} {x : Int32} (h : FU2 I I1) (ha : (a = 145 ∧ (k = 3 ∨ k = 4)) ∨ (a = 143 ∧ (k = 2 ∨ k = 3)) ∨ (a = 143 ∧ 4 ≤ k)) : FU2 I (up I1 a k x) := fun b j h1 h3 h4 h5 h6 h7 => by
  rw [up_ne (by omega)]
  exact h b j h1 h3 h4 h5 h6 h7
theorem understand_C (hRC : RC R) (hx : TXC I T n) (ht : Tok T n) (hlo : lo ≤ hi) (hhi : hi < 14) : En (fun y => ∃ I', y.2 = (381, I', J, R) ∧ FU2 I I' ∧ y.1 = iI (if (pS0 T n lo hi).1 = 0 then 1 else 0) ∧ I' 143 2 = iI (pS0 T n lo hi).1 ∧ I' 143 3 = iI (pS0 T n lo hi).2.1 ∧ ((pS0 T n lo hi).1 = 0 → I' 145 3 = iI ((pS0 T n lo hi).2.2.1 : Nat) ∧ (pS0 T n lo hi).2.2.1 ≤ 80 ∧ LnC I' (pS0 T n lo hi).2.2.1 (pS0 T n lo hi).2.2.2)) (f_X2_understand (381, I, J, R) 145 143 (iI (lo : Nat)) (iI (hi : Nat))) := by
  have k143 := kd_143
  have k145 := kd_145
  have hn4 := ht.1
  obtain ⟨-, -, -, -, -, -, -, r2, r3, r4, -⟩ := id hRC
  rw [u_X2_understand]
  repeat ((first | (with_reducible first | refine w_ltA ?_ | refine w_ltS ?_ | refine w_ltM ?_ | refine w_ltN ?_ | refine w_lt ?_ | refine w_jn ?_ | refine w_ck (by omega) (by assumption) ?_ | refine w_gI (by omega) (by assumption) ?_ | refine w_gR (by omega) (by assumption) (by assumption) ?_ | refine w_al (by omega) (by assumption) (by assumption) ?_ | refine w_pI (by omega) (by assumption) ?_ | refine w_set (by omega) (by assumption) (by omega) (by omega) ?_ | refine w_at (by omega) (by assumption) (by omega) (by omega) ?_ | refine w_sI (by omega) (by assumption) (by omega) (by omega) ?_ | refine w_aI (by omega) (by assumption) (by omega) (by omega) ?_ | refine w_sZ (by omega) (by assumption) (by omega) (by omega) (by decide) ?_ | refine w_pZ (by omega) (by assumption) (by decide) ?_ | refine w_dv (by omega) (by omega) (by omega) (by omega) ?_ | refine w_rm (by omega) (by omega) (by omega) (by omega) ?_) | ((with_reducible refine w_pos ?_ ?_); focus (first | assumption | trivial | exact (ile (by omega) (by omega) (by omega) (by omega)).2 (by omega) | exact (ilt (by omega) (by omega) (by omega) (by omega)).2 (by omega) | exact (ieq (by omega) (by omega) (by omega) (by omega)).2 (by omega))) | ((with_reducible refine w_neg ?_ ?_); focus (first | assumption | exact not_false | trivial | exact mt (ile (by omega) (by omega) (by omega) (by omega)).1 (by omega) | exact mt (ilt (by omega) (by omega) (by omega) (by omega)).1 (by omega) | exact mt (ieq (by omega) (by omega) (by omega) (by omega)).1 (by omega)))); skip)
  rw [u_X6_blame]
  refine w_cV (Q' := fun S => S = (381, up (up (up (up I 145 3 (iI 0)) 145 4 (iI (-1))) 143 2 (iI 0)) 143 3 (iI (-1)), J, R)) ?_ ?_
  · repeat ((first | (with_reducible first | refine w_ltA ?_ | refine w_ltS ?_ | refine w_ltM ?_ | refine w_ltN ?_ | refine w_lt ?_ | refine w_jn ?_ | refine w_ck (by omega) (by assumption) ?_ | refine w_gI (by omega) (by assumption) ?_ | refine w_gR (by omega) (by assumption) (by assumption) ?_ | refine w_al (by omega) (by assumption) (by assumption) ?_ | refine w_pI (by omega) (by assumption) ?_ | refine w_set (by omega) (by assumption) (by omega) (by omega) ?_ | refine w_at (by omega) (by assumption) (by omega) (by omega) ?_ | refine w_sI (by omega) (by assumption) (by omega) (by omega) ?_ | refine w_aI (by omega) (by assumption) (by omega) (by omega) ?_ | refine w_sZ (by omega) (by assumption) (by omega) (by omega) (by decide) ?_ | refine w_pZ (by omega) (by assumption) (by decide) ?_ | refine w_dv (by omega) (by omega) (by omega) (by omega) ?_ | refine w_rm (by omega) (by omega) (by omega) (by omega) ?_) | ((with_reducible refine w_pos ?_ ?_); focus (first | assumption | trivial | exact (ile (by omega) (by omega) (by omega) (by omega)).2 (by omega) | exact (ilt (by omega) (by omega) (by omega) (by omega)).2 (by omega) | exact (ieq (by omega) (by omega) (by omega) (by omega)).2 (by omega))) | ((with_reducible refine w_neg ?_ ?_); focus (first | assumption | exact not_false | trivial | exact mt (ile (by omega) (by omega) (by omega) (by omega)).1 (by omega) | exact mt (ilt (by omega) (by omega) (by omega) (by omega)).1 (by omega) | exact mt (ieq (by omega) (by omega) (by omega) (by omega)).1 (by omega)))); skip)
    exact w_rt rfl
  rintro S rfl
  have hF0 : FU2 I (up (up (up (up I 145 3 (iI 0)) 145 4 (iI (-1))) 143 2 (iI 0)) 143 3 (iI (-1))) := fu2_u (fu2_u (fu2_u (fu2_u (fun _ _ _ _ _ _ _ _ => rfl) (by omega)) (by omega)) (by omega)) (by omega)
  have e5 : up (up (up (up I 145 3 (iI 0)) 145 4 (iI (-1))) 143 2 (iI 0)) 143 3 (iI (-1)) 145 3 = iI 0 := by
    rw [up_ne (by omega), up_ne (by omega), up_ne (by omega), up_eq]
  have e6 : up (up (up (up I 145 3 (iI 0)) 145 4 (iI (-1))) 143 2 (iI 0)) 143 3 (iI (-1)) 145 4 = iI (-1) := by
    rw [up_ne (by omega), up_ne (by omega), up_eq]
  have e2 : up (up (up (up I 145 3 (iI 0)) 145 4 (iI (-1))) 143 2 (iI 0)) 143 3 (iI (-1)) 143 2 = iI 0 := by
    rw [up_ne (by omega), up_eq]
  have e3 : up (up (up (up I 145 3 (iI 0)) 145 4 (iI (-1))) 143 2 (iI 0)) 143 3 (iI (-1)) 143 3 = iI (-1) := up_eq _ _ _ _
  generalize up (up (up (up I 145 3 (iI 0)) 145 4 (iI (-1))) 143 2 (iI 0)) 143 3 (iI (-1)) = I1 at *
  have hx1 : TXC I1 T n := ⟨(hF0 143 1 (by omega) (by omega) (by omega) (by omega) (by omega) (by omega)).trans hx.1, fun i hi => (hF0 144 i (by omega) (by omega) (by omega) (by omega) (by omega) (by omega)).trans (hx.2 i hi)⟩
  repeat ((first | (with_reducible first | refine w_ltA ?_ | refine w_ltS ?_ | refine w_ltM ?_ | refine w_ltN ?_ | refine w_lt ?_ | refine w_jn ?_ | refine w_ck (by omega) (by assumption) ?_ | refine w_gI (by omega) (by assumption) ?_ | refine w_gR (by omega) (by assumption) (by assumption) ?_ | refine w_al (by omega) (by assumption) (by assumption) ?_ | refine w_pI (by omega) (by assumption) ?_ | refine w_set (by omega) (by assumption) (by omega) (by omega) ?_ | refine w_at (by omega) (by assumption) (by omega) (by omega) ?_ | refine w_sI (by omega) (by assumption) (by omega) (by omega) ?_ | refine w_aI (by omega) (by assumption) (by omega) (by omega) ?_ | refine w_sZ (by omega) (by assumption) (by omega) (by omega) (by decide) ?_ | refine w_pZ (by omega) (by assumption) (by decide) ?_ | refine w_dv (by omega) (by omega) (by omega) (by omega) ?_ | refine w_rm (by omega) (by omega) (by omega) (by omega) ?_) | ((with_reducible refine w_pos ?_ ?_); focus (first | assumption | trivial | exact (ile (by omega) (by omega) (by omega) (by omega)).2 (by omega) | exact (ilt (by omega) (by omega) (by omega) (by omega)).2 (by omega) | exact (ieq (by omega) (by omega) (by omega) (by omega)).2 (by omega))) | ((with_reducible refine w_neg ?_ ?_); focus (first | assumption | exact not_false | trivial | exact mt (ile (by omega) (by omega) (by omega) (by omega)).1 (by omega) | exact mt (ilt (by omega) (by omega) (by omega) (by omega)).1 (by omega) | exact mt (ieq (by omega) (by omega) (by omega) (by omega)).1 (by omega)))); skip)
  refine w_cV (Q' := fun S => ∃ I', S = (381, I', J, R) ∧ F149 I1 I' ∧ TkC I' T n 0) ?_ ?_
  · rw [u_X6_goToFirst]
    refine w_pI (by omega) k143 ?_
    have hF1 : F149 I1 (up I1 143 7 (iI 0)) := f149_u f149_r
    refine w_ck (by omega) k143 ?_
    refine w_cV (next_C hRC (hF1.x hx1) ht (i := 0) (up_eq _ _ _ _) (by omega)) ?_
    rintro S ⟨I2, rfl, hF2, hk2⟩
    exact w_rt ⟨I2, rfl, hF1.t hF2, hk2⟩
  rintro S ⟨I2, rfl, hF2, hk0⟩
  have hG2 : FU2 I I2 := fun a k h1 h3 h4 h5 h6 h7 => (hF2 a k h1).trans (hF0 a k h1 h3 h4 h5 h6 h7)
  refine w_lp 80 (fun j y => j ≤ 80 ∧ ∃ (i : Nat) (w : Int) (L : LN) (I' : MI), y = (381, I', J, R) ∧ FU2 I I' ∧ I' 145 3 = iI (j : Nat) ∧ I' 145 4 = iI w ∧ (-1 ≤ w ∧ w ≤ n) ∧ I' 143 2 = iI 0 ∧ I' 143 3 = iI (-1) ∧ TkC I' T n i ∧ 5 * j ≤ i ∧ i ≤ n ∧ LnC I' j L ∧ pS0 T n lo hi = psV T n lo hi (90 - j) i w j L) ⟨by omega, 0, -1, fun _ => (0, 0, 0), I2, rfl, hG2, (hF2 _ _ (by omega)).trans e5, (hF2 _ _ (by omega)).trans e6, by omega, (hF2 _ _ (by omega)).trans e2, (hF2 _ _ (by omega)).trans e3, hk0, by omega, by omega, fun k hk => by omega, rfl⟩ (by rw [FU_eq]; omega) (fun i y h => h.1) ?_
  rintro j y self ⟨hj, i, w, L, I3, rfl, hG, g5, g6, hwb, g2, g3, hk, hji, hin, hL, hps⟩ ih
  try dsimp only
  have hx3 : TXC I3 T n := ⟨(hG 143 1 (by omega) (by omega) (by omega) (by omega) (by omega) (by omega)).trans hx.1, fun i hi => (hG 144 i (by omega) (by omega) (by omega) (by omega) (by omega) (by omega)).trans (hx.2 i hi)⟩
  obtain ⟨d, hd⟩ : ∃ d, 90 - j = d + 1 := ⟨89 - j, by omega⟩
  rw [hd] at hps
  have hKb := tK_b (T := T) (n := n) (i := i)
  obtain ⟨q1, q2, q3, q4⟩ := id hk
  refine w_gI (by omega) k145 ?_
  rw [g5]
  refine w_jnP (fun _ => tK T n i = 0) ?_ ?_
  · intro _ h0
    rw [ps_0 h0] at hps
    rw [hps]
    by_cases hw : w = -1
    · repeat ((first | (with_reducible first | refine w_ltA ?_ | refine w_ltS ?_ | refine w_ltM ?_ | refine w_ltN ?_ | refine w_lt ?_ | refine w_jn ?_ | refine w_ck (by omega) (by assumption) ?_ | refine w_gI (by omega) (by assumption) ?_ | refine w_gR (by omega) (by assumption) (by assumption) ?_ | refine w_al (by omega) (by assumption) (by assumption) ?_ | refine w_pI (by omega) (by assumption) ?_ | refine w_set (by omega) (by assumption) (by omega) (by omega) ?_ | refine w_at (by omega) (by assumption) (by omega) (by omega) ?_ | refine w_sI (by omega) (by assumption) (by omega) (by omega) ?_ | refine w_aI (by omega) (by assumption) (by omega) (by omega) ?_ | refine w_sZ (by omega) (by assumption) (by omega) (by omega) (by decide) ?_ | refine w_pZ (by omega) (by assumption) (by decide) ?_ | refine w_dv (by omega) (by omega) (by omega) (by omega) ?_ | refine w_rm (by omega) (by omega) (by omega) (by omega) ?_) | ((with_reducible refine w_pos ?_ ?_); focus (first | assumption | trivial | exact (ile (by omega) (by omega) (by omega) (by omega)).2 (by omega) | exact (ilt (by omega) (by omega) (by omega) (by omega)).2 (by omega) | exact (ieq (by omega) (by omega) (by omega) (by omega)).2 (by omega))) | ((with_reducible refine w_neg ?_ ?_); focus (first | assumption | exact not_false | trivial | exact mt (ile (by omega) (by omega) (by omega) (by omega)).1 (by omega) | exact mt (ilt (by omega) (by omega) (by omega) (by omega)).1 (by omega) | exact mt (ieq (by omega) (by omega) (by omega) (by omega)).1 (by omega)))); try simp (disch := omega) only [g6])
      refine w_rz1 ⟨I3, rfl, hG, ?_, ?_, ?_, fun _ => ⟨g5, hj, hL⟩⟩
      · show iI 1 = iI (if (if w = -1 then (0 : Int) else 2) = 0 then 1 else 0)
        rw [if_pos hw]
        rfl
      · show _ = iI (if w = -1 then (0 : Int) else 2)
        rw [if_pos hw]
        exact g2
      · rw [hw]
        exact g3
    · repeat ((first | (with_reducible first | refine w_ltA ?_ | refine w_ltS ?_ | refine w_ltM ?_ | refine w_ltN ?_ | refine w_lt ?_ | refine w_jn ?_ | refine w_ck (by omega) (by assumption) ?_ | refine w_gI (by omega) (by assumption) ?_ | refine w_gR (by omega) (by assumption) (by assumption) ?_ | refine w_al (by omega) (by assumption) (by assumption) ?_ | refine w_pI (by omega) (by assumption) ?_ | refine w_set (by omega) (by assumption) (by omega) (by omega) ?_ | refine w_at (by omega) (by assumption) (by omega) (by omega) ?_ | refine w_sI (by omega) (by assumption) (by omega) (by omega) ?_ | refine w_aI (by omega) (by assumption) (by omega) (by omega) ?_ | refine w_sZ (by omega) (by assumption) (by omega) (by omega) (by decide) ?_ | refine w_pZ (by omega) (by assumption) (by decide) ?_ | refine w_dv (by omega) (by omega) (by omega) (by omega) ?_ | refine w_rm (by omega) (by omega) (by omega) (by omega) ?_) | ((with_reducible refine w_pos ?_ ?_); focus (first | assumption | trivial | exact (ile (by omega) (by omega) (by omega) (by omega)).2 (by omega) | exact (ilt (by omega) (by omega) (by omega) (by omega)).2 (by omega) | exact (ieq (by omega) (by omega) (by omega) (by omega)).2 (by omega))) | ((with_reducible refine w_neg ?_ ?_); focus (first | assumption | exact not_false | trivial | exact mt (ile (by omega) (by omega) (by omega) (by omega)).1 (by omega) | exact mt (ilt (by omega) (by omega) (by omega) (by omega)).1 (by omega) | exact mt (ieq (by omega) (by omega) (by omega) (by omega)).1 (by omega)))); try simp (disch := omega) only [g6])
      rw [u_X6_blame]
      refine w_cV (Q' := fun S => S = (381, up (up I3 143 2 (iI 2)) 143 3 (iI w), J, R)) ?_ ?_
      · repeat ((first | (with_reducible first | refine w_ltA ?_ | refine w_ltS ?_ | refine w_ltM ?_ | refine w_ltN ?_ | refine w_lt ?_ | refine w_jn ?_ | refine w_ck (by omega) (by assumption) ?_ | refine w_gI (by omega) (by assumption) ?_ | refine w_gR (by omega) (by assumption) (by assumption) ?_ | refine w_al (by omega) (by assumption) (by assumption) ?_ | refine w_pI (by omega) (by assumption) ?_ | refine w_set (by omega) (by assumption) (by omega) (by omega) ?_ | refine w_at (by omega) (by assumption) (by omega) (by omega) ?_ | refine w_sI (by omega) (by assumption) (by omega) (by omega) ?_ | refine w_aI (by omega) (by assumption) (by omega) (by omega) ?_ | refine w_sZ (by omega) (by assumption) (by omega) (by omega) (by decide) ?_ | refine w_pZ (by omega) (by assumption) (by decide) ?_ | refine w_dv (by omega) (by omega) (by omega) (by omega) ?_ | refine w_rm (by omega) (by omega) (by omega) (by omega) ?_) | ((with_reducible refine w_pos ?_ ?_); focus (first | assumption | trivial | exact (ile (by omega) (by omega) (by omega) (by omega)).2 (by omega) | exact (ilt (by omega) (by omega) (by omega) (by omega)).2 (by omega) | exact (ieq (by omega) (by omega) (by omega) (by omega)).2 (by omega))) | ((with_reducible refine w_neg ?_ ?_); focus (first | assumption | exact not_false | trivial | exact mt (ile (by omega) (by omega) (by omega) (by omega)).1 (by omega) | exact mt (ilt (by omega) (by omega) (by omega) (by omega)).1 (by omega) | exact mt (ieq (by omega) (by omega) (by omega) (by omega)).1 (by omega)))); try simp (disch := omega) only [g6])
        exact w_rt rfl
      rintro S rfl
      have e20 : (if w = -1 then (0 : Int) else 2) = 2 := if_neg hw
      refine w_rz0 ⟨_, rfl, fu2_u (fu2_u hG (by omega)) (by omega), ?_, ?_, ?_, fun h => ?_⟩
      · show iI 0 = iI (if (if w = -1 then (0 : Int) else 2) = 0 then 1 else 0)
        rw [e20]
        rfl
      · show _ = iI (if w = -1 then (0 : Int) else 2)
        rw [e20, up_ne (by omega), up_eq]
      · exact up_eq _ _ _ _
      · have h : (if w = -1 then (0 : Int) else 2) = 0 := h
        rw [e20] at h
        omega
  intro j9 hj9
  by_cases h80 : j < 80
  · --N q2
    by_cases h0 : tK T n i = 0
    · refine w_neg (mt (ile (by omega) (by omega) (by omega) (by omega)).1 (by omega)) ?_
      refine w_gI (by omega) k143 ?_
      rw [q2]
      refine w_pos (by rw [h0]) ?_
      exact hj9 _ h0
    refine w_neg (mt (ile (by omega) (by omega) (by omega) (by omega)).1 (by omega)) ?_
    refine w_gI (by omega) k143 ?_
    rw [q2]
    refine w_neg (mt (ieq (by omega) (by omega) (by omega) (by omega)).1 h0) ?_
    refine w_ck (by omega) k145 ?_
    refine w_cI (passLine_C (J := J) hRC hx3 ht hk hin hlo hhi g5 h80 g6 hwb) ?_
    have blame : ∀ (I4 : MI) (s : Nat) (pl : Int), FL j I3 I4 → TkC I4 T n s → pS0 T n lo hi = ((1 : Int), ((tS T n s : Nat) : Int), j, L) → En (fun y => ∃ I', y.2 = (381, I', J, R) ∧ FU2 I I' ∧ y.1 = iI (if (pS0 T n lo hi).1 = 0 then 1 else 0) ∧ I' 143 2 = iI (pS0 T n lo hi).1 ∧ I' 143 3 = iI (pS0 T n lo hi).2.1 ∧ ((pS0 T n lo hi).1 = 0 → I' 145 3 = iI ((pS0 T n lo hi).2.2.1 : Nat) ∧ (pS0 T n lo hi).2.2.1 ≤ 80 ∧ LnC I' (pS0 T n lo hi).2.2.1 (pS0 T n lo hi).2.2.2)) (gI_ (381, I4, J, R) 143 6 5 fun v23 => ck_ (381, I4, J, R) 143 6 <| cV_ (f_X6_blame (381, I4, J, R) 143 (iI 1) v23) fun S24 => rz_ (iI 0) S24) := fun I4 s pl hfl hk4 he => by
      obtain ⟨p1, p2, p3, p4⟩ := hk4
      repeat ((first | (with_reducible first | refine w_ltA ?_ | refine w_ltS ?_ | refine w_ltM ?_ | refine w_ltN ?_ | refine w_lt ?_ | refine w_jn ?_ | refine w_ck (by omega) (by assumption) ?_ | refine w_gI (by omega) (by assumption) ?_ | refine w_gR (by omega) (by assumption) (by assumption) ?_ | refine w_al (by omega) (by assumption) (by assumption) ?_ | refine w_pI (by omega) (by assumption) ?_ | refine w_set (by omega) (by assumption) (by omega) (by omega) ?_ | refine w_at (by omega) (by assumption) (by omega) (by omega) ?_ | refine w_sI (by omega) (by assumption) (by omega) (by omega) ?_ | refine w_aI (by omega) (by assumption) (by omega) (by omega) ?_ | refine w_sZ (by omega) (by assumption) (by omega) (by omega) (by decide) ?_ | refine w_pZ (by omega) (by assumption) (by decide) ?_ | refine w_dv (by omega) (by omega) (by omega) (by omega) ?_ | refine w_rm (by omega) (by omega) (by omega) (by omega) ?_) | ((with_reducible refine w_pos ?_ ?_); focus (first | assumption | trivial | exact (ile (by omega) (by omega) (by omega) (by omega)).2 (by omega) | exact (ilt (by omega) (by omega) (by omega) (by omega)).2 (by omega) | exact (ieq (by omega) (by omega) (by omega) (by omega)).2 (by omega))) | ((with_reducible refine w_neg ?_ ?_); focus (first | assumption | exact not_false | trivial | exact mt (ile (by omega) (by omega) (by omega) (by omega)).1 (by omega) | exact mt (ilt (by omega) (by omega) (by omega) (by omega)).1 (by omega) | exact mt (ieq (by omega) (by omega) (by omega) (by omega)).1 (by omega)))); try simp (disch := omega) only [p3])
      rw [u_X6_blame]
      refine w_cV (Q' := fun S => S = (381, up (up I4 143 2 (iI 1)) 143 3 (iI (tS T n s : Nat)), J, R)) ?_ ?_
      · repeat ((first | (with_reducible first | refine w_ltA ?_ | refine w_ltS ?_ | refine w_ltM ?_ | refine w_ltN ?_ | refine w_lt ?_ | refine w_jn ?_ | refine w_ck (by omega) (by assumption) ?_ | refine w_gI (by omega) (by assumption) ?_ | refine w_gR (by omega) (by assumption) (by assumption) ?_ | refine w_al (by omega) (by assumption) (by assumption) ?_ | refine w_pI (by omega) (by assumption) ?_ | refine w_set (by omega) (by assumption) (by omega) (by omega) ?_ | refine w_at (by omega) (by assumption) (by omega) (by omega) ?_ | refine w_sI (by omega) (by assumption) (by omega) (by omega) ?_ | refine w_aI (by omega) (by assumption) (by omega) (by omega) ?_ | refine w_sZ (by omega) (by assumption) (by omega) (by omega) (by decide) ?_ | refine w_pZ (by omega) (by assumption) (by decide) ?_ | refine w_dv (by omega) (by omega) (by omega) (by omega) ?_ | refine w_rm (by omega) (by omega) (by omega) (by omega) ?_) | ((with_reducible refine w_pos ?_ ?_); focus (first | assumption | trivial | exact (ile (by omega) (by omega) (by omega) (by omega)).2 (by omega) | exact (ilt (by omega) (by omega) (by omega) (by omega)).2 (by omega) | exact (ieq (by omega) (by omega) (by omega) (by omega)).2 (by omega))) | ((with_reducible refine w_neg ?_ ?_); focus (first | assumption | exact not_false | trivial | exact mt (ile (by omega) (by omega) (by omega) (by omega)).1 (by omega) | exact mt (ilt (by omega) (by omega) (by omega) (by omega)).1 (by omega) | exact mt (ieq (by omega) (by omega) (by omega) (by omega)).1 (by omega)))); try simp (disch := omega) only [p3])
        exact w_rt rfl
      rintro S rfl
      rw [he]
      refine w_rz0 ⟨_, rfl, fu2_u (fu2_u (fu2_fl hG hfl) (by omega)) (by omega), rfl, ?_, up_eq _ _ _ _, fun h => ?_⟩
      · rw [up_ne (by omega), up_eq]
      · have h : (1 : Int) = 0 := h
        omega
    rintro y S ⟨I4, rfl, hfl, (⟨hN, rfl, hk4⟩ | ⟨v, hv, hv14, hvb, (⟨ho, rfl, hk4, h46, hLe⟩ | ⟨ho, rfl, hk4⟩)⟩)⟩
    · rw [ps_n h0 hN] at hps
      refine w_pos rfl ?_
      exact blame I4 i 0 hfl hk4 hps
    · rw [ps_s h0 hv ho] at hps
      have h5 := ln_5 hin hwb hv14 hvb ho
      have hE := tE_b (T := T) hin
      have hnt := nt_b (T := T) (n := n) (v := v) (nOf v) 0 (tE T n i) w (fun _ => 0) hE.2.1 hwb
      have f5 : I4 145 3 = iI (j : Nat) := (hfl _ _ (by omega) (by omega) (by omega)).trans g5
      refine w_neg (by decide) ?_
      repeat ((first | (with_reducible first | refine w_ltA ?_ | refine w_ltS ?_ | refine w_ltM ?_ | refine w_ltN ?_ | refine w_lt ?_ | refine w_jn ?_ | refine w_ck (by omega) (by assumption) ?_ | refine w_gI (by omega) (by assumption) ?_ | refine w_gR (by omega) (by assumption) (by assumption) ?_ | refine w_al (by omega) (by assumption) (by assumption) ?_ | refine w_pI (by omega) (by assumption) ?_ | refine w_set (by omega) (by assumption) (by omega) (by omega) ?_ | refine w_at (by omega) (by assumption) (by omega) (by omega) ?_ | refine w_sI (by omega) (by assumption) (by omega) (by omega) ?_ | refine w_aI (by omega) (by assumption) (by omega) (by omega) ?_ | refine w_sZ (by omega) (by assumption) (by omega) (by omega) (by decide) ?_ | refine w_pZ (by omega) (by assumption) (by decide) ?_ | refine w_dv (by omega) (by omega) (by omega) (by omega) ?_ | refine w_rm (by omega) (by omega) (by omega) (by omega) ?_) | ((with_reducible refine w_pos ?_ ?_); focus (first | assumption | trivial | exact (ile (by omega) (by omega) (by omega) (by omega)).2 (by omega) | exact (ilt (by omega) (by omega) (by omega) (by omega)).2 (by omega) | exact (ieq (by omega) (by omega) (by omega) (by omega)).2 (by omega))) | ((with_reducible refine w_neg ?_ ?_); focus (first | assumption | exact not_false | trivial | exact mt (ile (by omega) (by omega) (by omega) (by omega)).1 (by omega) | exact mt (ilt (by omega) (by omega) (by omega) (by omega)).1 (by omega) | exact mt (ieq (by omega) (by omega) (by omega) (by omega)).1 (by omega)))); try simp (disch := omega) only [f5])
      have hL4 : LnC I4 (j + 1) (upL L j (v, (lnV T n v i w).2.2.2 0, (lnV T n v i w).2.2.2 1)) := lnC_upL (fl_lnC hfl hL) hLe
      obtain ⟨p1, p2, p3, p4⟩ := hk4
      refine ih _ ⟨by omega, tE T n (lnV T n v i w).2.1, (lnV T n v i w).2.2.1, _, _, rfl, fu2_u (fu2_fl hG hfl) (by omega), ?_, ?_, hnt.2.2.1, ?_, ?_, ⟨by rw [up_ne (by omega)]; exact p1, by rw [up_ne (by omega)]; exact p2, by rw [up_ne (by omega)]; exact p3, fun h => by rw [up_ne (by omega)]; exact p4 h⟩, by omega, h5.2.1, fun k hk => ?_, by rw [hps, show 90 - (j + 1) = d by omega]⟩
      · rw [up_eq]
        rfl
      · rw [up_ne (by omega)]
        exact h46
      · rw [up_ne (by omega), hfl _ _ (by omega) (by omega) (by omega)]
        exact g2
      · rw [up_ne (by omega), hfl _ _ (by omega) (by omega) (by omega)]
        exact g3
      · have := hL4 k hk
        exact ⟨by rw [up_ne (by omega)]; exact this.1, fun h => by rw [up_ne (by omega)]; exact this.2.1 h, fun h => by rw [up_ne (by omega)]; exact this.2.2 h⟩
    · rw [ps_f h0 hv ho] at hps
      refine w_pos rfl ?_
      exact blame I4 _ 0 hfl hk4 hps
  · have hS := tS_b (T := T) hin
    have h0 : tK T n i = 0 := if_pos (by omega)
    refine w_pos ((ile (by omega) (by omega) (by omega) (by omega)).2 (by omega)) ?_
    exact hj9 _ h0
theorem found_C {r : Nat} {σ : Nat → Nat} {V : RV} (hRC : RC R) (hrg : isRg r) (hc : CR I R r σ V) (h5 : I 145 3 = iI (m : Nat)) (hm : m ≤ 80) (hL : LnC I m L) (hok : ∀ k, k < m → (L k).1 < 4) : En (fun y => ∃ I', y = (381, I', J, R) ∧ CTo r σ I R I' R (begV V (fdV L m).1 (fdV L m).2.1 (fdV L m).2.2)) (f_X2_found (381, I, J, R) 145 r) := by
  have k145 := kd_145
  obtain ⟨k146, k147, k148, l146, l147, l148⟩ := kd_146
  obtain ⟨-, -, -, -, -, -, -, r2, r3, r4, -⟩ := id hRC
  have kr := hrg.2.1
  have hq := hrg.1
  have ho : ∀ j, (fdV L j).2.2 = 0 ∨ (fdV L j).2.2 = 1 := by
    intro j
    induction j with
    | zero => exact Or.inr rfl
    | succ j ih =>
      unfold fdV
      split
      · exact ih
      split
      · exact ih
      split
      · exact Or.inr rfl
      · exact Or.inl rfl
  rw [u_X2_found]
  refine w_lp m (fun j y => j ≤ m ∧ y = (iI (fdV L j).1, iI (fdV L j).2.1, iI (fdV L j).2.2, iI (j : Nat))) ⟨by omega, rfl⟩ (by rw [FU_eq]; omega) (fun i y h => h.1) ?_
  rintro j y self ⟨hj, rfl⟩ ih
  try dsimp only
  by_cases hlt : j < m
  · have hLj := hL j hlt
    have hvj := hok j hlt
    obtain ⟨v1, v2, -⟩ := hLj
    have nxt : ∀ (x : Int × Int × Int), x = fdV L (j + 1) → En (fun y => ∃ I', y = (381, I', J, R) ∧ CTo r σ I R I' R (begV V (fdV L m).1 (fdV L m).2.1 (fdV L m).2.2)) (self (iI x.1, iI x.2.1, iI x.2.2, iI ((j : Int) + 1))) := fun x hx => by
      rw [hx, show (j : Int) + 1 = ((j + 1 : Nat) : Int) by omega]
      exact ih _ ⟨by omega, rfl⟩
    have hfd : fdV L (j + 1) = if (L j).1 = 0 then ((L j).2.1, (fdV L j).2) else if (L j).1 = 1 then ((fdV L j).1, (L j).2.1, (fdV L j).2.2) else if (L j).1 = 2 then ((fdV L j).1, (fdV L j).2.1, 1) else ((fdV L j).1, (fdV L j).2.1, 0) := rfl
    by_cases c0 : (L j).1 = 0
    · have v20 := v2 (by rw [c0]; decide)
      rw [if_pos c0] at hfd
      have := nxt _ hfd.symm
      repeat ((first | (with_reducible first | refine w_ltA ?_ | refine w_ltS ?_ | refine w_ltM ?_ | refine w_ltN ?_ | refine w_lt ?_ | refine w_jn ?_ | refine w_ck (by omega) (by assumption) ?_ | refine w_gI (by omega) (by assumption) ?_ | refine w_gR (by omega) (by assumption) (by assumption) ?_ | refine w_al (by omega) (by assumption) (by assumption) ?_ | refine w_pI (by omega) (by assumption) ?_ | refine w_set (by omega) (by assumption) (by omega) (by omega) ?_ | refine w_at (by omega) (by assumption) (by omega) (by omega) ?_ | refine w_sI (by omega) (by assumption) (by omega) (by omega) ?_ | refine w_aI (by omega) (by assumption) (by omega) (by omega) ?_ | refine w_sZ (by omega) (by assumption) (by omega) (by omega) (by decide) ?_ | refine w_pZ (by omega) (by assumption) (by decide) ?_ | refine w_dv (by omega) (by omega) (by omega) (by omega) ?_ | refine w_rm (by omega) (by omega) (by omega) (by omega) ?_) | ((with_reducible refine w_pos ?_ ?_); focus (first | assumption | trivial | exact (ile (by omega) (by omega) (by omega) (by omega)).2 (by omega) | exact (ilt (by omega) (by omega) (by omega) (by omega)).2 (by omega) | exact (ieq (by omega) (by omega) (by omega) (by omega)).2 (by omega))) | ((with_reducible refine w_neg ?_ ?_); focus (first | assumption | exact not_false | trivial | exact mt (ile (by omega) (by omega) (by omega) (by omega)).1 (by omega) | exact mt (ilt (by omega) (by omega) (by omega) (by omega)).1 (by omega) | exact mt (ieq (by omega) (by omega) (by omega) (by omega)).1 (by omega)))); try simp (disch := omega) only [h5, v1, v20, Int.toNat_natCast])
      exact this
    by_cases c1 : (L j).1 = 1
    · have v20 := v2 (by rw [c1]; decide)
      rw [if_neg c0, if_pos c1] at hfd
      have := nxt _ hfd.symm
      repeat ((first | (with_reducible first | refine w_ltA ?_ | refine w_ltS ?_ | refine w_ltM ?_ | refine w_ltN ?_ | refine w_lt ?_ | refine w_jn ?_ | refine w_ck (by omega) (by assumption) ?_ | refine w_gI (by omega) (by assumption) ?_ | refine w_gR (by omega) (by assumption) (by assumption) ?_ | refine w_al (by omega) (by assumption) (by assumption) ?_ | refine w_pI (by omega) (by assumption) ?_ | refine w_set (by omega) (by assumption) (by omega) (by omega) ?_ | refine w_at (by omega) (by assumption) (by omega) (by omega) ?_ | refine w_sI (by omega) (by assumption) (by omega) (by omega) ?_ | refine w_aI (by omega) (by assumption) (by omega) (by omega) ?_ | refine w_sZ (by omega) (by assumption) (by omega) (by omega) (by decide) ?_ | refine w_pZ (by omega) (by assumption) (by decide) ?_ | refine w_dv (by omega) (by omega) (by omega) (by omega) ?_ | refine w_rm (by omega) (by omega) (by omega) (by omega) ?_) | ((with_reducible refine w_pos ?_ ?_); focus (first | assumption | trivial | exact (ile (by omega) (by omega) (by omega) (by omega)).2 (by omega) | exact (ilt (by omega) (by omega) (by omega) (by omega)).2 (by omega) | exact (ieq (by omega) (by omega) (by omega) (by omega)).2 (by omega))) | ((with_reducible refine w_neg ?_ ?_); focus (first | assumption | exact not_false | trivial | exact mt (ile (by omega) (by omega) (by omega) (by omega)).1 (by omega) | exact mt (ilt (by omega) (by omega) (by omega) (by omega)).1 (by omega) | exact mt (ieq (by omega) (by omega) (by omega) (by omega)).1 (by omega)))); try simp (disch := omega) only [h5, v1, v20, Int.toNat_natCast])
      exact this
    by_cases c2 : (L j).1 = 2
    · rw [if_neg c0, if_neg c1, if_pos c2] at hfd
      have := nxt _ hfd.symm
      repeat ((first | (with_reducible first | refine w_ltA ?_ | refine w_ltS ?_ | refine w_ltM ?_ | refine w_ltN ?_ | refine w_lt ?_ | refine w_jn ?_ | refine w_ck (by omega) (by assumption) ?_ | refine w_gI (by omega) (by assumption) ?_ | refine w_gR (by omega) (by assumption) (by assumption) ?_ | refine w_al (by omega) (by assumption) (by assumption) ?_ | refine w_pI (by omega) (by assumption) ?_ | refine w_set (by omega) (by assumption) (by omega) (by omega) ?_ | refine w_at (by omega) (by assumption) (by omega) (by omega) ?_ | refine w_sI (by omega) (by assumption) (by omega) (by omega) ?_ | refine w_aI (by omega) (by assumption) (by omega) (by omega) ?_ | refine w_sZ (by omega) (by assumption) (by omega) (by omega) (by decide) ?_ | refine w_pZ (by omega) (by assumption) (by decide) ?_ | refine w_dv (by omega) (by omega) (by omega) (by omega) ?_ | refine w_rm (by omega) (by omega) (by omega) (by omega) ?_) | ((with_reducible refine w_pos ?_ ?_); focus (first | assumption | trivial | exact (ile (by omega) (by omega) (by omega) (by omega)).2 (by omega) | exact (ilt (by omega) (by omega) (by omega) (by omega)).2 (by omega) | exact (ieq (by omega) (by omega) (by omega) (by omega)).2 (by omega))) | ((with_reducible refine w_neg ?_ ?_); focus (first | assumption | exact not_false | trivial | exact mt (ile (by omega) (by omega) (by omega) (by omega)).1 (by omega) | exact mt (ilt (by omega) (by omega) (by omega) (by omega)).1 (by omega) | exact mt (ieq (by omega) (by omega) (by omega) (by omega)).1 (by omega)))); try simp (disch := omega) only [h5, v1, Int.toNat_natCast])
      exact this
    · rw [if_neg c0, if_neg c1, if_neg c2] at hfd
      have := nxt _ hfd.symm
      repeat ((first | (with_reducible first | refine w_ltA ?_ | refine w_ltS ?_ | refine w_ltM ?_ | refine w_ltN ?_ | refine w_lt ?_ | refine w_jn ?_ | refine w_ck (by omega) (by assumption) ?_ | refine w_gI (by omega) (by assumption) ?_ | refine w_gR (by omega) (by assumption) (by assumption) ?_ | refine w_al (by omega) (by assumption) (by assumption) ?_ | refine w_pI (by omega) (by assumption) ?_ | refine w_set (by omega) (by assumption) (by omega) (by omega) ?_ | refine w_at (by omega) (by assumption) (by omega) (by omega) ?_ | refine w_sI (by omega) (by assumption) (by omega) (by omega) ?_ | refine w_aI (by omega) (by assumption) (by omega) (by omega) ?_ | refine w_sZ (by omega) (by assumption) (by omega) (by omega) (by decide) ?_ | refine w_pZ (by omega) (by assumption) (by decide) ?_ | refine w_dv (by omega) (by omega) (by omega) (by omega) ?_ | refine w_rm (by omega) (by omega) (by omega) (by omega) ?_) | ((with_reducible refine w_pos ?_ ?_); focus (first | assumption | trivial | exact (ile (by omega) (by omega) (by omega) (by omega)).2 (by omega) | exact (ilt (by omega) (by omega) (by omega) (by omega)).2 (by omega) | exact (ieq (by omega) (by omega) (by omega) (by omega)).2 (by omega))) | ((with_reducible refine w_neg ?_ ?_); focus (first | assumption | exact not_false | trivial | exact mt (ile (by omega) (by omega) (by omega) (by omega)).1 (by omega) | exact mt (ilt (by omega) (by omega) (by omega) (by omega)).1 (by omega) | exact mt (ieq (by omega) (by omega) (by omega) (by omega)).1 (by omega)))); try simp (disch := omega) only [h5, v1, Int.toNat_natCast])
      exact this
  · have : j = m := by omega
    subst this
    repeat ((first | (with_reducible first | refine w_ltA ?_ | refine w_ltS ?_ | refine w_ltM ?_ | refine w_ltN ?_ | refine w_lt ?_ | refine w_jn ?_ | refine w_ck (by omega) (by assumption) ?_ | refine w_gI (by omega) (by assumption) ?_ | refine w_gR (by omega) (by assumption) (by assumption) ?_ | refine w_al (by omega) (by assumption) (by assumption) ?_ | refine w_pI (by omega) (by assumption) ?_ | refine w_set (by omega) (by assumption) (by omega) (by omega) ?_ | refine w_at (by omega) (by assumption) (by omega) (by omega) ?_ | refine w_sI (by omega) (by assumption) (by omega) (by omega) ?_ | refine w_aI (by omega) (by assumption) (by omega) (by omega) ?_ | refine w_sZ (by omega) (by assumption) (by omega) (by omega) (by decide) ?_ | refine w_pZ (by omega) (by assumption) (by decide) ?_ | refine w_dv (by omega) (by omega) (by omega) (by omega) ?_ | refine w_rm (by omega) (by omega) (by omega) (by omega) ?_) | ((with_reducible refine w_pos ?_ ?_); focus (first | assumption | trivial | exact (ile (by omega) (by omega) (by omega) (by omega)).2 (by omega) | exact (ilt (by omega) (by omega) (by omega) (by omega)).2 (by omega) | exact (ieq (by omega) (by omega) (by omega) (by omega)).2 (by omega))) | ((with_reducible refine w_neg ?_ ?_); focus (first | assumption | exact not_false | trivial | exact mt (ile (by omega) (by omega) (by omega) (by omega)).1 (by omega) | exact mt (ilt (by omega) (by omega) (by omega) (by omega)).1 (by omega) | exact mt (ieq (by omega) (by omega) (by omega) (by omega)).1 (by omega)))); try simp (disch := omega) only [h5])
    refine w_cV (begin_C (J := J) hrg (cto_0 hc) (ho j)) ?_
    rintro S ⟨I', rfl, h⟩
    exact w_rt ⟨I', rfl, h⟩
end UND
