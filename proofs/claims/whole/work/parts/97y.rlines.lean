/-! TEXTS: the reference reads all lines -/
def GQ (I I' : MI) : Prop := ∀ a k, a ≠ 373 → a ≠ 377 → a ≠ 379 → I' a k = I a k
theorem gq_r {I : MI} : GQ I I := fun _ _ _ _ _ => rfl
theorem gq_u {I I' : MI} {a k : Nat} {x : Int32} (h : GQ I I') (ha : a = 373 ∨ a = 377 ∨ a = 379) : GQ I (up I' a k x) := fun b j h1 h2 h3 => by
  rw [up_ne (by omega)]
  exact h b j h1 h2 h3
theorem GQ.t {I I' I2 : MI} (h : GQ I I') (h2 : GQ I' I2) : GQ I I2 := fun a k h1 h3 h4 => (h2 a k h1 h3 h4).trans (h a k h1 h3 h4)
theorem ft_g {I I' : MI} {J J' : MJ} (h : FT I I' J J') : GQ I I' := fun a k h1 _ _ => h.1 a k (by omega)
/-- what one number of a line changes -/
def FK (k : Nat) (I I' : MI) (J J' : MJ) : Prop := (∀ a j, a ≠ 373 → ¬ (a = 377 ∧ j = k) → I' a j = I a j) ∧ (∀ j, j ≠ 4 → j ≠ 6 → j ≠ 7 → j ≠ 8 → j ≠ 10 → j ≠ 11 → I' 373 j = I 373 j) ∧ ∀ a j, ¬ (a = 373 ∧ j = 9) → J' a j = J a j
theorem FK.x {k : Nat} {I I' : MI} {J J' : MJ} {T : TX} {n : Nat} (h : FK k I I' J J') (hx : TXR I T n) : TXR I' T n := ⟨(h.2.1 5 (by omega) (by omega) (by omega) (by omega) (by omega) (by omega)).trans hx.1, fun i hi => by
  rw [h.1 375 i (by omega) (by omega)]
  exact hx.2 i hi⟩
theorem FK.g {k : Nat} {I I' : MI} {J J' : MJ} (h : FK k I I' J J') : GQ I I' := fun a j h1 h2 _ => h.1 a j h1 (by omega)
def fdS (x : Int × Int × Int) (v : Nat) (a : Int) : Int × Int × Int := if v = 0 then (a, x.2) else if v = 1 then (x.1, a, x.2.2) else if v = 2 then (x.1, x.2.1, 1) else (x.1, x.2.1, 0)
theorem fdV_s {L : LN} {m : Nat} : fdV L (m + 1) = fdS (fdV L m) (L m).1 (L m).2.1 := rfl
def LNr (I : MI) (J : MJ) (m : Nat) (x : Nat × Int × Int) : Prop := J 378 m = Wd x.1 ∧ I 379 (2 * m) = iI x.2.1 ∧ I 379 (2 * m + 1) = iI x.2.2
def LnR (I : MI) (J : MJ) (m : Nat) (L : LN) : Prop := ∀ k, k < m → LNr I J k (L k)
theorem kd_378 : kd 377 = 11 ∧ ln 377 = 3 ∧ kd 378 = 12 ∧ ln 378 = 100 ∧ kd 379 = 11 ∧ ln 379 = 200 := by decide +kernel
section RDA
variable {I : MI} {J : MJ} {R : MR} {α γ : Type} {Q : γ → Prop} {T : TX} {n i p s v lo hi m k : Nat} {c w x a b : Int} {S : St} {L : LN}
theorem tkr_u {j d : Nat} {y : Int32} (h : TkR I J T n p) (hj : ¬ (d = 373 ∧ (j = 4 ∨ j = 6 ∨ j = 7 ∨ j = 8))) : TkR (up I d j y) J T n p := by
  obtain ⟨h1, h2, h3, h4, h5⟩ := h
  exact ⟨by rw [up_ne (by omega)]; exact h1, by rw [up_ne (by omega)]; exact h2, by rw [up_ne (by omega)]; exact h3, fun h => by rw [up_ne (by omega)]; exact h4 h, h5⟩
theorem w_sJ {K : St → Option γ} {e : Nat} {y : Int64} {i : Int} (h1 : e < 381) (h2 : kd e = 12) (h3 : 0 ≤ i) (h4 : i < ln e) (h : En Q (K (381, I, upJ J e i.toNat y, R))) : En Q (sJ_ (381, I, J, R) e (iI i) y K) := by
  have := ln_big e
  have e1 : sJ_ (381, I, J, R) e (iI i) y K = K (381, I, upJ J e i.toNat y, R) := by
    unfold sJ_
    rw [if_pos ⟨⟨h1, h2⟩, ix_ok h3 h4 this⟩, iI_nat ⟨by omega, by omega⟩]
    rfl
  rw [e1]
  exact h
theorem w_aJ {K : Int64 → Option γ} {e : Nat} {i : Int} (h1 : e < 381) (h2 : kd e = 12) (h3 : 0 ≤ i) (h4 : i < ln e) (h : En Q (K (J e i.toNat))) : En Q (aJ_ (381, I, J, R) e (iI i) K) := by
  have := ln_big e
  rw [aJ_at' (S := (381, I, J, R)) h1 h2 h3 h4 this]
  exact h
theorem fails_Q {pl : Int32} (h : I 373 6 = pl) : f_X9_fails (381, I, J, R) 373 = some (iI 0, (381, up I 373 10 pl, J, R)) := by
  have k374 := kd_374
  refine en_eq ?_
  rw [u_X9_fails]
  repeat ((first | (with_reducible first | refine w_ltA ?_ | refine w_ltS ?_ | refine w_ltM ?_ | refine w_ltN ?_ | refine w_lt ?_ | refine w_jn ?_ | refine w_ck (by omega) (by assumption) ?_ | refine w_gI (by omega) (by assumption) ?_ | refine w_gR (by omega) (by assumption) (by assumption) ?_ | refine w_al (by omega) (by assumption) (by assumption) ?_ | refine w_pI (by omega) (by assumption) ?_ | refine w_set (by omega) (by assumption) (by omega) (by omega) ?_ | refine w_at (by omega) (by assumption) (by omega) (by omega) ?_ | refine w_sI (by omega) (by assumption) (by omega) (by omega) ?_ | refine w_aI (by omega) (by assumption) (by omega) (by omega) ?_ | refine w_sZ (by omega) (by assumption) (by omega) (by omega) (by decide) ?_ | refine w_pZ (by omega) (by assumption) (by decide) ?_ | refine w_dv (by omega) (by omega) (by omega) (by omega) ?_ | refine w_rm (by omega) (by omega) (by omega) (by omega) ?_) | ((with_reducible refine w_pos ?_ ?_); focus (first | assumption | trivial | exact (ile (by omega) (by omega) (by omega) (by omega)).2 (by omega) | exact (ilt (by omega) (by omega) (by omega) (by omega)).2 (by omega) | exact (ieq (by omega) (by omega) (by omega) (by omega)).2 (by omega))) | ((with_reducible refine w_neg ?_ ?_); focus (first | assumption | exact not_false | trivial | exact mt (ile (by omega) (by omega) (by omega) (by omega)).1 (by omega) | exact mt (ilt (by omega) (by omega) (by omega) (by omega)).1 (by omega) | exact mt (ieq (by omega) (by omega) (by omega) (by omega)).1 (by omega)))); try simp (disch := omega) only [h])
  exact w_rz0 rfl
theorem takes_Q (hR : RQ R) (hx : TXR I T n) (ht : Tok T n) (hk : TkR I J T n p) (hpn : p ≤ n) (hk2 : k < 2) (hw : I 373 11 = iI w) (hwb : -1 ≤ w ∧ w ≤ n) (ha : 0 ≤ a ∧ a ≤ 5000) (hb : 0 ≤ b ∧ b ≤ 5000) : En (fun y => ∃ I' J', y.2 = (381, I', J', R) ∧ FK k I I' J J' ∧ ((tK T n p = 2 ∧ y.1 = iI 1 ∧ TkR I' J' T n (tE T n p) ∧ I' 373 11 = iI (if w = -1 then (if a ≤ tN T n p ∧ tN T n p ≤ b then -1 else (tS T n p : Nat)) else w) ∧ I' 377 k = iI (tN T n p)) ∨ (tK T n p ≠ 2 ∧ y.1 = iI 0 ∧ I' 373 10 = iI (tS T n p : Nat)))) (f_X9_takes (381, I, J, R) 373 (iI (k : Nat)) (iI a) (iI b)) := by
  have k374 := kd_374
  obtain ⟨k378, l378, -⟩ := kd_378
  have r12 := hR.2.2.2.1
  have hn4 := ht.1
  have hKb := tK_b (T := T) (n := n) (i := p)
  have hE := tE_b (T := T) hpn
  have hS := tS_b (T := T) hpn
  obtain ⟨q1, q2, q3, q4, q5⟩ := id hk
  rw [u_X9_takes]
  by_cases h2 : tK T n p = 2
  · have q4 := q4 h2
    have hNb := tN_b h2
    have q3 : I 373 7 = iI 3 := by
      rw [q3, h2]
      rfl
    refine w_gI (by omega) k374 ?_
    rw [q3]
    refine w_pos rfl ?_
    refine w_gR (by omega) k374 r12 ?_
    refine w_gI (by omega) k374 ?_
    rw [q4]
    refine w_sI (by omega) k378 (by omega) (by omega) ?_
    rw [Int.toNat_natCast]
    have hF0 : FK k I (up I 377 k (iI (tN T n p))) J J := ⟨fun a j h1 h2 => up_ne (by omega), fun j _ _ _ _ _ _ => up_ne (by omega), fun _ _ _ => rfl⟩
    have g4 : up I 377 k (iI (tN T n p)) 373 4 = iI (tE T n p : Nat) := by
      rw [up_ne (by omega)]
      exact q1
    have g6 : up I 377 k (iI (tN T n p)) 373 6 = iI (tS T n p : Nat) := by
      rw [up_ne (by omega)]
      exact q2
    have g8 : up I 377 k (iI (tN T n p)) 373 8 = iI (tN T n p) := by
      rw [up_ne (by omega)]
      exact q4
    have g11 : up I 377 k (iI (tN T n p)) 373 11 = iI w := by
      rw [up_ne (by omega)]
      exact hw
    have gk : up I 377 k (iI (tN T n p)) 377 k = iI (tN T n p) := up_eq _ _ _ _
    generalize up I 377 k (iI (tN T n p)) = I1 at *
    refine w_gI (by omega) k374 ?_
    rw [g11]
    refine w_jnP (fun x => x = iI (if w = -1 then (if a ≤ tN T n p ∧ tN T n p ≤ b then -1 else (tS T n p : Nat)) else w)) ?_ ?_
    · rintro x rfl
      refine w_pI (by omega) k374 ?_
      refine w_ck (by omega) k374 ?_
      generalize (if w = -1 then (if a ≤ tN T n p ∧ tN T n p ≤ b then -1 else (tS T n p : Nat)) else w : Int) = w2
      have hx2 : TXR (up I1 373 11 (iI w2)) T n := by
        have hxx := hF0.x hx
        exact ⟨by rw [up_ne (by omega)]; exact hxx.1, fun i hi => by rw [up_ne (by omega)]; exact hxx.2 i hi⟩
      refine w_cV (token_Q (J := J) (i := tE T n p) hR hx2 ht (by rw [up_ne (by omega)]; exact g4) hE.2.1) ?_
      rintro S ⟨I3, J3, rfl, hF3, hk3⟩
      refine w_rz1 ⟨I3, J3, rfl, ⟨fun a j h1 h2 => ?_, fun j h1 h2 h3 h4 h5 h6 => ?_, hF3.2⟩, Or.inl ⟨h2, rfl, hk3, ?_, ?_⟩⟩
      · rw [hF3.1 _ _ (by omega), up_ne (by omega)]
        exact hF0.1 a j h1 h2
      · rw [hF3.1 _ _ (by omega), up_ne (by omega)]
        exact hF0.2.1 j h1 h2 h3 h4 h5 h6
      · rw [hF3.1 _ _ (by omega), up_eq]
      · rw [hF3.1 _ _ (by omega), up_ne (by omega)]
        exact gk
    · intro j6 hj6
      refine w_jnP (fun _ => (if w = -1 then (if a ≤ tN T n p ∧ tN T n p ≤ b then -1 else (tS T n p : Nat)) else w : Int) = w) ?_ ?_
      · intro _ he
        repeat ((first | (with_reducible first | refine w_ltA ?_ | refine w_ltS ?_ | refine w_ltM ?_ | refine w_ltN ?_ | refine w_lt ?_ | refine w_jn ?_ | refine w_ck (by omega) (by assumption) ?_ | refine w_gI (by omega) (by assumption) ?_ | refine w_gR (by omega) (by assumption) (by assumption) ?_ | refine w_al (by omega) (by assumption) (by assumption) ?_ | refine w_pI (by omega) (by assumption) ?_ | refine w_set (by omega) (by assumption) (by omega) (by omega) ?_ | refine w_at (by omega) (by assumption) (by omega) (by omega) ?_ | refine w_sI (by omega) (by assumption) (by omega) (by omega) ?_ | refine w_aI (by omega) (by assumption) (by omega) (by omega) ?_ | refine w_sZ (by omega) (by assumption) (by omega) (by omega) (by decide) ?_ | refine w_pZ (by omega) (by assumption) (by decide) ?_ | refine w_dv (by omega) (by omega) (by omega) (by omega) ?_ | refine w_rm (by omega) (by omega) (by omega) (by omega) ?_) | ((with_reducible refine w_pos ?_ ?_); focus (first | assumption | trivial | exact (ile (by omega) (by omega) (by omega) (by omega)).2 (by omega) | exact (ilt (by omega) (by omega) (by omega) (by omega)).2 (by omega) | exact (ieq (by omega) (by omega) (by omega) (by omega)).2 (by omega))) | ((with_reducible refine w_neg ?_ ?_); focus (first | assumption | exact not_false | trivial | exact mt (ile (by omega) (by omega) (by omega) (by omega)).1 (by omega) | exact mt (ilt (by omega) (by omega) (by omega) (by omega)).1 (by omega) | exact mt (ieq (by omega) (by omega) (by omega) (by omega)).1 (by omega)))); try simp (disch := omega) only [g11])
        exact hj6 _ (by rw [he])
      · intro j9 hj9
        by_cases hw1 : w = -1
        · --N g8
          refine w_pos (by rw [hw1]) ?_
          refine w_gI (by omega) k374 ?_
          rw [g8]
          refine w_in (by omega) (by omega) (by omega) (fun h => ?_) (fun h => ?_)
          · refine w_neg (show ¬ (iI 1 = iI 0) by decide) ?_
            exact hj9 _ (by rw [if_pos hw1, if_pos h, hw1])
          · refine w_pos rfl ?_
            refine w_gI (by omega) k374 ?_
            exact hj6 _ (by rw [g6, if_pos hw1, if_neg h])
        · refine w_neg (mt (ieq (by omega) (by omega) (by omega) (by omega)).1 hw1) ?_
          exact hj9 _ (by rw [if_neg hw1])
  · have hne : ¬ (I 373 7 = iI 3) := by
      rw [q3]
      unfold kR
      rcases (show tK T n p = 0 ∨ tK T n p = 1 ∨ tK T n p = 3 ∨ tK T n p = 4 by omega) with h | h | h | h <;> rw [h] <;> decide
    refine w_gI (by omega) k374 ?_
    refine w_neg hne ?_
    refine w_ck (by omega) k374 ?_
    refine w_cI (Q' := fun y => y = _) ⟨_, fails_Q q2, rfl⟩ ?_
    rintro y S he
    cases he
    refine w_rz0 ⟨_, J, rfl, ⟨fun a j h1 h2 => up_ne (by omega), fun j _ _ _ _ h5 _ => up_ne (by omega), fun _ _ _ => rfl⟩, Or.inr ⟨h2, rfl, up_eq _ _ _ _⟩⟩
theorem cmp_y {q : Int64} (hv : v < 14) (h : q = Wd v) : lg_cmp q (Wd v) = iI 0 := lg_0.2 h
theorem cmp_v (hv : v < 14) (hb : vB T n i v = true) (v' : Nat) (hv' : v' < 14) : (lg_cmp (wOf T n i) (Wd v') = iI 0 ↔ v' = v) := by
  rw [lg_0, wOf_iff hv']
  exact ⟨fun h => vB_one hv' hv h hb, fun h => by rw [h]; exact hb⟩
theorem cmp_n (v' : Nat) (hv' : v' < 14) (hb : vB T n i v' = false) : ¬ lg_cmp (wOf T n i) (Wd v') = iI 0 := by
  rw [lg_0, wOf_iff hv', hb]
  decide
/-- how a line's numbers stand -/
def STq (I : MI) (J : MJ) (T : TX) (n : Nat) (r : Bool × Nat × Int × (Nat → Int)) (b : Int32) : Prop := (r.1 = true ∧ b = iI 1 ∧ TkR I J T n r.2.1 ∧ I 373 11 = iI r.2.2.1 ∧ I 377 0 = iI (r.2.2.2 0) ∧ I 377 1 = iI (r.2.2.2 1)) ∨ (r.1 = false ∧ b = iI 0 ∧ I 373 10 = iI (tS T n r.2.1 : Nat))
theorem ringLine_Q {f : Int × Int × Int} (hR : RQ R) (hx : TXR I T n) (ht : Tok T n) (hk : TkR I J T n i) (hin : i ≤ n) (hw : I 373 11 = iI w) (hwb : -1 ≤ w ∧ w ≤ n) (h13 : I 373 13 = iI f.1) (h14 : I 373 14 = iI f.2.1) (h15 : I 373 15 = iI f.2.2) : En (fun y => ∃ I' J', y.2 = (381, I', J', R) ∧ TXR I' T n ∧ GQ I I' ∧ ((vbH T n i 0 4 = -1 ∧ y.1 = iI 0 ∧ I' 373 10 = iI (tS T n i : Nat)) ∨ ∃ v : Nat, vbH T n i 0 4 = v ∧ v < 4 ∧ vB T n i v = true ∧ (((lnV T n v i w).1 = true ∧ y.1 = iI 1 ∧ TkR I' J' T n (lnV T n v i w).2.1 ∧ I' 373 11 = iI (lnV T n v i w).2.2.1 ∧ I' 373 13 = iI (fdS f v ((lnV T n v i w).2.2.2 0)).1 ∧ I' 373 14 = iI (fdS f v ((lnV T n v i w).2.2.2 0)).2.1 ∧ I' 373 15 = iI (fdS f v ((lnV T n v i w).2.2.2 0)).2.2) ∨ ((lnV T n v i w).1 = false ∧ y.1 = iI 0 ∧ I' 373 10 = iI (tS T n (lnV T n v i w).2.1 : Nat))))) (f_X9_ringLine (381, I, J, R) 373 (wOf T n i)) := by
  have k374 := kd_374
  obtain ⟨k378, l378, -⟩ := kd_378
  have r12 := hR.2.2.2.1
  have hE := tE_b (T := T) hin
  obtain ⟨q1, q2, q3, q4, q5⟩ := id hk
  by_cases hN : vbH T n i 0 4 = -1
  · have hno := vbH_no _ _ hN
    have c0 : ¬ lg_cmp (wOf T n i) 482670503283 = iI 0 := cmp_n 0 (by omega) (hno 0 (by omega) (by omega))
    have c1 : ¬ lg_cmp (wOf T n i) 426903366771 = iI 0 := cmp_n 1 (by omega) (hno 1 (by omega) (by omega))
    have c2 : ¬ lg_cmp (wOf T n i) 1870030194 = iI 0 := cmp_n 2 (by omega) (hno 2 (by omega) (by omega))
    have c3 : ¬ lg_cmp (wOf T n i) 125779836236645 = iI 0 := cmp_n 3 (by omega) (hno 3 (by omega) (by omega))
    rw [u_X9_ringLine]
    repeat ((first | (with_reducible first | refine w_ltA ?_ | refine w_ltS ?_ | refine w_ltM ?_ | refine w_ltN ?_ | refine w_lt ?_ | refine w_jn ?_ | refine w_ck (by omega) (by assumption) ?_ | refine w_gI (by omega) (by assumption) ?_ | refine w_gR (by omega) (by assumption) (by assumption) ?_ | refine w_al (by omega) (by assumption) (by assumption) ?_ | refine w_pI (by omega) (by assumption) ?_ | refine w_set (by omega) (by assumption) (by omega) (by omega) ?_ | refine w_at (by omega) (by assumption) (by omega) (by omega) ?_ | refine w_sI (by omega) (by assumption) (by omega) (by omega) ?_ | refine w_aI (by omega) (by assumption) (by omega) (by omega) ?_ | refine w_sZ (by omega) (by assumption) (by omega) (by omega) (by decide) ?_ | refine w_pZ (by omega) (by assumption) (by decide) ?_ | refine w_dv (by omega) (by omega) (by omega) (by omega) ?_ | refine w_rm (by omega) (by omega) (by omega) (by omega) ?_) | ((with_reducible refine w_pos ?_ ?_); focus (first | assumption | trivial | exact (ile (by omega) (by omega) (by omega) (by omega)).2 (by omega) | exact (ilt (by omega) (by omega) (by omega) (by omega)).2 (by omega) | exact (ieq (by omega) (by omega) (by omega) (by omega)).2 (by omega))) | ((with_reducible refine w_neg ?_ ?_); focus (first | assumption | exact not_false | trivial | exact mt (ile (by omega) (by omega) (by omega) (by omega)).1 (by omega) | exact mt (ilt (by omega) (by omega) (by omega) (by omega)).1 (by omega) | exact mt (ieq (by omega) (by omega) (by omega) (by omega)).1 (by omega)))); skip)
    refine w_cI (Q' := fun y => y = _) ⟨_, fails_Q q2, rfl⟩ ?_
    rintro y S he
    cases he
    refine w_rz0 ⟨_, J, rfl, ⟨by rw [up_ne (by omega)]; exact hx.1, fun i hi => by rw [up_ne (by omega)]; exact hx.2 i hi⟩, gq_u gq_r (by omega), Or.inl ⟨hN, rfl, up_eq _ _ _ _⟩⟩
  obtain ⟨v, hv, hv1, hv2, hvb⟩ := vbH_is _ _ hN
  have hcv := fun v' h => cmp_v (T := T) (n := n) (i := i) (v := v) (by omega) hvb v' h
  have htk := token_Q (J := J) (i := tE T n i) hR hx ht q1 hE.2.1
  rcases (show v = 0 ∨ v = 1 ∨ v = 2 ∨ v = 3 by omega) with rfl | rfl | rfl | rfl
  · have c0 : lg_cmp (wOf T n i) 482670503283 = iI 0 := (hcv 0 (by omega)).2 rfl
    have c1 : ¬ lg_cmp (wOf T n i) 426903366771 = iI 0 := mt (hcv 1 (by omega)).1 (by omega)
    have c2 : ¬ lg_cmp (wOf T n i) 1870030194 = iI 0 := mt (hcv 2 (by omega)).1 (by omega)
    have c3 : ¬ lg_cmp (wOf T n i) 125779836236645 = iI 0 := mt (hcv 3 (by omega)).1 (by omega)
    rw [u_X9_ringLine]
    repeat ((first | (with_reducible first | refine w_ltA ?_ | refine w_ltS ?_ | refine w_ltM ?_ | refine w_ltN ?_ | refine w_lt ?_ | refine w_jn ?_ | refine w_ck (by omega) (by assumption) ?_ | refine w_gI (by omega) (by assumption) ?_ | refine w_gR (by omega) (by assumption) (by assumption) ?_ | refine w_al (by omega) (by assumption) (by assumption) ?_ | refine w_pI (by omega) (by assumption) ?_ | refine w_set (by omega) (by assumption) (by omega) (by omega) ?_ | refine w_at (by omega) (by assumption) (by omega) (by omega) ?_ | refine w_sI (by omega) (by assumption) (by omega) (by omega) ?_ | refine w_aI (by omega) (by assumption) (by omega) (by omega) ?_ | refine w_sZ (by omega) (by assumption) (by omega) (by omega) (by decide) ?_ | refine w_pZ (by omega) (by assumption) (by decide) ?_ | refine w_dv (by omega) (by omega) (by omega) (by omega) ?_ | refine w_rm (by omega) (by omega) (by omega) (by omega) ?_) | ((with_reducible refine w_pos ?_ ?_); focus (first | assumption | trivial | exact (ile (by omega) (by omega) (by omega) (by omega)).2 (by omega) | exact (ilt (by omega) (by omega) (by omega) (by omega)).2 (by omega) | exact (ieq (by omega) (by omega) (by omega) (by omega)).2 (by omega))) | ((with_reducible refine w_neg ?_ ?_); focus (first | assumption | exact not_false | trivial | exact mt (ile (by omega) (by omega) (by omega) (by omega)).1 (by omega) | exact mt (ilt (by omega) (by omega) (by omega) (by omega)).1 (by omega) | exact mt (ieq (by omega) (by omega) (by omega) (by omega)).1 (by omega)))); skip)
    refine w_cV htk ?_
    rintro S ⟨I3, J3, rfl, hF3, hk3⟩
    have hw3 : I3 373 11 = iI w := (hF3.1 _ _ (by omega)).trans hw
    have hx3 := hF3.x hx
    have g13 : I3 373 13 = iI f.1 := (hF3.1 _ _ (by omega)).trans h13
    have g14 : I3 373 14 = iI f.2.1 := (hF3.1 _ _ (by omega)).trans h14
    have g15 : I3 373 15 = iI f.2.2 := (hF3.1 _ _ (by omega)).trans h15
    repeat ((first | (with_reducible first | refine w_ltA ?_ | refine w_ltS ?_ | refine w_ltM ?_ | refine w_ltN ?_ | refine w_lt ?_ | refine w_jn ?_ | refine w_ck (by omega) (by assumption) ?_ | refine w_gI (by omega) (by assumption) ?_ | refine w_gR (by omega) (by assumption) (by assumption) ?_ | refine w_al (by omega) (by assumption) (by assumption) ?_ | refine w_pI (by omega) (by assumption) ?_ | refine w_set (by omega) (by assumption) (by omega) (by omega) ?_ | refine w_at (by omega) (by assumption) (by omega) (by omega) ?_ | refine w_sI (by omega) (by assumption) (by omega) (by omega) ?_ | refine w_aI (by omega) (by assumption) (by omega) (by omega) ?_ | refine w_sZ (by omega) (by assumption) (by omega) (by omega) (by decide) ?_ | refine w_pZ (by omega) (by assumption) (by decide) ?_ | refine w_dv (by omega) (by omega) (by omega) (by omega) ?_ | refine w_rm (by omega) (by omega) (by omega) (by omega) ?_) | ((with_reducible refine w_pos ?_ ?_); focus (first | assumption | trivial | exact (ile (by omega) (by omega) (by omega) (by omega)).2 (by omega) | exact (ilt (by omega) (by omega) (by omega) (by omega)).2 (by omega) | exact (ieq (by omega) (by omega) (by omega) (by omega)).2 (by omega))) | ((with_reducible refine w_neg ?_ ?_); focus (first | assumption | exact not_false | trivial | exact mt (ile (by omega) (by omega) (by omega) (by omega)).1 (by omega) | exact mt (ilt (by omega) (by omega) (by omega) (by omega)).1 (by omega) | exact mt (ieq (by omega) (by omega) (by omega) (by omega)).1 (by omega)))); skip)
    refine w_cI (takes_Q (J := J3) (k := 0) (a := 2) (b := 6) hR hx3 ht hk3 hE.2.1 (by omega) hw3 hwb (by omega) (by omega)) ?_
    rintro y S ⟨I4, J4, rfl, hF4, hc⟩
    have hx4 := hF4.x hx3
    have f13 : I4 373 13 = iI f.1 := (hF4.2.1 13 (by omega) (by omega) (by omega) (by omega) (by omega) (by omega)).trans g13
    have f14 : I4 373 14 = iI f.2.1 := (hF4.2.1 14 (by omega) (by omega) (by omega) (by omega) (by omega) (by omega)).trans g14
    have f15 : I4 373 15 = iI f.2.2 := (hF4.2.1 15 (by omega) (by omega) (by omega) (by omega) (by omega) (by omega)).trans g15
    rcases hc with ⟨h2, rfl, hk4, h11, h8⟩ | ⟨h2, rfl, h10⟩
    · have hln : lnV T n 0 i w = (true, tE T n (tE T n i), nmW T n 0 0 (tE T n i) w, fun k => if k = 0 then tN T n (tE T n i) else 0) := if_pos h2
      have h80 : I4 377 (Int.toNat 0) = iI (tN T n (tE T n i)) := h8
      repeat ((first | (with_reducible first | refine w_ltA ?_ | refine w_ltS ?_ | refine w_ltM ?_ | refine w_ltN ?_ | refine w_lt ?_ | refine w_jn ?_ | refine w_ck (by omega) (by assumption) ?_ | refine w_gI (by omega) (by assumption) ?_ | refine w_gR (by omega) (by assumption) (by assumption) ?_ | refine w_al (by omega) (by assumption) (by assumption) ?_ | refine w_pI (by omega) (by assumption) ?_ | refine w_set (by omega) (by assumption) (by omega) (by omega) ?_ | refine w_at (by omega) (by assumption) (by omega) (by omega) ?_ | refine w_sI (by omega) (by assumption) (by omega) (by omega) ?_ | refine w_aI (by omega) (by assumption) (by omega) (by omega) ?_ | refine w_sZ (by omega) (by assumption) (by omega) (by omega) (by decide) ?_ | refine w_pZ (by omega) (by assumption) (by decide) ?_ | refine w_dv (by omega) (by omega) (by omega) (by omega) ?_ | refine w_rm (by omega) (by omega) (by omega) (by omega) ?_) | ((with_reducible refine w_pos ?_ ?_); focus (first | assumption | trivial | exact (ile (by omega) (by omega) (by omega) (by omega)).2 (by omega) | exact (ilt (by omega) (by omega) (by omega) (by omega)).2 (by omega) | exact (ieq (by omega) (by omega) (by omega) (by omega)).2 (by omega))) | ((with_reducible refine w_neg ?_ ?_); focus (first | assumption | exact not_false | trivial | exact mt (ile (by omega) (by omega) (by omega) (by omega)).1 (by omega) | exact mt (ilt (by omega) (by omega) (by omega) (by omega)).1 (by omega) | exact mt (ieq (by omega) (by omega) (by omega) (by omega)).1 (by omega)))); try simp (disch := omega) only [h80, f13, f14, up_ne])
      refine w_rz1 ⟨_, J4, rfl, ⟨by rw [up_ne (by omega), up_ne (by omega)]; exact hx4.1, fun i hi => by rw [up_ne (by omega), up_ne (by omega)]; exact hx4.2 i hi⟩, gq_u (gq_u ((ft_g hF3).t hF4.g) (by omega)) (by omega), Or.inr ⟨0, hv, by omega, hvb, Or.inl ⟨by rw [hln], rfl, ?_, ?_, ?_, ?_, ?_⟩⟩⟩
      · rw [hln]
        exact tkr_u (tkr_u hk4 (by omega)) (by omega)
      · rw [hln, up_ne (by omega), up_ne (by omega)]
        exact h11
      · rw [hln, up_ne (by omega), up_eq]
        rfl
      · rw [hln, up_eq]
        rfl
      · rw [hln, up_ne (by omega), up_ne (by omega), f15]
        rfl
    · have hln : lnV T n 0 i w = (false, tE T n i, w, fun _ => 0) := if_neg h2
      repeat ((first | (with_reducible first | refine w_ltA ?_ | refine w_ltS ?_ | refine w_ltM ?_ | refine w_ltN ?_ | refine w_lt ?_ | refine w_jn ?_ | refine w_ck (by omega) (by assumption) ?_ | refine w_gI (by omega) (by assumption) ?_ | refine w_gR (by omega) (by assumption) (by assumption) ?_ | refine w_al (by omega) (by assumption) (by assumption) ?_ | refine w_pI (by omega) (by assumption) ?_ | refine w_set (by omega) (by assumption) (by omega) (by omega) ?_ | refine w_at (by omega) (by assumption) (by omega) (by omega) ?_ | refine w_sI (by omega) (by assumption) (by omega) (by omega) ?_ | refine w_aI (by omega) (by assumption) (by omega) (by omega) ?_ | refine w_sZ (by omega) (by assumption) (by omega) (by omega) (by decide) ?_ | refine w_pZ (by omega) (by assumption) (by decide) ?_ | refine w_dv (by omega) (by omega) (by omega) (by omega) ?_ | refine w_rm (by omega) (by omega) (by omega) (by omega) ?_) | ((with_reducible refine w_pos ?_ ?_); focus (first | assumption | trivial | exact (ile (by omega) (by omega) (by omega) (by omega)).2 (by omega) | exact (ilt (by omega) (by omega) (by omega) (by omega)).2 (by omega) | exact (ieq (by omega) (by omega) (by omega) (by omega)).2 (by omega))) | ((with_reducible refine w_neg ?_ ?_); focus (first | assumption | exact not_false | trivial | exact mt (ile (by omega) (by omega) (by omega) (by omega)).1 (by omega) | exact mt (ilt (by omega) (by omega) (by omega) (by omega)).1 (by omega) | exact mt (ieq (by omega) (by omega) (by omega) (by omega)).1 (by omega)))); try simp (disch := omega) only [f13, f14, up_ne])
      refine w_rz0 ⟨_, J4, rfl, ⟨by rw [up_ne (by omega), up_ne (by omega)]; exact hx4.1, fun i hi => by rw [up_ne (by omega), up_ne (by omega)]; exact hx4.2 i hi⟩, gq_u (gq_u ((ft_g hF3).t hF4.g) (by omega)) (by omega), Or.inr ⟨0, hv, by omega, hvb, Or.inr ⟨by rw [hln], rfl, ?_⟩⟩⟩
      rw [hln, up_ne (by omega), up_ne (by omega)]
      exact h10
  · have c0 : ¬ lg_cmp (wOf T n i) 482670503283 = iI 0 := mt (hcv 0 (by omega)).1 (by omega)
    have c1 : lg_cmp (wOf T n i) 426903366771 = iI 0 := (hcv 1 (by omega)).2 rfl
    have c2 : ¬ lg_cmp (wOf T n i) 1870030194 = iI 0 := mt (hcv 2 (by omega)).1 (by omega)
    have c3 : ¬ lg_cmp (wOf T n i) 125779836236645 = iI 0 := mt (hcv 3 (by omega)).1 (by omega)
    rw [u_X9_ringLine]
    repeat ((first | (with_reducible first | refine w_ltA ?_ | refine w_ltS ?_ | refine w_ltM ?_ | refine w_ltN ?_ | refine w_lt ?_ | refine w_jn ?_ | refine w_ck (by omega) (by assumption) ?_ | refine w_gI (by omega) (by assumption) ?_ | refine w_gR (by omega) (by assumption) (by assumption) ?_ | refine w_al (by omega) (by assumption) (by assumption) ?_ | refine w_pI (by omega) (by assumption) ?_ | refine w_set (by omega) (by assumption) (by omega) (by omega) ?_ | refine w_at (by omega) (by assumption) (by omega) (by omega) ?_ | refine w_sI (by omega) (by assumption) (by omega) (by omega) ?_ | refine w_aI (by omega) (by assumption) (by omega) (by omega) ?_ | refine w_sZ (by omega) (by assumption) (by omega) (by omega) (by decide) ?_ | refine w_pZ (by omega) (by assumption) (by decide) ?_ | refine w_dv (by omega) (by omega) (by omega) (by omega) ?_ | refine w_rm (by omega) (by omega) (by omega) (by omega) ?_) | ((with_reducible refine w_pos ?_ ?_); focus (first | assumption | trivial | exact (ile (by omega) (by omega) (by omega) (by omega)).2 (by omega) | exact (ilt (by omega) (by omega) (by omega) (by omega)).2 (by omega) | exact (ieq (by omega) (by omega) (by omega) (by omega)).2 (by omega))) | ((with_reducible refine w_neg ?_ ?_); focus (first | assumption | exact not_false | trivial | exact mt (ile (by omega) (by omega) (by omega) (by omega)).1 (by omega) | exact mt (ilt (by omega) (by omega) (by omega) (by omega)).1 (by omega) | exact mt (ieq (by omega) (by omega) (by omega) (by omega)).1 (by omega)))); skip)
    refine w_cV htk ?_
    rintro S ⟨I3, J3, rfl, hF3, hk3⟩
    have hw3 : I3 373 11 = iI w := (hF3.1 _ _ (by omega)).trans hw
    have hx3 := hF3.x hx
    have g13 : I3 373 13 = iI f.1 := (hF3.1 _ _ (by omega)).trans h13
    have g14 : I3 373 14 = iI f.2.1 := (hF3.1 _ _ (by omega)).trans h14
    have g15 : I3 373 15 = iI f.2.2 := (hF3.1 _ _ (by omega)).trans h15
    repeat ((first | (with_reducible first | refine w_ltA ?_ | refine w_ltS ?_ | refine w_ltM ?_ | refine w_ltN ?_ | refine w_lt ?_ | refine w_jn ?_ | refine w_ck (by omega) (by assumption) ?_ | refine w_gI (by omega) (by assumption) ?_ | refine w_gR (by omega) (by assumption) (by assumption) ?_ | refine w_al (by omega) (by assumption) (by assumption) ?_ | refine w_pI (by omega) (by assumption) ?_ | refine w_set (by omega) (by assumption) (by omega) (by omega) ?_ | refine w_at (by omega) (by assumption) (by omega) (by omega) ?_ | refine w_sI (by omega) (by assumption) (by omega) (by omega) ?_ | refine w_aI (by omega) (by assumption) (by omega) (by omega) ?_ | refine w_sZ (by omega) (by assumption) (by omega) (by omega) (by decide) ?_ | refine w_pZ (by omega) (by assumption) (by decide) ?_ | refine w_dv (by omega) (by omega) (by omega) (by omega) ?_ | refine w_rm (by omega) (by omega) (by omega) (by omega) ?_) | ((with_reducible refine w_pos ?_ ?_); focus (first | assumption | trivial | exact (ile (by omega) (by omega) (by omega) (by omega)).2 (by omega) | exact (ilt (by omega) (by omega) (by omega) (by omega)).2 (by omega) | exact (ieq (by omega) (by omega) (by omega) (by omega)).2 (by omega))) | ((with_reducible refine w_neg ?_ ?_); focus (first | assumption | exact not_false | trivial | exact mt (ile (by omega) (by omega) (by omega) (by omega)).1 (by omega) | exact mt (ilt (by omega) (by omega) (by omega) (by omega)).1 (by omega) | exact mt (ieq (by omega) (by omega) (by omega) (by omega)).1 (by omega)))); skip)
    refine w_cI (takes_Q (J := J3) (k := 0) (a := 12) (b := 32) hR hx3 ht hk3 hE.2.1 (by omega) hw3 hwb (by omega) (by omega)) ?_
    rintro y S ⟨I4, J4, rfl, hF4, hc⟩
    have hx4 := hF4.x hx3
    have f13 : I4 373 13 = iI f.1 := (hF4.2.1 13 (by omega) (by omega) (by omega) (by omega) (by omega) (by omega)).trans g13
    have f14 : I4 373 14 = iI f.2.1 := (hF4.2.1 14 (by omega) (by omega) (by omega) (by omega) (by omega) (by omega)).trans g14
    have f15 : I4 373 15 = iI f.2.2 := (hF4.2.1 15 (by omega) (by omega) (by omega) (by omega) (by omega) (by omega)).trans g15
    rcases hc with ⟨h2, rfl, hk4, h11, h8⟩ | ⟨h2, rfl, h10⟩
    · have hln : lnV T n 1 i w = (true, tE T n (tE T n i), nmW T n 1 0 (tE T n i) w, fun k => if k = 0 then tN T n (tE T n i) else 0) := if_pos h2
      have h80 : I4 377 (Int.toNat 0) = iI (tN T n (tE T n i)) := h8
      repeat ((first | (with_reducible first | refine w_ltA ?_ | refine w_ltS ?_ | refine w_ltM ?_ | refine w_ltN ?_ | refine w_lt ?_ | refine w_jn ?_ | refine w_ck (by omega) (by assumption) ?_ | refine w_gI (by omega) (by assumption) ?_ | refine w_gR (by omega) (by assumption) (by assumption) ?_ | refine w_al (by omega) (by assumption) (by assumption) ?_ | refine w_pI (by omega) (by assumption) ?_ | refine w_set (by omega) (by assumption) (by omega) (by omega) ?_ | refine w_at (by omega) (by assumption) (by omega) (by omega) ?_ | refine w_sI (by omega) (by assumption) (by omega) (by omega) ?_ | refine w_aI (by omega) (by assumption) (by omega) (by omega) ?_ | refine w_sZ (by omega) (by assumption) (by omega) (by omega) (by decide) ?_ | refine w_pZ (by omega) (by assumption) (by decide) ?_ | refine w_dv (by omega) (by omega) (by omega) (by omega) ?_ | refine w_rm (by omega) (by omega) (by omega) (by omega) ?_) | ((with_reducible refine w_pos ?_ ?_); focus (first | assumption | trivial | exact (ile (by omega) (by omega) (by omega) (by omega)).2 (by omega) | exact (ilt (by omega) (by omega) (by omega) (by omega)).2 (by omega) | exact (ieq (by omega) (by omega) (by omega) (by omega)).2 (by omega))) | ((with_reducible refine w_neg ?_ ?_); focus (first | assumption | exact not_false | trivial | exact mt (ile (by omega) (by omega) (by omega) (by omega)).1 (by omega) | exact mt (ilt (by omega) (by omega) (by omega) (by omega)).1 (by omega) | exact mt (ieq (by omega) (by omega) (by omega) (by omega)).1 (by omega)))); try simp (disch := omega) only [h80, f13, f14, up_ne])
      refine w_rz1 ⟨_, J4, rfl, ⟨by rw [up_ne (by omega), up_ne (by omega)]; exact hx4.1, fun i hi => by rw [up_ne (by omega), up_ne (by omega)]; exact hx4.2 i hi⟩, gq_u (gq_u ((ft_g hF3).t hF4.g) (by omega)) (by omega), Or.inr ⟨1, hv, by omega, hvb, Or.inl ⟨by rw [hln], rfl, ?_, ?_, ?_, ?_, ?_⟩⟩⟩
      · rw [hln]
        exact tkr_u (tkr_u hk4 (by omega)) (by omega)
      · rw [hln, up_ne (by omega), up_ne (by omega)]
        exact h11
      · rw [hln, up_ne (by omega), up_eq]
        rfl
      · rw [hln, up_eq]
        rfl
      · rw [hln, up_ne (by omega), up_ne (by omega), f15]
        rfl
    · have hln : lnV T n 1 i w = (false, tE T n i, w, fun _ => 0) := if_neg h2
      repeat ((first | (with_reducible first | refine w_ltA ?_ | refine w_ltS ?_ | refine w_ltM ?_ | refine w_ltN ?_ | refine w_lt ?_ | refine w_jn ?_ | refine w_ck (by omega) (by assumption) ?_ | refine w_gI (by omega) (by assumption) ?_ | refine w_gR (by omega) (by assumption) (by assumption) ?_ | refine w_al (by omega) (by assumption) (by assumption) ?_ | refine w_pI (by omega) (by assumption) ?_ | refine w_set (by omega) (by assumption) (by omega) (by omega) ?_ | refine w_at (by omega) (by assumption) (by omega) (by omega) ?_ | refine w_sI (by omega) (by assumption) (by omega) (by omega) ?_ | refine w_aI (by omega) (by assumption) (by omega) (by omega) ?_ | refine w_sZ (by omega) (by assumption) (by omega) (by omega) (by decide) ?_ | refine w_pZ (by omega) (by assumption) (by decide) ?_ | refine w_dv (by omega) (by omega) (by omega) (by omega) ?_ | refine w_rm (by omega) (by omega) (by omega) (by omega) ?_) | ((with_reducible refine w_pos ?_ ?_); focus (first | assumption | trivial | exact (ile (by omega) (by omega) (by omega) (by omega)).2 (by omega) | exact (ilt (by omega) (by omega) (by omega) (by omega)).2 (by omega) | exact (ieq (by omega) (by omega) (by omega) (by omega)).2 (by omega))) | ((with_reducible refine w_neg ?_ ?_); focus (first | assumption | exact not_false | trivial | exact mt (ile (by omega) (by omega) (by omega) (by omega)).1 (by omega) | exact mt (ilt (by omega) (by omega) (by omega) (by omega)).1 (by omega) | exact mt (ieq (by omega) (by omega) (by omega) (by omega)).1 (by omega)))); try simp (disch := omega) only [f13, f14, up_ne])
      refine w_rz0 ⟨_, J4, rfl, ⟨by rw [up_ne (by omega), up_ne (by omega)]; exact hx4.1, fun i hi => by rw [up_ne (by omega), up_ne (by omega)]; exact hx4.2 i hi⟩, gq_u (gq_u ((ft_g hF3).t hF4.g) (by omega)) (by omega), Or.inr ⟨1, hv, by omega, hvb, Or.inr ⟨by rw [hln], rfl, ?_⟩⟩⟩
      rw [hln, up_ne (by omega), up_ne (by omega)]
      exact h10
  · have c0 : ¬ lg_cmp (wOf T n i) 482670503283 = iI 0 := mt (hcv 0 (by omega)).1 (by omega)
    have c1 : ¬ lg_cmp (wOf T n i) 426903366771 = iI 0 := mt (hcv 1 (by omega)).1 (by omega)
    have c2 : lg_cmp (wOf T n i) 1870030194 = iI 0 := (hcv 2 (by omega)).2 rfl
    have c3 : ¬ lg_cmp (wOf T n i) 125779836236645 = iI 0 := mt (hcv 3 (by omega)).1 (by omega)
    rw [u_X9_ringLine]
    have hln : lnV T n 2 i w = (true, tE T n i, w, fun _ => 0) := rfl
    repeat ((first | (with_reducible first | refine w_ltA ?_ | refine w_ltS ?_ | refine w_ltM ?_ | refine w_ltN ?_ | refine w_lt ?_ | refine w_jn ?_ | refine w_ck (by omega) (by assumption) ?_ | refine w_gI (by omega) (by assumption) ?_ | refine w_gR (by omega) (by assumption) (by assumption) ?_ | refine w_al (by omega) (by assumption) (by assumption) ?_ | refine w_pI (by omega) (by assumption) ?_ | refine w_set (by omega) (by assumption) (by omega) (by omega) ?_ | refine w_at (by omega) (by assumption) (by omega) (by omega) ?_ | refine w_sI (by omega) (by assumption) (by omega) (by omega) ?_ | refine w_aI (by omega) (by assumption) (by omega) (by omega) ?_ | refine w_sZ (by omega) (by assumption) (by omega) (by omega) (by decide) ?_ | refine w_pZ (by omega) (by assumption) (by decide) ?_ | refine w_dv (by omega) (by omega) (by omega) (by omega) ?_ | refine w_rm (by omega) (by omega) (by omega) (by omega) ?_) | ((with_reducible refine w_pos ?_ ?_); focus (first | assumption | trivial | exact (ile (by omega) (by omega) (by omega) (by omega)).2 (by omega) | exact (ilt (by omega) (by omega) (by omega) (by omega)).2 (by omega) | exact (ieq (by omega) (by omega) (by omega) (by omega)).2 (by omega))) | ((with_reducible refine w_neg ?_ ?_); focus (first | assumption | exact not_false | trivial | exact mt (ile (by omega) (by omega) (by omega) (by omega)).1 (by omega) | exact mt (ilt (by omega) (by omega) (by omega) (by omega)).1 (by omega) | exact mt (ieq (by omega) (by omega) (by omega) (by omega)).1 (by omega)))); skip)
    have hx2 : TXR (up I 373 15 (iI 1)) T n := ⟨by rw [up_ne (by omega)]; exact hx.1, fun i hi => by rw [up_ne (by omega)]; exact hx.2 i hi⟩
    refine w_cV (token_Q (J := J) (i := tE T n i) hR hx2 ht (by rw [up_ne (by omega)]; exact q1) hE.2.1) ?_
    rintro S ⟨I3, J3, rfl, hF3, hk3⟩
    refine w_rz1 ⟨I3, J3, rfl, hF3.x hx2, (gq_u gq_r (by omega)).t (ft_g hF3), Or.inr ⟨2, hv, by omega, hvb, Or.inl ⟨rfl, rfl, hk3, ?_, ?_, ?_, ?_⟩⟩⟩
    · rw [hF3.1 _ _ (by omega), up_ne (by omega)]
      exact hw
    · rw [hF3.1 _ _ (by omega), up_ne (by omega)]
      exact h13
    · rw [hF3.1 _ _ (by omega), up_ne (by omega)]
      exact h14
    · rw [hF3.1 _ _ (by omega), up_eq]
      rfl
  · have c0 : ¬ lg_cmp (wOf T n i) 482670503283 = iI 0 := mt (hcv 0 (by omega)).1 (by omega)
    have c1 : ¬ lg_cmp (wOf T n i) 426903366771 = iI 0 := mt (hcv 1 (by omega)).1 (by omega)
    have c2 : ¬ lg_cmp (wOf T n i) 1870030194 = iI 0 := mt (hcv 2 (by omega)).1 (by omega)
    have c3 : lg_cmp (wOf T n i) 125779836236645 = iI 0 := (hcv 3 (by omega)).2 rfl
    rw [u_X9_ringLine]
    have hln : lnV T n 3 i w = (true, tE T n i, w, fun _ => 0) := rfl
    repeat ((first | (with_reducible first | refine w_ltA ?_ | refine w_ltS ?_ | refine w_ltM ?_ | refine w_ltN ?_ | refine w_lt ?_ | refine w_jn ?_ | refine w_ck (by omega) (by assumption) ?_ | refine w_gI (by omega) (by assumption) ?_ | refine w_gR (by omega) (by assumption) (by assumption) ?_ | refine w_al (by omega) (by assumption) (by assumption) ?_ | refine w_pI (by omega) (by assumption) ?_ | refine w_set (by omega) (by assumption) (by omega) (by omega) ?_ | refine w_at (by omega) (by assumption) (by omega) (by omega) ?_ | refine w_sI (by omega) (by assumption) (by omega) (by omega) ?_ | refine w_aI (by omega) (by assumption) (by omega) (by omega) ?_ | refine w_sZ (by omega) (by assumption) (by omega) (by omega) (by decide) ?_ | refine w_pZ (by omega) (by assumption) (by decide) ?_ | refine w_dv (by omega) (by omega) (by omega) (by omega) ?_ | refine w_rm (by omega) (by omega) (by omega) (by omega) ?_) | ((with_reducible refine w_pos ?_ ?_); focus (first | assumption | trivial | exact (ile (by omega) (by omega) (by omega) (by omega)).2 (by omega) | exact (ilt (by omega) (by omega) (by omega) (by omega)).2 (by omega) | exact (ieq (by omega) (by omega) (by omega) (by omega)).2 (by omega))) | ((with_reducible refine w_neg ?_ ?_); focus (first | assumption | exact not_false | trivial | exact mt (ile (by omega) (by omega) (by omega) (by omega)).1 (by omega) | exact mt (ilt (by omega) (by omega) (by omega) (by omega)).1 (by omega) | exact mt (ieq (by omega) (by omega) (by omega) (by omega)).1 (by omega)))); skip)
    have hx2 : TXR (up I 373 15 (iI 0)) T n := ⟨by rw [up_ne (by omega)]; exact hx.1, fun i hi => by rw [up_ne (by omega)]; exact hx.2 i hi⟩
    refine w_cV (token_Q (J := J) (i := tE T n i) hR hx2 ht (by rw [up_ne (by omega)]; exact q1) hE.2.1) ?_
    rintro S ⟨I3, J3, rfl, hF3, hk3⟩
    refine w_rz1 ⟨I3, J3, rfl, hF3.x hx2, (gq_u gq_r (by omega)).t (ft_g hF3), Or.inr ⟨3, hv, by omega, hvb, Or.inl ⟨rfl, rfl, hk3, ?_, ?_, ?_, ?_⟩⟩⟩
    · rw [hF3.1 _ _ (by omega), up_ne (by omega)]
      exact hw
    · rw [hF3.1 _ _ (by omega), up_ne (by omega)]
      exact h13
    · rw [hF3.1 _ _ (by omega), up_ne (by omega)]
      exact h14
    · rw [hF3.1 _ _ (by omega), up_eq]
      rfl
def BFq (I I' : MI) (J J' : MJ) (T : TX) (n m : Nat) : Prop := TXR I' T n ∧ GQ I I' ∧ I' 373 18 = iI (m : Nat) ∧ (∀ k, J' 378 k = J 378 k) ∧ ∀ k, I' 379 k = I 379 k
theorem bfq_k {I0 : MI} {J0 : MJ} {k : Nat} {I' : MI} {J' : MJ} (h : BFq I0 I J0 J T n m) (h2 : FK k I I' J J') : BFq I0 I' J0 J' T n m := ⟨h2.x h.1, h.2.1.t h2.g, (h2.2.1 18 (by omega) (by omega) (by omega) (by omega) (by omega) (by omega)).trans h.2.2.1, fun k => (h2.2.2 _ _ (by omega)).trans (h.2.2.2.1 k), fun k => (h2.1 _ _ (by omega) (by omega)).trans (h.2.2.2.2 k)⟩
theorem final_Q {I0 : MI} {J0 : MJ} {b : Int32} (hR : RQ R) (hB : BFq I0 I J0 J T n m) (hm : m < 90) (hb : b = iI 0 ∨ b = iI 1) {Q : Int32 × St → Prop} (h : ∀ I' J', TXR I' T n → GQ I0 I' → (∀ p, TkR I J T n p → TkR I' J' T n p) → (I' 373 10 = I 373 10 ∧ I' 373 11 = I 373 11) → I' 373 18 = iI ((m + 1 : Nat) : Int) → J' 378 m = wOf T n i → I' 379 (2 * m) = I 377 0 → I' 379 (2 * m + 1) = I 377 1 → (∀ k, k < m → J' 378 k = J0 378 k ∧ I' 379 (2 * k) = I0 379 (2 * k) ∧ I' 379 (2 * k + 1) = I0 379 (2 * k + 1)) → Q (b, (381, I', J', R))) : En Q (gR_ (381, I, J, R) 373 9 16 fun a13 =>
              gI_ (381, I, J, R) 373 9 18 fun v14 =>
              sJ_ (381, I, J, R) a13 v14 (wOf T n i) fun S15 =>
              gR_ S15 373 9 17 fun a16 =>
              gI_ S15 373 9 18 fun v17 =>
              lt_ ((iI 2) * v17 : Int32) fun v18 =>
              gR_ S15 373 9 12 fun a19 =>
              aI_ S15 a19 11 (iI 0) fun v20 =>
              sI_ S15 a16 v18 v20 fun S21 =>
              gR_ S21 373 9 17 fun a22 =>
              gI_ S21 373 9 18 fun v23 =>
              lt_ ((iI 2) * v23 : Int32) fun v24 =>
              lt_ (v24 + (iI 1) : Int32) fun v25 =>
              gR_ S21 373 9 12 fun a26 =>
              aI_ S21 a26 11 (iI 1) fun v27 =>
              sI_ S21 a22 v25 v27 fun S28 =>
              gI_ S28 373 9 18 fun v29 =>
              lt_ (v29 + (iI 1) : Int32) fun v30 =>
              pI_ S28 373 9 18 v30 fun S31 =>
              rz_ b S31) := by
  have k374 := kd_374
  obtain ⟨k378, l378, k379, l379, k380, l380⟩ := kd_378
  obtain ⟨-, -, -, r12, r16, r17, -⟩ := id hR
  obtain ⟨b1, b2, b3, b4, b5⟩ := hB
  repeat ((first | (with_reducible first | refine w_sJ (by omega) (by assumption) (by omega) (by omega) ?_ | refine w_ltA ?_ | refine w_ltS ?_ | refine w_ltM ?_ | refine w_ltN ?_ | refine w_lt ?_ | refine w_jn ?_ | refine w_ck (by omega) (by assumption) ?_ | refine w_gI (by omega) (by assumption) ?_ | refine w_gR (by omega) (by assumption) (by assumption) ?_ | refine w_al (by omega) (by assumption) (by assumption) ?_ | refine w_pI (by omega) (by assumption) ?_ | refine w_set (by omega) (by assumption) (by omega) (by omega) ?_ | refine w_at (by omega) (by assumption) (by omega) (by omega) ?_ | refine w_sI (by omega) (by assumption) (by omega) (by omega) ?_ | refine w_aI (by omega) (by assumption) (by omega) (by omega) ?_ | refine w_sZ (by omega) (by assumption) (by omega) (by omega) (by decide) ?_ | refine w_pZ (by omega) (by assumption) (by decide) ?_ | refine w_dv (by omega) (by omega) (by omega) (by omega) ?_ | refine w_rm (by omega) (by omega) (by omega) (by omega) ?_) | ((with_reducible refine w_pos ?_ ?_); focus (first | assumption | trivial | exact (ile (by omega) (by omega) (by omega) (by omega)).2 (by omega) | exact (ilt (by omega) (by omega) (by omega) (by omega)).2 (by omega) | exact (ieq (by omega) (by omega) (by omega) (by omega)).2 (by omega))) | ((with_reducible refine w_neg ?_ ?_); focus (first | assumption | exact not_false | trivial | exact mt (ile (by omega) (by omega) (by omega) (by omega)).1 (by omega) | exact mt (ilt (by omega) (by omega) (by omega) (by omega)).1 (by omega) | exact mt (ieq (by omega) (by omega) (by omega) (by omega)).1 (by omega)))); try simp (disch := omega) only [b3, up_ne])
  have e0 : (2 * (m : Int)).toNat = 2 * m := by omega
  have e1 : (2 * (m : Int) + 1).toNat = 2 * m + 1 := by omega
  rw [e0, e1, Int.toNat_natCast, show (m : Int) + 1 = ((m + 1 : Nat) : Int) by omega]
  have hfin := h (up (up (up I 379 (2 * m) (I 377 (Int.toNat 0))) 379 (2 * m + 1) (I 377 (Int.toNat 1))) 373 18 (iI ((m + 1 : Nat) : Int))) (upJ J 378 m (wOf T n i)) ⟨by rw [up_ne (by omega), up_ne (by omega), up_ne (by omega)]; exact b1.1, fun i hi => by rw [up_ne (by omega), up_ne (by omega), up_ne (by omega)]; exact b1.2 i hi⟩ (gq_u (gq_u (gq_u b2 (by omega)) (by omega)) (by omega)) (fun p hk => by
    obtain ⟨h1, h2, h3, h4, h5⟩ := tkr_u (d := 373) (j := 18) (y := iI ((m + 1 : Nat) : Int)) (tkr_u (d := 379) (j := 2 * m + 1) (y := I 377 (Int.toNat 1)) (tkr_u (d := 379) (j := 2 * m) (y := I 377 (Int.toNat 0)) hk (by omega)) (by omega)) (by omega)
    exact ⟨h1, h2, h3, h4, fun h => by rw [upJ_ne (by omega)]; exact h5 h⟩) ⟨by rw [up_ne (by omega), up_ne (by omega), up_ne (by omega)], by rw [up_ne (by omega), up_ne (by omega), up_ne (by omega)]⟩ (up_eq _ _ _ _) upJ_eq (by rw [up_ne (by omega), up_ne (by omega), up_eq]; rfl) (by rw [up_ne (by omega), up_eq]; rfl) (fun k hk => ⟨by rw [upJ_ne (by omega)]; exact b4 k, by rw [up_ne (by omega), up_ne (by omega), up_ne (by omega)]; exact b5 _, by rw [up_ne (by omega), up_ne (by omega), up_ne (by omega)]; exact b5 _⟩)
  rcases hb with rfl | rfl
  · exact w_rz0 hfin
  · exact w_rz1 hfin
theorem scriptLine_N (hR : RQ R) (hx : TXR I T n) (ht : Tok T n) (hk : TkR I J T n i) (hin : i ≤ n) (hw : I 373 11 = iI w) (hwb : -1 ≤ w ∧ w ≤ n) (h18 : I 373 18 = iI (m : Nat)) (hm : m < 90) (hN : vbH T n i 4 10 = -1) : En (fun y => ∃ I' J', y.2 = (381, I', J', R) ∧ TXR I' T n ∧ GQ I I' ∧ ((vbH T n i 4 10 = -1 ∧ y.1 = iI 0 ∧ I' 373 10 = iI (tS T n i : Nat)) ∨ ∃ v : Nat, vbH T n i 4 10 = v ∧ v < 14 ∧ vB T n i v = true ∧ (((lnV T n v i w).1 = true ∧ y.1 = iI 1 ∧ TkR I' J' T n (lnV T n v i w).2.1 ∧ I' 373 11 = iI (lnV T n v i w).2.2.1 ∧ I' 373 18 = iI ((m + 1 : Nat) : Int) ∧ LNr I' J' m (v, (lnV T n v i w).2.2.2 0, (lnV T n v i w).2.2.2 1) ∧ ∀ k, k < m → J' 378 k = J 378 k ∧ I' 379 (2 * k) = I 379 (2 * k) ∧ I' 379 (2 * k + 1) = I 379 (2 * k + 1)) ∨ ((lnV T n v i w).1 = false ∧ y.1 = iI 0 ∧ I' 373 10 = iI (tS T n (lnV T n v i w).2.1 : Nat))))) (f_X9_scriptLine (381, I, J, R) 373 (wOf T n i)) := by
  have k374 := kd_374
  obtain ⟨q1, q2, q3, q4, q5⟩ := id hk
  have hno := vbH_no _ _ hN
  have c4 : ¬ lg_cmp (wOf T n i) 1953063787 = iI 0 := cmp_n 4 (by omega) (hno 4 (by omega) (by omega))
  have c5 : ¬ lg_cmp (wOf T n i) 1952541541 = iI 0 := cmp_n 5 (by omega) (hno 5 (by omega) (by omega))
  have c6 : ¬ lg_cmp (wOf T n i) 7370100 = iI 0 := cmp_n 6 (by omega) (hno 6 (by omega) (by omega))
  have c7 : ¬ lg_cmp (wOf T n i) 6647396 = iI 0 := cmp_n 7 (by omega) (hno 7 (by omega) (by omega))
  have c8 : ¬ lg_cmp (wOf T n i) 1685221232 = iI 0 := cmp_n 8 (by omega) (hno 8 (by omega) (by omega))
  have c9 : ¬ lg_cmp (wOf T n i) 1937203568 = iI 0 := cmp_n 9 (by omega) (hno 9 (by omega) (by omega))
  have c10 : ¬ lg_cmp (wOf T n i) 439956431717 = iI 0 := cmp_n 10 (by omega) (hno 10 (by omega) (by omega))
  have c11 : ¬ lg_cmp (wOf T n i) 1919246692 = iI 0 := cmp_n 11 (by omega) (hno 11 (by omega) (by omega))
  have c12 : ¬ lg_cmp (wOf T n i) 1835103083 = iI 0 := cmp_n 12 (by omega) (hno 12 (by omega) (by omega))
  have c13 : ¬ lg_cmp (wOf T n i) 125780053555813 = iI 0 := cmp_n 13 (by omega) (hno 13 (by omega) (by omega))
  rw [u_X9_scriptLine]
  refine w_lt ?_
  refine w_jnP (fun x => x = iI 0) ?_ ?_
  · rintro x rfl
    refine w_lt ?_
    refine w_jnP (fun x => x = iI 0) ?_ ?_
    · rintro x rfl
      refine w_jn ?_
      repeat ((first | (with_reducible first | refine w_ltA ?_ | refine w_ltS ?_ | refine w_ltM ?_ | refine w_ltN ?_ | refine w_lt ?_ | refine w_jn ?_ | refine w_ck (by omega) (by assumption) ?_ | refine w_gI (by omega) (by assumption) ?_ | refine w_gR (by omega) (by assumption) (by assumption) ?_ | refine w_al (by omega) (by assumption) (by assumption) ?_ | refine w_pI (by omega) (by assumption) ?_ | refine w_set (by omega) (by assumption) (by omega) (by omega) ?_ | refine w_at (by omega) (by assumption) (by omega) (by omega) ?_ | refine w_sI (by omega) (by assumption) (by omega) (by omega) ?_ | refine w_aI (by omega) (by assumption) (by omega) (by omega) ?_ | refine w_sZ (by omega) (by assumption) (by omega) (by omega) (by decide) ?_ | refine w_pZ (by omega) (by assumption) (by decide) ?_ | refine w_dv (by omega) (by omega) (by omega) (by omega) ?_ | refine w_rm (by omega) (by omega) (by omega) (by omega) ?_) | ((with_reducible refine w_pos ?_ ?_); focus (first | assumption | trivial | exact (ile (by omega) (by omega) (by omega) (by omega)).2 (by omega) | exact (ilt (by omega) (by omega) (by omega) (by omega)).2 (by omega) | exact (ieq (by omega) (by omega) (by omega) (by omega)).2 (by omega))) | ((with_reducible refine w_neg ?_ ?_); focus (first | assumption | exact not_false | trivial | exact mt (ile (by omega) (by omega) (by omega) (by omega)).1 (by omega) | exact mt (ilt (by omega) (by omega) (by omega) (by omega)).1 (by omega) | exact mt (ieq (by omega) (by omega) (by omega) (by omega)).1 (by omega)))); skip)
      refine w_cI (Q' := fun y => y = _) ⟨_, fails_Q q2, rfl⟩ ?_
      rintro y S he
      cases he
      refine w_rz0 ⟨_, J, rfl, ⟨by rw [up_ne (by omega)]; exact hx.1, fun i hi => by rw [up_ne (by omega)]; exact hx.2 i hi⟩, gq_u gq_r (by omega), Or.inl ⟨hN, rfl, up_eq _ _ _ _⟩⟩
    · intro j4 hj4
      repeat ((first | (with_reducible first | refine w_ltA ?_ | refine w_ltS ?_ | refine w_ltM ?_ | refine w_ltN ?_ | refine w_lt ?_ | refine w_jn ?_ | refine w_ck (by omega) (by assumption) ?_ | refine w_gI (by omega) (by assumption) ?_ | refine w_gR (by omega) (by assumption) (by assumption) ?_ | refine w_al (by omega) (by assumption) (by assumption) ?_ | refine w_pI (by omega) (by assumption) ?_ | refine w_set (by omega) (by assumption) (by omega) (by omega) ?_ | refine w_at (by omega) (by assumption) (by omega) (by omega) ?_ | refine w_sI (by omega) (by assumption) (by omega) (by omega) ?_ | refine w_aI (by omega) (by assumption) (by omega) (by omega) ?_ | refine w_sZ (by omega) (by assumption) (by omega) (by omega) (by decide) ?_ | refine w_pZ (by omega) (by assumption) (by decide) ?_ | refine w_dv (by omega) (by omega) (by omega) (by omega) ?_ | refine w_rm (by omega) (by omega) (by omega) (by omega) ?_) | ((with_reducible refine w_pos ?_ ?_); focus (first | assumption | trivial | exact (ile (by omega) (by omega) (by omega) (by omega)).2 (by omega) | exact (ilt (by omega) (by omega) (by omega) (by omega)).2 (by omega) | exact (ieq (by omega) (by omega) (by omega) (by omega)).2 (by omega))) | ((with_reducible refine w_neg ?_ ?_); focus (first | assumption | exact not_false | trivial | exact mt (ile (by omega) (by omega) (by omega) (by omega)).1 (by omega) | exact mt (ilt (by omega) (by omega) (by omega) (by omega)).1 (by omega) | exact mt (ieq (by omega) (by omega) (by omega) (by omega)).1 (by omega)))); skip)
      exact hj4 _ rfl
  · intro j2 hj2
    repeat ((first | (with_reducible first | refine w_ltA ?_ | refine w_ltS ?_ | refine w_ltM ?_ | refine w_ltN ?_ | refine w_lt ?_ | refine w_jn ?_ | refine w_ck (by omega) (by assumption) ?_ | refine w_gI (by omega) (by assumption) ?_ | refine w_gR (by omega) (by assumption) (by assumption) ?_ | refine w_al (by omega) (by assumption) (by assumption) ?_ | refine w_pI (by omega) (by assumption) ?_ | refine w_set (by omega) (by assumption) (by omega) (by omega) ?_ | refine w_at (by omega) (by assumption) (by omega) (by omega) ?_ | refine w_sI (by omega) (by assumption) (by omega) (by omega) ?_ | refine w_aI (by omega) (by assumption) (by omega) (by omega) ?_ | refine w_sZ (by omega) (by assumption) (by omega) (by omega) (by decide) ?_ | refine w_pZ (by omega) (by assumption) (by decide) ?_ | refine w_dv (by omega) (by omega) (by omega) (by omega) ?_ | refine w_rm (by omega) (by omega) (by omega) (by omega) ?_) | ((with_reducible refine w_pos ?_ ?_); focus (first | assumption | trivial | exact (ile (by omega) (by omega) (by omega) (by omega)).2 (by omega) | exact (ilt (by omega) (by omega) (by omega) (by omega)).2 (by omega) | exact (ieq (by omega) (by omega) (by omega) (by omega)).2 (by omega))) | ((with_reducible refine w_neg ?_ ?_); focus (first | assumption | exact not_false | trivial | exact mt (ile (by omega) (by omega) (by omega) (by omega)).1 (by omega) | exact mt (ilt (by omega) (by omega) (by omega) (by omega)).1 (by omega) | exact mt (ieq (by omega) (by omega) (by omega) (by omega)).1 (by omega)))); skip)
    exact hj2 _ rfl
set_option maxHeartbeats 4000000 in
theorem scriptLine_4 (hR : RQ R) (hx : TXR I T n) (ht : Tok T n) (hk : TkR I J T n i) (hin : i ≤ n) (hw : I 373 11 = iI w) (hwb : -1 ≤ w ∧ w ≤ n) (h18 : I 373 18 = iI (m : Nat)) (hm : m < 90) (hv : vbH T n i 4 10 = (4 : Nat)) (hvb : vB T n i 4 = true) : En (fun y => ∃ I' J', y.2 = (381, I', J', R) ∧ TXR I' T n ∧ GQ I I' ∧ ((vbH T n i 4 10 = -1 ∧ y.1 = iI 0 ∧ I' 373 10 = iI (tS T n i : Nat)) ∨ ∃ v : Nat, vbH T n i 4 10 = v ∧ v < 14 ∧ vB T n i v = true ∧ (((lnV T n v i w).1 = true ∧ y.1 = iI 1 ∧ TkR I' J' T n (lnV T n v i w).2.1 ∧ I' 373 11 = iI (lnV T n v i w).2.2.1 ∧ I' 373 18 = iI ((m + 1 : Nat) : Int) ∧ LNr I' J' m (v, (lnV T n v i w).2.2.2 0, (lnV T n v i w).2.2.2 1) ∧ ∀ k, k < m → J' 378 k = J 378 k ∧ I' 379 (2 * k) = I 379 (2 * k) ∧ I' 379 (2 * k + 1) = I 379 (2 * k + 1)) ∨ ((lnV T n v i w).1 = false ∧ y.1 = iI 0 ∧ I' 373 10 = iI (tS T n (lnV T n v i w).2.1 : Nat))))) (f_X9_scriptLine (381, I, J, R) 373 (wOf T n i)) := by
  have k374 := kd_374
  obtain ⟨k378, l378, k379, l379, k380, l380⟩ := kd_378
  obtain ⟨-, -, -, r12, r16, r17, -⟩ := id hR
  have hE := tE_b (T := T) hin
  have hE2 := tE_b (T := T) hE.2.1
  obtain ⟨q1, q2, q3, q4, q5⟩ := id hk
  have hcv := fun v' h => cmp_v (T := T) (n := n) (i := i) (v := 4) (by omega) hvb v' h
  have c4 : lg_cmp (wOf T n i) 1953063787 = iI 0 := (hcv 4 (by omega)).2 rfl
  have c5 : ¬ lg_cmp (wOf T n i) 1952541541 = iI 0 := mt (hcv 5 (by omega)).1 (by omega)
  have c6 : ¬ lg_cmp (wOf T n i) 7370100 = iI 0 := mt (hcv 6 (by omega)).1 (by omega)
  have c7 : ¬ lg_cmp (wOf T n i) 6647396 = iI 0 := mt (hcv 7 (by omega)).1 (by omega)
  have c8 : ¬ lg_cmp (wOf T n i) 1685221232 = iI 0 := mt (hcv 8 (by omega)).1 (by omega)
  have c9 : ¬ lg_cmp (wOf T n i) 1937203568 = iI 0 := mt (hcv 9 (by omega)).1 (by omega)
  have c10 : ¬ lg_cmp (wOf T n i) 439956431717 = iI 0 := mt (hcv 10 (by omega)).1 (by omega)
  have c11 : ¬ lg_cmp (wOf T n i) 1919246692 = iI 0 := mt (hcv 11 (by omega)).1 (by omega)
  have c12 : ¬ lg_cmp (wOf T n i) 1835103083 = iI 0 := mt (hcv 12 (by omega)).1 (by omega)
  have c13 : ¬ lg_cmp (wOf T n i) 125780053555813 = iI 0 := mt (hcv 13 (by omega)).1 (by omega)
  rw [u_X9_scriptLine]
  refine w_lt ?_
  refine w_jnP (fun x => x = iI 0) ?_ ?_
  · rintro x rfl
    refine w_lt ?_
    refine w_jnP (fun x => x = iI 0) ?_ ?_
    · rintro x rfl
      refine w_jnP (fun _ => True) ?_ ?_
      · intro _ _
        refine w_ck (by omega) k374 ?_
        refine w_cV (token_Q (J := J) (i := tE T n i) hR hx ht q1 hE.2.1) ?_
        rintro S ⟨I1, J1, rfl, hF1, hk1⟩
        refine w_gR (by omega) k374 r12 ?_
        refine w_sI (by omega) k378 (by omega) (by omega) ?_
        refine w_gR (by omega) k374 r12 ?_
        refine w_sI (by omega) k378 (by omega) (by omega) ?_
        have hB2 : BFq I (up (up I1 377 (Int.toNat 0) (iI 0)) 377 (Int.toNat 1) (iI 0)) J J1 T n m := by
          have hx1 := hF1.x hx
          exact ⟨⟨by rw [up_ne (by omega), up_ne (by omega)]; exact hx1.1, fun i hi => by rw [up_ne (by omega), up_ne (by omega)]; exact hx1.2 i hi⟩, gq_u (gq_u (ft_g hF1) (by omega)) (by omega), by rw [up_ne (by omega), up_ne (by omega), hF1.1 _ _ (by omega)]; exact h18, fun k => hF1.2 _ _ (by omega), fun k => by rw [up_ne (by omega), up_ne (by omega)]; exact hF1.1 _ _ (by omega)⟩
        have hk2 : TkR (up (up I1 377 (Int.toNat 0) (iI 0)) 377 (Int.toNat 1) (iI 0)) J1 T n (tE T n i) := tkr_u (tkr_u hk1 (by omega)) (by omega)
        have hw2 : up (up I1 377 (Int.toNat 0) (iI 0)) 377 (Int.toNat 1) (iI 0) 373 11 = iI w := by
          rw [up_ne (by omega), up_ne (by omega), hF1.1 _ _ (by omega)]
          exact hw
        have z0 : up (up I1 377 (Int.toNat 0) (iI 0)) 377 (Int.toNat 1) (iI 0) 377 0 = iI 0 := rfl
        have z1 : up (up I1 377 (Int.toNat 0) (iI 0)) 377 (Int.toNat 1) (iI 0) 377 1 = iI 0 := rfl
        generalize up (up I1 377 (Int.toNat 0) (iI 0)) 377 (Int.toNat 1) (iI 0) = I2 at *
        refine w_jnP (fun (x : Int32 × St) => ∃ I' J', x.2 = (381, I', J', R) ∧ BFq I I' J J' T n m ∧ STq I' J' T n (ntN T n 4 1 0 (tE T n i) w fun _ => 0) x.1) ?_ ?_
        · rintro ⟨b, S⟩ ⟨I3, J3, h3, hB3, hst3⟩
          have h3 : S = (381, I3, J3, R) := h3
          subst h3
          have hst3 : STq I3 J3 T n (ntN T n 4 1 0 (tE T n i) w fun _ => 0) b := hst3
          refine w_jnP (fun (x : Int32 × St) => ∃ I' J', x.2 = (381, I', J', R) ∧ BFq I I' J J' T n m ∧ STq I' J' T n (lnV T n 4 i w) x.1) ?_ ?_
          · rintro ⟨b, S⟩ ⟨I4, J4, h4, hB4, hst4⟩
            have h4 : S = (381, I4, J4, R) := h4
            subst h4
            have hst4 : STq I4 J4 T n (lnV T n 4 i w) b := hst4
            refine final_Q (b := b) hR hB4 hm (by rcases hst4 with h | h; exact Or.inr h.2.1; exact Or.inl h.2.1) ?_
            intro I5 J5 g1 g2 g3 g4 g5 g6 g7 g8 g9
            refine ⟨I5, J5, rfl, g1, g2, Or.inr ⟨4, hv, by omega, hvb, ?_⟩⟩
            rcases hst4 with ⟨s1, s2, s3, s4, s5, s6⟩ | ⟨s1, s2, s3⟩
            · exact Or.inl ⟨s1, s2, g3 _ s3, g4.2.trans s4, g5, ⟨g6.trans ((wOf_iff (by omega)).2 hvb), g7.trans s5, g8.trans s6⟩, g9⟩
            · exact Or.inr ⟨s1, s2, g4.1.trans s3⟩
          · intro j12 hj12
            rcases hst3 with ⟨s1, rfl, s3⟩ | ⟨s1, rfl, s3⟩
            · refine w_jn ?_
              refine w_neg (show ¬ (iI 1 = iI 0) by decide) ?_
              refine w_jn ?_
              refine w_pos (by decide) ?_
              exact hj12 _ ⟨I3, J3, rfl, hB3, Or.inl ⟨s1, rfl, s3⟩⟩
            · refine w_jn ?_
              refine w_pos rfl ?_
              exact hj12 _ ⟨I3, J3, rfl, hB3, Or.inr ⟨s1, rfl, s3⟩⟩
        · intro j11 hj11
          refine w_jnP (fun x => ∃ I' J', x = (381, I', J', R) ∧ BFq I I' J J' T n m ∧ STq I' J' T n (ntN T n 4 1 0 (tE T n i) w fun _ => 0) (iI 1)) ?_ ?_
          · rintro x ⟨I3, J3, rfl, hB3, hst3⟩
            exact hj11 _ ⟨I3, J3, rfl, hB3, hst3⟩
          intro j39 hj39
          refine w_pos rfl ?_
          refine w_lt ?_
          refine w_jnP (fun x => ∃ I' J', x = (381, I', J', R) ∧ BFq I I' J J' T n m ∧ STq I' J' T n (ntN T n 4 1 0 (tE T n i) w fun _ => 0) (iI 0)) ?_ ?_
          · rintro x ⟨I3, J3, rfl, hB3, hst3⟩
            exact hj11 _ ⟨I3, J3, rfl, hB3, hst3⟩
          intro j41 hj41
          repeat ((first | (with_reducible first | refine w_ltA ?_ | refine w_ltS ?_ | refine w_ltM ?_ | refine w_ltN ?_ | refine w_lt ?_ | refine w_jn ?_ | refine w_ck (by omega) (by assumption) ?_ | refine w_gI (by omega) (by assumption) ?_ | refine w_gR (by omega) (by assumption) (by assumption) ?_ | refine w_al (by omega) (by assumption) (by assumption) ?_ | refine w_pI (by omega) (by assumption) ?_ | refine w_set (by omega) (by assumption) (by omega) (by omega) ?_ | refine w_at (by omega) (by assumption) (by omega) (by omega) ?_ | refine w_sI (by omega) (by assumption) (by omega) (by omega) ?_ | refine w_aI (by omega) (by assumption) (by omega) (by omega) ?_ | refine w_sZ (by omega) (by assumption) (by omega) (by omega) (by decide) ?_ | refine w_pZ (by omega) (by assumption) (by decide) ?_ | refine w_dv (by omega) (by omega) (by omega) (by omega) ?_ | refine w_rm (by omega) (by omega) (by omega) (by omega) ?_) | ((with_reducible refine w_pos ?_ ?_); focus (first | assumption | trivial | exact (ile (by omega) (by omega) (by omega) (by omega)).2 (by omega) | exact (ilt (by omega) (by omega) (by omega) (by omega)).2 (by omega) | exact (ieq (by omega) (by omega) (by omega) (by omega)).2 (by omega))) | ((with_reducible refine w_neg ?_ ?_); focus (first | assumption | exact not_false | trivial | exact mt (ile (by omega) (by omega) (by omega) (by omega)).1 (by omega) | exact mt (ilt (by omega) (by omega) (by omega) (by omega)).1 (by omega) | exact mt (ieq (by omega) (by omega) (by omega) (by omega)).1 (by omega)))); skip)
          refine w_cI (takes_Q (J := J1) (k := 0) (a := 1) (b := 5000) hR hB2.1 ht hk2 hE.2.1 (by omega) hw2 hwb (by omega) (by omega)) ?_
          rintro y S ⟨I3, J3, rfl, hF3, (⟨h2, rfl, hk3, h11, h8⟩ | ⟨h2, rfl, h10⟩)⟩
          · repeat ((first | (with_reducible first | refine w_ltA ?_ | refine w_ltS ?_ | refine w_ltM ?_ | refine w_ltN ?_ | refine w_lt ?_ | refine w_jn ?_ | refine w_ck (by omega) (by assumption) ?_ | refine w_gI (by omega) (by assumption) ?_ | refine w_gR (by omega) (by assumption) (by assumption) ?_ | refine w_al (by omega) (by assumption) (by assumption) ?_ | refine w_pI (by omega) (by assumption) ?_ | refine w_set (by omega) (by assumption) (by omega) (by omega) ?_ | refine w_at (by omega) (by assumption) (by omega) (by omega) ?_ | refine w_sI (by omega) (by assumption) (by omega) (by omega) ?_ | refine w_aI (by omega) (by assumption) (by omega) (by omega) ?_ | refine w_sZ (by omega) (by assumption) (by omega) (by omega) (by decide) ?_ | refine w_pZ (by omega) (by assumption) (by decide) ?_ | refine w_dv (by omega) (by omega) (by omega) (by omega) ?_ | refine w_rm (by omega) (by omega) (by omega) (by omega) ?_) | ((with_reducible refine w_pos ?_ ?_); focus (first | assumption | trivial | exact (ile (by omega) (by omega) (by omega) (by omega)).2 (by omega) | exact (ilt (by omega) (by omega) (by omega) (by omega)).2 (by omega) | exact (ieq (by omega) (by omega) (by omega) (by omega)).2 (by omega))) | ((with_reducible refine w_neg ?_ ?_); focus (first | assumption | exact not_false | trivial | exact mt (ile (by omega) (by omega) (by omega) (by omega)).1 (by omega) | exact mt (ilt (by omega) (by omega) (by omega) (by omega)).1 (by omega) | exact mt (ieq (by omega) (by omega) (by omega) (by omega)).1 (by omega)))); skip)
            have e : (ntN T n 4 1 0 (tE T n i) w fun _ => 0) = (true, tE T n (tE T n i), nmW T n 4 0 (tE T n i) w, fun k => if k = 0 then tN T n (tE T n i) else 0) := if_pos h2
            refine hj39 _ ⟨I3, J3, rfl, bfq_k hB2 hF3, Or.inl ?_⟩
            rw [e]
            exact ⟨rfl, rfl, hk3, h11, h8, (hF3.1 377 1 (by omega) (by omega)).trans z1⟩
          · repeat ((first | (with_reducible first | refine w_ltA ?_ | refine w_ltS ?_ | refine w_ltM ?_ | refine w_ltN ?_ | refine w_lt ?_ | refine w_jn ?_ | refine w_ck (by omega) (by assumption) ?_ | refine w_gI (by omega) (by assumption) ?_ | refine w_gR (by omega) (by assumption) (by assumption) ?_ | refine w_al (by omega) (by assumption) (by assumption) ?_ | refine w_pI (by omega) (by assumption) ?_ | refine w_set (by omega) (by assumption) (by omega) (by omega) ?_ | refine w_at (by omega) (by assumption) (by omega) (by omega) ?_ | refine w_sI (by omega) (by assumption) (by omega) (by omega) ?_ | refine w_aI (by omega) (by assumption) (by omega) (by omega) ?_ | refine w_sZ (by omega) (by assumption) (by omega) (by omega) (by decide) ?_ | refine w_pZ (by omega) (by assumption) (by decide) ?_ | refine w_dv (by omega) (by omega) (by omega) (by omega) ?_ | refine w_rm (by omega) (by omega) (by omega) (by omega) ?_) | ((with_reducible refine w_pos ?_ ?_); focus (first | assumption | trivial | exact (ile (by omega) (by omega) (by omega) (by omega)).2 (by omega) | exact (ilt (by omega) (by omega) (by omega) (by omega)).2 (by omega) | exact (ieq (by omega) (by omega) (by omega) (by omega)).2 (by omega))) | ((with_reducible refine w_neg ?_ ?_); focus (first | assumption | exact not_false | trivial | exact mt (ile (by omega) (by omega) (by omega) (by omega)).1 (by omega) | exact mt (ilt (by omega) (by omega) (by omega) (by omega)).1 (by omega) | exact mt (ieq (by omega) (by omega) (by omega) (by omega)).1 (by omega)))); skip)
            have e : (ntN T n 4 1 0 (tE T n i) w fun _ => 0) = (false, tE T n i, w, fun _ => 0) := if_neg h2
            refine hj41 _ ⟨I3, J3, rfl, bfq_k hB2 hF3, Or.inr ?_⟩
            rw [e]
            exact ⟨rfl, rfl, h10⟩
      · intro j5 hj5
        repeat ((first | (with_reducible first | refine w_ltA ?_ | refine w_ltS ?_ | refine w_ltM ?_ | refine w_ltN ?_ | refine w_lt ?_ | refine w_jn ?_ | refine w_ck (by omega) (by assumption) ?_ | refine w_gI (by omega) (by assumption) ?_ | refine w_gR (by omega) (by assumption) (by assumption) ?_ | refine w_al (by omega) (by assumption) (by assumption) ?_ | refine w_pI (by omega) (by assumption) ?_ | refine w_set (by omega) (by assumption) (by omega) (by omega) ?_ | refine w_at (by omega) (by assumption) (by omega) (by omega) ?_ | refine w_sI (by omega) (by assumption) (by omega) (by omega) ?_ | refine w_aI (by omega) (by assumption) (by omega) (by omega) ?_ | refine w_sZ (by omega) (by assumption) (by omega) (by omega) (by decide) ?_ | refine w_pZ (by omega) (by assumption) (by decide) ?_ | refine w_dv (by omega) (by omega) (by omega) (by omega) ?_ | refine w_rm (by omega) (by omega) (by omega) (by omega) ?_) | ((with_reducible refine w_pos ?_ ?_); focus (first | assumption | trivial | exact (ile (by omega) (by omega) (by omega) (by omega)).2 (by omega) | exact (ilt (by omega) (by omega) (by omega) (by omega)).2 (by omega) | exact (ieq (by omega) (by omega) (by omega) (by omega)).2 (by omega))) | ((with_reducible refine w_neg ?_ ?_); focus (first | assumption | exact not_false | trivial | exact mt (ile (by omega) (by omega) (by omega) (by omega)).1 (by omega) | exact mt (ilt (by omega) (by omega) (by omega) (by omega)).1 (by omega) | exact mt (ieq (by omega) (by omega) (by omega) (by omega)).1 (by omega)))); skip)
        exact hj5 _ trivial
    · intro j4 hj4
      repeat ((first | (with_reducible first | refine w_ltA ?_ | refine w_ltS ?_ | refine w_ltM ?_ | refine w_ltN ?_ | refine w_lt ?_ | refine w_jn ?_ | refine w_ck (by omega) (by assumption) ?_ | refine w_gI (by omega) (by assumption) ?_ | refine w_gR (by omega) (by assumption) (by assumption) ?_ | refine w_al (by omega) (by assumption) (by assumption) ?_ | refine w_pI (by omega) (by assumption) ?_ | refine w_set (by omega) (by assumption) (by omega) (by omega) ?_ | refine w_at (by omega) (by assumption) (by omega) (by omega) ?_ | refine w_sI (by omega) (by assumption) (by omega) (by omega) ?_ | refine w_aI (by omega) (by assumption) (by omega) (by omega) ?_ | refine w_sZ (by omega) (by assumption) (by omega) (by omega) (by decide) ?_ | refine w_pZ (by omega) (by assumption) (by decide) ?_ | refine w_dv (by omega) (by omega) (by omega) (by omega) ?_ | refine w_rm (by omega) (by omega) (by omega) (by omega) ?_) | ((with_reducible refine w_pos ?_ ?_); focus (first | assumption | trivial | exact (ile (by omega) (by omega) (by omega) (by omega)).2 (by omega) | exact (ilt (by omega) (by omega) (by omega) (by omega)).2 (by omega) | exact (ieq (by omega) (by omega) (by omega) (by omega)).2 (by omega))) | ((with_reducible refine w_neg ?_ ?_); focus (first | assumption | exact not_false | trivial | exact mt (ile (by omega) (by omega) (by omega) (by omega)).1 (by omega) | exact mt (ilt (by omega) (by omega) (by omega) (by omega)).1 (by omega) | exact mt (ieq (by omega) (by omega) (by omega) (by omega)).1 (by omega)))); skip)
      exact hj4 _ rfl
  · intro j2 hj2
    repeat ((first | (with_reducible first | refine w_ltA ?_ | refine w_ltS ?_ | refine w_ltM ?_ | refine w_ltN ?_ | refine w_lt ?_ | refine w_jn ?_ | refine w_ck (by omega) (by assumption) ?_ | refine w_gI (by omega) (by assumption) ?_ | refine w_gR (by omega) (by assumption) (by assumption) ?_ | refine w_al (by omega) (by assumption) (by assumption) ?_ | refine w_pI (by omega) (by assumption) ?_ | refine w_set (by omega) (by assumption) (by omega) (by omega) ?_ | refine w_at (by omega) (by assumption) (by omega) (by omega) ?_ | refine w_sI (by omega) (by assumption) (by omega) (by omega) ?_ | refine w_aI (by omega) (by assumption) (by omega) (by omega) ?_ | refine w_sZ (by omega) (by assumption) (by omega) (by omega) (by decide) ?_ | refine w_pZ (by omega) (by assumption) (by decide) ?_ | refine w_dv (by omega) (by omega) (by omega) (by omega) ?_ | refine w_rm (by omega) (by omega) (by omega) (by omega) ?_) | ((with_reducible refine w_pos ?_ ?_); focus (first | assumption | trivial | exact (ile (by omega) (by omega) (by omega) (by omega)).2 (by omega) | exact (ilt (by omega) (by omega) (by omega) (by omega)).2 (by omega) | exact (ieq (by omega) (by omega) (by omega) (by omega)).2 (by omega))) | ((with_reducible refine w_neg ?_ ?_); focus (first | assumption | exact not_false | trivial | exact mt (ile (by omega) (by omega) (by omega) (by omega)).1 (by omega) | exact mt (ilt (by omega) (by omega) (by omega) (by omega)).1 (by omega) | exact mt (ieq (by omega) (by omega) (by omega) (by omega)).1 (by omega)))); skip)
    exact hj2 _ rfl
set_option maxHeartbeats 4000000 in
theorem scriptLine_5 (hR : RQ R) (hx : TXR I T n) (ht : Tok T n) (hk : TkR I J T n i) (hin : i ≤ n) (hw : I 373 11 = iI w) (hwb : -1 ≤ w ∧ w ≤ n) (h18 : I 373 18 = iI (m : Nat)) (hm : m < 90) (hv : vbH T n i 4 10 = (5 : Nat)) (hvb : vB T n i 5 = true) : En (fun y => ∃ I' J', y.2 = (381, I', J', R) ∧ TXR I' T n ∧ GQ I I' ∧ ((vbH T n i 4 10 = -1 ∧ y.1 = iI 0 ∧ I' 373 10 = iI (tS T n i : Nat)) ∨ ∃ v : Nat, vbH T n i 4 10 = v ∧ v < 14 ∧ vB T n i v = true ∧ (((lnV T n v i w).1 = true ∧ y.1 = iI 1 ∧ TkR I' J' T n (lnV T n v i w).2.1 ∧ I' 373 11 = iI (lnV T n v i w).2.2.1 ∧ I' 373 18 = iI ((m + 1 : Nat) : Int) ∧ LNr I' J' m (v, (lnV T n v i w).2.2.2 0, (lnV T n v i w).2.2.2 1) ∧ ∀ k, k < m → J' 378 k = J 378 k ∧ I' 379 (2 * k) = I 379 (2 * k) ∧ I' 379 (2 * k + 1) = I 379 (2 * k + 1)) ∨ ((lnV T n v i w).1 = false ∧ y.1 = iI 0 ∧ I' 373 10 = iI (tS T n (lnV T n v i w).2.1 : Nat))))) (f_X9_scriptLine (381, I, J, R) 373 (wOf T n i)) := by
  have k374 := kd_374
  obtain ⟨k378, l378, k379, l379, k380, l380⟩ := kd_378
  obtain ⟨-, -, -, r12, r16, r17, -⟩ := id hR
  have hE := tE_b (T := T) hin
  have hE2 := tE_b (T := T) hE.2.1
  obtain ⟨q1, q2, q3, q4, q5⟩ := id hk
  have hcv := fun v' h => cmp_v (T := T) (n := n) (i := i) (v := 5) (by omega) hvb v' h
  have c4 : ¬ lg_cmp (wOf T n i) 1953063787 = iI 0 := mt (hcv 4 (by omega)).1 (by omega)
  have c5 : lg_cmp (wOf T n i) 1952541541 = iI 0 := (hcv 5 (by omega)).2 rfl
  have c6 : ¬ lg_cmp (wOf T n i) 7370100 = iI 0 := mt (hcv 6 (by omega)).1 (by omega)
  have c7 : ¬ lg_cmp (wOf T n i) 6647396 = iI 0 := mt (hcv 7 (by omega)).1 (by omega)
  have c8 : ¬ lg_cmp (wOf T n i) 1685221232 = iI 0 := mt (hcv 8 (by omega)).1 (by omega)
  have c9 : ¬ lg_cmp (wOf T n i) 1937203568 = iI 0 := mt (hcv 9 (by omega)).1 (by omega)
  have c10 : ¬ lg_cmp (wOf T n i) 439956431717 = iI 0 := mt (hcv 10 (by omega)).1 (by omega)
  have c11 : ¬ lg_cmp (wOf T n i) 1919246692 = iI 0 := mt (hcv 11 (by omega)).1 (by omega)
  have c12 : ¬ lg_cmp (wOf T n i) 1835103083 = iI 0 := mt (hcv 12 (by omega)).1 (by omega)
  have c13 : ¬ lg_cmp (wOf T n i) 125780053555813 = iI 0 := mt (hcv 13 (by omega)).1 (by omega)
  rw [u_X9_scriptLine]
  refine w_lt ?_
  refine w_jnP (fun x => x = iI 0) ?_ ?_
  · rintro x rfl
    refine w_lt ?_
    refine w_jnP (fun x => x = iI 1) ?_ ?_
    · rintro x rfl
      refine w_jnP (fun _ => True) ?_ ?_
      · intro _ _
        refine w_ck (by omega) k374 ?_
        refine w_cV (token_Q (J := J) (i := tE T n i) hR hx ht q1 hE.2.1) ?_
        rintro S ⟨I1, J1, rfl, hF1, hk1⟩
        refine w_gR (by omega) k374 r12 ?_
        refine w_sI (by omega) k378 (by omega) (by omega) ?_
        refine w_gR (by omega) k374 r12 ?_
        refine w_sI (by omega) k378 (by omega) (by omega) ?_
        have hB2 : BFq I (up (up I1 377 (Int.toNat 0) (iI 0)) 377 (Int.toNat 1) (iI 0)) J J1 T n m := by
          have hx1 := hF1.x hx
          exact ⟨⟨by rw [up_ne (by omega), up_ne (by omega)]; exact hx1.1, fun i hi => by rw [up_ne (by omega), up_ne (by omega)]; exact hx1.2 i hi⟩, gq_u (gq_u (ft_g hF1) (by omega)) (by omega), by rw [up_ne (by omega), up_ne (by omega), hF1.1 _ _ (by omega)]; exact h18, fun k => hF1.2 _ _ (by omega), fun k => by rw [up_ne (by omega), up_ne (by omega)]; exact hF1.1 _ _ (by omega)⟩
        have hk2 : TkR (up (up I1 377 (Int.toNat 0) (iI 0)) 377 (Int.toNat 1) (iI 0)) J1 T n (tE T n i) := tkr_u (tkr_u hk1 (by omega)) (by omega)
        have hw2 : up (up I1 377 (Int.toNat 0) (iI 0)) 377 (Int.toNat 1) (iI 0) 373 11 = iI w := by
          rw [up_ne (by omega), up_ne (by omega), hF1.1 _ _ (by omega)]
          exact hw
        have z0 : up (up I1 377 (Int.toNat 0) (iI 0)) 377 (Int.toNat 1) (iI 0) 377 0 = iI 0 := rfl
        have z1 : up (up I1 377 (Int.toNat 0) (iI 0)) 377 (Int.toNat 1) (iI 0) 377 1 = iI 0 := rfl
        generalize up (up I1 377 (Int.toNat 0) (iI 0)) 377 (Int.toNat 1) (iI 0) = I2 at *
        refine w_jnP (fun (x : Int32 × St) => ∃ I' J', x.2 = (381, I', J', R) ∧ BFq I I' J J' T n m ∧ STq I' J' T n (ntN T n 5 1 0 (tE T n i) w fun _ => 0) x.1) ?_ ?_
        · rintro ⟨b, S⟩ ⟨I3, J3, h3, hB3, hst3⟩
          have h3 : S = (381, I3, J3, R) := h3
          subst h3
          have hst3 : STq I3 J3 T n (ntN T n 5 1 0 (tE T n i) w fun _ => 0) b := hst3
          refine w_jnP (fun (x : Int32 × St) => ∃ I' J', x.2 = (381, I', J', R) ∧ BFq I I' J J' T n m ∧ STq I' J' T n (lnV T n 5 i w) x.1) ?_ ?_
          · rintro ⟨b, S⟩ ⟨I4, J4, h4, hB4, hst4⟩
            have h4 : S = (381, I4, J4, R) := h4
            subst h4
            have hst4 : STq I4 J4 T n (lnV T n 5 i w) b := hst4
            refine final_Q (b := b) hR hB4 hm (by rcases hst4 with h | h; exact Or.inr h.2.1; exact Or.inl h.2.1) ?_
            intro I5 J5 g1 g2 g3 g4 g5 g6 g7 g8 g9
            refine ⟨I5, J5, rfl, g1, g2, Or.inr ⟨5, hv, by omega, hvb, ?_⟩⟩
            rcases hst4 with ⟨s1, s2, s3, s4, s5, s6⟩ | ⟨s1, s2, s3⟩
            · exact Or.inl ⟨s1, s2, g3 _ s3, g4.2.trans s4, g5, ⟨g6.trans ((wOf_iff (by omega)).2 hvb), g7.trans s5, g8.trans s6⟩, g9⟩
            · exact Or.inr ⟨s1, s2, g4.1.trans s3⟩
          · intro j12 hj12
            by_cases hK : tK T n (tE T n i) = 2
            · have e : (ntN T n 5 1 0 (tE T n i) w fun _ => 0) = (true, tE T n (tE T n i), nmW T n 5 0 (tE T n i) w, fun k => if k = 0 then tN T n (tE T n i) else 0) := if_pos hK
              rw [e] at hst3
              rcases hst3 with ⟨-, rfl, s3, s4, s5, s6⟩ | ⟨s1, -⟩
              · have hw4 : -1 ≤ nmW T n 5 0 (tE T n i) w ∧ nmW T n 5 0 (tE T n i) w ≤ n := by
                  have := tS_b (T := T) hE.2.1
                  unfold nmW
                  split
                  · split <;> omega
                  · omega
                have ee : lnV T n 5 i w = ntN T n 5 1 1 (tE T n (tE T n i)) (nmW T n 5 0 (tE T n i) w) (fun k => if k = 0 then tN T n (tE T n i) else 0) := if_pos hK
                refine w_jn ?_
                refine w_neg (show ¬ (iI 1 = iI 0) by decide) ?_
                refine w_jn ?_
                refine w_neg (show ¬ (iI 1 = iI 0) by decide) ?_
                repeat ((first | (with_reducible first | refine w_ltA ?_ | refine w_ltS ?_ | refine w_ltM ?_ | refine w_ltN ?_ | refine w_lt ?_ | refine w_jn ?_ | refine w_ck (by omega) (by assumption) ?_ | refine w_gI (by omega) (by assumption) ?_ | refine w_gR (by omega) (by assumption) (by assumption) ?_ | refine w_al (by omega) (by assumption) (by assumption) ?_ | refine w_pI (by omega) (by assumption) ?_ | refine w_set (by omega) (by assumption) (by omega) (by omega) ?_ | refine w_at (by omega) (by assumption) (by omega) (by omega) ?_ | refine w_sI (by omega) (by assumption) (by omega) (by omega) ?_ | refine w_aI (by omega) (by assumption) (by omega) (by omega) ?_ | refine w_sZ (by omega) (by assumption) (by omega) (by omega) (by decide) ?_ | refine w_pZ (by omega) (by assumption) (by decide) ?_ | refine w_dv (by omega) (by omega) (by omega) (by omega) ?_ | refine w_rm (by omega) (by omega) (by omega) (by omega) ?_) | ((with_reducible refine w_pos ?_ ?_); focus (first | assumption | trivial | exact (ile (by omega) (by omega) (by omega) (by omega)).2 (by omega) | exact (ilt (by omega) (by omega) (by omega) (by omega)).2 (by omega) | exact (ieq (by omega) (by omega) (by omega) (by omega)).2 (by omega))) | ((with_reducible refine w_neg ?_ ?_); focus (first | assumption | exact not_false | trivial | exact mt (ile (by omega) (by omega) (by omega) (by omega)).1 (by omega) | exact mt (ilt (by omega) (by omega) (by omega) (by omega)).1 (by omega) | exact mt (ieq (by omega) (by omega) (by omega) (by omega)).1 (by omega)))); skip)
                refine w_cI (takes_Q (J := J3) (k := 1) (a := 1) (b := 8) hR hB3.1 ht s3 hE2.2.1 (by omega) s4 hw4 (by omega) (by omega)) ?_
                rintro y S ⟨I4, J4, rfl, hF4, (⟨h2, rfl, hk4, h11, h8⟩ | ⟨h2, rfl, h10⟩)⟩
                · repeat ((first | (with_reducible first | refine w_ltA ?_ | refine w_ltS ?_ | refine w_ltM ?_ | refine w_ltN ?_ | refine w_lt ?_ | refine w_jn ?_ | refine w_ck (by omega) (by assumption) ?_ | refine w_gI (by omega) (by assumption) ?_ | refine w_gR (by omega) (by assumption) (by assumption) ?_ | refine w_al (by omega) (by assumption) (by assumption) ?_ | refine w_pI (by omega) (by assumption) ?_ | refine w_set (by omega) (by assumption) (by omega) (by omega) ?_ | refine w_at (by omega) (by assumption) (by omega) (by omega) ?_ | refine w_sI (by omega) (by assumption) (by omega) (by omega) ?_ | refine w_aI (by omega) (by assumption) (by omega) (by omega) ?_ | refine w_sZ (by omega) (by assumption) (by omega) (by omega) (by decide) ?_ | refine w_pZ (by omega) (by assumption) (by decide) ?_ | refine w_dv (by omega) (by omega) (by omega) (by omega) ?_ | refine w_rm (by omega) (by omega) (by omega) (by omega) ?_) | ((with_reducible refine w_pos ?_ ?_); focus (first | assumption | trivial | exact (ile (by omega) (by omega) (by omega) (by omega)).2 (by omega) | exact (ilt (by omega) (by omega) (by omega) (by omega)).2 (by omega) | exact (ieq (by omega) (by omega) (by omega) (by omega)).2 (by omega))) | ((with_reducible refine w_neg ?_ ?_); focus (first | assumption | exact not_false | trivial | exact mt (ile (by omega) (by omega) (by omega) (by omega)).1 (by omega) | exact mt (ilt (by omega) (by omega) (by omega) (by omega)).1 (by omega) | exact mt (ieq (by omega) (by omega) (by omega) (by omega)).1 (by omega)))); skip)
                  have e3 : lnV T n 5 i w = (true, tE T n (tE T n (tE T n i)), nmW T n 5 1 (tE T n (tE T n i)) (nmW T n 5 0 (tE T n i) w), fun k => if k = 1 then tN T n (tE T n (tE T n i)) else (fun k => if k = 0 then tN T n (tE T n i) else 0) k) := by
                    rw [ee]
                    exact if_pos h2
                  refine hj12 _ ⟨I4, J4, rfl, bfq_k hB3 hF4, Or.inl ?_⟩
                  rw [e3]
                  exact ⟨rfl, rfl, hk4, h11, (hF4.1 377 0 (by omega) (by omega)).trans s5, h8⟩
                · repeat ((first | (with_reducible first | refine w_ltA ?_ | refine w_ltS ?_ | refine w_ltM ?_ | refine w_ltN ?_ | refine w_lt ?_ | refine w_jn ?_ | refine w_ck (by omega) (by assumption) ?_ | refine w_gI (by omega) (by assumption) ?_ | refine w_gR (by omega) (by assumption) (by assumption) ?_ | refine w_al (by omega) (by assumption) (by assumption) ?_ | refine w_pI (by omega) (by assumption) ?_ | refine w_set (by omega) (by assumption) (by omega) (by omega) ?_ | refine w_at (by omega) (by assumption) (by omega) (by omega) ?_ | refine w_sI (by omega) (by assumption) (by omega) (by omega) ?_ | refine w_aI (by omega) (by assumption) (by omega) (by omega) ?_ | refine w_sZ (by omega) (by assumption) (by omega) (by omega) (by decide) ?_ | refine w_pZ (by omega) (by assumption) (by decide) ?_ | refine w_dv (by omega) (by omega) (by omega) (by omega) ?_ | refine w_rm (by omega) (by omega) (by omega) (by omega) ?_) | ((with_reducible refine w_pos ?_ ?_); focus (first | assumption | trivial | exact (ile (by omega) (by omega) (by omega) (by omega)).2 (by omega) | exact (ilt (by omega) (by omega) (by omega) (by omega)).2 (by omega) | exact (ieq (by omega) (by omega) (by omega) (by omega)).2 (by omega))) | ((with_reducible refine w_neg ?_ ?_); focus (first | assumption | exact not_false | trivial | exact mt (ile (by omega) (by omega) (by omega) (by omega)).1 (by omega) | exact mt (ilt (by omega) (by omega) (by omega) (by omega)).1 (by omega) | exact mt (ieq (by omega) (by omega) (by omega) (by omega)).1 (by omega)))); skip)
                  have e3 : lnV T n 5 i w = (false, tE T n (tE T n i), nmW T n 5 0 (tE T n i) w, fun k => if k = 0 then tN T n (tE T n i) else 0) := by
                    rw [ee]
                    exact if_neg h2
                  refine hj12 _ ⟨I4, J4, rfl, bfq_k hB3 hF4, Or.inr ?_⟩
                  rw [e3]
                  exact ⟨rfl, rfl, h10⟩
              · cases s1
            · have e : (ntN T n 5 1 0 (tE T n i) w fun _ => 0) = (false, tE T n i, w, fun _ => 0) := if_neg hK
              have e3 : lnV T n 5 i w = (false, tE T n i, w, fun _ => 0) := if_neg hK
              rw [e] at hst3
              rcases hst3 with ⟨s1, -⟩ | ⟨-, rfl, s3⟩
              · cases s1
              · refine w_jn ?_
                refine w_pos rfl ?_
                refine hj12 _ ⟨I3, J3, rfl, hB3, Or.inr ?_⟩
                rw [e3]
                exact ⟨rfl, rfl, s3⟩
        · intro j11 hj11
          refine w_jnP (fun x => ∃ I' J', x = (381, I', J', R) ∧ BFq I I' J J' T n m ∧ STq I' J' T n (ntN T n 5 1 0 (tE T n i) w fun _ => 0) (iI 1)) ?_ ?_
          · rintro x ⟨I3, J3, rfl, hB3, hst3⟩
            exact hj11 _ ⟨I3, J3, rfl, hB3, hst3⟩
          intro j39 hj39
          refine w_pos rfl ?_
          refine w_lt ?_
          refine w_jnP (fun x => ∃ I' J', x = (381, I', J', R) ∧ BFq I I' J J' T n m ∧ STq I' J' T n (ntN T n 5 1 0 (tE T n i) w fun _ => 0) (iI 0)) ?_ ?_
          · rintro x ⟨I3, J3, rfl, hB3, hst3⟩
            exact hj11 _ ⟨I3, J3, rfl, hB3, hst3⟩
          intro j41 hj41
          repeat ((first | (with_reducible first | refine w_ltA ?_ | refine w_ltS ?_ | refine w_ltM ?_ | refine w_ltN ?_ | refine w_lt ?_ | refine w_jn ?_ | refine w_ck (by omega) (by assumption) ?_ | refine w_gI (by omega) (by assumption) ?_ | refine w_gR (by omega) (by assumption) (by assumption) ?_ | refine w_al (by omega) (by assumption) (by assumption) ?_ | refine w_pI (by omega) (by assumption) ?_ | refine w_set (by omega) (by assumption) (by omega) (by omega) ?_ | refine w_at (by omega) (by assumption) (by omega) (by omega) ?_ | refine w_sI (by omega) (by assumption) (by omega) (by omega) ?_ | refine w_aI (by omega) (by assumption) (by omega) (by omega) ?_ | refine w_sZ (by omega) (by assumption) (by omega) (by omega) (by decide) ?_ | refine w_pZ (by omega) (by assumption) (by decide) ?_ | refine w_dv (by omega) (by omega) (by omega) (by omega) ?_ | refine w_rm (by omega) (by omega) (by omega) (by omega) ?_) | ((with_reducible refine w_pos ?_ ?_); focus (first | assumption | trivial | exact (ile (by omega) (by omega) (by omega) (by omega)).2 (by omega) | exact (ilt (by omega) (by omega) (by omega) (by omega)).2 (by omega) | exact (ieq (by omega) (by omega) (by omega) (by omega)).2 (by omega))) | ((with_reducible refine w_neg ?_ ?_); focus (first | assumption | exact not_false | trivial | exact mt (ile (by omega) (by omega) (by omega) (by omega)).1 (by omega) | exact mt (ilt (by omega) (by omega) (by omega) (by omega)).1 (by omega) | exact mt (ieq (by omega) (by omega) (by omega) (by omega)).1 (by omega)))); skip)
          refine w_cI (takes_Q (J := J1) (k := 0) (a := 0) (b := 3) hR hB2.1 ht hk2 hE.2.1 (by omega) hw2 hwb (by omega) (by omega)) ?_
          rintro y S ⟨I3, J3, rfl, hF3, (⟨h2, rfl, hk3, h11, h8⟩ | ⟨h2, rfl, h10⟩)⟩
          · repeat ((first | (with_reducible first | refine w_ltA ?_ | refine w_ltS ?_ | refine w_ltM ?_ | refine w_ltN ?_ | refine w_lt ?_ | refine w_jn ?_ | refine w_ck (by omega) (by assumption) ?_ | refine w_gI (by omega) (by assumption) ?_ | refine w_gR (by omega) (by assumption) (by assumption) ?_ | refine w_al (by omega) (by assumption) (by assumption) ?_ | refine w_pI (by omega) (by assumption) ?_ | refine w_set (by omega) (by assumption) (by omega) (by omega) ?_ | refine w_at (by omega) (by assumption) (by omega) (by omega) ?_ | refine w_sI (by omega) (by assumption) (by omega) (by omega) ?_ | refine w_aI (by omega) (by assumption) (by omega) (by omega) ?_ | refine w_sZ (by omega) (by assumption) (by omega) (by omega) (by decide) ?_ | refine w_pZ (by omega) (by assumption) (by decide) ?_ | refine w_dv (by omega) (by omega) (by omega) (by omega) ?_ | refine w_rm (by omega) (by omega) (by omega) (by omega) ?_) | ((with_reducible refine w_pos ?_ ?_); focus (first | assumption | trivial | exact (ile (by omega) (by omega) (by omega) (by omega)).2 (by omega) | exact (ilt (by omega) (by omega) (by omega) (by omega)).2 (by omega) | exact (ieq (by omega) (by omega) (by omega) (by omega)).2 (by omega))) | ((with_reducible refine w_neg ?_ ?_); focus (first | assumption | exact not_false | trivial | exact mt (ile (by omega) (by omega) (by omega) (by omega)).1 (by omega) | exact mt (ilt (by omega) (by omega) (by omega) (by omega)).1 (by omega) | exact mt (ieq (by omega) (by omega) (by omega) (by omega)).1 (by omega)))); skip)
            have e : (ntN T n 5 1 0 (tE T n i) w fun _ => 0) = (true, tE T n (tE T n i), nmW T n 5 0 (tE T n i) w, fun k => if k = 0 then tN T n (tE T n i) else 0) := if_pos h2
            refine hj39 _ ⟨I3, J3, rfl, bfq_k hB2 hF3, Or.inl ?_⟩
            rw [e]
            exact ⟨rfl, rfl, hk3, h11, h8, (hF3.1 377 1 (by omega) (by omega)).trans z1⟩
          · repeat ((first | (with_reducible first | refine w_ltA ?_ | refine w_ltS ?_ | refine w_ltM ?_ | refine w_ltN ?_ | refine w_lt ?_ | refine w_jn ?_ | refine w_ck (by omega) (by assumption) ?_ | refine w_gI (by omega) (by assumption) ?_ | refine w_gR (by omega) (by assumption) (by assumption) ?_ | refine w_al (by omega) (by assumption) (by assumption) ?_ | refine w_pI (by omega) (by assumption) ?_ | refine w_set (by omega) (by assumption) (by omega) (by omega) ?_ | refine w_at (by omega) (by assumption) (by omega) (by omega) ?_ | refine w_sI (by omega) (by assumption) (by omega) (by omega) ?_ | refine w_aI (by omega) (by assumption) (by omega) (by omega) ?_ | refine w_sZ (by omega) (by assumption) (by omega) (by omega) (by decide) ?_ | refine w_pZ (by omega) (by assumption) (by decide) ?_ | refine w_dv (by omega) (by omega) (by omega) (by omega) ?_ | refine w_rm (by omega) (by omega) (by omega) (by omega) ?_) | ((with_reducible refine w_pos ?_ ?_); focus (first | assumption | trivial | exact (ile (by omega) (by omega) (by omega) (by omega)).2 (by omega) | exact (ilt (by omega) (by omega) (by omega) (by omega)).2 (by omega) | exact (ieq (by omega) (by omega) (by omega) (by omega)).2 (by omega))) | ((with_reducible refine w_neg ?_ ?_); focus (first | assumption | exact not_false | trivial | exact mt (ile (by omega) (by omega) (by omega) (by omega)).1 (by omega) | exact mt (ilt (by omega) (by omega) (by omega) (by omega)).1 (by omega) | exact mt (ieq (by omega) (by omega) (by omega) (by omega)).1 (by omega)))); skip)
            have e : (ntN T n 5 1 0 (tE T n i) w fun _ => 0) = (false, tE T n i, w, fun _ => 0) := if_neg h2
            refine hj41 _ ⟨I3, J3, rfl, bfq_k hB2 hF3, Or.inr ?_⟩
            rw [e]
            exact ⟨rfl, rfl, h10⟩
      · intro j5 hj5
        repeat ((first | (with_reducible first | refine w_ltA ?_ | refine w_ltS ?_ | refine w_ltM ?_ | refine w_ltN ?_ | refine w_lt ?_ | refine w_jn ?_ | refine w_ck (by omega) (by assumption) ?_ | refine w_gI (by omega) (by assumption) ?_ | refine w_gR (by omega) (by assumption) (by assumption) ?_ | refine w_al (by omega) (by assumption) (by assumption) ?_ | refine w_pI (by omega) (by assumption) ?_ | refine w_set (by omega) (by assumption) (by omega) (by omega) ?_ | refine w_at (by omega) (by assumption) (by omega) (by omega) ?_ | refine w_sI (by omega) (by assumption) (by omega) (by omega) ?_ | refine w_aI (by omega) (by assumption) (by omega) (by omega) ?_ | refine w_sZ (by omega) (by assumption) (by omega) (by omega) (by decide) ?_ | refine w_pZ (by omega) (by assumption) (by decide) ?_ | refine w_dv (by omega) (by omega) (by omega) (by omega) ?_ | refine w_rm (by omega) (by omega) (by omega) (by omega) ?_) | ((with_reducible refine w_pos ?_ ?_); focus (first | assumption | trivial | exact (ile (by omega) (by omega) (by omega) (by omega)).2 (by omega) | exact (ilt (by omega) (by omega) (by omega) (by omega)).2 (by omega) | exact (ieq (by omega) (by omega) (by omega) (by omega)).2 (by omega))) | ((with_reducible refine w_neg ?_ ?_); focus (first | assumption | exact not_false | trivial | exact mt (ile (by omega) (by omega) (by omega) (by omega)).1 (by omega) | exact mt (ilt (by omega) (by omega) (by omega) (by omega)).1 (by omega) | exact mt (ieq (by omega) (by omega) (by omega) (by omega)).1 (by omega)))); skip)
        exact hj5 _ trivial
    · intro j4 hj4
      repeat ((first | (with_reducible first | refine w_ltA ?_ | refine w_ltS ?_ | refine w_ltM ?_ | refine w_ltN ?_ | refine w_lt ?_ | refine w_jn ?_ | refine w_ck (by omega) (by assumption) ?_ | refine w_gI (by omega) (by assumption) ?_ | refine w_gR (by omega) (by assumption) (by assumption) ?_ | refine w_al (by omega) (by assumption) (by assumption) ?_ | refine w_pI (by omega) (by assumption) ?_ | refine w_set (by omega) (by assumption) (by omega) (by omega) ?_ | refine w_at (by omega) (by assumption) (by omega) (by omega) ?_ | refine w_sI (by omega) (by assumption) (by omega) (by omega) ?_ | refine w_aI (by omega) (by assumption) (by omega) (by omega) ?_ | refine w_sZ (by omega) (by assumption) (by omega) (by omega) (by decide) ?_ | refine w_pZ (by omega) (by assumption) (by decide) ?_ | refine w_dv (by omega) (by omega) (by omega) (by omega) ?_ | refine w_rm (by omega) (by omega) (by omega) (by omega) ?_) | ((with_reducible refine w_pos ?_ ?_); focus (first | assumption | trivial | exact (ile (by omega) (by omega) (by omega) (by omega)).2 (by omega) | exact (ilt (by omega) (by omega) (by omega) (by omega)).2 (by omega) | exact (ieq (by omega) (by omega) (by omega) (by omega)).2 (by omega))) | ((with_reducible refine w_neg ?_ ?_); focus (first | assumption | exact not_false | trivial | exact mt (ile (by omega) (by omega) (by omega) (by omega)).1 (by omega) | exact mt (ilt (by omega) (by omega) (by omega) (by omega)).1 (by omega) | exact mt (ieq (by omega) (by omega) (by omega) (by omega)).1 (by omega)))); skip)
      exact hj4 _ rfl
  · intro j2 hj2
    repeat ((first | (with_reducible first | refine w_ltA ?_ | refine w_ltS ?_ | refine w_ltM ?_ | refine w_ltN ?_ | refine w_lt ?_ | refine w_jn ?_ | refine w_ck (by omega) (by assumption) ?_ | refine w_gI (by omega) (by assumption) ?_ | refine w_gR (by omega) (by assumption) (by assumption) ?_ | refine w_al (by omega) (by assumption) (by assumption) ?_ | refine w_pI (by omega) (by assumption) ?_ | refine w_set (by omega) (by assumption) (by omega) (by omega) ?_ | refine w_at (by omega) (by assumption) (by omega) (by omega) ?_ | refine w_sI (by omega) (by assumption) (by omega) (by omega) ?_ | refine w_aI (by omega) (by assumption) (by omega) (by omega) ?_ | refine w_sZ (by omega) (by assumption) (by omega) (by omega) (by decide) ?_ | refine w_pZ (by omega) (by assumption) (by decide) ?_ | refine w_dv (by omega) (by omega) (by omega) (by omega) ?_ | refine w_rm (by omega) (by omega) (by omega) (by omega) ?_) | ((with_reducible refine w_pos ?_ ?_); focus (first | assumption | trivial | exact (ile (by omega) (by omega) (by omega) (by omega)).2 (by omega) | exact (ilt (by omega) (by omega) (by omega) (by omega)).2 (by omega) | exact (ieq (by omega) (by omega) (by omega) (by omega)).2 (by omega))) | ((with_reducible refine w_neg ?_ ?_); focus (first | assumption | exact not_false | trivial | exact mt (ile (by omega) (by omega) (by omega) (by omega)).1 (by omega) | exact mt (ilt (by omega) (by omega) (by omega) (by omega)).1 (by omega) | exact mt (ieq (by omega) (by omega) (by omega) (by omega)).1 (by omega)))); skip)
    exact hj2 _ rfl
set_option maxHeartbeats 4000000 in
theorem scriptLine_6 (hR : RQ R) (hx : TXR I T n) (ht : Tok T n) (hk : TkR I J T n i) (hin : i ≤ n) (hw : I 373 11 = iI w) (hwb : -1 ≤ w ∧ w ≤ n) (h18 : I 373 18 = iI (m : Nat)) (hm : m < 90) (hv : vbH T n i 4 10 = (6 : Nat)) (hvb : vB T n i 6 = true) : En (fun y => ∃ I' J', y.2 = (381, I', J', R) ∧ TXR I' T n ∧ GQ I I' ∧ ((vbH T n i 4 10 = -1 ∧ y.1 = iI 0 ∧ I' 373 10 = iI (tS T n i : Nat)) ∨ ∃ v : Nat, vbH T n i 4 10 = v ∧ v < 14 ∧ vB T n i v = true ∧ (((lnV T n v i w).1 = true ∧ y.1 = iI 1 ∧ TkR I' J' T n (lnV T n v i w).2.1 ∧ I' 373 11 = iI (lnV T n v i w).2.2.1 ∧ I' 373 18 = iI ((m + 1 : Nat) : Int) ∧ LNr I' J' m (v, (lnV T n v i w).2.2.2 0, (lnV T n v i w).2.2.2 1) ∧ ∀ k, k < m → J' 378 k = J 378 k ∧ I' 379 (2 * k) = I 379 (2 * k) ∧ I' 379 (2 * k + 1) = I 379 (2 * k + 1)) ∨ ((lnV T n v i w).1 = false ∧ y.1 = iI 0 ∧ I' 373 10 = iI (tS T n (lnV T n v i w).2.1 : Nat))))) (f_X9_scriptLine (381, I, J, R) 373 (wOf T n i)) := by
  have k374 := kd_374
  obtain ⟨k378, l378, k379, l379, k380, l380⟩ := kd_378
  obtain ⟨-, -, -, r12, r16, r17, -⟩ := id hR
  have hE := tE_b (T := T) hin
  have hE2 := tE_b (T := T) hE.2.1
  obtain ⟨q1, q2, q3, q4, q5⟩ := id hk
  have hcv := fun v' h => cmp_v (T := T) (n := n) (i := i) (v := 6) (by omega) hvb v' h
  have c4 : ¬ lg_cmp (wOf T n i) 1953063787 = iI 0 := mt (hcv 4 (by omega)).1 (by omega)
  have c5 : ¬ lg_cmp (wOf T n i) 1952541541 = iI 0 := mt (hcv 5 (by omega)).1 (by omega)
  have c6 : lg_cmp (wOf T n i) 7370100 = iI 0 := (hcv 6 (by omega)).2 rfl
  have c7 : ¬ lg_cmp (wOf T n i) 6647396 = iI 0 := mt (hcv 7 (by omega)).1 (by omega)
  have c8 : ¬ lg_cmp (wOf T n i) 1685221232 = iI 0 := mt (hcv 8 (by omega)).1 (by omega)
  have c9 : ¬ lg_cmp (wOf T n i) 1937203568 = iI 0 := mt (hcv 9 (by omega)).1 (by omega)
  have c10 : ¬ lg_cmp (wOf T n i) 439956431717 = iI 0 := mt (hcv 10 (by omega)).1 (by omega)
  have c11 : ¬ lg_cmp (wOf T n i) 1919246692 = iI 0 := mt (hcv 11 (by omega)).1 (by omega)
  have c12 : ¬ lg_cmp (wOf T n i) 1835103083 = iI 0 := mt (hcv 12 (by omega)).1 (by omega)
  have c13 : ¬ lg_cmp (wOf T n i) 125780053555813 = iI 0 := mt (hcv 13 (by omega)).1 (by omega)
  rw [u_X9_scriptLine]
  refine w_lt ?_
  refine w_jnP (fun x => x = iI 0) ?_ ?_
  · rintro x rfl
    refine w_lt ?_
    refine w_jnP (fun x => x = iI 1) ?_ ?_
    · rintro x rfl
      refine w_jnP (fun _ => True) ?_ ?_
      · intro _ _
        refine w_ck (by omega) k374 ?_
        refine w_cV (token_Q (J := J) (i := tE T n i) hR hx ht q1 hE.2.1) ?_
        rintro S ⟨I1, J1, rfl, hF1, hk1⟩
        refine w_gR (by omega) k374 r12 ?_
        refine w_sI (by omega) k378 (by omega) (by omega) ?_
        refine w_gR (by omega) k374 r12 ?_
        refine w_sI (by omega) k378 (by omega) (by omega) ?_
        have hB2 : BFq I (up (up I1 377 (Int.toNat 0) (iI 0)) 377 (Int.toNat 1) (iI 0)) J J1 T n m := by
          have hx1 := hF1.x hx
          exact ⟨⟨by rw [up_ne (by omega), up_ne (by omega)]; exact hx1.1, fun i hi => by rw [up_ne (by omega), up_ne (by omega)]; exact hx1.2 i hi⟩, gq_u (gq_u (ft_g hF1) (by omega)) (by omega), by rw [up_ne (by omega), up_ne (by omega), hF1.1 _ _ (by omega)]; exact h18, fun k => hF1.2 _ _ (by omega), fun k => by rw [up_ne (by omega), up_ne (by omega)]; exact hF1.1 _ _ (by omega)⟩
        have hk2 : TkR (up (up I1 377 (Int.toNat 0) (iI 0)) 377 (Int.toNat 1) (iI 0)) J1 T n (tE T n i) := tkr_u (tkr_u hk1 (by omega)) (by omega)
        have hw2 : up (up I1 377 (Int.toNat 0) (iI 0)) 377 (Int.toNat 1) (iI 0) 373 11 = iI w := by
          rw [up_ne (by omega), up_ne (by omega), hF1.1 _ _ (by omega)]
          exact hw
        have z0 : up (up I1 377 (Int.toNat 0) (iI 0)) 377 (Int.toNat 1) (iI 0) 377 0 = iI 0 := rfl
        have z1 : up (up I1 377 (Int.toNat 0) (iI 0)) 377 (Int.toNat 1) (iI 0) 377 1 = iI 0 := rfl
        generalize up (up I1 377 (Int.toNat 0) (iI 0)) 377 (Int.toNat 1) (iI 0) = I2 at *
        refine w_jnP (fun (x : Int32 × St) => ∃ I' J', x.2 = (381, I', J', R) ∧ BFq I I' J J' T n m ∧ STq I' J' T n (ntN T n 6 1 0 (tE T n i) w fun _ => 0) x.1) ?_ ?_
        · rintro ⟨b, S⟩ ⟨I3, J3, h3, hB3, hst3⟩
          have h3 : S = (381, I3, J3, R) := h3
          subst h3
          have hst3 : STq I3 J3 T n (ntN T n 6 1 0 (tE T n i) w fun _ => 0) b := hst3
          refine w_jnP (fun (x : Int32 × St) => ∃ I' J', x.2 = (381, I', J', R) ∧ BFq I I' J J' T n m ∧ STq I' J' T n (lnV T n 6 i w) x.1) ?_ ?_
          · rintro ⟨b, S⟩ ⟨I4, J4, h4, hB4, hst4⟩
            have h4 : S = (381, I4, J4, R) := h4
            subst h4
            have hst4 : STq I4 J4 T n (lnV T n 6 i w) b := hst4
            refine final_Q (b := b) hR hB4 hm (by rcases hst4 with h | h; exact Or.inr h.2.1; exact Or.inl h.2.1) ?_
            intro I5 J5 g1 g2 g3 g4 g5 g6 g7 g8 g9
            refine ⟨I5, J5, rfl, g1, g2, Or.inr ⟨6, hv, by omega, hvb, ?_⟩⟩
            rcases hst4 with ⟨s1, s2, s3, s4, s5, s6⟩ | ⟨s1, s2, s3⟩
            · exact Or.inl ⟨s1, s2, g3 _ s3, g4.2.trans s4, g5, ⟨g6.trans ((wOf_iff (by omega)).2 hvb), g7.trans s5, g8.trans s6⟩, g9⟩
            · exact Or.inr ⟨s1, s2, g4.1.trans s3⟩
          · intro j12 hj12
            by_cases hK : tK T n (tE T n i) = 2
            · have e : (ntN T n 6 1 0 (tE T n i) w fun _ => 0) = (true, tE T n (tE T n i), nmW T n 6 0 (tE T n i) w, fun k => if k = 0 then tN T n (tE T n i) else 0) := if_pos hK
              rw [e] at hst3
              rcases hst3 with ⟨-, rfl, s3, s4, s5, s6⟩ | ⟨s1, -⟩
              · have hw4 : -1 ≤ nmW T n 6 0 (tE T n i) w ∧ nmW T n 6 0 (tE T n i) w ≤ n := by
                  have := tS_b (T := T) hE.2.1
                  unfold nmW
                  split
                  · split <;> omega
                  · omega
                have ee : lnV T n 6 i w = ntN T n 6 1 1 (tE T n (tE T n i)) (nmW T n 6 0 (tE T n i) w) (fun k => if k = 0 then tN T n (tE T n i) else 0) := if_pos hK
                refine w_jn ?_
                refine w_neg (show ¬ (iI 1 = iI 0) by decide) ?_
                refine w_jn ?_
                refine w_neg (show ¬ (iI 1 = iI 0) by decide) ?_
                repeat ((first | (with_reducible first | refine w_ltA ?_ | refine w_ltS ?_ | refine w_ltM ?_ | refine w_ltN ?_ | refine w_lt ?_ | refine w_jn ?_ | refine w_ck (by omega) (by assumption) ?_ | refine w_gI (by omega) (by assumption) ?_ | refine w_gR (by omega) (by assumption) (by assumption) ?_ | refine w_al (by omega) (by assumption) (by assumption) ?_ | refine w_pI (by omega) (by assumption) ?_ | refine w_set (by omega) (by assumption) (by omega) (by omega) ?_ | refine w_at (by omega) (by assumption) (by omega) (by omega) ?_ | refine w_sI (by omega) (by assumption) (by omega) (by omega) ?_ | refine w_aI (by omega) (by assumption) (by omega) (by omega) ?_ | refine w_sZ (by omega) (by assumption) (by omega) (by omega) (by decide) ?_ | refine w_pZ (by omega) (by assumption) (by decide) ?_ | refine w_dv (by omega) (by omega) (by omega) (by omega) ?_ | refine w_rm (by omega) (by omega) (by omega) (by omega) ?_) | ((with_reducible refine w_pos ?_ ?_); focus (first | assumption | trivial | exact (ile (by omega) (by omega) (by omega) (by omega)).2 (by omega) | exact (ilt (by omega) (by omega) (by omega) (by omega)).2 (by omega) | exact (ieq (by omega) (by omega) (by omega) (by omega)).2 (by omega))) | ((with_reducible refine w_neg ?_ ?_); focus (first | assumption | exact not_false | trivial | exact mt (ile (by omega) (by omega) (by omega) (by omega)).1 (by omega) | exact mt (ilt (by omega) (by omega) (by omega) (by omega)).1 (by omega) | exact mt (ieq (by omega) (by omega) (by omega) (by omega)).1 (by omega)))); skip)
                refine w_cI (takes_Q (J := J3) (k := 1) (a := 0) (b := 255) hR hB3.1 ht s3 hE2.2.1 (by omega) s4 hw4 (by omega) (by omega)) ?_
                rintro y S ⟨I4, J4, rfl, hF4, (⟨h2, rfl, hk4, h11, h8⟩ | ⟨h2, rfl, h10⟩)⟩
                · repeat ((first | (with_reducible first | refine w_ltA ?_ | refine w_ltS ?_ | refine w_ltM ?_ | refine w_ltN ?_ | refine w_lt ?_ | refine w_jn ?_ | refine w_ck (by omega) (by assumption) ?_ | refine w_gI (by omega) (by assumption) ?_ | refine w_gR (by omega) (by assumption) (by assumption) ?_ | refine w_al (by omega) (by assumption) (by assumption) ?_ | refine w_pI (by omega) (by assumption) ?_ | refine w_set (by omega) (by assumption) (by omega) (by omega) ?_ | refine w_at (by omega) (by assumption) (by omega) (by omega) ?_ | refine w_sI (by omega) (by assumption) (by omega) (by omega) ?_ | refine w_aI (by omega) (by assumption) (by omega) (by omega) ?_ | refine w_sZ (by omega) (by assumption) (by omega) (by omega) (by decide) ?_ | refine w_pZ (by omega) (by assumption) (by decide) ?_ | refine w_dv (by omega) (by omega) (by omega) (by omega) ?_ | refine w_rm (by omega) (by omega) (by omega) (by omega) ?_) | ((with_reducible refine w_pos ?_ ?_); focus (first | assumption | trivial | exact (ile (by omega) (by omega) (by omega) (by omega)).2 (by omega) | exact (ilt (by omega) (by omega) (by omega) (by omega)).2 (by omega) | exact (ieq (by omega) (by omega) (by omega) (by omega)).2 (by omega))) | ((with_reducible refine w_neg ?_ ?_); focus (first | assumption | exact not_false | trivial | exact mt (ile (by omega) (by omega) (by omega) (by omega)).1 (by omega) | exact mt (ilt (by omega) (by omega) (by omega) (by omega)).1 (by omega) | exact mt (ieq (by omega) (by omega) (by omega) (by omega)).1 (by omega)))); skip)
                  have e3 : lnV T n 6 i w = (true, tE T n (tE T n (tE T n i)), nmW T n 6 1 (tE T n (tE T n i)) (nmW T n 6 0 (tE T n i) w), fun k => if k = 1 then tN T n (tE T n (tE T n i)) else (fun k => if k = 0 then tN T n (tE T n i) else 0) k) := by
                    rw [ee]
                    exact if_pos h2
                  refine hj12 _ ⟨I4, J4, rfl, bfq_k hB3 hF4, Or.inl ?_⟩
                  rw [e3]
                  exact ⟨rfl, rfl, hk4, h11, (hF4.1 377 0 (by omega) (by omega)).trans s5, h8⟩
                · repeat ((first | (with_reducible first | refine w_ltA ?_ | refine w_ltS ?_ | refine w_ltM ?_ | refine w_ltN ?_ | refine w_lt ?_ | refine w_jn ?_ | refine w_ck (by omega) (by assumption) ?_ | refine w_gI (by omega) (by assumption) ?_ | refine w_gR (by omega) (by assumption) (by assumption) ?_ | refine w_al (by omega) (by assumption) (by assumption) ?_ | refine w_pI (by omega) (by assumption) ?_ | refine w_set (by omega) (by assumption) (by omega) (by omega) ?_ | refine w_at (by omega) (by assumption) (by omega) (by omega) ?_ | refine w_sI (by omega) (by assumption) (by omega) (by omega) ?_ | refine w_aI (by omega) (by assumption) (by omega) (by omega) ?_ | refine w_sZ (by omega) (by assumption) (by omega) (by omega) (by decide) ?_ | refine w_pZ (by omega) (by assumption) (by decide) ?_ | refine w_dv (by omega) (by omega) (by omega) (by omega) ?_ | refine w_rm (by omega) (by omega) (by omega) (by omega) ?_) | ((with_reducible refine w_pos ?_ ?_); focus (first | assumption | trivial | exact (ile (by omega) (by omega) (by omega) (by omega)).2 (by omega) | exact (ilt (by omega) (by omega) (by omega) (by omega)).2 (by omega) | exact (ieq (by omega) (by omega) (by omega) (by omega)).2 (by omega))) | ((with_reducible refine w_neg ?_ ?_); focus (first | assumption | exact not_false | trivial | exact mt (ile (by omega) (by omega) (by omega) (by omega)).1 (by omega) | exact mt (ilt (by omega) (by omega) (by omega) (by omega)).1 (by omega) | exact mt (ieq (by omega) (by omega) (by omega) (by omega)).1 (by omega)))); skip)
                  have e3 : lnV T n 6 i w = (false, tE T n (tE T n i), nmW T n 6 0 (tE T n i) w, fun k => if k = 0 then tN T n (tE T n i) else 0) := by
                    rw [ee]
                    exact if_neg h2
                  refine hj12 _ ⟨I4, J4, rfl, bfq_k hB3 hF4, Or.inr ?_⟩
                  rw [e3]
                  exact ⟨rfl, rfl, h10⟩
              · cases s1
            · have e : (ntN T n 6 1 0 (tE T n i) w fun _ => 0) = (false, tE T n i, w, fun _ => 0) := if_neg hK
              have e3 : lnV T n 6 i w = (false, tE T n i, w, fun _ => 0) := if_neg hK
              rw [e] at hst3
              rcases hst3 with ⟨s1, -⟩ | ⟨-, rfl, s3⟩
              · cases s1
              · refine w_jn ?_
                refine w_pos rfl ?_
                refine hj12 _ ⟨I3, J3, rfl, hB3, Or.inr ?_⟩
                rw [e3]
                exact ⟨rfl, rfl, s3⟩
        · intro j11 hj11
          refine w_jnP (fun x => ∃ I' J', x = (381, I', J', R) ∧ BFq I I' J J' T n m ∧ STq I' J' T n (ntN T n 6 1 0 (tE T n i) w fun _ => 0) (iI 1)) ?_ ?_
          · rintro x ⟨I3, J3, rfl, hB3, hst3⟩
            exact hj11 _ ⟨I3, J3, rfl, hB3, hst3⟩
          intro j39 hj39
          refine w_pos rfl ?_
          refine w_lt ?_
          refine w_jnP (fun x => ∃ I' J', x = (381, I', J', R) ∧ BFq I I' J J' T n m ∧ STq I' J' T n (ntN T n 6 1 0 (tE T n i) w fun _ => 0) (iI 0)) ?_ ?_
          · rintro x ⟨I3, J3, rfl, hB3, hst3⟩
            exact hj11 _ ⟨I3, J3, rfl, hB3, hst3⟩
          intro j41 hj41
          repeat ((first | (with_reducible first | refine w_ltA ?_ | refine w_ltS ?_ | refine w_ltM ?_ | refine w_ltN ?_ | refine w_lt ?_ | refine w_jn ?_ | refine w_ck (by omega) (by assumption) ?_ | refine w_gI (by omega) (by assumption) ?_ | refine w_gR (by omega) (by assumption) (by assumption) ?_ | refine w_al (by omega) (by assumption) (by assumption) ?_ | refine w_pI (by omega) (by assumption) ?_ | refine w_set (by omega) (by assumption) (by omega) (by omega) ?_ | refine w_at (by omega) (by assumption) (by omega) (by omega) ?_ | refine w_sI (by omega) (by assumption) (by omega) (by omega) ?_ | refine w_aI (by omega) (by assumption) (by omega) (by omega) ?_ | refine w_sZ (by omega) (by assumption) (by omega) (by omega) (by decide) ?_ | refine w_pZ (by omega) (by assumption) (by decide) ?_ | refine w_dv (by omega) (by omega) (by omega) (by omega) ?_ | refine w_rm (by omega) (by omega) (by omega) (by omega) ?_) | ((with_reducible refine w_pos ?_ ?_); focus (first | assumption | trivial | exact (ile (by omega) (by omega) (by omega) (by omega)).2 (by omega) | exact (ilt (by omega) (by omega) (by omega) (by omega)).2 (by omega) | exact (ieq (by omega) (by omega) (by omega) (by omega)).2 (by omega))) | ((with_reducible refine w_neg ?_ ?_); focus (first | assumption | exact not_false | trivial | exact mt (ile (by omega) (by omega) (by omega) (by omega)).1 (by omega) | exact mt (ilt (by omega) (by omega) (by omega) (by omega)).1 (by omega) | exact mt (ieq (by omega) (by omega) (by omega) (by omega)).1 (by omega)))); skip)
          refine w_cI (takes_Q (J := J1) (k := 0) (a := 0) (b := 3) hR hB2.1 ht hk2 hE.2.1 (by omega) hw2 hwb (by omega) (by omega)) ?_
          rintro y S ⟨I3, J3, rfl, hF3, (⟨h2, rfl, hk3, h11, h8⟩ | ⟨h2, rfl, h10⟩)⟩
          · repeat ((first | (with_reducible first | refine w_ltA ?_ | refine w_ltS ?_ | refine w_ltM ?_ | refine w_ltN ?_ | refine w_lt ?_ | refine w_jn ?_ | refine w_ck (by omega) (by assumption) ?_ | refine w_gI (by omega) (by assumption) ?_ | refine w_gR (by omega) (by assumption) (by assumption) ?_ | refine w_al (by omega) (by assumption) (by assumption) ?_ | refine w_pI (by omega) (by assumption) ?_ | refine w_set (by omega) (by assumption) (by omega) (by omega) ?_ | refine w_at (by omega) (by assumption) (by omega) (by omega) ?_ | refine w_sI (by omega) (by assumption) (by omega) (by omega) ?_ | refine w_aI (by omega) (by assumption) (by omega) (by omega) ?_ | refine w_sZ (by omega) (by assumption) (by omega) (by omega) (by decide) ?_ | refine w_pZ (by omega) (by assumption) (by decide) ?_ | refine w_dv (by omega) (by omega) (by omega) (by omega) ?_ | refine w_rm (by omega) (by omega) (by omega) (by omega) ?_) | ((with_reducible refine w_pos ?_ ?_); focus (first | assumption | trivial | exact (ile (by omega) (by omega) (by omega) (by omega)).2 (by omega) | exact (ilt (by omega) (by omega) (by omega) (by omega)).2 (by omega) | exact (ieq (by omega) (by omega) (by omega) (by omega)).2 (by omega))) | ((with_reducible refine w_neg ?_ ?_); focus (first | assumption | exact not_false | trivial | exact mt (ile (by omega) (by omega) (by omega) (by omega)).1 (by omega) | exact mt (ilt (by omega) (by omega) (by omega) (by omega)).1 (by omega) | exact mt (ieq (by omega) (by omega) (by omega) (by omega)).1 (by omega)))); skip)
            have e : (ntN T n 6 1 0 (tE T n i) w fun _ => 0) = (true, tE T n (tE T n i), nmW T n 6 0 (tE T n i) w, fun k => if k = 0 then tN T n (tE T n i) else 0) := if_pos h2
            refine hj39 _ ⟨I3, J3, rfl, bfq_k hB2 hF3, Or.inl ?_⟩
            rw [e]
            exact ⟨rfl, rfl, hk3, h11, h8, (hF3.1 377 1 (by omega) (by omega)).trans z1⟩
          · repeat ((first | (with_reducible first | refine w_ltA ?_ | refine w_ltS ?_ | refine w_ltM ?_ | refine w_ltN ?_ | refine w_lt ?_ | refine w_jn ?_ | refine w_ck (by omega) (by assumption) ?_ | refine w_gI (by omega) (by assumption) ?_ | refine w_gR (by omega) (by assumption) (by assumption) ?_ | refine w_al (by omega) (by assumption) (by assumption) ?_ | refine w_pI (by omega) (by assumption) ?_ | refine w_set (by omega) (by assumption) (by omega) (by omega) ?_ | refine w_at (by omega) (by assumption) (by omega) (by omega) ?_ | refine w_sI (by omega) (by assumption) (by omega) (by omega) ?_ | refine w_aI (by omega) (by assumption) (by omega) (by omega) ?_ | refine w_sZ (by omega) (by assumption) (by omega) (by omega) (by decide) ?_ | refine w_pZ (by omega) (by assumption) (by decide) ?_ | refine w_dv (by omega) (by omega) (by omega) (by omega) ?_ | refine w_rm (by omega) (by omega) (by omega) (by omega) ?_) | ((with_reducible refine w_pos ?_ ?_); focus (first | assumption | trivial | exact (ile (by omega) (by omega) (by omega) (by omega)).2 (by omega) | exact (ilt (by omega) (by omega) (by omega) (by omega)).2 (by omega) | exact (ieq (by omega) (by omega) (by omega) (by omega)).2 (by omega))) | ((with_reducible refine w_neg ?_ ?_); focus (first | assumption | exact not_false | trivial | exact mt (ile (by omega) (by omega) (by omega) (by omega)).1 (by omega) | exact mt (ilt (by omega) (by omega) (by omega) (by omega)).1 (by omega) | exact mt (ieq (by omega) (by omega) (by omega) (by omega)).1 (by omega)))); skip)
            have e : (ntN T n 6 1 0 (tE T n i) w fun _ => 0) = (false, tE T n i, w, fun _ => 0) := if_neg h2
            refine hj41 _ ⟨I3, J3, rfl, bfq_k hB2 hF3, Or.inr ?_⟩
            rw [e]
            exact ⟨rfl, rfl, h10⟩
      · intro j5 hj5
        repeat ((first | (with_reducible first | refine w_ltA ?_ | refine w_ltS ?_ | refine w_ltM ?_ | refine w_ltN ?_ | refine w_lt ?_ | refine w_jn ?_ | refine w_ck (by omega) (by assumption) ?_ | refine w_gI (by omega) (by assumption) ?_ | refine w_gR (by omega) (by assumption) (by assumption) ?_ | refine w_al (by omega) (by assumption) (by assumption) ?_ | refine w_pI (by omega) (by assumption) ?_ | refine w_set (by omega) (by assumption) (by omega) (by omega) ?_ | refine w_at (by omega) (by assumption) (by omega) (by omega) ?_ | refine w_sI (by omega) (by assumption) (by omega) (by omega) ?_ | refine w_aI (by omega) (by assumption) (by omega) (by omega) ?_ | refine w_sZ (by omega) (by assumption) (by omega) (by omega) (by decide) ?_ | refine w_pZ (by omega) (by assumption) (by decide) ?_ | refine w_dv (by omega) (by omega) (by omega) (by omega) ?_ | refine w_rm (by omega) (by omega) (by omega) (by omega) ?_) | ((with_reducible refine w_pos ?_ ?_); focus (first | assumption | trivial | exact (ile (by omega) (by omega) (by omega) (by omega)).2 (by omega) | exact (ilt (by omega) (by omega) (by omega) (by omega)).2 (by omega) | exact (ieq (by omega) (by omega) (by omega) (by omega)).2 (by omega))) | ((with_reducible refine w_neg ?_ ?_); focus (first | assumption | exact not_false | trivial | exact mt (ile (by omega) (by omega) (by omega) (by omega)).1 (by omega) | exact mt (ilt (by omega) (by omega) (by omega) (by omega)).1 (by omega) | exact mt (ieq (by omega) (by omega) (by omega) (by omega)).1 (by omega)))); skip)
        exact hj5 _ trivial
    · intro j4 hj4
      repeat ((first | (with_reducible first | refine w_ltA ?_ | refine w_ltS ?_ | refine w_ltM ?_ | refine w_ltN ?_ | refine w_lt ?_ | refine w_jn ?_ | refine w_ck (by omega) (by assumption) ?_ | refine w_gI (by omega) (by assumption) ?_ | refine w_gR (by omega) (by assumption) (by assumption) ?_ | refine w_al (by omega) (by assumption) (by assumption) ?_ | refine w_pI (by omega) (by assumption) ?_ | refine w_set (by omega) (by assumption) (by omega) (by omega) ?_ | refine w_at (by omega) (by assumption) (by omega) (by omega) ?_ | refine w_sI (by omega) (by assumption) (by omega) (by omega) ?_ | refine w_aI (by omega) (by assumption) (by omega) (by omega) ?_ | refine w_sZ (by omega) (by assumption) (by omega) (by omega) (by decide) ?_ | refine w_pZ (by omega) (by assumption) (by decide) ?_ | refine w_dv (by omega) (by omega) (by omega) (by omega) ?_ | refine w_rm (by omega) (by omega) (by omega) (by omega) ?_) | ((with_reducible refine w_pos ?_ ?_); focus (first | assumption | trivial | exact (ile (by omega) (by omega) (by omega) (by omega)).2 (by omega) | exact (ilt (by omega) (by omega) (by omega) (by omega)).2 (by omega) | exact (ieq (by omega) (by omega) (by omega) (by omega)).2 (by omega))) | ((with_reducible refine w_neg ?_ ?_); focus (first | assumption | exact not_false | trivial | exact mt (ile (by omega) (by omega) (by omega) (by omega)).1 (by omega) | exact mt (ilt (by omega) (by omega) (by omega) (by omega)).1 (by omega) | exact mt (ieq (by omega) (by omega) (by omega) (by omega)).1 (by omega)))); skip)
      exact hj4 _ rfl
  · intro j2 hj2
    repeat ((first | (with_reducible first | refine w_ltA ?_ | refine w_ltS ?_ | refine w_ltM ?_ | refine w_ltN ?_ | refine w_lt ?_ | refine w_jn ?_ | refine w_ck (by omega) (by assumption) ?_ | refine w_gI (by omega) (by assumption) ?_ | refine w_gR (by omega) (by assumption) (by assumption) ?_ | refine w_al (by omega) (by assumption) (by assumption) ?_ | refine w_pI (by omega) (by assumption) ?_ | refine w_set (by omega) (by assumption) (by omega) (by omega) ?_ | refine w_at (by omega) (by assumption) (by omega) (by omega) ?_ | refine w_sI (by omega) (by assumption) (by omega) (by omega) ?_ | refine w_aI (by omega) (by assumption) (by omega) (by omega) ?_ | refine w_sZ (by omega) (by assumption) (by omega) (by omega) (by decide) ?_ | refine w_pZ (by omega) (by assumption) (by decide) ?_ | refine w_dv (by omega) (by omega) (by omega) (by omega) ?_ | refine w_rm (by omega) (by omega) (by omega) (by omega) ?_) | ((with_reducible refine w_pos ?_ ?_); focus (first | assumption | trivial | exact (ile (by omega) (by omega) (by omega) (by omega)).2 (by omega) | exact (ilt (by omega) (by omega) (by omega) (by omega)).2 (by omega) | exact (ieq (by omega) (by omega) (by omega) (by omega)).2 (by omega))) | ((with_reducible refine w_neg ?_ ?_); focus (first | assumption | exact not_false | trivial | exact mt (ile (by omega) (by omega) (by omega) (by omega)).1 (by omega) | exact mt (ilt (by omega) (by omega) (by omega) (by omega)).1 (by omega) | exact mt (ieq (by omega) (by omega) (by omega) (by omega)).1 (by omega)))); skip)
    exact hj2 _ rfl
set_option maxHeartbeats 4000000 in
theorem scriptLine_7 (hR : RQ R) (hx : TXR I T n) (ht : Tok T n) (hk : TkR I J T n i) (hin : i ≤ n) (hw : I 373 11 = iI w) (hwb : -1 ≤ w ∧ w ≤ n) (h18 : I 373 18 = iI (m : Nat)) (hm : m < 90) (hv : vbH T n i 4 10 = (7 : Nat)) (hvb : vB T n i 7 = true) : En (fun y => ∃ I' J', y.2 = (381, I', J', R) ∧ TXR I' T n ∧ GQ I I' ∧ ((vbH T n i 4 10 = -1 ∧ y.1 = iI 0 ∧ I' 373 10 = iI (tS T n i : Nat)) ∨ ∃ v : Nat, vbH T n i 4 10 = v ∧ v < 14 ∧ vB T n i v = true ∧ (((lnV T n v i w).1 = true ∧ y.1 = iI 1 ∧ TkR I' J' T n (lnV T n v i w).2.1 ∧ I' 373 11 = iI (lnV T n v i w).2.2.1 ∧ I' 373 18 = iI ((m + 1 : Nat) : Int) ∧ LNr I' J' m (v, (lnV T n v i w).2.2.2 0, (lnV T n v i w).2.2.2 1) ∧ ∀ k, k < m → J' 378 k = J 378 k ∧ I' 379 (2 * k) = I 379 (2 * k) ∧ I' 379 (2 * k + 1) = I 379 (2 * k + 1)) ∨ ((lnV T n v i w).1 = false ∧ y.1 = iI 0 ∧ I' 373 10 = iI (tS T n (lnV T n v i w).2.1 : Nat))))) (f_X9_scriptLine (381, I, J, R) 373 (wOf T n i)) := by
  have k374 := kd_374
  obtain ⟨k378, l378, k379, l379, k380, l380⟩ := kd_378
  obtain ⟨-, -, -, r12, r16, r17, -⟩ := id hR
  have hE := tE_b (T := T) hin
  have hE2 := tE_b (T := T) hE.2.1
  obtain ⟨q1, q2, q3, q4, q5⟩ := id hk
  have hcv := fun v' h => cmp_v (T := T) (n := n) (i := i) (v := 7) (by omega) hvb v' h
  have c4 : ¬ lg_cmp (wOf T n i) 1953063787 = iI 0 := mt (hcv 4 (by omega)).1 (by omega)
  have c5 : ¬ lg_cmp (wOf T n i) 1952541541 = iI 0 := mt (hcv 5 (by omega)).1 (by omega)
  have c6 : ¬ lg_cmp (wOf T n i) 7370100 = iI 0 := mt (hcv 6 (by omega)).1 (by omega)
  have c7 : lg_cmp (wOf T n i) 6647396 = iI 0 := (hcv 7 (by omega)).2 rfl
  have c8 : ¬ lg_cmp (wOf T n i) 1685221232 = iI 0 := mt (hcv 8 (by omega)).1 (by omega)
  have c9 : ¬ lg_cmp (wOf T n i) 1937203568 = iI 0 := mt (hcv 9 (by omega)).1 (by omega)
  have c10 : ¬ lg_cmp (wOf T n i) 439956431717 = iI 0 := mt (hcv 10 (by omega)).1 (by omega)
  have c11 : ¬ lg_cmp (wOf T n i) 1919246692 = iI 0 := mt (hcv 11 (by omega)).1 (by omega)
  have c12 : ¬ lg_cmp (wOf T n i) 1835103083 = iI 0 := mt (hcv 12 (by omega)).1 (by omega)
  have c13 : ¬ lg_cmp (wOf T n i) 125780053555813 = iI 0 := mt (hcv 13 (by omega)).1 (by omega)
  rw [u_X9_scriptLine]
  refine w_lt ?_
  refine w_jnP (fun x => x = iI 0) ?_ ?_
  · rintro x rfl
    refine w_lt ?_
    refine w_jnP (fun x => x = iI 0) ?_ ?_
    · rintro x rfl
      refine w_jnP (fun _ => True) ?_ ?_
      · intro _ _
        refine w_ck (by omega) k374 ?_
        refine w_cV (token_Q (J := J) (i := tE T n i) hR hx ht q1 hE.2.1) ?_
        rintro S ⟨I1, J1, rfl, hF1, hk1⟩
        refine w_gR (by omega) k374 r12 ?_
        refine w_sI (by omega) k378 (by omega) (by omega) ?_
        refine w_gR (by omega) k374 r12 ?_
        refine w_sI (by omega) k378 (by omega) (by omega) ?_
        have hB2 : BFq I (up (up I1 377 (Int.toNat 0) (iI 0)) 377 (Int.toNat 1) (iI 0)) J J1 T n m := by
          have hx1 := hF1.x hx
          exact ⟨⟨by rw [up_ne (by omega), up_ne (by omega)]; exact hx1.1, fun i hi => by rw [up_ne (by omega), up_ne (by omega)]; exact hx1.2 i hi⟩, gq_u (gq_u (ft_g hF1) (by omega)) (by omega), by rw [up_ne (by omega), up_ne (by omega), hF1.1 _ _ (by omega)]; exact h18, fun k => hF1.2 _ _ (by omega), fun k => by rw [up_ne (by omega), up_ne (by omega)]; exact hF1.1 _ _ (by omega)⟩
        have hk2 : TkR (up (up I1 377 (Int.toNat 0) (iI 0)) 377 (Int.toNat 1) (iI 0)) J1 T n (tE T n i) := tkr_u (tkr_u hk1 (by omega)) (by omega)
        have hw2 : up (up I1 377 (Int.toNat 0) (iI 0)) 377 (Int.toNat 1) (iI 0) 373 11 = iI w := by
          rw [up_ne (by omega), up_ne (by omega), hF1.1 _ _ (by omega)]
          exact hw
        have z0 : up (up I1 377 (Int.toNat 0) (iI 0)) 377 (Int.toNat 1) (iI 0) 377 0 = iI 0 := rfl
        have z1 : up (up I1 377 (Int.toNat 0) (iI 0)) 377 (Int.toNat 1) (iI 0) 377 1 = iI 0 := rfl
        generalize up (up I1 377 (Int.toNat 0) (iI 0)) 377 (Int.toNat 1) (iI 0) = I2 at *
        refine w_jnP (fun (x : Int32 × St) => ∃ I' J', x.2 = (381, I', J', R) ∧ BFq I I' J J' T n m ∧ STq I' J' T n (ntN T n 7 1 0 (tE T n i) w fun _ => 0) x.1) ?_ ?_
        · rintro ⟨b, S⟩ ⟨I3, J3, h3, hB3, hst3⟩
          have h3 : S = (381, I3, J3, R) := h3
          subst h3
          have hst3 : STq I3 J3 T n (ntN T n 7 1 0 (tE T n i) w fun _ => 0) b := hst3
          refine w_jnP (fun (x : Int32 × St) => ∃ I' J', x.2 = (381, I', J', R) ∧ BFq I I' J J' T n m ∧ STq I' J' T n (lnV T n 7 i w) x.1) ?_ ?_
          · rintro ⟨b, S⟩ ⟨I4, J4, h4, hB4, hst4⟩
            have h4 : S = (381, I4, J4, R) := h4
            subst h4
            have hst4 : STq I4 J4 T n (lnV T n 7 i w) b := hst4
            refine final_Q (b := b) hR hB4 hm (by rcases hst4 with h | h; exact Or.inr h.2.1; exact Or.inl h.2.1) ?_
            intro I5 J5 g1 g2 g3 g4 g5 g6 g7 g8 g9
            refine ⟨I5, J5, rfl, g1, g2, Or.inr ⟨7, hv, by omega, hvb, ?_⟩⟩
            rcases hst4 with ⟨s1, s2, s3, s4, s5, s6⟩ | ⟨s1, s2, s3⟩
            · exact Or.inl ⟨s1, s2, g3 _ s3, g4.2.trans s4, g5, ⟨g6.trans ((wOf_iff (by omega)).2 hvb), g7.trans s5, g8.trans s6⟩, g9⟩
            · exact Or.inr ⟨s1, s2, g4.1.trans s3⟩
          · intro j12 hj12
            rcases hst3 with ⟨s1, rfl, s3⟩ | ⟨s1, rfl, s3⟩
            · refine w_jn ?_
              refine w_neg (show ¬ (iI 1 = iI 0) by decide) ?_
              refine w_jn ?_
              refine w_pos (by decide) ?_
              exact hj12 _ ⟨I3, J3, rfl, hB3, Or.inl ⟨s1, rfl, s3⟩⟩
            · refine w_jn ?_
              refine w_pos rfl ?_
              exact hj12 _ ⟨I3, J3, rfl, hB3, Or.inr ⟨s1, rfl, s3⟩⟩
        · intro j11 hj11
          refine w_jnP (fun x => ∃ I' J', x = (381, I', J', R) ∧ BFq I I' J J' T n m ∧ STq I' J' T n (ntN T n 7 1 0 (tE T n i) w fun _ => 0) (iI 1)) ?_ ?_
          · rintro x ⟨I3, J3, rfl, hB3, hst3⟩
            exact hj11 _ ⟨I3, J3, rfl, hB3, hst3⟩
          intro j39 hj39
          refine w_pos rfl ?_
          refine w_lt ?_
          refine w_jnP (fun x => ∃ I' J', x = (381, I', J', R) ∧ BFq I I' J J' T n m ∧ STq I' J' T n (ntN T n 7 1 0 (tE T n i) w fun _ => 0) (iI 0)) ?_ ?_
          · rintro x ⟨I3, J3, rfl, hB3, hst3⟩
            exact hj11 _ ⟨I3, J3, rfl, hB3, hst3⟩
          intro j41 hj41
          repeat ((first | (with_reducible first | refine w_ltA ?_ | refine w_ltS ?_ | refine w_ltM ?_ | refine w_ltN ?_ | refine w_lt ?_ | refine w_jn ?_ | refine w_ck (by omega) (by assumption) ?_ | refine w_gI (by omega) (by assumption) ?_ | refine w_gR (by omega) (by assumption) (by assumption) ?_ | refine w_al (by omega) (by assumption) (by assumption) ?_ | refine w_pI (by omega) (by assumption) ?_ | refine w_set (by omega) (by assumption) (by omega) (by omega) ?_ | refine w_at (by omega) (by assumption) (by omega) (by omega) ?_ | refine w_sI (by omega) (by assumption) (by omega) (by omega) ?_ | refine w_aI (by omega) (by assumption) (by omega) (by omega) ?_ | refine w_sZ (by omega) (by assumption) (by omega) (by omega) (by decide) ?_ | refine w_pZ (by omega) (by assumption) (by decide) ?_ | refine w_dv (by omega) (by omega) (by omega) (by omega) ?_ | refine w_rm (by omega) (by omega) (by omega) (by omega) ?_) | ((with_reducible refine w_pos ?_ ?_); focus (first | assumption | trivial | exact (ile (by omega) (by omega) (by omega) (by omega)).2 (by omega) | exact (ilt (by omega) (by omega) (by omega) (by omega)).2 (by omega) | exact (ieq (by omega) (by omega) (by omega) (by omega)).2 (by omega))) | ((with_reducible refine w_neg ?_ ?_); focus (first | assumption | exact not_false | trivial | exact mt (ile (by omega) (by omega) (by omega) (by omega)).1 (by omega) | exact mt (ilt (by omega) (by omega) (by omega) (by omega)).1 (by omega) | exact mt (ieq (by omega) (by omega) (by omega) (by omega)).1 (by omega)))); skip)
          refine w_cI (takes_Q (J := J1) (k := 0) (a := 0) (b := 3) hR hB2.1 ht hk2 hE.2.1 (by omega) hw2 hwb (by omega) (by omega)) ?_
          rintro y S ⟨I3, J3, rfl, hF3, (⟨h2, rfl, hk3, h11, h8⟩ | ⟨h2, rfl, h10⟩)⟩
          · repeat ((first | (with_reducible first | refine w_ltA ?_ | refine w_ltS ?_ | refine w_ltM ?_ | refine w_ltN ?_ | refine w_lt ?_ | refine w_jn ?_ | refine w_ck (by omega) (by assumption) ?_ | refine w_gI (by omega) (by assumption) ?_ | refine w_gR (by omega) (by assumption) (by assumption) ?_ | refine w_al (by omega) (by assumption) (by assumption) ?_ | refine w_pI (by omega) (by assumption) ?_ | refine w_set (by omega) (by assumption) (by omega) (by omega) ?_ | refine w_at (by omega) (by assumption) (by omega) (by omega) ?_ | refine w_sI (by omega) (by assumption) (by omega) (by omega) ?_ | refine w_aI (by omega) (by assumption) (by omega) (by omega) ?_ | refine w_sZ (by omega) (by assumption) (by omega) (by omega) (by decide) ?_ | refine w_pZ (by omega) (by assumption) (by decide) ?_ | refine w_dv (by omega) (by omega) (by omega) (by omega) ?_ | refine w_rm (by omega) (by omega) (by omega) (by omega) ?_) | ((with_reducible refine w_pos ?_ ?_); focus (first | assumption | trivial | exact (ile (by omega) (by omega) (by omega) (by omega)).2 (by omega) | exact (ilt (by omega) (by omega) (by omega) (by omega)).2 (by omega) | exact (ieq (by omega) (by omega) (by omega) (by omega)).2 (by omega))) | ((with_reducible refine w_neg ?_ ?_); focus (first | assumption | exact not_false | trivial | exact mt (ile (by omega) (by omega) (by omega) (by omega)).1 (by omega) | exact mt (ilt (by omega) (by omega) (by omega) (by omega)).1 (by omega) | exact mt (ieq (by omega) (by omega) (by omega) (by omega)).1 (by omega)))); skip)
            have e : (ntN T n 7 1 0 (tE T n i) w fun _ => 0) = (true, tE T n (tE T n i), nmW T n 7 0 (tE T n i) w, fun k => if k = 0 then tN T n (tE T n i) else 0) := if_pos h2
            refine hj39 _ ⟨I3, J3, rfl, bfq_k hB2 hF3, Or.inl ?_⟩
            rw [e]
            exact ⟨rfl, rfl, hk3, h11, h8, (hF3.1 377 1 (by omega) (by omega)).trans z1⟩
          · repeat ((first | (with_reducible first | refine w_ltA ?_ | refine w_ltS ?_ | refine w_ltM ?_ | refine w_ltN ?_ | refine w_lt ?_ | refine w_jn ?_ | refine w_ck (by omega) (by assumption) ?_ | refine w_gI (by omega) (by assumption) ?_ | refine w_gR (by omega) (by assumption) (by assumption) ?_ | refine w_al (by omega) (by assumption) (by assumption) ?_ | refine w_pI (by omega) (by assumption) ?_ | refine w_set (by omega) (by assumption) (by omega) (by omega) ?_ | refine w_at (by omega) (by assumption) (by omega) (by omega) ?_ | refine w_sI (by omega) (by assumption) (by omega) (by omega) ?_ | refine w_aI (by omega) (by assumption) (by omega) (by omega) ?_ | refine w_sZ (by omega) (by assumption) (by omega) (by omega) (by decide) ?_ | refine w_pZ (by omega) (by assumption) (by decide) ?_ | refine w_dv (by omega) (by omega) (by omega) (by omega) ?_ | refine w_rm (by omega) (by omega) (by omega) (by omega) ?_) | ((with_reducible refine w_pos ?_ ?_); focus (first | assumption | trivial | exact (ile (by omega) (by omega) (by omega) (by omega)).2 (by omega) | exact (ilt (by omega) (by omega) (by omega) (by omega)).2 (by omega) | exact (ieq (by omega) (by omega) (by omega) (by omega)).2 (by omega))) | ((with_reducible refine w_neg ?_ ?_); focus (first | assumption | exact not_false | trivial | exact mt (ile (by omega) (by omega) (by omega) (by omega)).1 (by omega) | exact mt (ilt (by omega) (by omega) (by omega) (by omega)).1 (by omega) | exact mt (ieq (by omega) (by omega) (by omega) (by omega)).1 (by omega)))); skip)
            have e : (ntN T n 7 1 0 (tE T n i) w fun _ => 0) = (false, tE T n i, w, fun _ => 0) := if_neg h2
            refine hj41 _ ⟨I3, J3, rfl, bfq_k hB2 hF3, Or.inr ?_⟩
            rw [e]
            exact ⟨rfl, rfl, h10⟩
      · intro j5 hj5
        repeat ((first | (with_reducible first | refine w_ltA ?_ | refine w_ltS ?_ | refine w_ltM ?_ | refine w_ltN ?_ | refine w_lt ?_ | refine w_jn ?_ | refine w_ck (by omega) (by assumption) ?_ | refine w_gI (by omega) (by assumption) ?_ | refine w_gR (by omega) (by assumption) (by assumption) ?_ | refine w_al (by omega) (by assumption) (by assumption) ?_ | refine w_pI (by omega) (by assumption) ?_ | refine w_set (by omega) (by assumption) (by omega) (by omega) ?_ | refine w_at (by omega) (by assumption) (by omega) (by omega) ?_ | refine w_sI (by omega) (by assumption) (by omega) (by omega) ?_ | refine w_aI (by omega) (by assumption) (by omega) (by omega) ?_ | refine w_sZ (by omega) (by assumption) (by omega) (by omega) (by decide) ?_ | refine w_pZ (by omega) (by assumption) (by decide) ?_ | refine w_dv (by omega) (by omega) (by omega) (by omega) ?_ | refine w_rm (by omega) (by omega) (by omega) (by omega) ?_) | ((with_reducible refine w_pos ?_ ?_); focus (first | assumption | trivial | exact (ile (by omega) (by omega) (by omega) (by omega)).2 (by omega) | exact (ilt (by omega) (by omega) (by omega) (by omega)).2 (by omega) | exact (ieq (by omega) (by omega) (by omega) (by omega)).2 (by omega))) | ((with_reducible refine w_neg ?_ ?_); focus (first | assumption | exact not_false | trivial | exact mt (ile (by omega) (by omega) (by omega) (by omega)).1 (by omega) | exact mt (ilt (by omega) (by omega) (by omega) (by omega)).1 (by omega) | exact mt (ieq (by omega) (by omega) (by omega) (by omega)).1 (by omega)))); skip)
        exact hj5 _ trivial
    · intro j4 hj4
      repeat ((first | (with_reducible first | refine w_ltA ?_ | refine w_ltS ?_ | refine w_ltM ?_ | refine w_ltN ?_ | refine w_lt ?_ | refine w_jn ?_ | refine w_ck (by omega) (by assumption) ?_ | refine w_gI (by omega) (by assumption) ?_ | refine w_gR (by omega) (by assumption) (by assumption) ?_ | refine w_al (by omega) (by assumption) (by assumption) ?_ | refine w_pI (by omega) (by assumption) ?_ | refine w_set (by omega) (by assumption) (by omega) (by omega) ?_ | refine w_at (by omega) (by assumption) (by omega) (by omega) ?_ | refine w_sI (by omega) (by assumption) (by omega) (by omega) ?_ | refine w_aI (by omega) (by assumption) (by omega) (by omega) ?_ | refine w_sZ (by omega) (by assumption) (by omega) (by omega) (by decide) ?_ | refine w_pZ (by omega) (by assumption) (by decide) ?_ | refine w_dv (by omega) (by omega) (by omega) (by omega) ?_ | refine w_rm (by omega) (by omega) (by omega) (by omega) ?_) | ((with_reducible refine w_pos ?_ ?_); focus (first | assumption | trivial | exact (ile (by omega) (by omega) (by omega) (by omega)).2 (by omega) | exact (ilt (by omega) (by omega) (by omega) (by omega)).2 (by omega) | exact (ieq (by omega) (by omega) (by omega) (by omega)).2 (by omega))) | ((with_reducible refine w_neg ?_ ?_); focus (first | assumption | exact not_false | trivial | exact mt (ile (by omega) (by omega) (by omega) (by omega)).1 (by omega) | exact mt (ilt (by omega) (by omega) (by omega) (by omega)).1 (by omega) | exact mt (ieq (by omega) (by omega) (by omega) (by omega)).1 (by omega)))); skip)
      exact hj4 _ rfl
  · intro j2 hj2
    repeat ((first | (with_reducible first | refine w_ltA ?_ | refine w_ltS ?_ | refine w_ltM ?_ | refine w_ltN ?_ | refine w_lt ?_ | refine w_jn ?_ | refine w_ck (by omega) (by assumption) ?_ | refine w_gI (by omega) (by assumption) ?_ | refine w_gR (by omega) (by assumption) (by assumption) ?_ | refine w_al (by omega) (by assumption) (by assumption) ?_ | refine w_pI (by omega) (by assumption) ?_ | refine w_set (by omega) (by assumption) (by omega) (by omega) ?_ | refine w_at (by omega) (by assumption) (by omega) (by omega) ?_ | refine w_sI (by omega) (by assumption) (by omega) (by omega) ?_ | refine w_aI (by omega) (by assumption) (by omega) (by omega) ?_ | refine w_sZ (by omega) (by assumption) (by omega) (by omega) (by decide) ?_ | refine w_pZ (by omega) (by assumption) (by decide) ?_ | refine w_dv (by omega) (by omega) (by omega) (by omega) ?_ | refine w_rm (by omega) (by omega) (by omega) (by omega) ?_) | ((with_reducible refine w_pos ?_ ?_); focus (first | assumption | trivial | exact (ile (by omega) (by omega) (by omega) (by omega)).2 (by omega) | exact (ilt (by omega) (by omega) (by omega) (by omega)).2 (by omega) | exact (ieq (by omega) (by omega) (by omega) (by omega)).2 (by omega))) | ((with_reducible refine w_neg ?_ ?_); focus (first | assumption | exact not_false | trivial | exact mt (ile (by omega) (by omega) (by omega) (by omega)).1 (by omega) | exact mt (ilt (by omega) (by omega) (by omega) (by omega)).1 (by omega) | exact mt (ieq (by omega) (by omega) (by omega) (by omega)).1 (by omega)))); skip)
    exact hj2 _ rfl
set_option maxHeartbeats 4000000 in
theorem scriptLine_8 (hR : RQ R) (hx : TXR I T n) (ht : Tok T n) (hk : TkR I J T n i) (hin : i ≤ n) (hw : I 373 11 = iI w) (hwb : -1 ≤ w ∧ w ≤ n) (h18 : I 373 18 = iI (m : Nat)) (hm : m < 90) (hv : vbH T n i 4 10 = (8 : Nat)) (hvb : vB T n i 8 = true) : En (fun y => ∃ I' J', y.2 = (381, I', J', R) ∧ TXR I' T n ∧ GQ I I' ∧ ((vbH T n i 4 10 = -1 ∧ y.1 = iI 0 ∧ I' 373 10 = iI (tS T n i : Nat)) ∨ ∃ v : Nat, vbH T n i 4 10 = v ∧ v < 14 ∧ vB T n i v = true ∧ (((lnV T n v i w).1 = true ∧ y.1 = iI 1 ∧ TkR I' J' T n (lnV T n v i w).2.1 ∧ I' 373 11 = iI (lnV T n v i w).2.2.1 ∧ I' 373 18 = iI ((m + 1 : Nat) : Int) ∧ LNr I' J' m (v, (lnV T n v i w).2.2.2 0, (lnV T n v i w).2.2.2 1) ∧ ∀ k, k < m → J' 378 k = J 378 k ∧ I' 379 (2 * k) = I 379 (2 * k) ∧ I' 379 (2 * k + 1) = I 379 (2 * k + 1)) ∨ ((lnV T n v i w).1 = false ∧ y.1 = iI 0 ∧ I' 373 10 = iI (tS T n (lnV T n v i w).2.1 : Nat))))) (f_X9_scriptLine (381, I, J, R) 373 (wOf T n i)) := by
  have k374 := kd_374
  obtain ⟨k378, l378, k379, l379, k380, l380⟩ := kd_378
  obtain ⟨-, -, -, r12, r16, r17, -⟩ := id hR
  have hE := tE_b (T := T) hin
  have hE2 := tE_b (T := T) hE.2.1
  obtain ⟨q1, q2, q3, q4, q5⟩ := id hk
  have hcv := fun v' h => cmp_v (T := T) (n := n) (i := i) (v := 8) (by omega) hvb v' h
  have c4 : ¬ lg_cmp (wOf T n i) 1953063787 = iI 0 := mt (hcv 4 (by omega)).1 (by omega)
  have c5 : ¬ lg_cmp (wOf T n i) 1952541541 = iI 0 := mt (hcv 5 (by omega)).1 (by omega)
  have c6 : ¬ lg_cmp (wOf T n i) 7370100 = iI 0 := mt (hcv 6 (by omega)).1 (by omega)
  have c7 : ¬ lg_cmp (wOf T n i) 6647396 = iI 0 := mt (hcv 7 (by omega)).1 (by omega)
  have c8 : lg_cmp (wOf T n i) 1685221232 = iI 0 := (hcv 8 (by omega)).2 rfl
  have c9 : ¬ lg_cmp (wOf T n i) 1937203568 = iI 0 := mt (hcv 9 (by omega)).1 (by omega)
  have c10 : ¬ lg_cmp (wOf T n i) 439956431717 = iI 0 := mt (hcv 10 (by omega)).1 (by omega)
  have c11 : ¬ lg_cmp (wOf T n i) 1919246692 = iI 0 := mt (hcv 11 (by omega)).1 (by omega)
  have c12 : ¬ lg_cmp (wOf T n i) 1835103083 = iI 0 := mt (hcv 12 (by omega)).1 (by omega)
  have c13 : ¬ lg_cmp (wOf T n i) 125780053555813 = iI 0 := mt (hcv 13 (by omega)).1 (by omega)
  rw [u_X9_scriptLine]
  refine w_lt ?_
  refine w_jnP (fun x => x = iI 0) ?_ ?_
  · rintro x rfl
    refine w_lt ?_
    refine w_jnP (fun x => x = iI 0) ?_ ?_
    · rintro x rfl
      refine w_jnP (fun _ => True) ?_ ?_
      · intro _ _
        refine w_ck (by omega) k374 ?_
        refine w_cV (token_Q (J := J) (i := tE T n i) hR hx ht q1 hE.2.1) ?_
        rintro S ⟨I1, J1, rfl, hF1, hk1⟩
        refine w_gR (by omega) k374 r12 ?_
        refine w_sI (by omega) k378 (by omega) (by omega) ?_
        refine w_gR (by omega) k374 r12 ?_
        refine w_sI (by omega) k378 (by omega) (by omega) ?_
        have hB2 : BFq I (up (up I1 377 (Int.toNat 0) (iI 0)) 377 (Int.toNat 1) (iI 0)) J J1 T n m := by
          have hx1 := hF1.x hx
          exact ⟨⟨by rw [up_ne (by omega), up_ne (by omega)]; exact hx1.1, fun i hi => by rw [up_ne (by omega), up_ne (by omega)]; exact hx1.2 i hi⟩, gq_u (gq_u (ft_g hF1) (by omega)) (by omega), by rw [up_ne (by omega), up_ne (by omega), hF1.1 _ _ (by omega)]; exact h18, fun k => hF1.2 _ _ (by omega), fun k => by rw [up_ne (by omega), up_ne (by omega)]; exact hF1.1 _ _ (by omega)⟩
        have hk2 : TkR (up (up I1 377 (Int.toNat 0) (iI 0)) 377 (Int.toNat 1) (iI 0)) J1 T n (tE T n i) := tkr_u (tkr_u hk1 (by omega)) (by omega)
        have hw2 : up (up I1 377 (Int.toNat 0) (iI 0)) 377 (Int.toNat 1) (iI 0) 373 11 = iI w := by
          rw [up_ne (by omega), up_ne (by omega), hF1.1 _ _ (by omega)]
          exact hw
        have z0 : up (up I1 377 (Int.toNat 0) (iI 0)) 377 (Int.toNat 1) (iI 0) 377 0 = iI 0 := rfl
        have z1 : up (up I1 377 (Int.toNat 0) (iI 0)) 377 (Int.toNat 1) (iI 0) 377 1 = iI 0 := rfl
        generalize up (up I1 377 (Int.toNat 0) (iI 0)) 377 (Int.toNat 1) (iI 0) = I2 at *
        refine w_jnP (fun (x : Int32 × St) => ∃ I' J', x.2 = (381, I', J', R) ∧ BFq I I' J J' T n m ∧ STq I' J' T n (ntN T n 8 1 0 (tE T n i) w fun _ => 0) x.1) ?_ ?_
        · rintro ⟨b, S⟩ ⟨I3, J3, h3, hB3, hst3⟩
          have h3 : S = (381, I3, J3, R) := h3
          subst h3
          have hst3 : STq I3 J3 T n (ntN T n 8 1 0 (tE T n i) w fun _ => 0) b := hst3
          refine w_jnP (fun (x : Int32 × St) => ∃ I' J', x.2 = (381, I', J', R) ∧ BFq I I' J J' T n m ∧ STq I' J' T n (lnV T n 8 i w) x.1) ?_ ?_
          · rintro ⟨b, S⟩ ⟨I4, J4, h4, hB4, hst4⟩
            have h4 : S = (381, I4, J4, R) := h4
            subst h4
            have hst4 : STq I4 J4 T n (lnV T n 8 i w) b := hst4
            refine final_Q (b := b) hR hB4 hm (by rcases hst4 with h | h; exact Or.inr h.2.1; exact Or.inl h.2.1) ?_
            intro I5 J5 g1 g2 g3 g4 g5 g6 g7 g8 g9
            refine ⟨I5, J5, rfl, g1, g2, Or.inr ⟨8, hv, by omega, hvb, ?_⟩⟩
            rcases hst4 with ⟨s1, s2, s3, s4, s5, s6⟩ | ⟨s1, s2, s3⟩
            · exact Or.inl ⟨s1, s2, g3 _ s3, g4.2.trans s4, g5, ⟨g6.trans ((wOf_iff (by omega)).2 hvb), g7.trans s5, g8.trans s6⟩, g9⟩
            · exact Or.inr ⟨s1, s2, g4.1.trans s3⟩
          · intro j12 hj12
            rcases hst3 with ⟨s1, rfl, s3⟩ | ⟨s1, rfl, s3⟩
            · refine w_jn ?_
              refine w_neg (show ¬ (iI 1 = iI 0) by decide) ?_
              refine w_jn ?_
              refine w_pos (by decide) ?_
              exact hj12 _ ⟨I3, J3, rfl, hB3, Or.inl ⟨s1, rfl, s3⟩⟩
            · refine w_jn ?_
              refine w_pos rfl ?_
              exact hj12 _ ⟨I3, J3, rfl, hB3, Or.inr ⟨s1, rfl, s3⟩⟩
        · intro j11 hj11
          refine w_jnP (fun x => ∃ I' J', x = (381, I', J', R) ∧ BFq I I' J J' T n m ∧ STq I' J' T n (ntN T n 8 1 0 (tE T n i) w fun _ => 0) (iI 1)) ?_ ?_
          · rintro x ⟨I3, J3, rfl, hB3, hst3⟩
            exact hj11 _ ⟨I3, J3, rfl, hB3, hst3⟩
          intro j39 hj39
          refine w_pos rfl ?_
          refine w_lt ?_
          refine w_jnP (fun x => ∃ I' J', x = (381, I', J', R) ∧ BFq I I' J J' T n m ∧ STq I' J' T n (ntN T n 8 1 0 (tE T n i) w fun _ => 0) (iI 0)) ?_ ?_
          · rintro x ⟨I3, J3, rfl, hB3, hst3⟩
            exact hj11 _ ⟨I3, J3, rfl, hB3, hst3⟩
          intro j41 hj41
          repeat ((first | (with_reducible first | refine w_ltA ?_ | refine w_ltS ?_ | refine w_ltM ?_ | refine w_ltN ?_ | refine w_lt ?_ | refine w_jn ?_ | refine w_ck (by omega) (by assumption) ?_ | refine w_gI (by omega) (by assumption) ?_ | refine w_gR (by omega) (by assumption) (by assumption) ?_ | refine w_al (by omega) (by assumption) (by assumption) ?_ | refine w_pI (by omega) (by assumption) ?_ | refine w_set (by omega) (by assumption) (by omega) (by omega) ?_ | refine w_at (by omega) (by assumption) (by omega) (by omega) ?_ | refine w_sI (by omega) (by assumption) (by omega) (by omega) ?_ | refine w_aI (by omega) (by assumption) (by omega) (by omega) ?_ | refine w_sZ (by omega) (by assumption) (by omega) (by omega) (by decide) ?_ | refine w_pZ (by omega) (by assumption) (by decide) ?_ | refine w_dv (by omega) (by omega) (by omega) (by omega) ?_ | refine w_rm (by omega) (by omega) (by omega) (by omega) ?_) | ((with_reducible refine w_pos ?_ ?_); focus (first | assumption | trivial | exact (ile (by omega) (by omega) (by omega) (by omega)).2 (by omega) | exact (ilt (by omega) (by omega) (by omega) (by omega)).2 (by omega) | exact (ieq (by omega) (by omega) (by omega) (by omega)).2 (by omega))) | ((with_reducible refine w_neg ?_ ?_); focus (first | assumption | exact not_false | trivial | exact mt (ile (by omega) (by omega) (by omega) (by omega)).1 (by omega) | exact mt (ilt (by omega) (by omega) (by omega) (by omega)).1 (by omega) | exact mt (ieq (by omega) (by omega) (by omega) (by omega)).1 (by omega)))); skip)
          refine w_cI (takes_Q (J := J1) (k := 0) (a := 0) (b := 3) hR hB2.1 ht hk2 hE.2.1 (by omega) hw2 hwb (by omega) (by omega)) ?_
          rintro y S ⟨I3, J3, rfl, hF3, (⟨h2, rfl, hk3, h11, h8⟩ | ⟨h2, rfl, h10⟩)⟩
          · repeat ((first | (with_reducible first | refine w_ltA ?_ | refine w_ltS ?_ | refine w_ltM ?_ | refine w_ltN ?_ | refine w_lt ?_ | refine w_jn ?_ | refine w_ck (by omega) (by assumption) ?_ | refine w_gI (by omega) (by assumption) ?_ | refine w_gR (by omega) (by assumption) (by assumption) ?_ | refine w_al (by omega) (by assumption) (by assumption) ?_ | refine w_pI (by omega) (by assumption) ?_ | refine w_set (by omega) (by assumption) (by omega) (by omega) ?_ | refine w_at (by omega) (by assumption) (by omega) (by omega) ?_ | refine w_sI (by omega) (by assumption) (by omega) (by omega) ?_ | refine w_aI (by omega) (by assumption) (by omega) (by omega) ?_ | refine w_sZ (by omega) (by assumption) (by omega) (by omega) (by decide) ?_ | refine w_pZ (by omega) (by assumption) (by decide) ?_ | refine w_dv (by omega) (by omega) (by omega) (by omega) ?_ | refine w_rm (by omega) (by omega) (by omega) (by omega) ?_) | ((with_reducible refine w_pos ?_ ?_); focus (first | assumption | trivial | exact (ile (by omega) (by omega) (by omega) (by omega)).2 (by omega) | exact (ilt (by omega) (by omega) (by omega) (by omega)).2 (by omega) | exact (ieq (by omega) (by omega) (by omega) (by omega)).2 (by omega))) | ((with_reducible refine w_neg ?_ ?_); focus (first | assumption | exact not_false | trivial | exact mt (ile (by omega) (by omega) (by omega) (by omega)).1 (by omega) | exact mt (ilt (by omega) (by omega) (by omega) (by omega)).1 (by omega) | exact mt (ieq (by omega) (by omega) (by omega) (by omega)).1 (by omega)))); skip)
            have e : (ntN T n 8 1 0 (tE T n i) w fun _ => 0) = (true, tE T n (tE T n i), nmW T n 8 0 (tE T n i) w, fun k => if k = 0 then tN T n (tE T n i) else 0) := if_pos h2
            refine hj39 _ ⟨I3, J3, rfl, bfq_k hB2 hF3, Or.inl ?_⟩
            rw [e]
            exact ⟨rfl, rfl, hk3, h11, h8, (hF3.1 377 1 (by omega) (by omega)).trans z1⟩
          · repeat ((first | (with_reducible first | refine w_ltA ?_ | refine w_ltS ?_ | refine w_ltM ?_ | refine w_ltN ?_ | refine w_lt ?_ | refine w_jn ?_ | refine w_ck (by omega) (by assumption) ?_ | refine w_gI (by omega) (by assumption) ?_ | refine w_gR (by omega) (by assumption) (by assumption) ?_ | refine w_al (by omega) (by assumption) (by assumption) ?_ | refine w_pI (by omega) (by assumption) ?_ | refine w_set (by omega) (by assumption) (by omega) (by omega) ?_ | refine w_at (by omega) (by assumption) (by omega) (by omega) ?_ | refine w_sI (by omega) (by assumption) (by omega) (by omega) ?_ | refine w_aI (by omega) (by assumption) (by omega) (by omega) ?_ | refine w_sZ (by omega) (by assumption) (by omega) (by omega) (by decide) ?_ | refine w_pZ (by omega) (by assumption) (by decide) ?_ | refine w_dv (by omega) (by omega) (by omega) (by omega) ?_ | refine w_rm (by omega) (by omega) (by omega) (by omega) ?_) | ((with_reducible refine w_pos ?_ ?_); focus (first | assumption | trivial | exact (ile (by omega) (by omega) (by omega) (by omega)).2 (by omega) | exact (ilt (by omega) (by omega) (by omega) (by omega)).2 (by omega) | exact (ieq (by omega) (by omega) (by omega) (by omega)).2 (by omega))) | ((with_reducible refine w_neg ?_ ?_); focus (first | assumption | exact not_false | trivial | exact mt (ile (by omega) (by omega) (by omega) (by omega)).1 (by omega) | exact mt (ilt (by omega) (by omega) (by omega) (by omega)).1 (by omega) | exact mt (ieq (by omega) (by omega) (by omega) (by omega)).1 (by omega)))); skip)
            have e : (ntN T n 8 1 0 (tE T n i) w fun _ => 0) = (false, tE T n i, w, fun _ => 0) := if_neg h2
            refine hj41 _ ⟨I3, J3, rfl, bfq_k hB2 hF3, Or.inr ?_⟩
            rw [e]
            exact ⟨rfl, rfl, h10⟩
      · intro j5 hj5
        repeat ((first | (with_reducible first | refine w_ltA ?_ | refine w_ltS ?_ | refine w_ltM ?_ | refine w_ltN ?_ | refine w_lt ?_ | refine w_jn ?_ | refine w_ck (by omega) (by assumption) ?_ | refine w_gI (by omega) (by assumption) ?_ | refine w_gR (by omega) (by assumption) (by assumption) ?_ | refine w_al (by omega) (by assumption) (by assumption) ?_ | refine w_pI (by omega) (by assumption) ?_ | refine w_set (by omega) (by assumption) (by omega) (by omega) ?_ | refine w_at (by omega) (by assumption) (by omega) (by omega) ?_ | refine w_sI (by omega) (by assumption) (by omega) (by omega) ?_ | refine w_aI (by omega) (by assumption) (by omega) (by omega) ?_ | refine w_sZ (by omega) (by assumption) (by omega) (by omega) (by decide) ?_ | refine w_pZ (by omega) (by assumption) (by decide) ?_ | refine w_dv (by omega) (by omega) (by omega) (by omega) ?_ | refine w_rm (by omega) (by omega) (by omega) (by omega) ?_) | ((with_reducible refine w_pos ?_ ?_); focus (first | assumption | trivial | exact (ile (by omega) (by omega) (by omega) (by omega)).2 (by omega) | exact (ilt (by omega) (by omega) (by omega) (by omega)).2 (by omega) | exact (ieq (by omega) (by omega) (by omega) (by omega)).2 (by omega))) | ((with_reducible refine w_neg ?_ ?_); focus (first | assumption | exact not_false | trivial | exact mt (ile (by omega) (by omega) (by omega) (by omega)).1 (by omega) | exact mt (ilt (by omega) (by omega) (by omega) (by omega)).1 (by omega) | exact mt (ieq (by omega) (by omega) (by omega) (by omega)).1 (by omega)))); skip)
        exact hj5 _ trivial
    · intro j4 hj4
      repeat ((first | (with_reducible first | refine w_ltA ?_ | refine w_ltS ?_ | refine w_ltM ?_ | refine w_ltN ?_ | refine w_lt ?_ | refine w_jn ?_ | refine w_ck (by omega) (by assumption) ?_ | refine w_gI (by omega) (by assumption) ?_ | refine w_gR (by omega) (by assumption) (by assumption) ?_ | refine w_al (by omega) (by assumption) (by assumption) ?_ | refine w_pI (by omega) (by assumption) ?_ | refine w_set (by omega) (by assumption) (by omega) (by omega) ?_ | refine w_at (by omega) (by assumption) (by omega) (by omega) ?_ | refine w_sI (by omega) (by assumption) (by omega) (by omega) ?_ | refine w_aI (by omega) (by assumption) (by omega) (by omega) ?_ | refine w_sZ (by omega) (by assumption) (by omega) (by omega) (by decide) ?_ | refine w_pZ (by omega) (by assumption) (by decide) ?_ | refine w_dv (by omega) (by omega) (by omega) (by omega) ?_ | refine w_rm (by omega) (by omega) (by omega) (by omega) ?_) | ((with_reducible refine w_pos ?_ ?_); focus (first | assumption | trivial | exact (ile (by omega) (by omega) (by omega) (by omega)).2 (by omega) | exact (ilt (by omega) (by omega) (by omega) (by omega)).2 (by omega) | exact (ieq (by omega) (by omega) (by omega) (by omega)).2 (by omega))) | ((with_reducible refine w_neg ?_ ?_); focus (first | assumption | exact not_false | trivial | exact mt (ile (by omega) (by omega) (by omega) (by omega)).1 (by omega) | exact mt (ilt (by omega) (by omega) (by omega) (by omega)).1 (by omega) | exact mt (ieq (by omega) (by omega) (by omega) (by omega)).1 (by omega)))); skip)
      exact hj4 _ rfl
  · intro j2 hj2
    repeat ((first | (with_reducible first | refine w_ltA ?_ | refine w_ltS ?_ | refine w_ltM ?_ | refine w_ltN ?_ | refine w_lt ?_ | refine w_jn ?_ | refine w_ck (by omega) (by assumption) ?_ | refine w_gI (by omega) (by assumption) ?_ | refine w_gR (by omega) (by assumption) (by assumption) ?_ | refine w_al (by omega) (by assumption) (by assumption) ?_ | refine w_pI (by omega) (by assumption) ?_ | refine w_set (by omega) (by assumption) (by omega) (by omega) ?_ | refine w_at (by omega) (by assumption) (by omega) (by omega) ?_ | refine w_sI (by omega) (by assumption) (by omega) (by omega) ?_ | refine w_aI (by omega) (by assumption) (by omega) (by omega) ?_ | refine w_sZ (by omega) (by assumption) (by omega) (by omega) (by decide) ?_ | refine w_pZ (by omega) (by assumption) (by decide) ?_ | refine w_dv (by omega) (by omega) (by omega) (by omega) ?_ | refine w_rm (by omega) (by omega) (by omega) (by omega) ?_) | ((with_reducible refine w_pos ?_ ?_); focus (first | assumption | trivial | exact (ile (by omega) (by omega) (by omega) (by omega)).2 (by omega) | exact (ilt (by omega) (by omega) (by omega) (by omega)).2 (by omega) | exact (ieq (by omega) (by omega) (by omega) (by omega)).2 (by omega))) | ((with_reducible refine w_neg ?_ ?_); focus (first | assumption | exact not_false | trivial | exact mt (ile (by omega) (by omega) (by omega) (by omega)).1 (by omega) | exact mt (ilt (by omega) (by omega) (by omega) (by omega)).1 (by omega) | exact mt (ieq (by omega) (by omega) (by omega) (by omega)).1 (by omega)))); skip)
    exact hj2 _ rfl
set_option maxHeartbeats 4000000 in
theorem scriptLine_9 (hR : RQ R) (hx : TXR I T n) (ht : Tok T n) (hk : TkR I J T n i) (hin : i ≤ n) (hw : I 373 11 = iI w) (hwb : -1 ≤ w ∧ w ≤ n) (h18 : I 373 18 = iI (m : Nat)) (hm : m < 90) (hv : vbH T n i 4 10 = (9 : Nat)) (hvb : vB T n i 9 = true) : En (fun y => ∃ I' J', y.2 = (381, I', J', R) ∧ TXR I' T n ∧ GQ I I' ∧ ((vbH T n i 4 10 = -1 ∧ y.1 = iI 0 ∧ I' 373 10 = iI (tS T n i : Nat)) ∨ ∃ v : Nat, vbH T n i 4 10 = v ∧ v < 14 ∧ vB T n i v = true ∧ (((lnV T n v i w).1 = true ∧ y.1 = iI 1 ∧ TkR I' J' T n (lnV T n v i w).2.1 ∧ I' 373 11 = iI (lnV T n v i w).2.2.1 ∧ I' 373 18 = iI ((m + 1 : Nat) : Int) ∧ LNr I' J' m (v, (lnV T n v i w).2.2.2 0, (lnV T n v i w).2.2.2 1) ∧ ∀ k, k < m → J' 378 k = J 378 k ∧ I' 379 (2 * k) = I 379 (2 * k) ∧ I' 379 (2 * k + 1) = I 379 (2 * k + 1)) ∨ ((lnV T n v i w).1 = false ∧ y.1 = iI 0 ∧ I' 373 10 = iI (tS T n (lnV T n v i w).2.1 : Nat))))) (f_X9_scriptLine (381, I, J, R) 373 (wOf T n i)) := by
  have k374 := kd_374
  obtain ⟨k378, l378, k379, l379, k380, l380⟩ := kd_378
  obtain ⟨-, -, -, r12, r16, r17, -⟩ := id hR
  have hE := tE_b (T := T) hin
  have hE2 := tE_b (T := T) hE.2.1
  obtain ⟨q1, q2, q3, q4, q5⟩ := id hk
  have hcv := fun v' h => cmp_v (T := T) (n := n) (i := i) (v := 9) (by omega) hvb v' h
  have c4 : ¬ lg_cmp (wOf T n i) 1953063787 = iI 0 := mt (hcv 4 (by omega)).1 (by omega)
  have c5 : ¬ lg_cmp (wOf T n i) 1952541541 = iI 0 := mt (hcv 5 (by omega)).1 (by omega)
  have c6 : ¬ lg_cmp (wOf T n i) 7370100 = iI 0 := mt (hcv 6 (by omega)).1 (by omega)
  have c7 : ¬ lg_cmp (wOf T n i) 6647396 = iI 0 := mt (hcv 7 (by omega)).1 (by omega)
  have c8 : ¬ lg_cmp (wOf T n i) 1685221232 = iI 0 := mt (hcv 8 (by omega)).1 (by omega)
  have c9 : lg_cmp (wOf T n i) 1937203568 = iI 0 := (hcv 9 (by omega)).2 rfl
  have c10 : ¬ lg_cmp (wOf T n i) 439956431717 = iI 0 := mt (hcv 10 (by omega)).1 (by omega)
  have c11 : ¬ lg_cmp (wOf T n i) 1919246692 = iI 0 := mt (hcv 11 (by omega)).1 (by omega)
  have c12 : ¬ lg_cmp (wOf T n i) 1835103083 = iI 0 := mt (hcv 12 (by omega)).1 (by omega)
  have c13 : ¬ lg_cmp (wOf T n i) 125780053555813 = iI 0 := mt (hcv 13 (by omega)).1 (by omega)
  rw [u_X9_scriptLine]
  refine w_lt ?_
  refine w_jnP (fun x => x = iI 1) ?_ ?_
  · rintro x rfl
    refine w_lt ?_
    refine w_jnP (fun x => x = iI 0) ?_ ?_
    · rintro x rfl
      refine w_jnP (fun _ => True) ?_ ?_
      · intro _ _
        refine w_ck (by omega) k374 ?_
        refine w_cV (token_Q (J := J) (i := tE T n i) hR hx ht q1 hE.2.1) ?_
        rintro S ⟨I1, J1, rfl, hF1, hk1⟩
        refine w_gR (by omega) k374 r12 ?_
        refine w_sI (by omega) k378 (by omega) (by omega) ?_
        refine w_gR (by omega) k374 r12 ?_
        refine w_sI (by omega) k378 (by omega) (by omega) ?_
        have hB2 : BFq I (up (up I1 377 (Int.toNat 0) (iI 0)) 377 (Int.toNat 1) (iI 0)) J J1 T n m := by
          have hx1 := hF1.x hx
          exact ⟨⟨by rw [up_ne (by omega), up_ne (by omega)]; exact hx1.1, fun i hi => by rw [up_ne (by omega), up_ne (by omega)]; exact hx1.2 i hi⟩, gq_u (gq_u (ft_g hF1) (by omega)) (by omega), by rw [up_ne (by omega), up_ne (by omega), hF1.1 _ _ (by omega)]; exact h18, fun k => hF1.2 _ _ (by omega), fun k => by rw [up_ne (by omega), up_ne (by omega)]; exact hF1.1 _ _ (by omega)⟩
        have hk2 : TkR (up (up I1 377 (Int.toNat 0) (iI 0)) 377 (Int.toNat 1) (iI 0)) J1 T n (tE T n i) := tkr_u (tkr_u hk1 (by omega)) (by omega)
        have hw2 : up (up I1 377 (Int.toNat 0) (iI 0)) 377 (Int.toNat 1) (iI 0) 373 11 = iI w := by
          rw [up_ne (by omega), up_ne (by omega), hF1.1 _ _ (by omega)]
          exact hw
        have z0 : up (up I1 377 (Int.toNat 0) (iI 0)) 377 (Int.toNat 1) (iI 0) 377 0 = iI 0 := rfl
        have z1 : up (up I1 377 (Int.toNat 0) (iI 0)) 377 (Int.toNat 1) (iI 0) 377 1 = iI 0 := rfl
        generalize up (up I1 377 (Int.toNat 0) (iI 0)) 377 (Int.toNat 1) (iI 0) = I2 at *
        refine w_jnP (fun (x : Int32 × St) => ∃ I' J', x.2 = (381, I', J', R) ∧ BFq I I' J J' T n m ∧ STq I' J' T n (ntN T n 9 0 0 (tE T n i) w fun _ => 0) x.1) ?_ ?_
        · rintro ⟨b, S⟩ ⟨I3, J3, h3, hB3, hst3⟩
          have h3 : S = (381, I3, J3, R) := h3
          subst h3
          have hst3 : STq I3 J3 T n (ntN T n 9 0 0 (tE T n i) w fun _ => 0) b := hst3
          refine w_jnP (fun (x : Int32 × St) => ∃ I' J', x.2 = (381, I', J', R) ∧ BFq I I' J J' T n m ∧ STq I' J' T n (lnV T n 9 i w) x.1) ?_ ?_
          · rintro ⟨b, S⟩ ⟨I4, J4, h4, hB4, hst4⟩
            have h4 : S = (381, I4, J4, R) := h4
            subst h4
            have hst4 : STq I4 J4 T n (lnV T n 9 i w) b := hst4
            refine final_Q (b := b) hR hB4 hm (by rcases hst4 with h | h; exact Or.inr h.2.1; exact Or.inl h.2.1) ?_
            intro I5 J5 g1 g2 g3 g4 g5 g6 g7 g8 g9
            refine ⟨I5, J5, rfl, g1, g2, Or.inr ⟨9, hv, by omega, hvb, ?_⟩⟩
            rcases hst4 with ⟨s1, s2, s3, s4, s5, s6⟩ | ⟨s1, s2, s3⟩
            · exact Or.inl ⟨s1, s2, g3 _ s3, g4.2.trans s4, g5, ⟨g6.trans ((wOf_iff (by omega)).2 hvb), g7.trans s5, g8.trans s6⟩, g9⟩
            · exact Or.inr ⟨s1, s2, g4.1.trans s3⟩
          · intro j12 hj12
            rcases hst3 with ⟨s1, rfl, s3⟩ | ⟨s1, -⟩
            · --N skip
              refine w_jn ?_
              refine w_neg (show ¬ (iI 1 = iI 0) by decide) ?_
              refine w_jn ?_
              refine w_pos (by decide) ?_
              exact hj12 _ ⟨I3, J3, rfl, hB3, Or.inl ⟨rfl, rfl, s3⟩⟩
            · cases s1
        · intro j11 hj11
          repeat ((first | (with_reducible first | refine w_ltA ?_ | refine w_ltS ?_ | refine w_ltM ?_ | refine w_ltN ?_ | refine w_lt ?_ | refine w_jn ?_ | refine w_ck (by omega) (by assumption) ?_ | refine w_gI (by omega) (by assumption) ?_ | refine w_gR (by omega) (by assumption) (by assumption) ?_ | refine w_al (by omega) (by assumption) (by assumption) ?_ | refine w_pI (by omega) (by assumption) ?_ | refine w_set (by omega) (by assumption) (by omega) (by omega) ?_ | refine w_at (by omega) (by assumption) (by omega) (by omega) ?_ | refine w_sI (by omega) (by assumption) (by omega) (by omega) ?_ | refine w_aI (by omega) (by assumption) (by omega) (by omega) ?_ | refine w_sZ (by omega) (by assumption) (by omega) (by omega) (by decide) ?_ | refine w_pZ (by omega) (by assumption) (by decide) ?_ | refine w_dv (by omega) (by omega) (by omega) (by omega) ?_ | refine w_rm (by omega) (by omega) (by omega) (by omega) ?_) | ((with_reducible refine w_pos ?_ ?_); focus (first | assumption | trivial | exact (ile (by omega) (by omega) (by omega) (by omega)).2 (by omega) | exact (ilt (by omega) (by omega) (by omega) (by omega)).2 (by omega) | exact (ieq (by omega) (by omega) (by omega) (by omega)).2 (by omega))) | ((with_reducible refine w_neg ?_ ?_); focus (first | assumption | exact not_false | trivial | exact mt (ile (by omega) (by omega) (by omega) (by omega)).1 (by omega) | exact mt (ilt (by omega) (by omega) (by omega) (by omega)).1 (by omega) | exact mt (ieq (by omega) (by omega) (by omega) (by omega)).1 (by omega)))); skip)
          exact hj11 _ ⟨I2, J1, rfl, hB2, Or.inl ⟨rfl, rfl, hk2, hw2, z0, z1⟩⟩
      · intro j5 hj5
        repeat ((first | (with_reducible first | refine w_ltA ?_ | refine w_ltS ?_ | refine w_ltM ?_ | refine w_ltN ?_ | refine w_lt ?_ | refine w_jn ?_ | refine w_ck (by omega) (by assumption) ?_ | refine w_gI (by omega) (by assumption) ?_ | refine w_gR (by omega) (by assumption) (by assumption) ?_ | refine w_al (by omega) (by assumption) (by assumption) ?_ | refine w_pI (by omega) (by assumption) ?_ | refine w_set (by omega) (by assumption) (by omega) (by omega) ?_ | refine w_at (by omega) (by assumption) (by omega) (by omega) ?_ | refine w_sI (by omega) (by assumption) (by omega) (by omega) ?_ | refine w_aI (by omega) (by assumption) (by omega) (by omega) ?_ | refine w_sZ (by omega) (by assumption) (by omega) (by omega) (by decide) ?_ | refine w_pZ (by omega) (by assumption) (by decide) ?_ | refine w_dv (by omega) (by omega) (by omega) (by omega) ?_ | refine w_rm (by omega) (by omega) (by omega) (by omega) ?_) | ((with_reducible refine w_pos ?_ ?_); focus (first | assumption | trivial | exact (ile (by omega) (by omega) (by omega) (by omega)).2 (by omega) | exact (ilt (by omega) (by omega) (by omega) (by omega)).2 (by omega) | exact (ieq (by omega) (by omega) (by omega) (by omega)).2 (by omega))) | ((with_reducible refine w_neg ?_ ?_); focus (first | assumption | exact not_false | trivial | exact mt (ile (by omega) (by omega) (by omega) (by omega)).1 (by omega) | exact mt (ilt (by omega) (by omega) (by omega) (by omega)).1 (by omega) | exact mt (ieq (by omega) (by omega) (by omega) (by omega)).1 (by omega)))); skip)
        exact hj5 _ trivial
    · intro j4 hj4
      repeat ((first | (with_reducible first | refine w_ltA ?_ | refine w_ltS ?_ | refine w_ltM ?_ | refine w_ltN ?_ | refine w_lt ?_ | refine w_jn ?_ | refine w_ck (by omega) (by assumption) ?_ | refine w_gI (by omega) (by assumption) ?_ | refine w_gR (by omega) (by assumption) (by assumption) ?_ | refine w_al (by omega) (by assumption) (by assumption) ?_ | refine w_pI (by omega) (by assumption) ?_ | refine w_set (by omega) (by assumption) (by omega) (by omega) ?_ | refine w_at (by omega) (by assumption) (by omega) (by omega) ?_ | refine w_sI (by omega) (by assumption) (by omega) (by omega) ?_ | refine w_aI (by omega) (by assumption) (by omega) (by omega) ?_ | refine w_sZ (by omega) (by assumption) (by omega) (by omega) (by decide) ?_ | refine w_pZ (by omega) (by assumption) (by decide) ?_ | refine w_dv (by omega) (by omega) (by omega) (by omega) ?_ | refine w_rm (by omega) (by omega) (by omega) (by omega) ?_) | ((with_reducible refine w_pos ?_ ?_); focus (first | assumption | trivial | exact (ile (by omega) (by omega) (by omega) (by omega)).2 (by omega) | exact (ilt (by omega) (by omega) (by omega) (by omega)).2 (by omega) | exact (ieq (by omega) (by omega) (by omega) (by omega)).2 (by omega))) | ((with_reducible refine w_neg ?_ ?_); focus (first | assumption | exact not_false | trivial | exact mt (ile (by omega) (by omega) (by omega) (by omega)).1 (by omega) | exact mt (ilt (by omega) (by omega) (by omega) (by omega)).1 (by omega) | exact mt (ieq (by omega) (by omega) (by omega) (by omega)).1 (by omega)))); skip)
      exact hj4 _ rfl
  · intro j2 hj2
    repeat ((first | (with_reducible first | refine w_ltA ?_ | refine w_ltS ?_ | refine w_ltM ?_ | refine w_ltN ?_ | refine w_lt ?_ | refine w_jn ?_ | refine w_ck (by omega) (by assumption) ?_ | refine w_gI (by omega) (by assumption) ?_ | refine w_gR (by omega) (by assumption) (by assumption) ?_ | refine w_al (by omega) (by assumption) (by assumption) ?_ | refine w_pI (by omega) (by assumption) ?_ | refine w_set (by omega) (by assumption) (by omega) (by omega) ?_ | refine w_at (by omega) (by assumption) (by omega) (by omega) ?_ | refine w_sI (by omega) (by assumption) (by omega) (by omega) ?_ | refine w_aI (by omega) (by assumption) (by omega) (by omega) ?_ | refine w_sZ (by omega) (by assumption) (by omega) (by omega) (by decide) ?_ | refine w_pZ (by omega) (by assumption) (by decide) ?_ | refine w_dv (by omega) (by omega) (by omega) (by omega) ?_ | refine w_rm (by omega) (by omega) (by omega) (by omega) ?_) | ((with_reducible refine w_pos ?_ ?_); focus (first | assumption | trivial | exact (ile (by omega) (by omega) (by omega) (by omega)).2 (by omega) | exact (ilt (by omega) (by omega) (by omega) (by omega)).2 (by omega) | exact (ieq (by omega) (by omega) (by omega) (by omega)).2 (by omega))) | ((with_reducible refine w_neg ?_ ?_); focus (first | assumption | exact not_false | trivial | exact mt (ile (by omega) (by omega) (by omega) (by omega)).1 (by omega) | exact mt (ilt (by omega) (by omega) (by omega) (by omega)).1 (by omega) | exact mt (ieq (by omega) (by omega) (by omega) (by omega)).1 (by omega)))); skip)
    exact hj2 _ rfl
set_option maxHeartbeats 4000000 in
theorem scriptLine_10 (hR : RQ R) (hx : TXR I T n) (ht : Tok T n) (hk : TkR I J T n i) (hin : i ≤ n) (hw : I 373 11 = iI w) (hwb : -1 ≤ w ∧ w ≤ n) (h18 : I 373 18 = iI (m : Nat)) (hm : m < 90) (hv : vbH T n i 4 10 = (10 : Nat)) (hvb : vB T n i 10 = true) : En (fun y => ∃ I' J', y.2 = (381, I', J', R) ∧ TXR I' T n ∧ GQ I I' ∧ ((vbH T n i 4 10 = -1 ∧ y.1 = iI 0 ∧ I' 373 10 = iI (tS T n i : Nat)) ∨ ∃ v : Nat, vbH T n i 4 10 = v ∧ v < 14 ∧ vB T n i v = true ∧ (((lnV T n v i w).1 = true ∧ y.1 = iI 1 ∧ TkR I' J' T n (lnV T n v i w).2.1 ∧ I' 373 11 = iI (lnV T n v i w).2.2.1 ∧ I' 373 18 = iI ((m + 1 : Nat) : Int) ∧ LNr I' J' m (v, (lnV T n v i w).2.2.2 0, (lnV T n v i w).2.2.2 1) ∧ ∀ k, k < m → J' 378 k = J 378 k ∧ I' 379 (2 * k) = I 379 (2 * k) ∧ I' 379 (2 * k + 1) = I 379 (2 * k + 1)) ∨ ((lnV T n v i w).1 = false ∧ y.1 = iI 0 ∧ I' 373 10 = iI (tS T n (lnV T n v i w).2.1 : Nat))))) (f_X9_scriptLine (381, I, J, R) 373 (wOf T n i)) := by
  have k374 := kd_374
  obtain ⟨k378, l378, k379, l379, k380, l380⟩ := kd_378
  obtain ⟨-, -, -, r12, r16, r17, -⟩ := id hR
  have hE := tE_b (T := T) hin
  have hE2 := tE_b (T := T) hE.2.1
  obtain ⟨q1, q2, q3, q4, q5⟩ := id hk
  have hcv := fun v' h => cmp_v (T := T) (n := n) (i := i) (v := 10) (by omega) hvb v' h
  have c4 : ¬ lg_cmp (wOf T n i) 1953063787 = iI 0 := mt (hcv 4 (by omega)).1 (by omega)
  have c5 : ¬ lg_cmp (wOf T n i) 1952541541 = iI 0 := mt (hcv 5 (by omega)).1 (by omega)
  have c6 : ¬ lg_cmp (wOf T n i) 7370100 = iI 0 := mt (hcv 6 (by omega)).1 (by omega)
  have c7 : ¬ lg_cmp (wOf T n i) 6647396 = iI 0 := mt (hcv 7 (by omega)).1 (by omega)
  have c8 : ¬ lg_cmp (wOf T n i) 1685221232 = iI 0 := mt (hcv 8 (by omega)).1 (by omega)
  have c9 : ¬ lg_cmp (wOf T n i) 1937203568 = iI 0 := mt (hcv 9 (by omega)).1 (by omega)
  have c10 : lg_cmp (wOf T n i) 439956431717 = iI 0 := (hcv 10 (by omega)).2 rfl
  have c11 : ¬ lg_cmp (wOf T n i) 1919246692 = iI 0 := mt (hcv 11 (by omega)).1 (by omega)
  have c12 : ¬ lg_cmp (wOf T n i) 1835103083 = iI 0 := mt (hcv 12 (by omega)).1 (by omega)
  have c13 : ¬ lg_cmp (wOf T n i) 125780053555813 = iI 0 := mt (hcv 13 (by omega)).1 (by omega)
  rw [u_X9_scriptLine]
  refine w_lt ?_
  refine w_jnP (fun x => x = iI 1) ?_ ?_
  · rintro x rfl
    refine w_lt ?_
    refine w_jnP (fun x => x = iI 0) ?_ ?_
    · rintro x rfl
      refine w_jnP (fun _ => True) ?_ ?_
      · intro _ _
        refine w_ck (by omega) k374 ?_
        refine w_cV (token_Q (J := J) (i := tE T n i) hR hx ht q1 hE.2.1) ?_
        rintro S ⟨I1, J1, rfl, hF1, hk1⟩
        refine w_gR (by omega) k374 r12 ?_
        refine w_sI (by omega) k378 (by omega) (by omega) ?_
        refine w_gR (by omega) k374 r12 ?_
        refine w_sI (by omega) k378 (by omega) (by omega) ?_
        have hB2 : BFq I (up (up I1 377 (Int.toNat 0) (iI 0)) 377 (Int.toNat 1) (iI 0)) J J1 T n m := by
          have hx1 := hF1.x hx
          exact ⟨⟨by rw [up_ne (by omega), up_ne (by omega)]; exact hx1.1, fun i hi => by rw [up_ne (by omega), up_ne (by omega)]; exact hx1.2 i hi⟩, gq_u (gq_u (ft_g hF1) (by omega)) (by omega), by rw [up_ne (by omega), up_ne (by omega), hF1.1 _ _ (by omega)]; exact h18, fun k => hF1.2 _ _ (by omega), fun k => by rw [up_ne (by omega), up_ne (by omega)]; exact hF1.1 _ _ (by omega)⟩
        have hk2 : TkR (up (up I1 377 (Int.toNat 0) (iI 0)) 377 (Int.toNat 1) (iI 0)) J1 T n (tE T n i) := tkr_u (tkr_u hk1 (by omega)) (by omega)
        have hw2 : up (up I1 377 (Int.toNat 0) (iI 0)) 377 (Int.toNat 1) (iI 0) 373 11 = iI w := by
          rw [up_ne (by omega), up_ne (by omega), hF1.1 _ _ (by omega)]
          exact hw
        have z0 : up (up I1 377 (Int.toNat 0) (iI 0)) 377 (Int.toNat 1) (iI 0) 377 0 = iI 0 := rfl
        have z1 : up (up I1 377 (Int.toNat 0) (iI 0)) 377 (Int.toNat 1) (iI 0) 377 1 = iI 0 := rfl
        generalize up (up I1 377 (Int.toNat 0) (iI 0)) 377 (Int.toNat 1) (iI 0) = I2 at *
        refine w_jnP (fun (x : Int32 × St) => ∃ I' J', x.2 = (381, I', J', R) ∧ BFq I I' J J' T n m ∧ STq I' J' T n (ntN T n 10 0 0 (tE T n i) w fun _ => 0) x.1) ?_ ?_
        · rintro ⟨b, S⟩ ⟨I3, J3, h3, hB3, hst3⟩
          have h3 : S = (381, I3, J3, R) := h3
          subst h3
          have hst3 : STq I3 J3 T n (ntN T n 10 0 0 (tE T n i) w fun _ => 0) b := hst3
          refine w_jnP (fun (x : Int32 × St) => ∃ I' J', x.2 = (381, I', J', R) ∧ BFq I I' J J' T n m ∧ STq I' J' T n (lnV T n 10 i w) x.1) ?_ ?_
          · rintro ⟨b, S⟩ ⟨I4, J4, h4, hB4, hst4⟩
            have h4 : S = (381, I4, J4, R) := h4
            subst h4
            have hst4 : STq I4 J4 T n (lnV T n 10 i w) b := hst4
            refine final_Q (b := b) hR hB4 hm (by rcases hst4 with h | h; exact Or.inr h.2.1; exact Or.inl h.2.1) ?_
            intro I5 J5 g1 g2 g3 g4 g5 g6 g7 g8 g9
            refine ⟨I5, J5, rfl, g1, g2, Or.inr ⟨10, hv, by omega, hvb, ?_⟩⟩
            rcases hst4 with ⟨s1, s2, s3, s4, s5, s6⟩ | ⟨s1, s2, s3⟩
            · exact Or.inl ⟨s1, s2, g3 _ s3, g4.2.trans s4, g5, ⟨g6.trans ((wOf_iff (by omega)).2 hvb), g7.trans s5, g8.trans s6⟩, g9⟩
            · exact Or.inr ⟨s1, s2, g4.1.trans s3⟩
          · intro j12 hj12
            rcases hst3 with ⟨s1, rfl, s3⟩ | ⟨s1, -⟩
            · --N skip
              refine w_jn ?_
              refine w_neg (show ¬ (iI 1 = iI 0) by decide) ?_
              refine w_jn ?_
              refine w_pos (by decide) ?_
              exact hj12 _ ⟨I3, J3, rfl, hB3, Or.inl ⟨rfl, rfl, s3⟩⟩
            · cases s1
        · intro j11 hj11
          repeat ((first | (with_reducible first | refine w_ltA ?_ | refine w_ltS ?_ | refine w_ltM ?_ | refine w_ltN ?_ | refine w_lt ?_ | refine w_jn ?_ | refine w_ck (by omega) (by assumption) ?_ | refine w_gI (by omega) (by assumption) ?_ | refine w_gR (by omega) (by assumption) (by assumption) ?_ | refine w_al (by omega) (by assumption) (by assumption) ?_ | refine w_pI (by omega) (by assumption) ?_ | refine w_set (by omega) (by assumption) (by omega) (by omega) ?_ | refine w_at (by omega) (by assumption) (by omega) (by omega) ?_ | refine w_sI (by omega) (by assumption) (by omega) (by omega) ?_ | refine w_aI (by omega) (by assumption) (by omega) (by omega) ?_ | refine w_sZ (by omega) (by assumption) (by omega) (by omega) (by decide) ?_ | refine w_pZ (by omega) (by assumption) (by decide) ?_ | refine w_dv (by omega) (by omega) (by omega) (by omega) ?_ | refine w_rm (by omega) (by omega) (by omega) (by omega) ?_) | ((with_reducible refine w_pos ?_ ?_); focus (first | assumption | trivial | exact (ile (by omega) (by omega) (by omega) (by omega)).2 (by omega) | exact (ilt (by omega) (by omega) (by omega) (by omega)).2 (by omega) | exact (ieq (by omega) (by omega) (by omega) (by omega)).2 (by omega))) | ((with_reducible refine w_neg ?_ ?_); focus (first | assumption | exact not_false | trivial | exact mt (ile (by omega) (by omega) (by omega) (by omega)).1 (by omega) | exact mt (ilt (by omega) (by omega) (by omega) (by omega)).1 (by omega) | exact mt (ieq (by omega) (by omega) (by omega) (by omega)).1 (by omega)))); skip)
          exact hj11 _ ⟨I2, J1, rfl, hB2, Or.inl ⟨rfl, rfl, hk2, hw2, z0, z1⟩⟩
      · intro j5 hj5
        repeat ((first | (with_reducible first | refine w_ltA ?_ | refine w_ltS ?_ | refine w_ltM ?_ | refine w_ltN ?_ | refine w_lt ?_ | refine w_jn ?_ | refine w_ck (by omega) (by assumption) ?_ | refine w_gI (by omega) (by assumption) ?_ | refine w_gR (by omega) (by assumption) (by assumption) ?_ | refine w_al (by omega) (by assumption) (by assumption) ?_ | refine w_pI (by omega) (by assumption) ?_ | refine w_set (by omega) (by assumption) (by omega) (by omega) ?_ | refine w_at (by omega) (by assumption) (by omega) (by omega) ?_ | refine w_sI (by omega) (by assumption) (by omega) (by omega) ?_ | refine w_aI (by omega) (by assumption) (by omega) (by omega) ?_ | refine w_sZ (by omega) (by assumption) (by omega) (by omega) (by decide) ?_ | refine w_pZ (by omega) (by assumption) (by decide) ?_ | refine w_dv (by omega) (by omega) (by omega) (by omega) ?_ | refine w_rm (by omega) (by omega) (by omega) (by omega) ?_) | ((with_reducible refine w_pos ?_ ?_); focus (first | assumption | trivial | exact (ile (by omega) (by omega) (by omega) (by omega)).2 (by omega) | exact (ilt (by omega) (by omega) (by omega) (by omega)).2 (by omega) | exact (ieq (by omega) (by omega) (by omega) (by omega)).2 (by omega))) | ((with_reducible refine w_neg ?_ ?_); focus (first | assumption | exact not_false | trivial | exact mt (ile (by omega) (by omega) (by omega) (by omega)).1 (by omega) | exact mt (ilt (by omega) (by omega) (by omega) (by omega)).1 (by omega) | exact mt (ieq (by omega) (by omega) (by omega) (by omega)).1 (by omega)))); skip)
        exact hj5 _ trivial
    · intro j4 hj4
      repeat ((first | (with_reducible first | refine w_ltA ?_ | refine w_ltS ?_ | refine w_ltM ?_ | refine w_ltN ?_ | refine w_lt ?_ | refine w_jn ?_ | refine w_ck (by omega) (by assumption) ?_ | refine w_gI (by omega) (by assumption) ?_ | refine w_gR (by omega) (by assumption) (by assumption) ?_ | refine w_al (by omega) (by assumption) (by assumption) ?_ | refine w_pI (by omega) (by assumption) ?_ | refine w_set (by omega) (by assumption) (by omega) (by omega) ?_ | refine w_at (by omega) (by assumption) (by omega) (by omega) ?_ | refine w_sI (by omega) (by assumption) (by omega) (by omega) ?_ | refine w_aI (by omega) (by assumption) (by omega) (by omega) ?_ | refine w_sZ (by omega) (by assumption) (by omega) (by omega) (by decide) ?_ | refine w_pZ (by omega) (by assumption) (by decide) ?_ | refine w_dv (by omega) (by omega) (by omega) (by omega) ?_ | refine w_rm (by omega) (by omega) (by omega) (by omega) ?_) | ((with_reducible refine w_pos ?_ ?_); focus (first | assumption | trivial | exact (ile (by omega) (by omega) (by omega) (by omega)).2 (by omega) | exact (ilt (by omega) (by omega) (by omega) (by omega)).2 (by omega) | exact (ieq (by omega) (by omega) (by omega) (by omega)).2 (by omega))) | ((with_reducible refine w_neg ?_ ?_); focus (first | assumption | exact not_false | trivial | exact mt (ile (by omega) (by omega) (by omega) (by omega)).1 (by omega) | exact mt (ilt (by omega) (by omega) (by omega) (by omega)).1 (by omega) | exact mt (ieq (by omega) (by omega) (by omega) (by omega)).1 (by omega)))); skip)
      exact hj4 _ rfl
  · intro j2 hj2
    repeat ((first | (with_reducible first | refine w_ltA ?_ | refine w_ltS ?_ | refine w_ltM ?_ | refine w_ltN ?_ | refine w_lt ?_ | refine w_jn ?_ | refine w_ck (by omega) (by assumption) ?_ | refine w_gI (by omega) (by assumption) ?_ | refine w_gR (by omega) (by assumption) (by assumption) ?_ | refine w_al (by omega) (by assumption) (by assumption) ?_ | refine w_pI (by omega) (by assumption) ?_ | refine w_set (by omega) (by assumption) (by omega) (by omega) ?_ | refine w_at (by omega) (by assumption) (by omega) (by omega) ?_ | refine w_sI (by omega) (by assumption) (by omega) (by omega) ?_ | refine w_aI (by omega) (by assumption) (by omega) (by omega) ?_ | refine w_sZ (by omega) (by assumption) (by omega) (by omega) (by decide) ?_ | refine w_pZ (by omega) (by assumption) (by decide) ?_ | refine w_dv (by omega) (by omega) (by omega) (by omega) ?_ | refine w_rm (by omega) (by omega) (by omega) (by omega) ?_) | ((with_reducible refine w_pos ?_ ?_); focus (first | assumption | trivial | exact (ile (by omega) (by omega) (by omega) (by omega)).2 (by omega) | exact (ilt (by omega) (by omega) (by omega) (by omega)).2 (by omega) | exact (ieq (by omega) (by omega) (by omega) (by omega)).2 (by omega))) | ((with_reducible refine w_neg ?_ ?_); focus (first | assumption | exact not_false | trivial | exact mt (ile (by omega) (by omega) (by omega) (by omega)).1 (by omega) | exact mt (ilt (by omega) (by omega) (by omega) (by omega)).1 (by omega) | exact mt (ieq (by omega) (by omega) (by omega) (by omega)).1 (by omega)))); skip)
    exact hj2 _ rfl
set_option maxHeartbeats 4000000 in
theorem scriptLine_11 (hR : RQ R) (hx : TXR I T n) (ht : Tok T n) (hk : TkR I J T n i) (hin : i ≤ n) (hw : I 373 11 = iI w) (hwb : -1 ≤ w ∧ w ≤ n) (h18 : I 373 18 = iI (m : Nat)) (hm : m < 90) (hv : vbH T n i 4 10 = (11 : Nat)) (hvb : vB T n i 11 = true) : En (fun y => ∃ I' J', y.2 = (381, I', J', R) ∧ TXR I' T n ∧ GQ I I' ∧ ((vbH T n i 4 10 = -1 ∧ y.1 = iI 0 ∧ I' 373 10 = iI (tS T n i : Nat)) ∨ ∃ v : Nat, vbH T n i 4 10 = v ∧ v < 14 ∧ vB T n i v = true ∧ (((lnV T n v i w).1 = true ∧ y.1 = iI 1 ∧ TkR I' J' T n (lnV T n v i w).2.1 ∧ I' 373 11 = iI (lnV T n v i w).2.2.1 ∧ I' 373 18 = iI ((m + 1 : Nat) : Int) ∧ LNr I' J' m (v, (lnV T n v i w).2.2.2 0, (lnV T n v i w).2.2.2 1) ∧ ∀ k, k < m → J' 378 k = J 378 k ∧ I' 379 (2 * k) = I 379 (2 * k) ∧ I' 379 (2 * k + 1) = I 379 (2 * k + 1)) ∨ ((lnV T n v i w).1 = false ∧ y.1 = iI 0 ∧ I' 373 10 = iI (tS T n (lnV T n v i w).2.1 : Nat))))) (f_X9_scriptLine (381, I, J, R) 373 (wOf T n i)) := by
  have k374 := kd_374
  obtain ⟨k378, l378, k379, l379, k380, l380⟩ := kd_378
  obtain ⟨-, -, -, r12, r16, r17, -⟩ := id hR
  have hE := tE_b (T := T) hin
  have hE2 := tE_b (T := T) hE.2.1
  obtain ⟨q1, q2, q3, q4, q5⟩ := id hk
  have hcv := fun v' h => cmp_v (T := T) (n := n) (i := i) (v := 11) (by omega) hvb v' h
  have c4 : ¬ lg_cmp (wOf T n i) 1953063787 = iI 0 := mt (hcv 4 (by omega)).1 (by omega)
  have c5 : ¬ lg_cmp (wOf T n i) 1952541541 = iI 0 := mt (hcv 5 (by omega)).1 (by omega)
  have c6 : ¬ lg_cmp (wOf T n i) 7370100 = iI 0 := mt (hcv 6 (by omega)).1 (by omega)
  have c7 : ¬ lg_cmp (wOf T n i) 6647396 = iI 0 := mt (hcv 7 (by omega)).1 (by omega)
  have c8 : ¬ lg_cmp (wOf T n i) 1685221232 = iI 0 := mt (hcv 8 (by omega)).1 (by omega)
  have c9 : ¬ lg_cmp (wOf T n i) 1937203568 = iI 0 := mt (hcv 9 (by omega)).1 (by omega)
  have c10 : ¬ lg_cmp (wOf T n i) 439956431717 = iI 0 := mt (hcv 10 (by omega)).1 (by omega)
  have c11 : lg_cmp (wOf T n i) 1919246692 = iI 0 := (hcv 11 (by omega)).2 rfl
  have c12 : ¬ lg_cmp (wOf T n i) 1835103083 = iI 0 := mt (hcv 12 (by omega)).1 (by omega)
  have c13 : ¬ lg_cmp (wOf T n i) 125780053555813 = iI 0 := mt (hcv 13 (by omega)).1 (by omega)
  rw [u_X9_scriptLine]
  refine w_lt ?_
  refine w_jnP (fun x => x = iI 0) ?_ ?_
  · rintro x rfl
    refine w_lt ?_
    refine w_jnP (fun x => x = iI 0) ?_ ?_
    · rintro x rfl
      refine w_jnP (fun _ => True) ?_ ?_
      · intro _ _
        refine w_ck (by omega) k374 ?_
        refine w_cV (token_Q (J := J) (i := tE T n i) hR hx ht q1 hE.2.1) ?_
        rintro S ⟨I1, J1, rfl, hF1, hk1⟩
        refine w_gR (by omega) k374 r12 ?_
        refine w_sI (by omega) k378 (by omega) (by omega) ?_
        refine w_gR (by omega) k374 r12 ?_
        refine w_sI (by omega) k378 (by omega) (by omega) ?_
        have hB2 : BFq I (up (up I1 377 (Int.toNat 0) (iI 0)) 377 (Int.toNat 1) (iI 0)) J J1 T n m := by
          have hx1 := hF1.x hx
          exact ⟨⟨by rw [up_ne (by omega), up_ne (by omega)]; exact hx1.1, fun i hi => by rw [up_ne (by omega), up_ne (by omega)]; exact hx1.2 i hi⟩, gq_u (gq_u (ft_g hF1) (by omega)) (by omega), by rw [up_ne (by omega), up_ne (by omega), hF1.1 _ _ (by omega)]; exact h18, fun k => hF1.2 _ _ (by omega), fun k => by rw [up_ne (by omega), up_ne (by omega)]; exact hF1.1 _ _ (by omega)⟩
        have hk2 : TkR (up (up I1 377 (Int.toNat 0) (iI 0)) 377 (Int.toNat 1) (iI 0)) J1 T n (tE T n i) := tkr_u (tkr_u hk1 (by omega)) (by omega)
        have hw2 : up (up I1 377 (Int.toNat 0) (iI 0)) 377 (Int.toNat 1) (iI 0) 373 11 = iI w := by
          rw [up_ne (by omega), up_ne (by omega), hF1.1 _ _ (by omega)]
          exact hw
        have z0 : up (up I1 377 (Int.toNat 0) (iI 0)) 377 (Int.toNat 1) (iI 0) 377 0 = iI 0 := rfl
        have z1 : up (up I1 377 (Int.toNat 0) (iI 0)) 377 (Int.toNat 1) (iI 0) 377 1 = iI 0 := rfl
        generalize up (up I1 377 (Int.toNat 0) (iI 0)) 377 (Int.toNat 1) (iI 0) = I2 at *
        refine w_jnP (fun (x : Int32 × St) => ∃ I' J', x.2 = (381, I', J', R) ∧ BFq I I' J J' T n m ∧ STq I' J' T n (ntN T n 11 1 0 (tE T n i) w fun _ => 0) x.1) ?_ ?_
        · rintro ⟨b, S⟩ ⟨I3, J3, h3, hB3, hst3⟩
          have h3 : S = (381, I3, J3, R) := h3
          subst h3
          have hst3 : STq I3 J3 T n (ntN T n 11 1 0 (tE T n i) w fun _ => 0) b := hst3
          refine w_jnP (fun (x : Int32 × St) => ∃ I' J', x.2 = (381, I', J', R) ∧ BFq I I' J J' T n m ∧ STq I' J' T n (lnV T n 11 i w) x.1) ?_ ?_
          · rintro ⟨b, S⟩ ⟨I4, J4, h4, hB4, hst4⟩
            have h4 : S = (381, I4, J4, R) := h4
            subst h4
            have hst4 : STq I4 J4 T n (lnV T n 11 i w) b := hst4
            refine final_Q (b := b) hR hB4 hm (by rcases hst4 with h | h; exact Or.inr h.2.1; exact Or.inl h.2.1) ?_
            intro I5 J5 g1 g2 g3 g4 g5 g6 g7 g8 g9
            refine ⟨I5, J5, rfl, g1, g2, Or.inr ⟨11, hv, by omega, hvb, ?_⟩⟩
            rcases hst4 with ⟨s1, s2, s3, s4, s5, s6⟩ | ⟨s1, s2, s3⟩
            · exact Or.inl ⟨s1, s2, g3 _ s3, g4.2.trans s4, g5, ⟨g6.trans ((wOf_iff (by omega)).2 hvb), g7.trans s5, g8.trans s6⟩, g9⟩
            · exact Or.inr ⟨s1, s2, g4.1.trans s3⟩
          · intro j12 hj12
            rcases hst3 with ⟨s1, rfl, s3⟩ | ⟨s1, rfl, s3⟩
            · refine w_jn ?_
              refine w_neg (show ¬ (iI 1 = iI 0) by decide) ?_
              refine w_jn ?_
              refine w_pos (by decide) ?_
              exact hj12 _ ⟨I3, J3, rfl, hB3, Or.inl ⟨s1, rfl, s3⟩⟩
            · refine w_jn ?_
              refine w_pos rfl ?_
              exact hj12 _ ⟨I3, J3, rfl, hB3, Or.inr ⟨s1, rfl, s3⟩⟩
        · intro j11 hj11
          refine w_jnP (fun x => ∃ I' J', x = (381, I', J', R) ∧ BFq I I' J J' T n m ∧ STq I' J' T n (ntN T n 11 1 0 (tE T n i) w fun _ => 0) (iI 1)) ?_ ?_
          · rintro x ⟨I3, J3, rfl, hB3, hst3⟩
            exact hj11 _ ⟨I3, J3, rfl, hB3, hst3⟩
          intro j39 hj39
          refine w_pos rfl ?_
          refine w_lt ?_
          refine w_jnP (fun x => ∃ I' J', x = (381, I', J', R) ∧ BFq I I' J J' T n m ∧ STq I' J' T n (ntN T n 11 1 0 (tE T n i) w fun _ => 0) (iI 0)) ?_ ?_
          · rintro x ⟨I3, J3, rfl, hB3, hst3⟩
            exact hj11 _ ⟨I3, J3, rfl, hB3, hst3⟩
          intro j41 hj41
          repeat ((first | (with_reducible first | refine w_ltA ?_ | refine w_ltS ?_ | refine w_ltM ?_ | refine w_ltN ?_ | refine w_lt ?_ | refine w_jn ?_ | refine w_ck (by omega) (by assumption) ?_ | refine w_gI (by omega) (by assumption) ?_ | refine w_gR (by omega) (by assumption) (by assumption) ?_ | refine w_al (by omega) (by assumption) (by assumption) ?_ | refine w_pI (by omega) (by assumption) ?_ | refine w_set (by omega) (by assumption) (by omega) (by omega) ?_ | refine w_at (by omega) (by assumption) (by omega) (by omega) ?_ | refine w_sI (by omega) (by assumption) (by omega) (by omega) ?_ | refine w_aI (by omega) (by assumption) (by omega) (by omega) ?_ | refine w_sZ (by omega) (by assumption) (by omega) (by omega) (by decide) ?_ | refine w_pZ (by omega) (by assumption) (by decide) ?_ | refine w_dv (by omega) (by omega) (by omega) (by omega) ?_ | refine w_rm (by omega) (by omega) (by omega) (by omega) ?_) | ((with_reducible refine w_pos ?_ ?_); focus (first | assumption | trivial | exact (ile (by omega) (by omega) (by omega) (by omega)).2 (by omega) | exact (ilt (by omega) (by omega) (by omega) (by omega)).2 (by omega) | exact (ieq (by omega) (by omega) (by omega) (by omega)).2 (by omega))) | ((with_reducible refine w_neg ?_ ?_); focus (first | assumption | exact not_false | trivial | exact mt (ile (by omega) (by omega) (by omega) (by omega)).1 (by omega) | exact mt (ilt (by omega) (by omega) (by omega) (by omega)).1 (by omega) | exact mt (ieq (by omega) (by omega) (by omega) (by omega)).1 (by omega)))); skip)
          refine w_cI (takes_Q (J := J1) (k := 0) (a := 1) (b := 99) hR hB2.1 ht hk2 hE.2.1 (by omega) hw2 hwb (by omega) (by omega)) ?_
          rintro y S ⟨I3, J3, rfl, hF3, (⟨h2, rfl, hk3, h11, h8⟩ | ⟨h2, rfl, h10⟩)⟩
          · repeat ((first | (with_reducible first | refine w_ltA ?_ | refine w_ltS ?_ | refine w_ltM ?_ | refine w_ltN ?_ | refine w_lt ?_ | refine w_jn ?_ | refine w_ck (by omega) (by assumption) ?_ | refine w_gI (by omega) (by assumption) ?_ | refine w_gR (by omega) (by assumption) (by assumption) ?_ | refine w_al (by omega) (by assumption) (by assumption) ?_ | refine w_pI (by omega) (by assumption) ?_ | refine w_set (by omega) (by assumption) (by omega) (by omega) ?_ | refine w_at (by omega) (by assumption) (by omega) (by omega) ?_ | refine w_sI (by omega) (by assumption) (by omega) (by omega) ?_ | refine w_aI (by omega) (by assumption) (by omega) (by omega) ?_ | refine w_sZ (by omega) (by assumption) (by omega) (by omega) (by decide) ?_ | refine w_pZ (by omega) (by assumption) (by decide) ?_ | refine w_dv (by omega) (by omega) (by omega) (by omega) ?_ | refine w_rm (by omega) (by omega) (by omega) (by omega) ?_) | ((with_reducible refine w_pos ?_ ?_); focus (first | assumption | trivial | exact (ile (by omega) (by omega) (by omega) (by omega)).2 (by omega) | exact (ilt (by omega) (by omega) (by omega) (by omega)).2 (by omega) | exact (ieq (by omega) (by omega) (by omega) (by omega)).2 (by omega))) | ((with_reducible refine w_neg ?_ ?_); focus (first | assumption | exact not_false | trivial | exact mt (ile (by omega) (by omega) (by omega) (by omega)).1 (by omega) | exact mt (ilt (by omega) (by omega) (by omega) (by omega)).1 (by omega) | exact mt (ieq (by omega) (by omega) (by omega) (by omega)).1 (by omega)))); skip)
            have e : (ntN T n 11 1 0 (tE T n i) w fun _ => 0) = (true, tE T n (tE T n i), nmW T n 11 0 (tE T n i) w, fun k => if k = 0 then tN T n (tE T n i) else 0) := if_pos h2
            refine hj39 _ ⟨I3, J3, rfl, bfq_k hB2 hF3, Or.inl ?_⟩
            rw [e]
            exact ⟨rfl, rfl, hk3, h11, h8, (hF3.1 377 1 (by omega) (by omega)).trans z1⟩
          · repeat ((first | (with_reducible first | refine w_ltA ?_ | refine w_ltS ?_ | refine w_ltM ?_ | refine w_ltN ?_ | refine w_lt ?_ | refine w_jn ?_ | refine w_ck (by omega) (by assumption) ?_ | refine w_gI (by omega) (by assumption) ?_ | refine w_gR (by omega) (by assumption) (by assumption) ?_ | refine w_al (by omega) (by assumption) (by assumption) ?_ | refine w_pI (by omega) (by assumption) ?_ | refine w_set (by omega) (by assumption) (by omega) (by omega) ?_ | refine w_at (by omega) (by assumption) (by omega) (by omega) ?_ | refine w_sI (by omega) (by assumption) (by omega) (by omega) ?_ | refine w_aI (by omega) (by assumption) (by omega) (by omega) ?_ | refine w_sZ (by omega) (by assumption) (by omega) (by omega) (by decide) ?_ | refine w_pZ (by omega) (by assumption) (by decide) ?_ | refine w_dv (by omega) (by omega) (by omega) (by omega) ?_ | refine w_rm (by omega) (by omega) (by omega) (by omega) ?_) | ((with_reducible refine w_pos ?_ ?_); focus (first | assumption | trivial | exact (ile (by omega) (by omega) (by omega) (by omega)).2 (by omega) | exact (ilt (by omega) (by omega) (by omega) (by omega)).2 (by omega) | exact (ieq (by omega) (by omega) (by omega) (by omega)).2 (by omega))) | ((with_reducible refine w_neg ?_ ?_); focus (first | assumption | exact not_false | trivial | exact mt (ile (by omega) (by omega) (by omega) (by omega)).1 (by omega) | exact mt (ilt (by omega) (by omega) (by omega) (by omega)).1 (by omega) | exact mt (ieq (by omega) (by omega) (by omega) (by omega)).1 (by omega)))); skip)
            have e : (ntN T n 11 1 0 (tE T n i) w fun _ => 0) = (false, tE T n i, w, fun _ => 0) := if_neg h2
            refine hj41 _ ⟨I3, J3, rfl, bfq_k hB2 hF3, Or.inr ?_⟩
            rw [e]
            exact ⟨rfl, rfl, h10⟩
      · intro j5 hj5
        repeat ((first | (with_reducible first | refine w_ltA ?_ | refine w_ltS ?_ | refine w_ltM ?_ | refine w_ltN ?_ | refine w_lt ?_ | refine w_jn ?_ | refine w_ck (by omega) (by assumption) ?_ | refine w_gI (by omega) (by assumption) ?_ | refine w_gR (by omega) (by assumption) (by assumption) ?_ | refine w_al (by omega) (by assumption) (by assumption) ?_ | refine w_pI (by omega) (by assumption) ?_ | refine w_set (by omega) (by assumption) (by omega) (by omega) ?_ | refine w_at (by omega) (by assumption) (by omega) (by omega) ?_ | refine w_sI (by omega) (by assumption) (by omega) (by omega) ?_ | refine w_aI (by omega) (by assumption) (by omega) (by omega) ?_ | refine w_sZ (by omega) (by assumption) (by omega) (by omega) (by decide) ?_ | refine w_pZ (by omega) (by assumption) (by decide) ?_ | refine w_dv (by omega) (by omega) (by omega) (by omega) ?_ | refine w_rm (by omega) (by omega) (by omega) (by omega) ?_) | ((with_reducible refine w_pos ?_ ?_); focus (first | assumption | trivial | exact (ile (by omega) (by omega) (by omega) (by omega)).2 (by omega) | exact (ilt (by omega) (by omega) (by omega) (by omega)).2 (by omega) | exact (ieq (by omega) (by omega) (by omega) (by omega)).2 (by omega))) | ((with_reducible refine w_neg ?_ ?_); focus (first | assumption | exact not_false | trivial | exact mt (ile (by omega) (by omega) (by omega) (by omega)).1 (by omega) | exact mt (ilt (by omega) (by omega) (by omega) (by omega)).1 (by omega) | exact mt (ieq (by omega) (by omega) (by omega) (by omega)).1 (by omega)))); skip)
        exact hj5 _ trivial
    · intro j4 hj4
      repeat ((first | (with_reducible first | refine w_ltA ?_ | refine w_ltS ?_ | refine w_ltM ?_ | refine w_ltN ?_ | refine w_lt ?_ | refine w_jn ?_ | refine w_ck (by omega) (by assumption) ?_ | refine w_gI (by omega) (by assumption) ?_ | refine w_gR (by omega) (by assumption) (by assumption) ?_ | refine w_al (by omega) (by assumption) (by assumption) ?_ | refine w_pI (by omega) (by assumption) ?_ | refine w_set (by omega) (by assumption) (by omega) (by omega) ?_ | refine w_at (by omega) (by assumption) (by omega) (by omega) ?_ | refine w_sI (by omega) (by assumption) (by omega) (by omega) ?_ | refine w_aI (by omega) (by assumption) (by omega) (by omega) ?_ | refine w_sZ (by omega) (by assumption) (by omega) (by omega) (by decide) ?_ | refine w_pZ (by omega) (by assumption) (by decide) ?_ | refine w_dv (by omega) (by omega) (by omega) (by omega) ?_ | refine w_rm (by omega) (by omega) (by omega) (by omega) ?_) | ((with_reducible refine w_pos ?_ ?_); focus (first | assumption | trivial | exact (ile (by omega) (by omega) (by omega) (by omega)).2 (by omega) | exact (ilt (by omega) (by omega) (by omega) (by omega)).2 (by omega) | exact (ieq (by omega) (by omega) (by omega) (by omega)).2 (by omega))) | ((with_reducible refine w_neg ?_ ?_); focus (first | assumption | exact not_false | trivial | exact mt (ile (by omega) (by omega) (by omega) (by omega)).1 (by omega) | exact mt (ilt (by omega) (by omega) (by omega) (by omega)).1 (by omega) | exact mt (ieq (by omega) (by omega) (by omega) (by omega)).1 (by omega)))); skip)
      exact hj4 _ rfl
  · intro j2 hj2
    repeat ((first | (with_reducible first | refine w_ltA ?_ | refine w_ltS ?_ | refine w_ltM ?_ | refine w_ltN ?_ | refine w_lt ?_ | refine w_jn ?_ | refine w_ck (by omega) (by assumption) ?_ | refine w_gI (by omega) (by assumption) ?_ | refine w_gR (by omega) (by assumption) (by assumption) ?_ | refine w_al (by omega) (by assumption) (by assumption) ?_ | refine w_pI (by omega) (by assumption) ?_ | refine w_set (by omega) (by assumption) (by omega) (by omega) ?_ | refine w_at (by omega) (by assumption) (by omega) (by omega) ?_ | refine w_sI (by omega) (by assumption) (by omega) (by omega) ?_ | refine w_aI (by omega) (by assumption) (by omega) (by omega) ?_ | refine w_sZ (by omega) (by assumption) (by omega) (by omega) (by decide) ?_ | refine w_pZ (by omega) (by assumption) (by decide) ?_ | refine w_dv (by omega) (by omega) (by omega) (by omega) ?_ | refine w_rm (by omega) (by omega) (by omega) (by omega) ?_) | ((with_reducible refine w_pos ?_ ?_); focus (first | assumption | trivial | exact (ile (by omega) (by omega) (by omega) (by omega)).2 (by omega) | exact (ilt (by omega) (by omega) (by omega) (by omega)).2 (by omega) | exact (ieq (by omega) (by omega) (by omega) (by omega)).2 (by omega))) | ((with_reducible refine w_neg ?_ ?_); focus (first | assumption | exact not_false | trivial | exact mt (ile (by omega) (by omega) (by omega) (by omega)).1 (by omega) | exact mt (ilt (by omega) (by omega) (by omega) (by omega)).1 (by omega) | exact mt (ieq (by omega) (by omega) (by omega) (by omega)).1 (by omega)))); skip)
    exact hj2 _ rfl
set_option maxHeartbeats 4000000 in
theorem scriptLine_12 (hR : RQ R) (hx : TXR I T n) (ht : Tok T n) (hk : TkR I J T n i) (hin : i ≤ n) (hw : I 373 11 = iI w) (hwb : -1 ≤ w ∧ w ≤ n) (h18 : I 373 18 = iI (m : Nat)) (hm : m < 90) (hv : vbH T n i 4 10 = (12 : Nat)) (hvb : vB T n i 12 = true) : En (fun y => ∃ I' J', y.2 = (381, I', J', R) ∧ TXR I' T n ∧ GQ I I' ∧ ((vbH T n i 4 10 = -1 ∧ y.1 = iI 0 ∧ I' 373 10 = iI (tS T n i : Nat)) ∨ ∃ v : Nat, vbH T n i 4 10 = v ∧ v < 14 ∧ vB T n i v = true ∧ (((lnV T n v i w).1 = true ∧ y.1 = iI 1 ∧ TkR I' J' T n (lnV T n v i w).2.1 ∧ I' 373 11 = iI (lnV T n v i w).2.2.1 ∧ I' 373 18 = iI ((m + 1 : Nat) : Int) ∧ LNr I' J' m (v, (lnV T n v i w).2.2.2 0, (lnV T n v i w).2.2.2 1) ∧ ∀ k, k < m → J' 378 k = J 378 k ∧ I' 379 (2 * k) = I 379 (2 * k) ∧ I' 379 (2 * k + 1) = I 379 (2 * k + 1)) ∨ ((lnV T n v i w).1 = false ∧ y.1 = iI 0 ∧ I' 373 10 = iI (tS T n (lnV T n v i w).2.1 : Nat))))) (f_X9_scriptLine (381, I, J, R) 373 (wOf T n i)) := by
  have k374 := kd_374
  obtain ⟨k378, l378, k379, l379, k380, l380⟩ := kd_378
  obtain ⟨-, -, -, r12, r16, r17, -⟩ := id hR
  have hE := tE_b (T := T) hin
  have hE2 := tE_b (T := T) hE.2.1
  obtain ⟨q1, q2, q3, q4, q5⟩ := id hk
  have hcv := fun v' h => cmp_v (T := T) (n := n) (i := i) (v := 12) (by omega) hvb v' h
  have c4 : ¬ lg_cmp (wOf T n i) 1953063787 = iI 0 := mt (hcv 4 (by omega)).1 (by omega)
  have c5 : ¬ lg_cmp (wOf T n i) 1952541541 = iI 0 := mt (hcv 5 (by omega)).1 (by omega)
  have c6 : ¬ lg_cmp (wOf T n i) 7370100 = iI 0 := mt (hcv 6 (by omega)).1 (by omega)
  have c7 : ¬ lg_cmp (wOf T n i) 6647396 = iI 0 := mt (hcv 7 (by omega)).1 (by omega)
  have c8 : ¬ lg_cmp (wOf T n i) 1685221232 = iI 0 := mt (hcv 8 (by omega)).1 (by omega)
  have c9 : ¬ lg_cmp (wOf T n i) 1937203568 = iI 0 := mt (hcv 9 (by omega)).1 (by omega)
  have c10 : ¬ lg_cmp (wOf T n i) 439956431717 = iI 0 := mt (hcv 10 (by omega)).1 (by omega)
  have c11 : ¬ lg_cmp (wOf T n i) 1919246692 = iI 0 := mt (hcv 11 (by omega)).1 (by omega)
  have c12 : lg_cmp (wOf T n i) 1835103083 = iI 0 := (hcv 12 (by omega)).2 rfl
  have c13 : ¬ lg_cmp (wOf T n i) 125780053555813 = iI 0 := mt (hcv 13 (by omega)).1 (by omega)
  rw [u_X9_scriptLine]
  refine w_lt ?_
  refine w_jnP (fun x => x = iI 0) ?_ ?_
  · rintro x rfl
    refine w_lt ?_
    refine w_jnP (fun x => x = iI 0) ?_ ?_
    · rintro x rfl
      refine w_jnP (fun _ => True) ?_ ?_
      · intro _ _
        refine w_ck (by omega) k374 ?_
        refine w_cV (token_Q (J := J) (i := tE T n i) hR hx ht q1 hE.2.1) ?_
        rintro S ⟨I1, J1, rfl, hF1, hk1⟩
        refine w_gR (by omega) k374 r12 ?_
        refine w_sI (by omega) k378 (by omega) (by omega) ?_
        refine w_gR (by omega) k374 r12 ?_
        refine w_sI (by omega) k378 (by omega) (by omega) ?_
        have hB2 : BFq I (up (up I1 377 (Int.toNat 0) (iI 0)) 377 (Int.toNat 1) (iI 0)) J J1 T n m := by
          have hx1 := hF1.x hx
          exact ⟨⟨by rw [up_ne (by omega), up_ne (by omega)]; exact hx1.1, fun i hi => by rw [up_ne (by omega), up_ne (by omega)]; exact hx1.2 i hi⟩, gq_u (gq_u (ft_g hF1) (by omega)) (by omega), by rw [up_ne (by omega), up_ne (by omega), hF1.1 _ _ (by omega)]; exact h18, fun k => hF1.2 _ _ (by omega), fun k => by rw [up_ne (by omega), up_ne (by omega)]; exact hF1.1 _ _ (by omega)⟩
        have hk2 : TkR (up (up I1 377 (Int.toNat 0) (iI 0)) 377 (Int.toNat 1) (iI 0)) J1 T n (tE T n i) := tkr_u (tkr_u hk1 (by omega)) (by omega)
        have hw2 : up (up I1 377 (Int.toNat 0) (iI 0)) 377 (Int.toNat 1) (iI 0) 373 11 = iI w := by
          rw [up_ne (by omega), up_ne (by omega), hF1.1 _ _ (by omega)]
          exact hw
        have z0 : up (up I1 377 (Int.toNat 0) (iI 0)) 377 (Int.toNat 1) (iI 0) 377 0 = iI 0 := rfl
        have z1 : up (up I1 377 (Int.toNat 0) (iI 0)) 377 (Int.toNat 1) (iI 0) 377 1 = iI 0 := rfl
        generalize up (up I1 377 (Int.toNat 0) (iI 0)) 377 (Int.toNat 1) (iI 0) = I2 at *
        refine w_jnP (fun (x : Int32 × St) => ∃ I' J', x.2 = (381, I', J', R) ∧ BFq I I' J J' T n m ∧ STq I' J' T n (ntN T n 12 1 0 (tE T n i) w fun _ => 0) x.1) ?_ ?_
        · rintro ⟨b, S⟩ ⟨I3, J3, h3, hB3, hst3⟩
          have h3 : S = (381, I3, J3, R) := h3
          subst h3
          have hst3 : STq I3 J3 T n (ntN T n 12 1 0 (tE T n i) w fun _ => 0) b := hst3
          refine w_jnP (fun (x : Int32 × St) => ∃ I' J', x.2 = (381, I', J', R) ∧ BFq I I' J J' T n m ∧ STq I' J' T n (lnV T n 12 i w) x.1) ?_ ?_
          · rintro ⟨b, S⟩ ⟨I4, J4, h4, hB4, hst4⟩
            have h4 : S = (381, I4, J4, R) := h4
            subst h4
            have hst4 : STq I4 J4 T n (lnV T n 12 i w) b := hst4
            refine final_Q (b := b) hR hB4 hm (by rcases hst4 with h | h; exact Or.inr h.2.1; exact Or.inl h.2.1) ?_
            intro I5 J5 g1 g2 g3 g4 g5 g6 g7 g8 g9
            refine ⟨I5, J5, rfl, g1, g2, Or.inr ⟨12, hv, by omega, hvb, ?_⟩⟩
            rcases hst4 with ⟨s1, s2, s3, s4, s5, s6⟩ | ⟨s1, s2, s3⟩
            · exact Or.inl ⟨s1, s2, g3 _ s3, g4.2.trans s4, g5, ⟨g6.trans ((wOf_iff (by omega)).2 hvb), g7.trans s5, g8.trans s6⟩, g9⟩
            · exact Or.inr ⟨s1, s2, g4.1.trans s3⟩
          · intro j12 hj12
            rcases hst3 with ⟨s1, rfl, s3⟩ | ⟨s1, rfl, s3⟩
            · refine w_jn ?_
              refine w_neg (show ¬ (iI 1 = iI 0) by decide) ?_
              refine w_jn ?_
              refine w_pos (by decide) ?_
              exact hj12 _ ⟨I3, J3, rfl, hB3, Or.inl ⟨s1, rfl, s3⟩⟩
            · refine w_jn ?_
              refine w_pos rfl ?_
              exact hj12 _ ⟨I3, J3, rfl, hB3, Or.inr ⟨s1, rfl, s3⟩⟩
        · intro j11 hj11
          refine w_jnP (fun x => ∃ I' J', x = (381, I', J', R) ∧ BFq I I' J J' T n m ∧ STq I' J' T n (ntN T n 12 1 0 (tE T n i) w fun _ => 0) (iI 1)) ?_ ?_
          · rintro x ⟨I3, J3, rfl, hB3, hst3⟩
            exact hj11 _ ⟨I3, J3, rfl, hB3, hst3⟩
          intro j39 hj39
          refine w_pos rfl ?_
          refine w_lt ?_
          refine w_jnP (fun x => ∃ I' J', x = (381, I', J', R) ∧ BFq I I' J J' T n m ∧ STq I' J' T n (ntN T n 12 1 0 (tE T n i) w fun _ => 0) (iI 0)) ?_ ?_
          · rintro x ⟨I3, J3, rfl, hB3, hst3⟩
            exact hj11 _ ⟨I3, J3, rfl, hB3, hst3⟩
          intro j41 hj41
          repeat ((first | (with_reducible first | refine w_ltA ?_ | refine w_ltS ?_ | refine w_ltM ?_ | refine w_ltN ?_ | refine w_lt ?_ | refine w_jn ?_ | refine w_ck (by omega) (by assumption) ?_ | refine w_gI (by omega) (by assumption) ?_ | refine w_gR (by omega) (by assumption) (by assumption) ?_ | refine w_al (by omega) (by assumption) (by assumption) ?_ | refine w_pI (by omega) (by assumption) ?_ | refine w_set (by omega) (by assumption) (by omega) (by omega) ?_ | refine w_at (by omega) (by assumption) (by omega) (by omega) ?_ | refine w_sI (by omega) (by assumption) (by omega) (by omega) ?_ | refine w_aI (by omega) (by assumption) (by omega) (by omega) ?_ | refine w_sZ (by omega) (by assumption) (by omega) (by omega) (by decide) ?_ | refine w_pZ (by omega) (by assumption) (by decide) ?_ | refine w_dv (by omega) (by omega) (by omega) (by omega) ?_ | refine w_rm (by omega) (by omega) (by omega) (by omega) ?_) | ((with_reducible refine w_pos ?_ ?_); focus (first | assumption | trivial | exact (ile (by omega) (by omega) (by omega) (by omega)).2 (by omega) | exact (ilt (by omega) (by omega) (by omega) (by omega)).2 (by omega) | exact (ieq (by omega) (by omega) (by omega) (by omega)).2 (by omega))) | ((with_reducible refine w_neg ?_ ?_); focus (first | assumption | exact not_false | trivial | exact mt (ile (by omega) (by omega) (by omega) (by omega)).1 (by omega) | exact mt (ilt (by omega) (by omega) (by omega) (by omega)).1 (by omega) | exact mt (ieq (by omega) (by omega) (by omega) (by omega)).1 (by omega)))); skip)
          refine w_cI (takes_Q (J := J1) (k := 0) (a := 0) (b := 15) hR hB2.1 ht hk2 hE.2.1 (by omega) hw2 hwb (by omega) (by omega)) ?_
          rintro y S ⟨I3, J3, rfl, hF3, (⟨h2, rfl, hk3, h11, h8⟩ | ⟨h2, rfl, h10⟩)⟩
          · repeat ((first | (with_reducible first | refine w_ltA ?_ | refine w_ltS ?_ | refine w_ltM ?_ | refine w_ltN ?_ | refine w_lt ?_ | refine w_jn ?_ | refine w_ck (by omega) (by assumption) ?_ | refine w_gI (by omega) (by assumption) ?_ | refine w_gR (by omega) (by assumption) (by assumption) ?_ | refine w_al (by omega) (by assumption) (by assumption) ?_ | refine w_pI (by omega) (by assumption) ?_ | refine w_set (by omega) (by assumption) (by omega) (by omega) ?_ | refine w_at (by omega) (by assumption) (by omega) (by omega) ?_ | refine w_sI (by omega) (by assumption) (by omega) (by omega) ?_ | refine w_aI (by omega) (by assumption) (by omega) (by omega) ?_ | refine w_sZ (by omega) (by assumption) (by omega) (by omega) (by decide) ?_ | refine w_pZ (by omega) (by assumption) (by decide) ?_ | refine w_dv (by omega) (by omega) (by omega) (by omega) ?_ | refine w_rm (by omega) (by omega) (by omega) (by omega) ?_) | ((with_reducible refine w_pos ?_ ?_); focus (first | assumption | trivial | exact (ile (by omega) (by omega) (by omega) (by omega)).2 (by omega) | exact (ilt (by omega) (by omega) (by omega) (by omega)).2 (by omega) | exact (ieq (by omega) (by omega) (by omega) (by omega)).2 (by omega))) | ((with_reducible refine w_neg ?_ ?_); focus (first | assumption | exact not_false | trivial | exact mt (ile (by omega) (by omega) (by omega) (by omega)).1 (by omega) | exact mt (ilt (by omega) (by omega) (by omega) (by omega)).1 (by omega) | exact mt (ieq (by omega) (by omega) (by omega) (by omega)).1 (by omega)))); skip)
            have e : (ntN T n 12 1 0 (tE T n i) w fun _ => 0) = (true, tE T n (tE T n i), nmW T n 12 0 (tE T n i) w, fun k => if k = 0 then tN T n (tE T n i) else 0) := if_pos h2
            refine hj39 _ ⟨I3, J3, rfl, bfq_k hB2 hF3, Or.inl ?_⟩
            rw [e]
            exact ⟨rfl, rfl, hk3, h11, h8, (hF3.1 377 1 (by omega) (by omega)).trans z1⟩
          · repeat ((first | (with_reducible first | refine w_ltA ?_ | refine w_ltS ?_ | refine w_ltM ?_ | refine w_ltN ?_ | refine w_lt ?_ | refine w_jn ?_ | refine w_ck (by omega) (by assumption) ?_ | refine w_gI (by omega) (by assumption) ?_ | refine w_gR (by omega) (by assumption) (by assumption) ?_ | refine w_al (by omega) (by assumption) (by assumption) ?_ | refine w_pI (by omega) (by assumption) ?_ | refine w_set (by omega) (by assumption) (by omega) (by omega) ?_ | refine w_at (by omega) (by assumption) (by omega) (by omega) ?_ | refine w_sI (by omega) (by assumption) (by omega) (by omega) ?_ | refine w_aI (by omega) (by assumption) (by omega) (by omega) ?_ | refine w_sZ (by omega) (by assumption) (by omega) (by omega) (by decide) ?_ | refine w_pZ (by omega) (by assumption) (by decide) ?_ | refine w_dv (by omega) (by omega) (by omega) (by omega) ?_ | refine w_rm (by omega) (by omega) (by omega) (by omega) ?_) | ((with_reducible refine w_pos ?_ ?_); focus (first | assumption | trivial | exact (ile (by omega) (by omega) (by omega) (by omega)).2 (by omega) | exact (ilt (by omega) (by omega) (by omega) (by omega)).2 (by omega) | exact (ieq (by omega) (by omega) (by omega) (by omega)).2 (by omega))) | ((with_reducible refine w_neg ?_ ?_); focus (first | assumption | exact not_false | trivial | exact mt (ile (by omega) (by omega) (by omega) (by omega)).1 (by omega) | exact mt (ilt (by omega) (by omega) (by omega) (by omega)).1 (by omega) | exact mt (ieq (by omega) (by omega) (by omega) (by omega)).1 (by omega)))); skip)
            have e : (ntN T n 12 1 0 (tE T n i) w fun _ => 0) = (false, tE T n i, w, fun _ => 0) := if_neg h2
            refine hj41 _ ⟨I3, J3, rfl, bfq_k hB2 hF3, Or.inr ?_⟩
            rw [e]
            exact ⟨rfl, rfl, h10⟩
      · intro j5 hj5
        repeat ((first | (with_reducible first | refine w_ltA ?_ | refine w_ltS ?_ | refine w_ltM ?_ | refine w_ltN ?_ | refine w_lt ?_ | refine w_jn ?_ | refine w_ck (by omega) (by assumption) ?_ | refine w_gI (by omega) (by assumption) ?_ | refine w_gR (by omega) (by assumption) (by assumption) ?_ | refine w_al (by omega) (by assumption) (by assumption) ?_ | refine w_pI (by omega) (by assumption) ?_ | refine w_set (by omega) (by assumption) (by omega) (by omega) ?_ | refine w_at (by omega) (by assumption) (by omega) (by omega) ?_ | refine w_sI (by omega) (by assumption) (by omega) (by omega) ?_ | refine w_aI (by omega) (by assumption) (by omega) (by omega) ?_ | refine w_sZ (by omega) (by assumption) (by omega) (by omega) (by decide) ?_ | refine w_pZ (by omega) (by assumption) (by decide) ?_ | refine w_dv (by omega) (by omega) (by omega) (by omega) ?_ | refine w_rm (by omega) (by omega) (by omega) (by omega) ?_) | ((with_reducible refine w_pos ?_ ?_); focus (first | assumption | trivial | exact (ile (by omega) (by omega) (by omega) (by omega)).2 (by omega) | exact (ilt (by omega) (by omega) (by omega) (by omega)).2 (by omega) | exact (ieq (by omega) (by omega) (by omega) (by omega)).2 (by omega))) | ((with_reducible refine w_neg ?_ ?_); focus (first | assumption | exact not_false | trivial | exact mt (ile (by omega) (by omega) (by omega) (by omega)).1 (by omega) | exact mt (ilt (by omega) (by omega) (by omega) (by omega)).1 (by omega) | exact mt (ieq (by omega) (by omega) (by omega) (by omega)).1 (by omega)))); skip)
        exact hj5 _ trivial
    · intro j4 hj4
      repeat ((first | (with_reducible first | refine w_ltA ?_ | refine w_ltS ?_ | refine w_ltM ?_ | refine w_ltN ?_ | refine w_lt ?_ | refine w_jn ?_ | refine w_ck (by omega) (by assumption) ?_ | refine w_gI (by omega) (by assumption) ?_ | refine w_gR (by omega) (by assumption) (by assumption) ?_ | refine w_al (by omega) (by assumption) (by assumption) ?_ | refine w_pI (by omega) (by assumption) ?_ | refine w_set (by omega) (by assumption) (by omega) (by omega) ?_ | refine w_at (by omega) (by assumption) (by omega) (by omega) ?_ | refine w_sI (by omega) (by assumption) (by omega) (by omega) ?_ | refine w_aI (by omega) (by assumption) (by omega) (by omega) ?_ | refine w_sZ (by omega) (by assumption) (by omega) (by omega) (by decide) ?_ | refine w_pZ (by omega) (by assumption) (by decide) ?_ | refine w_dv (by omega) (by omega) (by omega) (by omega) ?_ | refine w_rm (by omega) (by omega) (by omega) (by omega) ?_) | ((with_reducible refine w_pos ?_ ?_); focus (first | assumption | trivial | exact (ile (by omega) (by omega) (by omega) (by omega)).2 (by omega) | exact (ilt (by omega) (by omega) (by omega) (by omega)).2 (by omega) | exact (ieq (by omega) (by omega) (by omega) (by omega)).2 (by omega))) | ((with_reducible refine w_neg ?_ ?_); focus (first | assumption | exact not_false | trivial | exact mt (ile (by omega) (by omega) (by omega) (by omega)).1 (by omega) | exact mt (ilt (by omega) (by omega) (by omega) (by omega)).1 (by omega) | exact mt (ieq (by omega) (by omega) (by omega) (by omega)).1 (by omega)))); skip)
      exact hj4 _ rfl
  · intro j2 hj2
    repeat ((first | (with_reducible first | refine w_ltA ?_ | refine w_ltS ?_ | refine w_ltM ?_ | refine w_ltN ?_ | refine w_lt ?_ | refine w_jn ?_ | refine w_ck (by omega) (by assumption) ?_ | refine w_gI (by omega) (by assumption) ?_ | refine w_gR (by omega) (by assumption) (by assumption) ?_ | refine w_al (by omega) (by assumption) (by assumption) ?_ | refine w_pI (by omega) (by assumption) ?_ | refine w_set (by omega) (by assumption) (by omega) (by omega) ?_ | refine w_at (by omega) (by assumption) (by omega) (by omega) ?_ | refine w_sI (by omega) (by assumption) (by omega) (by omega) ?_ | refine w_aI (by omega) (by assumption) (by omega) (by omega) ?_ | refine w_sZ (by omega) (by assumption) (by omega) (by omega) (by decide) ?_ | refine w_pZ (by omega) (by assumption) (by decide) ?_ | refine w_dv (by omega) (by omega) (by omega) (by omega) ?_ | refine w_rm (by omega) (by omega) (by omega) (by omega) ?_) | ((with_reducible refine w_pos ?_ ?_); focus (first | assumption | trivial | exact (ile (by omega) (by omega) (by omega) (by omega)).2 (by omega) | exact (ilt (by omega) (by omega) (by omega) (by omega)).2 (by omega) | exact (ieq (by omega) (by omega) (by omega) (by omega)).2 (by omega))) | ((with_reducible refine w_neg ?_ ?_); focus (first | assumption | exact not_false | trivial | exact mt (ile (by omega) (by omega) (by omega) (by omega)).1 (by omega) | exact mt (ilt (by omega) (by omega) (by omega) (by omega)).1 (by omega) | exact mt (ieq (by omega) (by omega) (by omega) (by omega)).1 (by omega)))); skip)
    exact hj2 _ rfl
set_option maxHeartbeats 4000000 in
theorem scriptLine_13 (hR : RQ R) (hx : TXR I T n) (ht : Tok T n) (hk : TkR I J T n i) (hin : i ≤ n) (hw : I 373 11 = iI w) (hwb : -1 ≤ w ∧ w ≤ n) (h18 : I 373 18 = iI (m : Nat)) (hm : m < 90) (hv : vbH T n i 4 10 = (13 : Nat)) (hvb : vB T n i 13 = true) : En (fun y => ∃ I' J', y.2 = (381, I', J', R) ∧ TXR I' T n ∧ GQ I I' ∧ ((vbH T n i 4 10 = -1 ∧ y.1 = iI 0 ∧ I' 373 10 = iI (tS T n i : Nat)) ∨ ∃ v : Nat, vbH T n i 4 10 = v ∧ v < 14 ∧ vB T n i v = true ∧ (((lnV T n v i w).1 = true ∧ y.1 = iI 1 ∧ TkR I' J' T n (lnV T n v i w).2.1 ∧ I' 373 11 = iI (lnV T n v i w).2.2.1 ∧ I' 373 18 = iI ((m + 1 : Nat) : Int) ∧ LNr I' J' m (v, (lnV T n v i w).2.2.2 0, (lnV T n v i w).2.2.2 1) ∧ ∀ k, k < m → J' 378 k = J 378 k ∧ I' 379 (2 * k) = I 379 (2 * k) ∧ I' 379 (2 * k + 1) = I 379 (2 * k + 1)) ∨ ((lnV T n v i w).1 = false ∧ y.1 = iI 0 ∧ I' 373 10 = iI (tS T n (lnV T n v i w).2.1 : Nat))))) (f_X9_scriptLine (381, I, J, R) 373 (wOf T n i)) := by
  have k374 := kd_374
  obtain ⟨k378, l378, k379, l379, k380, l380⟩ := kd_378
  obtain ⟨-, -, -, r12, r16, r17, -⟩ := id hR
  have hE := tE_b (T := T) hin
  have hE2 := tE_b (T := T) hE.2.1
  obtain ⟨q1, q2, q3, q4, q5⟩ := id hk
  have hcv := fun v' h => cmp_v (T := T) (n := n) (i := i) (v := 13) (by omega) hvb v' h
  have c4 : ¬ lg_cmp (wOf T n i) 1953063787 = iI 0 := mt (hcv 4 (by omega)).1 (by omega)
  have c5 : ¬ lg_cmp (wOf T n i) 1952541541 = iI 0 := mt (hcv 5 (by omega)).1 (by omega)
  have c6 : ¬ lg_cmp (wOf T n i) 7370100 = iI 0 := mt (hcv 6 (by omega)).1 (by omega)
  have c7 : ¬ lg_cmp (wOf T n i) 6647396 = iI 0 := mt (hcv 7 (by omega)).1 (by omega)
  have c8 : ¬ lg_cmp (wOf T n i) 1685221232 = iI 0 := mt (hcv 8 (by omega)).1 (by omega)
  have c9 : ¬ lg_cmp (wOf T n i) 1937203568 = iI 0 := mt (hcv 9 (by omega)).1 (by omega)
  have c10 : ¬ lg_cmp (wOf T n i) 439956431717 = iI 0 := mt (hcv 10 (by omega)).1 (by omega)
  have c11 : ¬ lg_cmp (wOf T n i) 1919246692 = iI 0 := mt (hcv 11 (by omega)).1 (by omega)
  have c12 : ¬ lg_cmp (wOf T n i) 1835103083 = iI 0 := mt (hcv 12 (by omega)).1 (by omega)
  have c13 : lg_cmp (wOf T n i) 125780053555813 = iI 0 := (hcv 13 (by omega)).2 rfl
  rw [u_X9_scriptLine]
  refine w_lt ?_
  refine w_jnP (fun x => x = iI 0) ?_ ?_
  · rintro x rfl
    refine w_lt ?_
    refine w_jnP (fun x => x = iI 0) ?_ ?_
    · rintro x rfl
      refine w_jnP (fun _ => True) ?_ ?_
      · intro _ _
        refine w_ck (by omega) k374 ?_
        refine w_cV (token_Q (J := J) (i := tE T n i) hR hx ht q1 hE.2.1) ?_
        rintro S ⟨I1, J1, rfl, hF1, hk1⟩
        refine w_gR (by omega) k374 r12 ?_
        refine w_sI (by omega) k378 (by omega) (by omega) ?_
        refine w_gR (by omega) k374 r12 ?_
        refine w_sI (by omega) k378 (by omega) (by omega) ?_
        have hB2 : BFq I (up (up I1 377 (Int.toNat 0) (iI 0)) 377 (Int.toNat 1) (iI 0)) J J1 T n m := by
          have hx1 := hF1.x hx
          exact ⟨⟨by rw [up_ne (by omega), up_ne (by omega)]; exact hx1.1, fun i hi => by rw [up_ne (by omega), up_ne (by omega)]; exact hx1.2 i hi⟩, gq_u (gq_u (ft_g hF1) (by omega)) (by omega), by rw [up_ne (by omega), up_ne (by omega), hF1.1 _ _ (by omega)]; exact h18, fun k => hF1.2 _ _ (by omega), fun k => by rw [up_ne (by omega), up_ne (by omega)]; exact hF1.1 _ _ (by omega)⟩
        have hk2 : TkR (up (up I1 377 (Int.toNat 0) (iI 0)) 377 (Int.toNat 1) (iI 0)) J1 T n (tE T n i) := tkr_u (tkr_u hk1 (by omega)) (by omega)
        have hw2 : up (up I1 377 (Int.toNat 0) (iI 0)) 377 (Int.toNat 1) (iI 0) 373 11 = iI w := by
          rw [up_ne (by omega), up_ne (by omega), hF1.1 _ _ (by omega)]
          exact hw
        have z0 : up (up I1 377 (Int.toNat 0) (iI 0)) 377 (Int.toNat 1) (iI 0) 377 0 = iI 0 := rfl
        have z1 : up (up I1 377 (Int.toNat 0) (iI 0)) 377 (Int.toNat 1) (iI 0) 377 1 = iI 0 := rfl
        generalize up (up I1 377 (Int.toNat 0) (iI 0)) 377 (Int.toNat 1) (iI 0) = I2 at *
        refine w_jnP (fun (x : Int32 × St) => ∃ I' J', x.2 = (381, I', J', R) ∧ BFq I I' J J' T n m ∧ STq I' J' T n (ntN T n 13 1 0 (tE T n i) w fun _ => 0) x.1) ?_ ?_
        · rintro ⟨b, S⟩ ⟨I3, J3, h3, hB3, hst3⟩
          have h3 : S = (381, I3, J3, R) := h3
          subst h3
          have hst3 : STq I3 J3 T n (ntN T n 13 1 0 (tE T n i) w fun _ => 0) b := hst3
          refine w_jnP (fun (x : Int32 × St) => ∃ I' J', x.2 = (381, I', J', R) ∧ BFq I I' J J' T n m ∧ STq I' J' T n (lnV T n 13 i w) x.1) ?_ ?_
          · rintro ⟨b, S⟩ ⟨I4, J4, h4, hB4, hst4⟩
            have h4 : S = (381, I4, J4, R) := h4
            subst h4
            have hst4 : STq I4 J4 T n (lnV T n 13 i w) b := hst4
            refine final_Q (b := b) hR hB4 hm (by rcases hst4 with h | h; exact Or.inr h.2.1; exact Or.inl h.2.1) ?_
            intro I5 J5 g1 g2 g3 g4 g5 g6 g7 g8 g9
            refine ⟨I5, J5, rfl, g1, g2, Or.inr ⟨13, hv, by omega, hvb, ?_⟩⟩
            rcases hst4 with ⟨s1, s2, s3, s4, s5, s6⟩ | ⟨s1, s2, s3⟩
            · exact Or.inl ⟨s1, s2, g3 _ s3, g4.2.trans s4, g5, ⟨g6.trans ((wOf_iff (by omega)).2 hvb), g7.trans s5, g8.trans s6⟩, g9⟩
            · exact Or.inr ⟨s1, s2, g4.1.trans s3⟩
          · intro j12 hj12
            rcases hst3 with ⟨s1, rfl, s3⟩ | ⟨s1, rfl, s3⟩
            · refine w_jn ?_
              refine w_neg (show ¬ (iI 1 = iI 0) by decide) ?_
              refine w_jn ?_
              refine w_pos (by decide) ?_
              exact hj12 _ ⟨I3, J3, rfl, hB3, Or.inl ⟨s1, rfl, s3⟩⟩
            · refine w_jn ?_
              refine w_pos rfl ?_
              exact hj12 _ ⟨I3, J3, rfl, hB3, Or.inr ⟨s1, rfl, s3⟩⟩
        · intro j11 hj11
          refine w_jnP (fun x => ∃ I' J', x = (381, I', J', R) ∧ BFq I I' J J' T n m ∧ STq I' J' T n (ntN T n 13 1 0 (tE T n i) w fun _ => 0) (iI 1)) ?_ ?_
          · rintro x ⟨I3, J3, rfl, hB3, hst3⟩
            exact hj11 _ ⟨I3, J3, rfl, hB3, hst3⟩
          intro j39 hj39
          refine w_pos rfl ?_
          refine w_lt ?_
          refine w_jnP (fun x => ∃ I' J', x = (381, I', J', R) ∧ BFq I I' J J' T n m ∧ STq I' J' T n (ntN T n 13 1 0 (tE T n i) w fun _ => 0) (iI 0)) ?_ ?_
          · rintro x ⟨I3, J3, rfl, hB3, hst3⟩
            exact hj11 _ ⟨I3, J3, rfl, hB3, hst3⟩
          intro j41 hj41
          repeat ((first | (with_reducible first | refine w_ltA ?_ | refine w_ltS ?_ | refine w_ltM ?_ | refine w_ltN ?_ | refine w_lt ?_ | refine w_jn ?_ | refine w_ck (by omega) (by assumption) ?_ | refine w_gI (by omega) (by assumption) ?_ | refine w_gR (by omega) (by assumption) (by assumption) ?_ | refine w_al (by omega) (by assumption) (by assumption) ?_ | refine w_pI (by omega) (by assumption) ?_ | refine w_set (by omega) (by assumption) (by omega) (by omega) ?_ | refine w_at (by omega) (by assumption) (by omega) (by omega) ?_ | refine w_sI (by omega) (by assumption) (by omega) (by omega) ?_ | refine w_aI (by omega) (by assumption) (by omega) (by omega) ?_ | refine w_sZ (by omega) (by assumption) (by omega) (by omega) (by decide) ?_ | refine w_pZ (by omega) (by assumption) (by decide) ?_ | refine w_dv (by omega) (by omega) (by omega) (by omega) ?_ | refine w_rm (by omega) (by omega) (by omega) (by omega) ?_) | ((with_reducible refine w_pos ?_ ?_); focus (first | assumption | trivial | exact (ile (by omega) (by omega) (by omega) (by omega)).2 (by omega) | exact (ilt (by omega) (by omega) (by omega) (by omega)).2 (by omega) | exact (ieq (by omega) (by omega) (by omega) (by omega)).2 (by omega))) | ((with_reducible refine w_neg ?_ ?_); focus (first | assumption | exact not_false | trivial | exact mt (ile (by omega) (by omega) (by omega) (by omega)).1 (by omega) | exact mt (ilt (by omega) (by omega) (by omega) (by omega)).1 (by omega) | exact mt (ieq (by omega) (by omega) (by omega) (by omega)).1 (by omega)))); skip)
          refine w_cI (takes_Q (J := J1) (k := 0) (a := 2) (b := 6) hR hB2.1 ht hk2 hE.2.1 (by omega) hw2 hwb (by omega) (by omega)) ?_
          rintro y S ⟨I3, J3, rfl, hF3, (⟨h2, rfl, hk3, h11, h8⟩ | ⟨h2, rfl, h10⟩)⟩
          · repeat ((first | (with_reducible first | refine w_ltA ?_ | refine w_ltS ?_ | refine w_ltM ?_ | refine w_ltN ?_ | refine w_lt ?_ | refine w_jn ?_ | refine w_ck (by omega) (by assumption) ?_ | refine w_gI (by omega) (by assumption) ?_ | refine w_gR (by omega) (by assumption) (by assumption) ?_ | refine w_al (by omega) (by assumption) (by assumption) ?_ | refine w_pI (by omega) (by assumption) ?_ | refine w_set (by omega) (by assumption) (by omega) (by omega) ?_ | refine w_at (by omega) (by assumption) (by omega) (by omega) ?_ | refine w_sI (by omega) (by assumption) (by omega) (by omega) ?_ | refine w_aI (by omega) (by assumption) (by omega) (by omega) ?_ | refine w_sZ (by omega) (by assumption) (by omega) (by omega) (by decide) ?_ | refine w_pZ (by omega) (by assumption) (by decide) ?_ | refine w_dv (by omega) (by omega) (by omega) (by omega) ?_ | refine w_rm (by omega) (by omega) (by omega) (by omega) ?_) | ((with_reducible refine w_pos ?_ ?_); focus (first | assumption | trivial | exact (ile (by omega) (by omega) (by omega) (by omega)).2 (by omega) | exact (ilt (by omega) (by omega) (by omega) (by omega)).2 (by omega) | exact (ieq (by omega) (by omega) (by omega) (by omega)).2 (by omega))) | ((with_reducible refine w_neg ?_ ?_); focus (first | assumption | exact not_false | trivial | exact mt (ile (by omega) (by omega) (by omega) (by omega)).1 (by omega) | exact mt (ilt (by omega) (by omega) (by omega) (by omega)).1 (by omega) | exact mt (ieq (by omega) (by omega) (by omega) (by omega)).1 (by omega)))); skip)
            have e : (ntN T n 13 1 0 (tE T n i) w fun _ => 0) = (true, tE T n (tE T n i), nmW T n 13 0 (tE T n i) w, fun k => if k = 0 then tN T n (tE T n i) else 0) := if_pos h2
            refine hj39 _ ⟨I3, J3, rfl, bfq_k hB2 hF3, Or.inl ?_⟩
            rw [e]
            exact ⟨rfl, rfl, hk3, h11, h8, (hF3.1 377 1 (by omega) (by omega)).trans z1⟩
          · repeat ((first | (with_reducible first | refine w_ltA ?_ | refine w_ltS ?_ | refine w_ltM ?_ | refine w_ltN ?_ | refine w_lt ?_ | refine w_jn ?_ | refine w_ck (by omega) (by assumption) ?_ | refine w_gI (by omega) (by assumption) ?_ | refine w_gR (by omega) (by assumption) (by assumption) ?_ | refine w_al (by omega) (by assumption) (by assumption) ?_ | refine w_pI (by omega) (by assumption) ?_ | refine w_set (by omega) (by assumption) (by omega) (by omega) ?_ | refine w_at (by omega) (by assumption) (by omega) (by omega) ?_ | refine w_sI (by omega) (by assumption) (by omega) (by omega) ?_ | refine w_aI (by omega) (by assumption) (by omega) (by omega) ?_ | refine w_sZ (by omega) (by assumption) (by omega) (by omega) (by decide) ?_ | refine w_pZ (by omega) (by assumption) (by decide) ?_ | refine w_dv (by omega) (by omega) (by omega) (by omega) ?_ | refine w_rm (by omega) (by omega) (by omega) (by omega) ?_) | ((with_reducible refine w_pos ?_ ?_); focus (first | assumption | trivial | exact (ile (by omega) (by omega) (by omega) (by omega)).2 (by omega) | exact (ilt (by omega) (by omega) (by omega) (by omega)).2 (by omega) | exact (ieq (by omega) (by omega) (by omega) (by omega)).2 (by omega))) | ((with_reducible refine w_neg ?_ ?_); focus (first | assumption | exact not_false | trivial | exact mt (ile (by omega) (by omega) (by omega) (by omega)).1 (by omega) | exact mt (ilt (by omega) (by omega) (by omega) (by omega)).1 (by omega) | exact mt (ieq (by omega) (by omega) (by omega) (by omega)).1 (by omega)))); skip)
            have e : (ntN T n 13 1 0 (tE T n i) w fun _ => 0) = (false, tE T n i, w, fun _ => 0) := if_neg h2
            refine hj41 _ ⟨I3, J3, rfl, bfq_k hB2 hF3, Or.inr ?_⟩
            rw [e]
            exact ⟨rfl, rfl, h10⟩
      · intro j5 hj5
        repeat ((first | (with_reducible first | refine w_ltA ?_ | refine w_ltS ?_ | refine w_ltM ?_ | refine w_ltN ?_ | refine w_lt ?_ | refine w_jn ?_ | refine w_ck (by omega) (by assumption) ?_ | refine w_gI (by omega) (by assumption) ?_ | refine w_gR (by omega) (by assumption) (by assumption) ?_ | refine w_al (by omega) (by assumption) (by assumption) ?_ | refine w_pI (by omega) (by assumption) ?_ | refine w_set (by omega) (by assumption) (by omega) (by omega) ?_ | refine w_at (by omega) (by assumption) (by omega) (by omega) ?_ | refine w_sI (by omega) (by assumption) (by omega) (by omega) ?_ | refine w_aI (by omega) (by assumption) (by omega) (by omega) ?_ | refine w_sZ (by omega) (by assumption) (by omega) (by omega) (by decide) ?_ | refine w_pZ (by omega) (by assumption) (by decide) ?_ | refine w_dv (by omega) (by omega) (by omega) (by omega) ?_ | refine w_rm (by omega) (by omega) (by omega) (by omega) ?_) | ((with_reducible refine w_pos ?_ ?_); focus (first | assumption | trivial | exact (ile (by omega) (by omega) (by omega) (by omega)).2 (by omega) | exact (ilt (by omega) (by omega) (by omega) (by omega)).2 (by omega) | exact (ieq (by omega) (by omega) (by omega) (by omega)).2 (by omega))) | ((with_reducible refine w_neg ?_ ?_); focus (first | assumption | exact not_false | trivial | exact mt (ile (by omega) (by omega) (by omega) (by omega)).1 (by omega) | exact mt (ilt (by omega) (by omega) (by omega) (by omega)).1 (by omega) | exact mt (ieq (by omega) (by omega) (by omega) (by omega)).1 (by omega)))); skip)
        exact hj5 _ trivial
    · intro j4 hj4
      repeat ((first | (with_reducible first | refine w_ltA ?_ | refine w_ltS ?_ | refine w_ltM ?_ | refine w_ltN ?_ | refine w_lt ?_ | refine w_jn ?_ | refine w_ck (by omega) (by assumption) ?_ | refine w_gI (by omega) (by assumption) ?_ | refine w_gR (by omega) (by assumption) (by assumption) ?_ | refine w_al (by omega) (by assumption) (by assumption) ?_ | refine w_pI (by omega) (by assumption) ?_ | refine w_set (by omega) (by assumption) (by omega) (by omega) ?_ | refine w_at (by omega) (by assumption) (by omega) (by omega) ?_ | refine w_sI (by omega) (by assumption) (by omega) (by omega) ?_ | refine w_aI (by omega) (by assumption) (by omega) (by omega) ?_ | refine w_sZ (by omega) (by assumption) (by omega) (by omega) (by decide) ?_ | refine w_pZ (by omega) (by assumption) (by decide) ?_ | refine w_dv (by omega) (by omega) (by omega) (by omega) ?_ | refine w_rm (by omega) (by omega) (by omega) (by omega) ?_) | ((with_reducible refine w_pos ?_ ?_); focus (first | assumption | trivial | exact (ile (by omega) (by omega) (by omega) (by omega)).2 (by omega) | exact (ilt (by omega) (by omega) (by omega) (by omega)).2 (by omega) | exact (ieq (by omega) (by omega) (by omega) (by omega)).2 (by omega))) | ((with_reducible refine w_neg ?_ ?_); focus (first | assumption | exact not_false | trivial | exact mt (ile (by omega) (by omega) (by omega) (by omega)).1 (by omega) | exact mt (ilt (by omega) (by omega) (by omega) (by omega)).1 (by omega) | exact mt (ieq (by omega) (by omega) (by omega) (by omega)).1 (by omega)))); skip)
      exact hj4 _ rfl
  · intro j2 hj2
    repeat ((first | (with_reducible first | refine w_ltA ?_ | refine w_ltS ?_ | refine w_ltM ?_ | refine w_ltN ?_ | refine w_lt ?_ | refine w_jn ?_ | refine w_ck (by omega) (by assumption) ?_ | refine w_gI (by omega) (by assumption) ?_ | refine w_gR (by omega) (by assumption) (by assumption) ?_ | refine w_al (by omega) (by assumption) (by assumption) ?_ | refine w_pI (by omega) (by assumption) ?_ | refine w_set (by omega) (by assumption) (by omega) (by omega) ?_ | refine w_at (by omega) (by assumption) (by omega) (by omega) ?_ | refine w_sI (by omega) (by assumption) (by omega) (by omega) ?_ | refine w_aI (by omega) (by assumption) (by omega) (by omega) ?_ | refine w_sZ (by omega) (by assumption) (by omega) (by omega) (by decide) ?_ | refine w_pZ (by omega) (by assumption) (by decide) ?_ | refine w_dv (by omega) (by omega) (by omega) (by omega) ?_ | refine w_rm (by omega) (by omega) (by omega) (by omega) ?_) | ((with_reducible refine w_pos ?_ ?_); focus (first | assumption | trivial | exact (ile (by omega) (by omega) (by omega) (by omega)).2 (by omega) | exact (ilt (by omega) (by omega) (by omega) (by omega)).2 (by omega) | exact (ieq (by omega) (by omega) (by omega) (by omega)).2 (by omega))) | ((with_reducible refine w_neg ?_ ?_); focus (first | assumption | exact not_false | trivial | exact mt (ile (by omega) (by omega) (by omega) (by omega)).1 (by omega) | exact mt (ilt (by omega) (by omega) (by omega) (by omega)).1 (by omega) | exact mt (ieq (by omega) (by omega) (by omega) (by omega)).1 (by omega)))); skip)
    exact hj2 _ rfl
theorem scriptLine_Q (hR : RQ R) (hx : TXR I T n) (ht : Tok T n) (hk : TkR I J T n i) (hin : i ≤ n) (hw : I 373 11 = iI w) (hwb : -1 ≤ w ∧ w ≤ n) (h18 : I 373 18 = iI (m : Nat)) (hm : m < 90) : En (fun y => ∃ I' J', y.2 = (381, I', J', R) ∧ TXR I' T n ∧ GQ I I' ∧ ((vbH T n i 4 10 = -1 ∧ y.1 = iI 0 ∧ I' 373 10 = iI (tS T n i : Nat)) ∨ ∃ v : Nat, vbH T n i 4 10 = v ∧ v < 14 ∧ vB T n i v = true ∧ (((lnV T n v i w).1 = true ∧ y.1 = iI 1 ∧ TkR I' J' T n (lnV T n v i w).2.1 ∧ I' 373 11 = iI (lnV T n v i w).2.2.1 ∧ I' 373 18 = iI ((m + 1 : Nat) : Int) ∧ LNr I' J' m (v, (lnV T n v i w).2.2.2 0, (lnV T n v i w).2.2.2 1) ∧ ∀ k, k < m → J' 378 k = J 378 k ∧ I' 379 (2 * k) = I 379 (2 * k) ∧ I' 379 (2 * k + 1) = I 379 (2 * k + 1)) ∨ ((lnV T n v i w).1 = false ∧ y.1 = iI 0 ∧ I' 373 10 = iI (tS T n (lnV T n v i w).2.1 : Nat))))) (f_X9_scriptLine (381, I, J, R) 373 (wOf T n i)) := by
  by_cases hN : vbH T n i 4 10 = -1
  · exact scriptLine_N hR hx ht hk hin hw hwb h18 hm hN
  obtain ⟨v, hv, hv1, hv2, hvb⟩ := vbH_is _ _ hN
  rcases (show v = 4 ∨ v = 5 ∨ v = 6 ∨ v = 7 ∨ v = 8 ∨ v = 9 ∨ v = 10 ∨ v = 11 ∨ v = 12 ∨ v = 13 by omega) with rfl | rfl | rfl | rfl | rfl | rfl | rfl | rfl | rfl | rfl
  · exact scriptLine_4 hR hx ht hk hin hw hwb h18 hm hv hvb
  · exact scriptLine_5 hR hx ht hk hin hw hwb h18 hm hv hvb
  · exact scriptLine_6 hR hx ht hk hin hw hwb h18 hm hv hvb
  · exact scriptLine_7 hR hx ht hk hin hw hwb h18 hm hv hvb
  · exact scriptLine_8 hR hx ht hk hin hw hwb h18 hm hv hvb
  · exact scriptLine_9 hR hx ht hk hin hw hwb h18 hm hv hvb
  · exact scriptLine_10 hR hx ht hk hin hw hwb h18 hm hv hvb
  · exact scriptLine_11 hR hx ht hk hin hw hwb h18 hm hv hvb
  · exact scriptLine_12 hR hx ht hk hin hw hwb h18 hm hv hvb
  · exact scriptLine_13 hR hx ht hk hin hw hwb h18 hm hv hvb
end RDA
