/-! THE CALLS: texts read, images -/
def rinA (P : Int × Int × Nat × LN) : Int := if P.1 = 0 then (fdV P.2.2.2 P.2.2.1).1 * (fdV P.2.2.2 P.2.2.1).2.1 else -1
def rinV (V : RV) (P : Int × Int × Nat × LN) : RV := if P.1 = 0 then begV V (fdV P.2.2.2 P.2.2.1).1 (fdV P.2.2.2 P.2.2.1).2.1 (fdV P.2.2.2 P.2.2.1).2.2 else V
def scrA (V : RV) (P : Int × Int × Nat × LN) : Int := if P.1 = 0 then ((runV P.2.2.2 P.2.2.1 0 V).1 : Nat) else -1
def scrV (V : RV) (P : Int × Int × Nat × LN) : RV := if P.1 = 0 then (runV P.2.2.2 P.2.2.1 0 V).2 else V
def KC (I I' : MI) : Prop := ∀ a k, (72 ≤ a ∧ a < 143) ∨ 149 < a → I' a k = I a k
theorem cr_same {r : Nat} {σ : Nat → Nat} {I I' : MI} {R : MR} {V : RV} (h : CR I R r σ V) (hI : ∀ a k, r ≤ a → a ≤ r + 70 → I' a k = I a k) : CR I' R r σ V := by
  obtain ⟨h1, hpp, hgg⟩ := h
  refine ⟨h1, fun p hp f k hv => ?_, fun g k hv => ?_⟩
  · have := pa_in (r := r) (h1.2.2.2.2.2.2.2.2.2.2.1 p hp)
    have := vld_f hv
    rw [hI _ _ (by omega) (by omega)]
    exact hpp p hp f k hv
  · have := vldR_g hv
    rw [hI _ _ (by omega) (by omega)]
    exact hgg g k hv
theorem fd_ok {L : LN} {m : Nat} (h : ∀ k, k < m → lnOk 0 3 (L k)) : (2 ≤ (fdV L m).1 ∧ (fdV L m).1 ≤ 6) ∧ (12 ≤ (fdV L m).2.1 ∧ (fdV L m).2.1 ≤ 32) ∧ ((fdV L m).2.2 = 0 ∨ (fdV L m).2.2 = 1) := by
  induction m with
  | zero => exact ⟨⟨(by decide : (2 : Int) ≤ 3), (by decide : (3 : Int) ≤ 6)⟩, ⟨(by decide : (12 : Int) ≤ 16), (by decide : (16 : Int) ≤ 32)⟩, Or.inr rfl⟩
  | succ m ih =>
    have ih := ih fun k hk => h k (by omega)
    have hm := h m (by omega)
    generalize hx : L m = x at *
    rw [fdV_s, hx]
    obtain ⟨v, a, b⟩ := x
    obtain ⟨o1, o2, o3, -⟩ := hm
    have o2 : v ≤ 3 := o2
    have o3 : 1 ≤ nOf v → canB v 0 a := o3
    show (2 ≤ (fdS (fdV L m) v a).1 ∧ (fdS (fdV L m) v a).1 ≤ 6) ∧ (12 ≤ (fdS (fdV L m) v a).2.1 ∧ (fdS (fdV L m) v a).2.1 ≤ 32) ∧ ((fdS (fdV L m) v a).2.2 = 0 ∨ (fdS (fdV L m) v a).2.2 = 1)
    rcases (show v = 0 ∨ v = 1 ∨ v = 2 ∨ v = 3 by omega) with rfl | rfl | rfl | rfl
    · exact ⟨o3 (by decide), ih.2⟩
    · exact ⟨ih.1, o3 (by decide), ih.2.2⟩
    · exact ⟨ih.1, ih.2.1, Or.inr rfl⟩
    · exact ⟨ih.1, ih.2.1, Or.inl rfl⟩
theorem pS_ok {T : TX} {n lo hi : Nat} (ht : Tok T n) (hhi : hi < 14) (h : (pS0 T n lo hi).1 = 0) : ∀ k, k < (pS0 T n lo hi).2.2.1 → lnOk lo hi ((pS0 T n lo hi).2.2.2 k) := by
  have hn := ht.1
  exact ps_ok 90 0 (-1) 0 _ (by omega) (by omega) hhi (fun _ k hk => by omega) h ⟨by omega, by omega⟩
theorem wr_rin {T : TX} {n : Nat} {V : RV} (ht : Tok T n) (hw : WR V) : WR (rinV V (pS0 T n 0 3)) := by
  unfold rinV
  by_cases h : (pS0 T n 0 3).1 = 0
  · rw [if_pos h]
    have hf := fd_ok (pS_ok ht (by omega) h)
    exact wr_bg hw hf.1 hf.2.1 hf.2.2
  · rw [if_neg h]
    exact hw
theorem wn_rin {P : Int × Int × Nat × LN} {V : RV} (h : WN V) : WN (rinV V P) ∧ (rinV V P).2 5 6 ≤ V.2 5 6 := by
  unfold rinV
  by_cases h0 : P.1 = 0
  · rw [if_pos h0]
    exact ⟨wn_beg, h.1⟩
  · rw [if_neg h0]
    exact ⟨h, Int.le_refl _⟩
theorem psV_fl {T : TX} {n lo hi : Nat} : ∀ (d i : Nat) (w : Int) (m : Nat) (L : LN), (psV T n lo hi d i w m L).1 = 0 ∨ (psV T n lo hi d i w m L).1 = 1 ∨ (psV T n lo hi d i w m L).1 = 2
  | 0, i, w, m, L => Or.inl rfl
  | d + 1, i, w, m, L => by
    unfold psV
    split
    · show (if w = -1 then (0 : Int) else 2) = 0 ∨ (if w = -1 then (0 : Int) else 2) = 1 ∨ (if w = -1 then (0 : Int) else 2) = 2
      split
      · exact Or.inl rfl
      · exact Or.inr (Or.inr rfl)
    split
    · exact Or.inr (Or.inl rfl)
    split
    · exact psV_fl d _ _ _ _
    · exact Or.inr (Or.inl rfl)
theorem ps_fl {T : TX} {n lo hi : Nat} : (pS0 T n lo hi).1 = 0 ∨ (pS0 T n lo hi).1 = 1 ∨ (pS0 T n lo hi).1 = 2 := psV_fl 90 0 (-1) 0 _
section TXS
variable {I I0 : MI} {J : MJ} {R : MR} {α γ : Type} {Q : γ → Prop} {σ σs σk π : Nat → Nat} {V Vk : RV} {T : TX} {n : Nat} {fl pl : Int}
theorem ring_X (hRC : RC R) (hc : CR I R 1 σ V) (hx : TXC I T n) (ht : Tok T n) : En (fun y => y.1 = iI (rinA (pS0 T n 0 3)) ∧ ∃ I', y.2 = (381, I', J, R) ∧ CR I' R 1 σ (rinV V (pS0 T n 0 3)) ∧ KC I I' ∧ I' 143 1 = iI 0 ∧ I' 143 2 = iI (pS0 T n 0 3).1 ∧ I' 143 3 = iI (pS0 T n 0 3).2.1) (f_X8_ring (381, I, J, R) 0) := by
  have k0 := kd_0
  have k1 := rg_1.2.1
  have k143 := kd_143
  have k145 := kd_145
  obtain ⟨r0, -, r2, r3, -⟩ := id hRC
  rw [u_X8_ring]
  repeat ((first | (with_reducible first | refine w_ltA ?_ | refine w_ltS ?_ | refine w_ltM ?_ | refine w_ltN ?_ | refine w_lt ?_ | refine w_jn ?_ | refine w_ck (by omega) (by assumption) ?_ | refine w_gI (by omega) (by assumption) ?_ | refine w_gR (by omega) (by assumption) (by assumption) ?_ | refine w_al (by omega) (by assumption) (by assumption) ?_ | refine w_pI (by omega) (by assumption) ?_ | refine w_set (by omega) (by assumption) (by omega) (by omega) ?_ | refine w_at (by omega) (by assumption) (by omega) (by omega) ?_ | refine w_sI (by omega) (by assumption) (by omega) (by omega) ?_ | refine w_aI (by omega) (by assumption) (by omega) (by omega) ?_ | refine w_sZ (by omega) (by assumption) (by omega) (by omega) (by decide) ?_ | refine w_pZ (by omega) (by assumption) (by decide) ?_ | refine w_dv (by omega) (by omega) (by omega) (by omega) ?_ | refine w_rm (by omega) (by omega) (by omega) (by omega) ?_) | ((with_reducible refine w_pos ?_ ?_); focus (first | assumption | trivial | exact (ile (by omega) (by omega) (by omega) (by omega)).2 (by omega) | exact (ilt (by omega) (by omega) (by omega) (by omega)).2 (by omega) | exact (ieq (by omega) (by omega) (by omega) (by omega)).2 (by omega))) | ((with_reducible refine w_neg ?_ ?_); focus (first | assumption | exact not_false | trivial | exact mt (ile (by omega) (by omega) (by omega) (by omega)).1 (by omega) | exact mt (ilt (by omega) (by omega) (by omega) (by omega)).1 (by omega) | exact mt (ieq (by omega) (by omega) (by omega) (by omega)).1 (by omega)))); skip)
  refine w_cI (understand_C (J := J) (lo := 0) (hi := 3) hRC hx ht (by omega) (by omega)) ?_
  rintro y S ⟨I1, rfl, hF, hy, h2, h3, h0⟩
  have hy : y = iI (if (pS0 T n 0 3).1 = 0 then 1 else 0) := hy
  subst hy
  have hc1 : CR I1 R 1 σ V := cr_same hc fun a k a1 a2 => hF a k (by omega) (by omega) (by omega) (by omega) (by omega) (by omega)
  have hK1 : KC I (up I1 143 1 (iI 0)) := fun a k ha => by
    rw [up_ne (by omega)]
    exact hF a k (by omega) (by omega) (by omega) (by omega) (by omega) (by omega)
  have hc2 : CR (up I1 143 1 (iI 0)) R 1 σ V := cr_same hc1 fun a k a1 a2 => up_ne (by omega)
  unfold rinA rinV
  generalize hP : pS0 T n 0 3 = P at *
  refine w_gR (by omega) k0 r2 ?_
  refine w_pI (by omega) k143 ?_
  by_cases hz : P.1 = 0
  · obtain ⟨h5, h80, hL⟩ := h0 hz
    have hok := pS_ok (T := T) (n := n) (lo := 0) (hi := 3) ht (by omega) (by rw [hP]; exact hz)
    rw [hP] at hok
    rw [if_pos hz, if_pos hz, if_pos hz]
    refine w_neg (by decide) ?_
    repeat ((first | (with_reducible first | refine w_ltA ?_ | refine w_ltS ?_ | refine w_ltM ?_ | refine w_ltN ?_ | refine w_lt ?_ | refine w_jn ?_ | refine w_ck (by omega) (by assumption) ?_ | refine w_gI (by omega) (by assumption) ?_ | refine w_gR (by omega) (by assumption) (by assumption) ?_ | refine w_al (by omega) (by assumption) (by assumption) ?_ | refine w_pI (by omega) (by assumption) ?_ | refine w_set (by omega) (by assumption) (by omega) (by omega) ?_ | refine w_at (by omega) (by assumption) (by omega) (by omega) ?_ | refine w_sI (by omega) (by assumption) (by omega) (by omega) ?_ | refine w_aI (by omega) (by assumption) (by omega) (by omega) ?_ | refine w_sZ (by omega) (by assumption) (by omega) (by omega) (by decide) ?_ | refine w_pZ (by omega) (by assumption) (by decide) ?_ | refine w_dv (by omega) (by omega) (by omega) (by omega) ?_ | refine w_rm (by omega) (by omega) (by omega) (by omega) ?_) | ((with_reducible refine w_pos ?_ ?_); focus (first | assumption | trivial | exact (ile (by omega) (by omega) (by omega) (by omega)).2 (by omega) | exact (ilt (by omega) (by omega) (by omega) (by omega)).2 (by omega) | exact (ieq (by omega) (by omega) (by omega) (by omega)).2 (by omega))) | ((with_reducible refine w_neg ?_ ?_); focus (first | assumption | exact not_false | trivial | exact mt (ile (by omega) (by omega) (by omega) (by omega)).1 (by omega) | exact mt (ilt (by omega) (by omega) (by omega) (by omega)).1 (by omega) | exact mt (ieq (by omega) (by omega) (by omega) (by omega)).1 (by omega)))); skip)
    have hfo := found_C (J := J) (V := V) (σ := σ) (r := 1) (I := up I1 143 1 (iI 0)) hRC rg_1 hc2 (m := P.2.2.1) (L := P.2.2.2) (by rw [up_ne (by omega)]; exact h5) h80 (fun k hk => by
      have := hL k hk
      exact ⟨by rw [up_ne (by omega)]; exact this.1, fun h => by rw [up_ne (by omega)]; exact this.2.1 h, fun h => by rw [up_ne (by omega)]; exact this.2.2 h⟩) (fun k hk => by have := (hok k hk).2.1; omega)
    refine w_cV hfo ?_
    rintro S ⟨I2, rfl, hM⟩
    have e8 := cr_s hM.1 8 (by decide)
    have e9 := cr_s hM.1 9 (by decide)
    have e8 : I2 1 8 = iI (fdV P.2.2.2 P.2.2.1).1 := e8
    have e9 : I2 1 9 = iI (fdV P.2.2.2 P.2.2.1).2.1 := e9
    repeat ((first | (with_reducible first | refine w_ltA ?_ | refine w_ltS ?_ | refine w_ltM ?_ | refine w_ltN ?_ | refine w_lt ?_ | refine w_jn ?_ | refine w_ck (by omega) (by assumption) ?_ | refine w_gI (by omega) (by assumption) ?_ | refine w_gR (by omega) (by assumption) (by assumption) ?_ | refine w_al (by omega) (by assumption) (by assumption) ?_ | refine w_pI (by omega) (by assumption) ?_ | refine w_set (by omega) (by assumption) (by omega) (by omega) ?_ | refine w_at (by omega) (by assumption) (by omega) (by omega) ?_ | refine w_sI (by omega) (by assumption) (by omega) (by omega) ?_ | refine w_aI (by omega) (by assumption) (by omega) (by omega) ?_ | refine w_sZ (by omega) (by assumption) (by omega) (by omega) (by decide) ?_ | refine w_pZ (by omega) (by assumption) (by decide) ?_ | refine w_dv (by omega) (by omega) (by omega) (by omega) ?_ | refine w_rm (by omega) (by omega) (by omega) (by omega) ?_) | ((with_reducible refine w_pos ?_ ?_); focus (first | assumption | trivial | exact (ile (by omega) (by omega) (by omega) (by omega)).2 (by omega) | exact (ilt (by omega) (by omega) (by omega) (by omega)).2 (by omega) | exact (ieq (by omega) (by omega) (by omega) (by omega)).2 (by omega))) | ((with_reducible refine w_neg ?_ ?_); focus (first | assumption | exact not_false | trivial | exact mt (ile (by omega) (by omega) (by omega) (by omega)).1 (by omega) | exact mt (ilt (by omega) (by omega) (by omega) (by omega)).1 (by omega) | exact mt (ieq (by omega) (by omega) (by omega) (by omega)).1 (by omega)))); try simp (disch := omega) only [e8, e9])
    refine w_rt ⟨rfl, I2, rfl, hM.1, fun a k ha => ?_, ?_, ?_, ?_⟩
    · rw [hM.2.1 _ _ (by omega)]
      exact hK1 a k ha
    · rw [hM.2.1 _ _ (by omega), up_eq]
    · rw [hM.2.1 _ _ (by omega), up_ne (by omega)]
      exact h2
    · rw [hM.2.1 _ _ (by omega), up_ne (by omega)]
      exact h3
  · rw [if_neg hz, if_neg hz, if_neg hz]
    refine w_pos rfl ?_
    refine w_rt ⟨rfl, _, rfl, hc2, hK1, up_eq _ _ _ _, ?_, ?_⟩
    · rw [up_ne (by omega)]
      exact h2
    · rw [up_ne (by omega)]
      exact h3
theorem script_X (hRC : RC R) (hc : CR I R 1 σ V) (hw : WR V) (hx : TXC I T n) (ht : Tok T n) : En (fun y => y.1 = iI (scrA V (pS0 T n 4 13)) ∧ ∃ I' R' σ', y.2 = (381, I', J, R') ∧ CR I' R' 1 σ' (scrV V (pS0 T n 4 13)) ∧ KC I I' ∧ RFr 1 R R' ∧ I' 143 1 = iI 0 ∧ I' 143 2 = iI (pS0 T n 4 13).1 ∧ I' 143 3 = iI (pS0 T n 4 13).2.1) (f_X8_script (381, I, J, R) 0) := by
  have k0 := kd_0
  have k1 := rg_1.2.1
  have k143 := kd_143
  have k145 := kd_145
  obtain ⟨r0, -, r2, r3, -⟩ := id hRC
  rw [u_X8_script]
  repeat ((first | (with_reducible first | refine w_ltA ?_ | refine w_ltS ?_ | refine w_ltM ?_ | refine w_ltN ?_ | refine w_lt ?_ | refine w_jn ?_ | refine w_ck (by omega) (by assumption) ?_ | refine w_gI (by omega) (by assumption) ?_ | refine w_gR (by omega) (by assumption) (by assumption) ?_ | refine w_al (by omega) (by assumption) (by assumption) ?_ | refine w_pI (by omega) (by assumption) ?_ | refine w_set (by omega) (by assumption) (by omega) (by omega) ?_ | refine w_at (by omega) (by assumption) (by omega) (by omega) ?_ | refine w_sI (by omega) (by assumption) (by omega) (by omega) ?_ | refine w_aI (by omega) (by assumption) (by omega) (by omega) ?_ | refine w_sZ (by omega) (by assumption) (by omega) (by omega) (by decide) ?_ | refine w_pZ (by omega) (by assumption) (by decide) ?_ | refine w_dv (by omega) (by omega) (by omega) (by omega) ?_ | refine w_rm (by omega) (by omega) (by omega) (by omega) ?_) | ((with_reducible refine w_pos ?_ ?_); focus (first | assumption | trivial | exact (ile (by omega) (by omega) (by omega) (by omega)).2 (by omega) | exact (ilt (by omega) (by omega) (by omega) (by omega)).2 (by omega) | exact (ieq (by omega) (by omega) (by omega) (by omega)).2 (by omega))) | ((with_reducible refine w_neg ?_ ?_); focus (first | assumption | exact not_false | trivial | exact mt (ile (by omega) (by omega) (by omega) (by omega)).1 (by omega) | exact mt (ilt (by omega) (by omega) (by omega) (by omega)).1 (by omega) | exact mt (ieq (by omega) (by omega) (by omega) (by omega)).1 (by omega)))); skip)
  refine w_cI (understand_C (J := J) (lo := 4) (hi := 13) hRC hx ht (by omega) (by omega)) ?_
  rintro y S ⟨I1, rfl, hF, hy, h2, h3, h0⟩
  have hy : y = iI (if (pS0 T n 4 13).1 = 0 then 1 else 0) := hy
  subst hy
  have hc1 : CR I1 R 1 σ V := cr_same hc fun a k a1 a2 => hF a k (by omega) (by omega) (by omega) (by omega) (by omega) (by omega)
  have hK1 : KC I (up I1 143 1 (iI 0)) := fun a k ha => by
    rw [up_ne (by omega)]
    exact hF a k (by omega) (by omega) (by omega) (by omega) (by omega) (by omega)
  have hc2 : CR (up I1 143 1 (iI 0)) R 1 σ V := cr_same hc1 fun a k a1 a2 => up_ne (by omega)
  unfold scrA scrV
  generalize hP : pS0 T n 4 13 = P at *
  refine w_gR (by omega) k0 r2 ?_
  refine w_pI (by omega) k143 ?_
  by_cases hz : P.1 = 0
  · obtain ⟨h5, h80, hL⟩ := h0 hz
    have hok := pS_ok (T := T) (n := n) (lo := 4) (hi := 13) ht (by omega) (by rw [hP]; exact hz)
    rw [hP] at hok
    rw [if_pos hz, if_pos hz, if_pos hz]
    refine w_jn ?_
    refine w_neg (by decide) ?_
    repeat ((first | (with_reducible first | refine w_ltA ?_ | refine w_ltS ?_ | refine w_ltM ?_ | refine w_ltN ?_ | refine w_lt ?_ | refine w_jn ?_ | refine w_ck (by omega) (by assumption) ?_ | refine w_gI (by omega) (by assumption) ?_ | refine w_gR (by omega) (by assumption) (by assumption) ?_ | refine w_al (by omega) (by assumption) (by assumption) ?_ | refine w_pI (by omega) (by assumption) ?_ | refine w_set (by omega) (by assumption) (by omega) (by omega) ?_ | refine w_at (by omega) (by assumption) (by omega) (by omega) ?_ | refine w_sI (by omega) (by assumption) (by omega) (by omega) ?_ | refine w_aI (by omega) (by assumption) (by omega) (by omega) ?_ | refine w_sZ (by omega) (by assumption) (by omega) (by omega) (by decide) ?_ | refine w_pZ (by omega) (by assumption) (by decide) ?_ | refine w_dv (by omega) (by omega) (by omega) (by omega) ?_ | refine w_rm (by omega) (by omega) (by omega) (by omega) ?_) | ((with_reducible refine w_pos ?_ ?_); focus (first | assumption | trivial | exact (ile (by omega) (by omega) (by omega) (by omega)).2 (by omega) | exact (ilt (by omega) (by omega) (by omega) (by omega)).2 (by omega) | exact (ieq (by omega) (by omega) (by omega) (by omega)).2 (by omega))) | ((with_reducible refine w_neg ?_ ?_); focus (first | assumption | exact not_false | trivial | exact mt (ile (by omega) (by omega) (by omega) (by omega)).1 (by omega) | exact mt (ilt (by omega) (by omega) (by omega) (by omega)).1 (by omega) | exact mt (ieq (by omega) (by omega) (by omega) (by omega)).1 (by omega)))); skip)
    have hca := carry_C (J := J) (V := V) (σ := σ) (I := up I1 143 1 (iI 0)) hRC hc2 hw (m := P.2.2.1) (L := P.2.2.2) (by rw [up_ne (by omega)]; exact h5) h80 (fun k hk => by
      have := hL k hk
      exact ⟨by rw [up_ne (by omega)]; exact this.1, fun h => by rw [up_ne (by omega)]; exact this.2.1 h, fun h => by rw [up_ne (by omega)]; exact this.2.2 h⟩) hok
    refine w_cI hca ?_
    rintro y S ⟨hy, I2, R2, σ2, rfl, g1, g2, g3⟩
    refine w_rt ⟨hy, I2, R2, σ2, rfl, g1, fun a k ha => ?_, g3, ?_, ?_, ?_⟩
    · rw [g2 _ _ (by omega) (by omega)]
      exact hK1 a k ha
    · rw [g2 _ _ (by omega) (by omega), up_eq]
    · rw [g2 _ _ (by omega) (by omega), up_ne (by omega)]
      exact h2
    · rw [g2 _ _ (by omega) (by omega), up_ne (by omega)]
      exact h3
  · rw [if_neg hz, if_neg hz, if_neg hz]
    refine w_jn ?_
    refine w_pos rfl ?_
    refine w_rt ⟨rfl, _, R, σ, rfl, hc2, hK1, fun _ _ _ => rfl, up_eq _ _ _ _, ?_, ?_⟩
    · rw [up_ne (by omega)]
      exact h2
    · rw [up_ne (by omega)]
      exact h3
def KQ (I I' : MI) : Prop := (∀ a k, a < 373 ∨ a = 375 ∨ a = 376 → I' a k = I a k) ∧ ∀ k, 988 ≤ k → I' 374 k = I 374 k
theorem ring_Y (hR : RQ R) (hq : RMQ I π V) (hx : I 374 985 = iI (n : Nat) ∧ ∀ i, i < n → I 375 i &&& iI 255 = iI (T i)) (ht : Tok T n) : En (fun y => y.1 = iI (rinA (pS0 T n 0 3)) ∧ ∃ I' J' π', y.2 = (381, I', J', R) ∧ RMQ I' π' (rinV V (pS0 T n 0 3)) ∧ KQ I I' ∧ I' 374 985 = iI 0 ∧ I' 374 986 = iI (pS0 T n 0 3).1 ∧ I' 374 987 = iI (pS0 T n 0 3).2.1) (f_X9_ring (381, I, J, R) 373) := by
  have k374 := kd_374
  have k375 := kd_375
  have l375 := ln_375
  have rq1 := hR.1
  have hq0 := rmq_0 hq
  have hF0 : F374 I (up I 373 0 (iI 0)) := f374_u f374_r
  rw [u_X9_ring]
  refine w_pI (by omega) k374 ?_
  generalize up I 373 0 (iI 0) = I0 at *
  refine w_ck (by omega) k374 ?_
  refine w_cV (readsAll_Q (J := J) (I := I0) (T := T) (n := n) (lo := 0) (hi := 3) (rg := true) hR ⟨(hF0 374 985 (by omega)).trans hx.1, fun i hi => by rw [hF0 375 i (by omega)]; exact hx.2 i hi⟩ ht ⟨rfl, rfl⟩) ?_
  rintro S ⟨I1, J1, rfl, hF, p1, p2, p3, p4⟩
  have hK1 : KQ I I1 := ⟨fun a k ha => (hF a k (by omega) (by omega) (by omega) (by omega)).trans (hF0 a k (by omega)), fun k hk => (hF 374 k (by omega) (by omega) (by omega) (by omega)).trans (hF0 374 k (by omega))⟩
  have hq1 : RMQ I1 π V := rmq_congr hq0 fun k hk => hF 374 k (by omega) (by omega) (by omega) (by omega)
  have hok := pS_ok (T := T) (n := n) (lo := 0) (hi := 3) ht (by omega)
  unfold rinA rinV
  generalize hP : pS0 T n 0 3 = P at *
  have p2' : I1 374 (Int.toNat 986) = iI P.1 := p2
  refine w_gR (by omega) k374 rq1 ?_
  refine w_aI (by omega) k375 (by omega) (by omega) ?_
  rw [p2']
  by_cases hz : P.1 = 0
  · have hf := fd_ok (hok hz)
    have p4 : I1 373 13 = iI (fdV P.2.2.2 P.2.2.1).1 ∧ I1 373 14 = iI (fdV P.2.2.2 P.2.2.1).2.1 ∧ I1 373 15 = iI (fdV P.2.2.2 P.2.2.1).2.2 := p4 hz
    obtain ⟨p13, p14, p15⟩ := p4
    rw [if_pos hz, if_pos hz]
    refine w_pos (by rw [hz]) ?_
    repeat ((first | (with_reducible first | refine w_ltA ?_ | refine w_ltS ?_ | refine w_ltM ?_ | refine w_ltN ?_ | refine w_lt ?_ | refine w_jn ?_ | refine w_ck (by omega) (by assumption) ?_ | refine w_gI (by omega) (by assumption) ?_ | refine w_gR (by omega) (by assumption) (by assumption) ?_ | refine w_al (by omega) (by assumption) (by assumption) ?_ | refine w_pI (by omega) (by assumption) ?_ | refine w_set (by omega) (by assumption) (by omega) (by omega) ?_ | refine w_at (by omega) (by assumption) (by omega) (by omega) ?_ | refine w_sI (by omega) (by assumption) (by omega) (by omega) ?_ | refine w_aI (by omega) (by assumption) (by omega) (by omega) ?_ | refine w_sZ (by omega) (by assumption) (by omega) (by omega) (by decide) ?_ | refine w_pZ (by omega) (by assumption) (by decide) ?_ | refine w_dv (by omega) (by omega) (by omega) (by omega) ?_ | refine w_rm (by omega) (by omega) (by omega) (by omega) ?_) | ((with_reducible refine w_pos ?_ ?_); focus (first | assumption | trivial | exact (ile (by omega) (by omega) (by omega) (by omega)).2 (by omega) | exact (ilt (by omega) (by omega) (by omega) (by omega)).2 (by omega) | exact (ieq (by omega) (by omega) (by omega) (by omega)).2 (by omega))) | ((with_reducible refine w_neg ?_ ?_); focus (first | assumption | exact not_false | trivial | exact mt (ile (by omega) (by omega) (by omega) (by omega)).1 (by omega) | exact mt (ilt (by omega) (by omega) (by omega) (by omega)).1 (by omega) | exact mt (ieq (by omega) (by omega) (by omega) (by omega)).1 (by omega)))); try simp (disch := omega) only [p13, p14, p15])
    refine w_cV (begins_Q (J := J1) hR hf.1) ?_
    rintro S ⟨I2, rfl, h2⟩
    have h2 := h2 V
    have q13 : I2 373 13 = iI (fdV P.2.2.2 P.2.2.1).1 := (h2.2.1 _ _ (by omega) (by omega)).trans p13
    have q14 : I2 373 14 = iI (fdV P.2.2.2 P.2.2.1).2.1 := (h2.2.1 _ _ (by omega) (by omega)).trans p14
    repeat ((first | (with_reducible first | refine w_ltA ?_ | refine w_ltS ?_ | refine w_ltM ?_ | refine w_ltN ?_ | refine w_lt ?_ | refine w_jn ?_ | refine w_ck (by omega) (by assumption) ?_ | refine w_gI (by omega) (by assumption) ?_ | refine w_gR (by omega) (by assumption) (by assumption) ?_ | refine w_al (by omega) (by assumption) (by assumption) ?_ | refine w_pI (by omega) (by assumption) ?_ | refine w_set (by omega) (by assumption) (by omega) (by omega) ?_ | refine w_at (by omega) (by assumption) (by omega) (by omega) ?_ | refine w_sI (by omega) (by assumption) (by omega) (by omega) ?_ | refine w_aI (by omega) (by assumption) (by omega) (by omega) ?_ | refine w_sZ (by omega) (by assumption) (by omega) (by omega) (by decide) ?_ | refine w_pZ (by omega) (by assumption) (by decide) ?_ | refine w_dv (by omega) (by omega) (by omega) (by omega) ?_ | refine w_rm (by omega) (by omega) (by omega) (by omega) ?_) | ((with_reducible refine w_pos ?_ ?_); focus (first | assumption | trivial | exact (ile (by omega) (by omega) (by omega) (by omega)).2 (by omega) | exact (ilt (by omega) (by omega) (by omega) (by omega)).2 (by omega) | exact (ieq (by omega) (by omega) (by omega) (by omega)).2 (by omega))) | ((with_reducible refine w_neg ?_ ?_); focus (first | assumption | exact not_false | trivial | exact mt (ile (by omega) (by omega) (by omega) (by omega)).1 (by omega) | exact mt (ilt (by omega) (by omega) (by omega) (by omega)).1 (by omega) | exact mt (ieq (by omega) (by omega) (by omega) (by omega)).1 (by omega)))); try simp (disch := omega) only [q13, q14])
    exact w_rt ⟨rfl, I2, J1, _, rfl, h2.1, ⟨fun a k ha => (h2.2.1 _ _ (by omega) (by omega)).trans (hK1.1 a k ha), fun k hk => (h2.2.2 _ (by omega)).trans (hK1.2 k hk)⟩, (h2.2.2 _ (by omega)).trans p1, (h2.2.2 _ (by omega)).trans p2, (h2.2.2 _ (by omega)).trans p3⟩
  · have hfl : P.1 = 1 ∨ P.1 = 2 ∨ P.1 ≠ 0 := Or.inr (Or.inr hz)
    rw [if_neg hz, if_neg hz]
    have hne : ¬ iI P.1 = iI 0 := by
      have hb : P.1 = 0 ∨ P.1 = 1 ∨ P.1 = 2 := by
        rw [← hP]
        exact ps_fl
      rcases hb with h | h | h
      · exact absurd h hz
      · rw [h]
        decide
      · rw [h]
        decide
    refine w_neg hne ?_
    exact w_rt ⟨rfl, I1, J1, π, rfl, hq1, hK1, p1, p2, p3⟩
theorem script_Y (hR : RQ R) (hq : RMQ I π V) (hw : WR V) (hx : I 374 985 = iI (n : Nat) ∧ ∀ i, i < n → I 375 i &&& iI 255 = iI (T i)) (ht : Tok T n) (h80 : (pS0 T n 4 13).1 = 0 → (pS0 T n 4 13).2.2.1 ≤ 80) : En (fun y => y.1 = iI (scrA V (pS0 T n 4 13)) ∧ ∃ I' J' π', y.2 = (381, I', J', R) ∧ RMQ I' π' (scrV V (pS0 T n 4 13)) ∧ KQ I I' ∧ I' 374 985 = iI 0 ∧ I' 374 986 = iI (pS0 T n 4 13).1 ∧ I' 374 987 = iI (pS0 T n 4 13).2.1) (f_X9_script (381, I, J, R) 373) := by
  have k374 := kd_374
  have k375 := kd_375
  have l375 := ln_375
  have rq1 := hR.1
  have hq0 := rmq_0 hq
  have hF0 : F374 I (up I 373 0 (iI 0)) := f374_u f374_r
  rw [u_X9_script]
  refine w_pI (by omega) k374 ?_
  generalize up I 373 0 (iI 0) = I0 at *
  refine w_ck (by omega) k374 ?_
  refine w_cV (readsAll_Q (J := J) (I := I0) (T := T) (n := n) (lo := 4) (hi := 13) (rg := false) hR ⟨(hF0 374 985 (by omega)).trans hx.1, fun i hi => by rw [hF0 375 i (by omega)]; exact hx.2 i hi⟩ ht ⟨rfl, rfl⟩) ?_
  rintro S ⟨I1, J1, rfl, hF, p1, p2, p3, p4⟩
  have hK1 : KQ I I1 := ⟨fun a k ha => (hF a k (by omega) (by omega) (by omega) (by omega)).trans (hF0 a k (by omega)), fun k hk => (hF 374 k (by omega) (by omega) (by omega) (by omega)).trans (hF0 374 k (by omega))⟩
  have hq1 : RMQ I1 π V := rmq_congr hq0 fun k hk => hF 374 k (by omega) (by omega) (by omega) (by omega)
  have hok := pS_ok (T := T) (n := n) (lo := 4) (hi := 13) ht (by omega)
  have hb : (pS0 T n 4 13).1 = 0 ∨ (pS0 T n 4 13).1 = 1 ∨ (pS0 T n 4 13).1 = 2 := ps_fl
  unfold scrA scrV
  generalize hP : pS0 T n 4 13 = P at *
  have p2' : I1 374 (Int.toNat 986) = iI P.1 := p2
  refine w_gR (by omega) k374 rq1 ?_
  refine w_aI (by omega) k375 (by omega) (by omega) ?_
  rw [p2']
  by_cases hz : P.1 = 0
  · have p4 : I1 373 18 = iI (P.2.2.1 : Nat) ∧ LnR I1 J1 P.2.2.1 P.2.2.2 := p4 hz
    rw [if_pos hz, if_pos hz]
    refine w_pos (by rw [hz]) ?_
    refine En.mono (lines_Q hR hq1 hw p4.1 (h80 hz) p4.2 (hok hz)) ?_
    rintro ⟨y, S⟩ ⟨hy, I2, π2, hS, h2⟩
    exact ⟨hy, I2, J1, π2, hS, h2.1, ⟨fun a k ha => (h2.2.1 _ _ (by omega) (by omega)).trans (hK1.1 a k ha), fun k hk => (h2.2.2 _ (by omega)).trans (hK1.2 k hk)⟩, (h2.2.2 _ (by omega)).trans p1, (h2.2.2 _ (by omega)).trans p2, (h2.2.2 _ (by omega)).trans p3⟩
  · rw [if_neg hz, if_neg hz]
    have hne : ¬ iI P.1 = iI 0 := by
      rcases hb with h | h | h
      · exact absurd h hz
      · rw [h]
        decide
      · rw [h]
        decide
    refine w_neg hne ?_
    exact w_rt ⟨rfl, I1, J1, π, rfl, hq1, hK1, p1, p2, p3⟩
end TXS
