/-! THE START: rows with fewer cells -/
section NRU
variable {α β : Type} {Q : β → Prop} {I : MI} {J : MJ} {R : MR} {a b c k n c0 : Nat} {x : Int32} {i p q : Int}
theorem n_ck {K : Option β} (h1 : a < c0) (h2 : kd a = c) (h : En Q K) : En Q (ck_ (c0, I, J, R) a c K) := by rw [ck_at (S := (c0, I, J, R)) h1 h2]; exact h
theorem n_gI {K : Int32 → Option β} (h1 : a < c0) (h2 : kd a = c) (h : En Q (K (I a k))) : En Q (gI_ (c0, I, J, R) a c k K) := by rw [gI_at (S := (c0, I, J, R)) h1 h2]; exact h
theorem n_gR {K : Nat → Option β} (h1 : a < c0) (h2 : kd a = c) (h3 : R a k = some b) (h : En Q (K b)) : En Q (gR_ (c0, I, J, R) a c k K) := by rw [gR_at (S := (c0, I, J, R)) h1 h2 h3]; exact h
theorem n_al {K : Int32 → Option β} (h1 : a < c0) (h2 : kd a = c) (h3 : ln a = n) (h : En Q (K (iI n))) : En Q (al_ (c0, I, J, R) a c K) := by rw [al_at (S := (c0, I, J, R)) h1 h2, h3]; exact h
theorem n_pI {K : St → Option β} (h1 : a < c0) (h2 : kd a = c) (h : En Q (K (c0, up I a k x, J, R))) : En Q (pI_ (c0, I, J, R) a c k x K) := by rw [pI_at (S := (c0, I, J, R)) h1 h2]; exact h
theorem n_pZ {K : St → Option β} (h1 : a < c0) (h2 : kd a = c) (h3 : x = 0 ∨ x = 1) (h : En Q (K (c0, up I a k x, J, R))) : En Q (pZ_ (c0, I, J, R) a c k x K) := by rw [pZ_at (S := (c0, I, J, R)) h1 h2 h3]; exact h
theorem n_sI {K : St → Option β} (h1 : a < c0) (h2 : kd a = 11) (h3 : 0 ≤ i) (h4 : i < ln a) (h : En Q (K (c0, up I a i.toNat x, J, R))) : En Q (sI_ (c0, I, J, R) a (iI i) x K) := by rw [sI_at (S := (c0, I, J, R)) h1 h2 h3 h4 (ln_big a)]; exact h
theorem n_set {K : St → Option β} (h1 : a < c0) (h2 : kd a = 11) (h3 : 0 ≤ i) (h4 : i < ln a) (h : En Q (K (c0, up I a i.toNat x, J, R))) : En Q (cV_ (f_X8_set (c0, I, J, R) a (iI i) x) K) := by
  have := ln_big a
  rw [set_spec (S := (c0, I, J, R)) h1 h2 (by omega) (by omega) this, if_pos ⟨h3, h4⟩]
  exact h
theorem n_at {K : Int32 → Option β} (h1 : a < c0) (h2 : kd a = 11) (h3 : 0 ≤ i) (h4 : i < ln a) (h : En Q (K (I a i.toNat))) : En Q (cP_ (f_X8_at (c0, I, J, R) a (iI i)) K) := by
  have := ln_big a
  rw [at_spec (S := (c0, I, J, R)) h1 h2 (by omega) (by omega) this, if_pos ⟨h3, h4⟩]
  exact h
theorem n_aI {K : Int32 → Option β} (h1 : a < c0) (h2 : kd a = c) (h3 : 0 ≤ i) (h4 : i < ln a) (h : En Q (K (I a i.toNat))) : En Q (aI_ (c0, I, J, R) a c (iI i) K) := by rw [aI_at' (S := (c0, I, J, R)) h1 h2 h3 h4 (ln_big a)]; exact h
theorem n_aR {K : Nat → Option β} (h1 : a < c0) (h2 : kd a = c) (h3 : 0 ≤ i) (h4 : i < ln a) (h5 : R a i.toNat = some b) (h : En Q (K b)) : En Q (aR_ (c0, I, J, R) a c (iI i) K) := by rw [aR_at' (S := (c0, I, J, R)) h1 h2 h3 h4 (ln_big a) h5]; exact h
end NRU
section NPC
variable {I : MI} {J : MJ} {R : MR} {a b c k q c0 : Nat} {β : Type} {x : Int32} {i z now t : Int} {P : PV}
theorem pclear_N (hn0 : q + 9 ≤ c0) (hp : isPg q) (hr : RfP R q) (hc : CP I q P) : En (fun S' => ∃ I', S' = (c0, I', J, R) ∧ PTo q I I' (clP P)) (f_X3_clear (c0, I, J, R) q) := by
  obtain ⟨hq, k0, k1, k2, k3, k4, k5, k6, k7, k8, l1, l2, l3, l4, l5, l6, l7, l8⟩ := hp
  obtain ⟨r0, r1, r2, r3, r4, r5, r6, r7⟩ := hr
  rw [u_X3_clear]
  refine w_lp 32 (fun j y => j ≤ 32 ∧ y = (iI j, (c0, zr I (q + 1) 0 j, J, R))) ⟨by omega, ?_⟩ (by rw [FU_eq]; omega) (fun i y h => h.1) ?_
  · rw [zr_0]
    rfl
  · rintro j y self ⟨hj, rfl⟩ ih
    dsimp only
    by_cases hn : j < 32
    · repeat ((first | (with_reducible first | refine w_ltA ?_ | refine w_ltS ?_ | refine w_ltM ?_ | refine w_ltN ?_ | refine w_lt ?_ | refine w_jn ?_ | refine n_ck (by omega) (by assumption) ?_ | refine n_gI (by omega) (by assumption) ?_ | refine n_gR (by omega) (by assumption) (by assumption) ?_ | refine n_al (by omega) (by assumption) (by assumption) ?_ | refine n_pI (by omega) (by assumption) ?_ | refine n_set (by omega) (by assumption) (by omega) (by omega) ?_ | refine n_at (by omega) (by assumption) (by omega) (by omega) ?_ | refine n_sI (by omega) (by assumption) (by omega) (by omega) ?_ | refine n_aI (by omega) (by assumption) (by omega) (by omega) ?_ | refine w_sZ (by omega) (by assumption) (by omega) (by omega) (by decide) ?_ | refine n_pZ (by omega) (by assumption) (by decide) ?_ | refine w_dv (by omega) (by omega) (by omega) (by omega) ?_ | refine w_rm (by omega) (by omega) (by omega) (by omega) ?_) | ((with_reducible refine w_pos ?_ ?_); focus (first | assumption | trivial | exact (ile (by omega) (by omega) (by omega) (by omega)).2 (by omega) | exact (ilt (by omega) (by omega) (by omega) (by omega)).2 (by omega) | exact (ieq (by omega) (by omega) (by omega) (by omega)).2 (by omega))) | ((with_reducible refine w_neg ?_ ?_); focus (first | assumption | exact not_false | trivial | exact mt (ile (by omega) (by omega) (by omega) (by omega)).1 (by omega) | exact mt (ilt (by omega) (by omega) (by omega) (by omega)).1 (by omega) | exact mt (ieq (by omega) (by omega) (by omega) (by omega)).1 (by omega)))); skip)
      refine ih _ ⟨by omega, ?_⟩
      have e2 : (j : Int) + 1 = ((j + 1 : Nat) : Int) := by omega
      have e3 := zr_up I (q + 1) 0 j
      rw [Nat.zero_add] at e3
      rw [Int.toNat_natCast, e3, e2]
    · repeat ((first | (with_reducible first | refine w_ltA ?_ | refine w_ltS ?_ | refine w_ltM ?_ | refine w_ltN ?_ | refine w_lt ?_ | refine w_jn ?_ | refine n_ck (by omega) (by assumption) ?_ | refine n_gI (by omega) (by assumption) ?_ | refine n_gR (by omega) (by assumption) (by assumption) ?_ | refine n_al (by omega) (by assumption) (by assumption) ?_ | refine n_pI (by omega) (by assumption) ?_ | refine n_set (by omega) (by assumption) (by omega) (by omega) ?_ | refine n_at (by omega) (by assumption) (by omega) (by omega) ?_ | refine n_sI (by omega) (by assumption) (by omega) (by omega) ?_ | refine n_aI (by omega) (by assumption) (by omega) (by omega) ?_ | refine w_sZ (by omega) (by assumption) (by omega) (by omega) (by decide) ?_ | refine n_pZ (by omega) (by assumption) (by decide) ?_ | refine w_dv (by omega) (by omega) (by omega) (by omega) ?_ | refine w_rm (by omega) (by omega) (by omega) (by omega) ?_) | ((with_reducible refine w_pos ?_ ?_); focus (first | assumption | trivial | exact (ile (by omega) (by omega) (by omega) (by omega)).2 (by omega) | exact (ilt (by omega) (by omega) (by omega) (by omega)).2 (by omega) | exact (ieq (by omega) (by omega) (by omega) (by omega)).2 (by omega))) | ((with_reducible refine w_neg ?_ ?_); focus (first | assumption | exact not_false | trivial | exact mt (ile (by omega) (by omega) (by omega) (by omega)).1 (by omega) | exact mt (ilt (by omega) (by omega) (by omega) (by omega)).1 (by omega) | exact mt (ieq (by omega) (by omega) (by omega) (by omega)).1 (by omega)))); skip)
      refine w_rt ?_
      have e1 : j = 32 := by omega
      refine ⟨_, rfl, ?_⟩
      unfold clP
      rw [e1]
      exact pto_up0 (pto_up0 (pto_up0 (pto_zr (pto_0 hc) _ _) 8 _) 9 _) 10 _
end NPC
section NRG
variable {I I0 : MI} {J : MJ} {R R0 : MR} {r c0 : Nat} {σ : Nat → Nat} {γ : Type} {Q : γ → Prop} {x : Int32} {i t l n m f c o : Int} {V : RV}
theorem pageAt_N (hn0 : r + 71 ≤ c0) {p : Int} (hrg : isRg r) (hc : CR I R r σ V) (h0 : 0 ≤ p) (h6 : p < 6) : f_X4_pageAt (c0, I, J, R) r (iI p) = some (pa r (σ p.toNat)) := by
  have hc0 := hc
  obtain ⟨hq, kr0, kr1, kr2, kr3, kr4, kr5, kr6, kr7, lr1, lr2, lr3, lr4, lr5, lr7, hpg⟩ := hrg
  have hsc := cr_s hc
  obtain ⟨⟨e0, e1, e2, e3, e4, e5, e6, e7, ep, ed, hσ, hσi⟩, hpp, hgg⟩ := hc
  have s7 := hsc 7 (by decide)
  have s8 := hsc 8 (by decide)
  have s9 := hsc 9 (by decide)
  have s10 := hsc 10 (by decide)
  have s11 := hsc 11 (by decide)
  have s12 := hsc 12 (by decide)
  have s13 := hsc 13 (by decide)
  have s14 := hsc 14 (by decide)
  have s15 := hsc 15 (by decide)
  have h5 := ep p.toNat (by omega)
  refine en_eq ?_
  rw [u_X4_pageAt]
  repeat ((first | (with_reducible first | refine w_ltA ?_ | refine w_ltS ?_ | refine w_ltM ?_ | refine w_ltN ?_ | refine w_lt ?_ | refine w_jn ?_ | refine n_ck (by omega) (by assumption) ?_ | refine n_gI (by omega) (by assumption) ?_ | refine n_gR (by omega) (by assumption) (by assumption) ?_ | refine n_al (by omega) (by assumption) (by assumption) ?_ | refine n_pI (by omega) (by assumption) ?_ | refine n_set (by omega) (by assumption) (by omega) (by omega) ?_ | refine n_at (by omega) (by assumption) (by omega) (by omega) ?_ | refine n_sI (by omega) (by assumption) (by omega) (by omega) ?_ | refine n_aI (by omega) (by assumption) (by omega) (by omega) ?_ | refine w_sZ (by omega) (by assumption) (by omega) (by omega) (by decide) ?_ | refine n_pZ (by omega) (by assumption) (by decide) ?_ | refine w_dv (by omega) (by omega) (by omega) (by omega) ?_ | refine w_rm (by omega) (by omega) (by omega) (by omega) ?_) | ((with_reducible refine w_pos ?_ ?_); focus (first | assumption | trivial | exact (ile (by omega) (by omega) (by omega) (by omega)).2 (by omega) | exact (ilt (by omega) (by omega) (by omega) (by omega)).2 (by omega) | exact (ieq (by omega) (by omega) (by omega) (by omega)).2 (by omega))) | ((with_reducible refine w_neg ?_ ?_); focus (first | assumption | exact not_false | trivial | exact mt (ile (by omega) (by omega) (by omega) (by omega)).1 (by omega) | exact mt (ilt (by omega) (by omega) (by omega) (by omega)).1 (by omega) | exact mt (ieq (by omega) (by omega) (by omega) (by omega)).1 (by omega)))); skip)
  refine n_aR (by omega) (by assumption) (by omega) (by omega) h5 ?_
  repeat ((first | (with_reducible first | refine w_ltA ?_ | refine w_ltS ?_ | refine w_ltM ?_ | refine w_ltN ?_ | refine w_lt ?_ | refine w_jn ?_ | refine n_ck (by omega) (by assumption) ?_ | refine n_gI (by omega) (by assumption) ?_ | refine n_gR (by omega) (by assumption) (by assumption) ?_ | refine n_al (by omega) (by assumption) (by assumption) ?_ | refine n_pI (by omega) (by assumption) ?_ | refine n_set (by omega) (by assumption) (by omega) (by omega) ?_ | refine n_at (by omega) (by assumption) (by omega) (by omega) ?_ | refine n_sI (by omega) (by assumption) (by omega) (by omega) ?_ | refine n_aI (by omega) (by assumption) (by omega) (by omega) ?_ | refine w_sZ (by omega) (by assumption) (by omega) (by omega) (by decide) ?_ | refine n_pZ (by omega) (by assumption) (by decide) ?_ | refine w_dv (by omega) (by omega) (by omega) (by omega) ?_ | refine w_rm (by omega) (by omega) (by omega) (by omega) ?_) | ((with_reducible refine w_pos ?_ ?_); focus (first | assumption | trivial | exact (ile (by omega) (by omega) (by omega) (by omega)).2 (by omega) | exact (ilt (by omega) (by omega) (by omega) (by omega)).2 (by omega) | exact (ieq (by omega) (by omega) (by omega) (by omega)).2 (by omega))) | ((with_reducible refine w_neg ?_ ?_); focus (first | assumption | exact not_false | trivial | exact mt (ile (by omega) (by omega) (by omega) (by omega)).1 (by omega) | exact mt (ilt (by omega) (by omega) (by omega) (by omega)).1 (by omega) | exact mt (ieq (by omega) (by omega) (by omega) (by omega)).1 (by omega)))); skip)
  refine n_aR (by omega) (by assumption) (by omega) (by omega) h5 ?_
  exact w_rt rfl
theorem begin_N (hn0 : r + 71 ≤ c0) (hrg : isRg r) (h : CTo r σ I0 R0 I R V) (ho : o = 0 ∨ o = 1) : En (fun y => ∃ I', y = (c0, I', J, R) ∧ CTo r σ I0 R0 I' R (begV V n c o)) (f_X4_begin (c0, I, J, R) r (iI n) (iI c) (iI o)) := by
  have hc := h.1
  have hrg1 := hrg
  obtain ⟨hq, kr0, kr1, kr2, kr3, kr4, kr5, kr6, kr7, lr1, lr2, lr3, lr4, lr5, lr7, hpg⟩ := hrg
  obtain ⟨⟨e0, e1, e2, e3, e4, e5, e6, e7, ep, ed, hσ, hσi⟩, hpp, hgg⟩ := hc
  have ho' : iI o = 0 ∨ iI o = 1 := by
    rcases ho with h | h
    · exact Or.inl (by rw [h]; rfl)
    · exact Or.inr (by rw [h]; rfl)
  rw [u_X4_begin]
  refine w_lp 6 (fun j y => j ≤ 6 ∧ ∃ I', y = (iI j, (c0, I', J, R)) ∧ CTo r σ I0 R0 I' R (pgsV V j fun p => clP (V.1 p))) ⟨by omega, I, rfl, ?_⟩ (by rw [FU_eq]; omega) (fun i y h => h.1) ?_
  · exact cto_congr h (fun _ _ _ _ _ => rfl) (fun _ _ _ => rfl)
  rintro j y self ⟨hj, I', rfl, g⟩ ih
  try dsimp only
  by_cases hn : j < 6
  · have hpa := pageAt_N (J := J) (p := j) hn0 hrg1 g.1 (by omega) (by omega)
    have hP := g.1.2.1 j (by omega)
    have hpg1 := hpg _ (hσ j (by omega))
    have hr1 := ed _ (hσ j (by omega))
    have hkq := hpg1.2.1
    have hpin := pa_in (r := r) (hσ j (by omega))
    have hq9 := hpg1.1
    rw [Int.toNat_natCast] at hpa
    repeat ((first | (with_reducible first | refine w_ltA ?_ | refine w_ltS ?_ | refine w_ltM ?_ | refine w_ltN ?_ | refine w_lt ?_ | refine w_jn ?_ | refine n_ck (by omega) (by assumption) ?_ | refine n_gI (by omega) (by assumption) ?_ | refine n_gR (by omega) (by assumption) (by assumption) ?_ | refine n_al (by omega) (by assumption) (by assumption) ?_ | refine n_pI (by omega) (by assumption) ?_ | refine n_set (by omega) (by assumption) (by omega) (by omega) ?_ | refine n_at (by omega) (by assumption) (by omega) (by omega) ?_ | refine n_sI (by omega) (by assumption) (by omega) (by omega) ?_ | refine n_aI (by omega) (by assumption) (by omega) (by omega) ?_ | refine w_sZ (by omega) (by assumption) (by omega) (by omega) (by decide) ?_ | refine n_pZ (by omega) (by assumption) (by decide) ?_ | refine w_dv (by omega) (by omega) (by omega) (by omega) ?_ | refine w_rm (by omega) (by omega) (by omega) (by omega) ?_) | ((with_reducible refine w_pos ?_ ?_); focus (first | assumption | trivial | exact (ile (by omega) (by omega) (by omega) (by omega)).2 (by omega) | exact (ilt (by omega) (by omega) (by omega) (by omega)).2 (by omega) | exact (ieq (by omega) (by omega) (by omega) (by omega)).2 (by omega))) | ((with_reducible refine w_neg ?_ ?_); focus (first | assumption | exact not_false | trivial | exact mt (ile (by omega) (by omega) (by omega) (by omega)).1 (by omega) | exact mt (ilt (by omega) (by omega) (by omega) (by omega)).1 (by omega) | exact mt (ieq (by omega) (by omega) (by omega) (by omega)).1 (by omega)))); skip)
    refine w_cP hpa ?_
    repeat ((first | (with_reducible first | refine w_ltA ?_ | refine w_ltS ?_ | refine w_ltM ?_ | refine w_ltN ?_ | refine w_lt ?_ | refine w_jn ?_ | refine n_ck (by omega) (by assumption) ?_ | refine n_gI (by omega) (by assumption) ?_ | refine n_gR (by omega) (by assumption) (by assumption) ?_ | refine n_al (by omega) (by assumption) (by assumption) ?_ | refine n_pI (by omega) (by assumption) ?_ | refine n_set (by omega) (by assumption) (by omega) (by omega) ?_ | refine n_at (by omega) (by assumption) (by omega) (by omega) ?_ | refine n_sI (by omega) (by assumption) (by omega) (by omega) ?_ | refine n_aI (by omega) (by assumption) (by omega) (by omega) ?_ | refine w_sZ (by omega) (by assumption) (by omega) (by omega) (by decide) ?_ | refine n_pZ (by omega) (by assumption) (by decide) ?_ | refine w_dv (by omega) (by omega) (by omega) (by omega) ?_ | refine w_rm (by omega) (by omega) (by omega) (by omega) ?_) | ((with_reducible refine w_pos ?_ ?_); focus (first | assumption | trivial | exact (ile (by omega) (by omega) (by omega) (by omega)).2 (by omega) | exact (ilt (by omega) (by omega) (by omega) (by omega)).2 (by omega) | exact (ieq (by omega) (by omega) (by omega) (by omega)).2 (by omega))) | ((with_reducible refine w_neg ?_ ?_); focus (first | assumption | exact not_false | trivial | exact mt (ile (by omega) (by omega) (by omega) (by omega)).1 (by omega) | exact mt (ilt (by omega) (by omega) (by omega) (by omega)).1 (by omega) | exact mt (ieq (by omega) (by omega) (by omega) (by omega)).1 (by omega)))); skip)
    refine w_cV (pclear_N (J := J) (by omega) hpg1 hr1 hP) ?_
    rintro S ⟨I2, rfl, h2⟩
    have g2 := cto_pg g (by omega) h2
    repeat ((first | (with_reducible first | refine w_ltA ?_ | refine w_ltS ?_ | refine w_ltM ?_ | refine w_ltN ?_ | refine w_lt ?_ | refine w_jn ?_ | refine n_ck (by omega) (by assumption) ?_ | refine n_gI (by omega) (by assumption) ?_ | refine n_gR (by omega) (by assumption) (by assumption) ?_ | refine n_al (by omega) (by assumption) (by assumption) ?_ | refine n_pI (by omega) (by assumption) ?_ | refine n_set (by omega) (by assumption) (by omega) (by omega) ?_ | refine n_at (by omega) (by assumption) (by omega) (by omega) ?_ | refine n_sI (by omega) (by assumption) (by omega) (by omega) ?_ | refine n_aI (by omega) (by assumption) (by omega) (by omega) ?_ | refine w_sZ (by omega) (by assumption) (by omega) (by omega) (by decide) ?_ | refine n_pZ (by omega) (by assumption) (by decide) ?_ | refine w_dv (by omega) (by omega) (by omega) (by omega) ?_ | refine w_rm (by omega) (by omega) (by omega) (by omega) ?_) | ((with_reducible refine w_pos ?_ ?_); focus (first | assumption | trivial | exact (ile (by omega) (by omega) (by omega) (by omega)).2 (by omega) | exact (ilt (by omega) (by omega) (by omega) (by omega)).2 (by omega) | exact (ieq (by omega) (by omega) (by omega) (by omega)).2 (by omega))) | ((with_reducible refine w_neg ?_ ?_); focus (first | assumption | exact not_false | trivial | exact mt (ile (by omega) (by omega) (by omega) (by omega)).1 (by omega) | exact mt (ilt (by omega) (by omega) (by omega) (by omega)).1 (by omega) | exact mt (ieq (by omega) (by omega) (by omega) (by omega)).1 (by omega)))); skip)
    refine ih _ ⟨by omega, I2, ?_, cto_congr g2 (fun p hp f k _ => ?_) (fun _ _ _ => rfl)⟩
    · have : (j : Int) + 1 = ((j + 1 : Nat) : Int) := by omega
      rw [this]
    · show (if p < j + 1 then clP (V.1 p) else V.1 p) f k = (if p = j then clP (if j < j then clP (V.1 j) else V.1 j) else if p < j then clP (V.1 p) else V.1 p) f k
      by_cases c1 : p = j
      · rw [if_pos c1, if_pos (by omega), if_neg (by omega), c1]
      · rw [if_neg c1]
        by_cases c2 : p < j
        · rw [if_pos c2, if_pos (by omega)]
        · rw [if_neg c2, if_neg (by omega)]
  · have ej : j = 6 := by omega
    subst ej
    repeat ((first | (with_reducible first | refine w_ltA ?_ | refine w_ltS ?_ | refine w_ltM ?_ | refine w_ltN ?_ | refine w_lt ?_ | refine w_jn ?_ | refine n_ck (by omega) (by assumption) ?_ | refine n_gI (by omega) (by assumption) ?_ | refine n_gR (by omega) (by assumption) (by assumption) ?_ | refine n_al (by omega) (by assumption) (by assumption) ?_ | refine n_pI (by omega) (by assumption) ?_ | refine n_set (by omega) (by assumption) (by omega) (by omega) ?_ | refine n_at (by omega) (by assumption) (by omega) (by omega) ?_ | refine n_sI (by omega) (by assumption) (by omega) (by omega) ?_ | refine n_aI (by omega) (by assumption) (by omega) (by omega) ?_ | refine w_sZ (by omega) (by assumption) (by omega) (by omega) (by decide) ?_ | refine n_pZ (by omega) (by assumption) (by decide) ?_ | refine w_dv (by omega) (by omega) (by omega) (by omega) ?_ | refine w_rm (by omega) (by omega) (by omega) (by omega) ?_) | ((with_reducible refine w_pos ?_ ?_); focus (first | assumption | trivial | exact (ile (by omega) (by omega) (by omega) (by omega)).2 (by omega) | exact (ilt (by omega) (by omega) (by omega) (by omega)).2 (by omega) | exact (ieq (by omega) (by omega) (by omega) (by omega)).2 (by omega))) | ((with_reducible refine w_neg ?_ ?_); focus (first | assumption | exact not_false | trivial | exact mt (ile (by omega) (by omega) (by omega) (by omega)).1 (by omega) | exact mt (ilt (by omega) (by omega) (by omega) (by omega)).1 (by omega) | exact mt (ieq (by omega) (by omega) (by omega) (by omega)).1 (by omega)))); skip)
    refine w_lp 34 (fun j y => j ≤ 34 ∧ ∃ I', y = (iI j, (c0, I', J, R)) ∧ CTo r σ I0 R0 I' R (grpV (pgsV V 6 fun p => clP (V.1 p)) 5 fun k => if k < j then 0 else V.2 5 k)) ⟨by omega, I', rfl, ?_⟩ (by rw [FU_eq]; omega) (fun i y h => h.1) ?_
    · refine cto_congr g (fun _ _ _ _ _ => rfl) (fun g k _ => ?_)
      show (if g = 5 then (if k < 0 then 0 else V.2 5 k) else V.2 g k) = V.2 g k
      split
      · next hx => rw [if_neg (by omega), hx]
      · rfl
    rintro j2 y self2 ⟨hj2, I2, rfl, g2⟩ ih2
    try dsimp only
    by_cases hn2 : j2 < 34
    · repeat ((first | (with_reducible first | refine w_ltA ?_ | refine w_ltS ?_ | refine w_ltM ?_ | refine w_ltN ?_ | refine w_lt ?_ | refine w_jn ?_ | refine n_ck (by omega) (by assumption) ?_ | refine n_gI (by omega) (by assumption) ?_ | refine n_gR (by omega) (by assumption) (by assumption) ?_ | refine n_al (by omega) (by assumption) (by assumption) ?_ | refine n_pI (by omega) (by assumption) ?_ | refine n_set (by omega) (by assumption) (by omega) (by omega) ?_ | refine n_at (by omega) (by assumption) (by omega) (by omega) ?_ | refine n_sI (by omega) (by assumption) (by omega) (by omega) ?_ | refine n_aI (by omega) (by assumption) (by omega) (by omega) ?_ | refine w_sZ (by omega) (by assumption) (by omega) (by omega) (by decide) ?_ | refine n_pZ (by omega) (by assumption) (by decide) ?_ | refine w_dv (by omega) (by omega) (by omega) (by omega) ?_ | refine w_rm (by omega) (by omega) (by omega) (by omega) ?_) | ((with_reducible refine w_pos ?_ ?_); focus (first | assumption | trivial | exact (ile (by omega) (by omega) (by omega) (by omega)).2 (by omega) | exact (ilt (by omega) (by omega) (by omega) (by omega)).2 (by omega) | exact (ieq (by omega) (by omega) (by omega) (by omega)).2 (by omega))) | ((with_reducible refine w_neg ?_ ?_); focus (first | assumption | exact not_false | trivial | exact mt (ile (by omega) (by omega) (by omega) (by omega)).1 (by omega) | exact mt (ilt (by omega) (by omega) (by omega) (by omega)).1 (by omega) | exact mt (ieq (by omega) (by omega) (by omega) (by omega)).1 (by omega)))); skip)
      refine ih2 _ ⟨by omega, _, ?_, cto_congr (cto_up g2 5 j2 0 (by omega)) (fun _ _ _ _ _ => rfl) (fun g k _ => ?_)⟩
      · have : (j2 : Int) + 1 = ((j2 + 1 : Nat) : Int) := by omega
        rw [this, Int.toNat_natCast]
      · show (if g = 5 then (if k < j2 + 1 then 0 else V.2 5 k) else V.2 g k) = if g = 5 ∧ k = j2 then 0 else if g = 5 then (if k < j2 then 0 else V.2 5 k) else V.2 g k
        by_cases c1 : g = 5
        · rw [if_pos c1, if_pos c1]
          by_cases c2 : k = j2
          · rw [if_pos (by omega), if_pos ⟨c1, c2⟩]
          · rw [if_neg (by omega : ¬ (g = 5 ∧ k = j2))]
            by_cases c3 : k < j2
            · rw [if_pos c3, if_pos (by omega)]
            · rw [if_neg c3, if_neg (by omega)]
        · rw [if_neg c1, if_neg (by omega), if_neg c1]
    · have hpg6 := hpg _ (hσ 6 (by omega))
      have hr6 := ed _ (hσ 6 (by omega))
      have hk6 := hpg6.2.1
      have hpin6 := pa_in (r := r) (hσ 6 (by omega))
      have hq6 := hpg6.1
      have g3 := cto_up g2 5 17 (-1) (by omega)
      repeat ((first | (with_reducible first | refine w_ltA ?_ | refine w_ltS ?_ | refine w_ltM ?_ | refine w_ltN ?_ | refine w_lt ?_ | refine w_jn ?_ | refine n_ck (by omega) (by assumption) ?_ | refine n_gI (by omega) (by assumption) ?_ | refine n_gR (by omega) (by assumption) (by assumption) ?_ | refine n_al (by omega) (by assumption) (by assumption) ?_ | refine n_pI (by omega) (by assumption) ?_ | refine n_set (by omega) (by assumption) (by omega) (by omega) ?_ | refine n_at (by omega) (by assumption) (by omega) (by omega) ?_ | refine n_sI (by omega) (by assumption) (by omega) (by omega) ?_ | refine n_aI (by omega) (by assumption) (by omega) (by omega) ?_ | refine w_sZ (by omega) (by assumption) (by omega) (by omega) (by decide) ?_ | refine n_pZ (by omega) (by assumption) (by decide) ?_ | refine w_dv (by omega) (by omega) (by omega) (by omega) ?_ | refine w_rm (by omega) (by omega) (by omega) (by omega) ?_) | ((with_reducible refine w_pos ?_ ?_); focus (first | assumption | trivial | exact (ile (by omega) (by omega) (by omega) (by omega)).2 (by omega) | exact (ilt (by omega) (by omega) (by omega) (by omega)).2 (by omega) | exact (ieq (by omega) (by omega) (by omega) (by omega)).2 (by omega))) | ((with_reducible refine w_neg ?_ ?_); focus (first | assumption | exact not_false | trivial | exact mt (ile (by omega) (by omega) (by omega) (by omega)).1 (by omega) | exact mt (ilt (by omega) (by omega) (by omega) (by omega)).1 (by omega) | exact mt (ieq (by omega) (by omega) (by omega) (by omega)).1 (by omega)))); skip)
      refine w_cV (pclear_N (J := J) (by omega) hpg6 hr6 (g3.1.2.1 6 (by omega))) ?_
      rintro S ⟨I4, rfl, h4⟩
      have g4 := cto_pg g3 (by omega) h4
      repeat ((first | (with_reducible first | refine w_ltA ?_ | refine w_ltS ?_ | refine w_ltM ?_ | refine w_ltN ?_ | refine w_lt ?_ | refine w_jn ?_ | refine n_ck (by omega) (by assumption) ?_ | refine n_gI (by omega) (by assumption) ?_ | refine n_gR (by omega) (by assumption) (by assumption) ?_ | refine n_al (by omega) (by assumption) (by assumption) ?_ | refine n_pI (by omega) (by assumption) ?_ | refine n_set (by omega) (by assumption) (by omega) (by omega) ?_ | refine n_at (by omega) (by assumption) (by omega) (by omega) ?_ | refine n_sI (by omega) (by assumption) (by omega) (by omega) ?_ | refine n_aI (by omega) (by assumption) (by omega) (by omega) ?_ | refine w_sZ (by omega) (by assumption) (by omega) (by omega) (by decide) ?_ | refine n_pZ (by omega) (by assumption) (by decide) ?_ | refine w_dv (by omega) (by omega) (by omega) (by omega) ?_ | refine w_rm (by omega) (by omega) (by omega) (by omega) ?_) | ((with_reducible refine w_pos ?_ ?_); focus (first | assumption | trivial | exact (ile (by omega) (by omega) (by omega) (by omega)).2 (by omega) | exact (ilt (by omega) (by omega) (by omega) (by omega)).2 (by omega) | exact (ieq (by omega) (by omega) (by omega) (by omega)).2 (by omega))) | ((with_reducible refine w_neg ?_ ?_); focus (first | assumption | exact not_false | trivial | exact mt (ile (by omega) (by omega) (by omega) (by omega)).1 (by omega) | exact mt (ilt (by omega) (by omega) (by omega) (by omega)).1 (by omega) | exact mt (ieq (by omega) (by omega) (by omega) (by omega)).1 (by omega)))); skip)
      have g5 := cto_up (cto_up (cto_up (cto_up (cto_up g4 6 1 0 (by omega)) 6 2 0 (by omega)) 6 3 0 (by omega)) 6 4 0 (by omega)) 6 5 0 (by omega)
      have el : f_X1_clear (c0, I4, J, R) (r + 6) = some (c0, up (up (up (up (up I4 (r + 6) 1 (iI 0)) (r + 6) 2 (iI 0)) (r + 6) 3 (iI 0)) (r + 6) 4 (iI 0)) (r + 6) 5 (iI 0), J, R) := by
        refine en_eq ?_
        rw [u_X1_clear]
        repeat ((first | (with_reducible first | refine w_ltA ?_ | refine w_ltS ?_ | refine w_ltM ?_ | refine w_ltN ?_ | refine w_lt ?_ | refine w_jn ?_ | refine n_ck (by omega) (by assumption) ?_ | refine n_gI (by omega) (by assumption) ?_ | refine n_gR (by omega) (by assumption) (by assumption) ?_ | refine n_al (by omega) (by assumption) (by assumption) ?_ | refine n_pI (by omega) (by assumption) ?_ | refine n_set (by omega) (by assumption) (by omega) (by omega) ?_ | refine n_at (by omega) (by assumption) (by omega) (by omega) ?_ | refine n_sI (by omega) (by assumption) (by omega) (by omega) ?_ | refine n_aI (by omega) (by assumption) (by omega) (by omega) ?_ | refine w_sZ (by omega) (by assumption) (by omega) (by omega) (by decide) ?_ | refine n_pZ (by omega) (by assumption) (by decide) ?_ | refine w_dv (by omega) (by omega) (by omega) (by omega) ?_ | refine w_rm (by omega) (by omega) (by omega) (by omega) ?_) | ((with_reducible refine w_pos ?_ ?_); focus (first | assumption | trivial | exact (ile (by omega) (by omega) (by omega) (by omega)).2 (by omega) | exact (ilt (by omega) (by omega) (by omega) (by omega)).2 (by omega) | exact (ieq (by omega) (by omega) (by omega) (by omega)).2 (by omega))) | ((with_reducible refine w_neg ?_ ?_); focus (first | assumption | exact not_false | trivial | exact mt (ile (by omega) (by omega) (by omega) (by omega)).1 (by omega) | exact mt (ilt (by omega) (by omega) (by omega) (by omega)).1 (by omega) | exact mt (ieq (by omega) (by omega) (by omega) (by omega)).1 (by omega)))); skip)
        exact w_rt rfl
      refine w_cV (Q' := fun S => S = _) ⟨_, el, rfl⟩ ?_
      rintro S rfl
      repeat (first | refine n_pZ (by omega) (by assumption) (by assumption) ?_ | ((first | (with_reducible first | refine w_ltA ?_ | refine w_ltS ?_ | refine w_ltM ?_ | refine w_ltN ?_ | refine w_lt ?_ | refine w_jn ?_ | refine n_ck (by omega) (by assumption) ?_ | refine n_gI (by omega) (by assumption) ?_ | refine n_gR (by omega) (by assumption) (by assumption) ?_ | refine n_al (by omega) (by assumption) (by assumption) ?_ | refine n_pI (by omega) (by assumption) ?_ | refine n_set (by omega) (by assumption) (by omega) (by omega) ?_ | refine n_at (by omega) (by assumption) (by omega) (by omega) ?_ | refine n_sI (by omega) (by assumption) (by omega) (by omega) ?_ | refine n_aI (by omega) (by assumption) (by omega) (by omega) ?_ | refine w_sZ (by omega) (by assumption) (by omega) (by omega) (by decide) ?_ | refine n_pZ (by omega) (by assumption) (by decide) ?_ | refine w_dv (by omega) (by omega) (by omega) (by omega) ?_ | refine w_rm (by omega) (by omega) (by omega) (by omega) ?_) | ((with_reducible refine w_pos ?_ ?_); focus (first | assumption | trivial | exact (ile (by omega) (by omega) (by omega) (by omega)).2 (by omega) | exact (ilt (by omega) (by omega) (by omega) (by omega)).2 (by omega) | exact (ieq (by omega) (by omega) (by omega) (by omega)).2 (by omega))) | ((with_reducible refine w_neg ?_ ?_); focus (first | assumption | exact not_false | trivial | exact mt (ile (by omega) (by omega) (by omega) (by omega)).1 (by omega) | exact mt (ilt (by omega) (by omega) (by omega) (by omega)).1 (by omega) | exact mt (ieq (by omega) (by omega) (by omega) (by omega)).1 (by omega)))); skip))
      have g6 := cto_up0 (cto_up0 (cto_up0 (cto_up0 (cto_up0 (cto_up0 (cto_up0 (cto_up0 (cto_up0 g5 7 0) 8 n) 9 c) 10 o) 11 0) 12 0) 13 1) 14 15) 15 0
      refine w_rt ⟨_, rfl, cto_congr g6 (fun p hp f k _ => ?_) (fun g k hv => ?_)⟩
      · show (if p < 7 then clP (V.1 p) else V.1 p) f k = (if p = 6 then clP (if 6 < 6 then clP (V.1 6) else V.1 6) else if p < 6 then clP (V.1 p) else V.1 p) f k
        by_cases c1 : p = 6
        · rw [if_pos c1, if_pos (by omega), if_neg (by omega), c1]
        · rw [if_neg c1, if_pos hp, if_pos (by omega)]
      · have hv7 := vldR_g hv
        show (if g = 5 then (if k = 17 then -1 else 0) else if g = 6 then 0 else if g = 0 then _ else V.2 g k) = if g = 0 ∧ k = 15 then 0 else if g = 0 ∧ k = 14 then 15 else if g = 0 ∧ k = 13 then 1 else if g = 0 ∧ k = 12 then 0 else if g = 0 ∧ k = 11 then 0 else if g = 0 ∧ k = 10 then o else if g = 0 ∧ k = 9 then c else if g = 0 ∧ k = 8 then n else if g = 0 ∧ k = 7 then 0 else if g = 6 ∧ k = 5 then 0 else if g = 6 ∧ k = 4 then 0 else if g = 6 ∧ k = 3 then 0 else if g = 6 ∧ k = 2 then 0 else if g = 6 ∧ k = 1 then 0 else if g = 5 ∧ k = 17 then -1 else if g = 5 then (if k < j2 then 0 else V.2 5 k) else V.2 g k
        unfold vldR at hv
        by_cases c0 : g = 0
        · subst c0
          rw [if_pos rfl] at hv
          obtain ⟨h7, h15⟩ := hv
          rcases (show k = 7 ∨ k = 8 ∨ k = 9 ∨ k = 10 ∨ k = 11 ∨ k = 12 ∨ k = 13 ∨ k = 14 ∨ k = 15 by omega) with h | h | h | h | h | h | h | h | h <;> subst h <;> rfl
        rw [if_neg c0] at hv
        by_cases c5 : g = 5
        · subst c5
          rw [if_neg (by omega), if_pos rfl] at hv
          have : k < j2 := by omega
          by_cases c17 : k = 17
          · subst c17
            rfl
          · simp only [if_pos this, if_pos trivial, c17]
            simp
        by_cases c6 : g = 6
        · subst c6
          rw [if_neg (by omega), if_neg (by omega), if_pos rfl] at hv
          rcases (show k = 1 ∨ k = 2 ∨ k = 3 ∨ k = 4 ∨ k = 5 by omega) with h | h | h | h | h <;> subst h <;> rfl
        simp [c0, c5, c6]
end NRG
