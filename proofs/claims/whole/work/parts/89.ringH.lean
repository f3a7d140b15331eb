/-! RINGS: the class's read -/
def noteK (V : RV) (it n : Nat) : RV := (V.1, fun g k => if g = 6 then (if k = 1 then V.1 6 2 it else if k = 2 then V.1 6 3 it else if k = 3 then V.1 6 4 it else if k = 4 then V.1 6 7 it else if k = 5 then V.1 6 2 it - V.2 6 1 - 1 else V.2 g k) else if g = 7 ∧ k < n then V.1 6 1 (V.1 6 6 it + 1 + k).toNat else V.2 g k)
def noteV (V : RV) (it : Nat) : RV := noteK V it (V.1 6 7 it).toNat
def bitV (m l : Int) : Bool := decide (m / 2 ^ l.toNat % 2 = 1)
def rdnV : Nat → RV → Int × RV
  | 0, V => (-1, V)
  | n + 1, V => if V.1 6 0 8 ≤ V.2 0 7 then (-1, V) else
    if isR (V.1 6) (V.2 0 7).toNat then
      if bitV (V.2 0 14) (V.1 6 3 (V.2 0 7).toNat) then (V.1 6 2 (V.2 0 7).toNat, upG (noteV (upG V 0 7 (V.2 0 7 + 1)) (V.2 0 7).toNat) 5 11 (V.2 5 11 + 1))
      else rdnV n (upG (upG V 0 7 (V.2 0 7 + 1)) 5 10 (V.2 5 10 + 1))
    else rdnV n (upG V 0 7 (V.2 0 7 + 1))
def readV (V : RV) : Int × RV := rdnV 17 V
theorem bitV_C {m l : Int} (hm : 0 ≤ m ∧ m ≤ 15) (hl : 0 ≤ l ∧ l ≤ 3) : ((iI m >>> (iI l &&& 31)) &&& iI 1 : Int32) = if bitV m l then iI 1 else iI 0 := by
  obtain ⟨m', rfl⟩ : ∃ m' : Nat, m = m' := ⟨m.toNat, by omega⟩
  obtain ⟨l', rfl⟩ : ∃ l' : Nat, l = l' := ⟨l.toNat, by omega⟩
  have hall : ∀ m, m < 16 → ∀ l, l < 4 → ((iI (m : Nat) >>> (iI (l : Nat) &&& 31)) &&& iI 1 : Int32) = if bitV (m : Nat) (l : Nat) then iI 1 else iI 0 := by decide +kernel
  exact hall m' (by omega) l' (by omega)
theorem note_g {V : RV} {it n g k : Nat} (h : g ≠ 6 ∧ g ≠ 7) : (noteK V it n).2 g k = V.2 g k := by
  show (if g = 6 then _ else if g = 7 ∧ k < n then _ else V.2 g k) = _
  rw [if_neg h.1, if_neg (by omega)]
theorem wr_nxt {V : RV} (hw : WR V) (h : V.2 0 7 < V.1 6 0 8) : WR (upG V 0 7 (V.2 0 7 + 1)) := by
  have hb := hw.1
  unfold WB at hb
  refine wr_G hw ?_ rfl (upG_ne (by omega)) (upG_ne (by omega)) (upG_ne (by omega)) (upG_ne (by omega)) (upG_ne (by omega)) ?_ (fun g k h => upG_ne (by omega))
  · unfold WB
    rw [upG_1, upG_eq]
    simp (disch := omega) only [upG_ne]
    omega
  · rw [upG_ne (by omega)]
    omega
theorem wr_note {V : RV} {it n : Nat} (hw : WR V) (h : (it : Int) < V.1 6 0 8) : WR (noteK V it n) := by
  have hb := hw.1
  have hat := (hw.2.1 6 (by omega)).at h
  unfold WB at hb
  refine wr_G hw ?_ rfl (note_g (by omega)) (note_g (by omega)) (note_g (by omega)) (note_g (by omega)) (note_g (by omega)) ?_ (fun g k h => note_g (by omega))
  · have e64 : (noteK V it n).2 6 4 = V.1 6 7 it := rfl
    have e1 : (noteK V it n).1 = V.1 := rfl
    unfold WB
    rw [e64, e1]
    simp (disch := omega) only [note_g]
    omega
  · rw [note_g (by omega)]
    omega
theorem wr_rdn : ∀ (n : Nat) {V : RV}, WR V → WR (rdnV n V).2
  | 0, V, hw => hw
  | n + 1, V, hw => by
    have hb := hw.1
    unfold WB at hb
    unfold rdnV
    split
    · exact hw
    next h =>
      have h1 := wr_nxt hw (by omega)
      split
      · split
        · exact wr_t (wr_note h1 (by rw [upG_1]; omega)) _ _ (Or.inl (by omega))
        · exact wr_rdn n (wr_t h1 _ _ (Or.inl (by omega)))
      · exact wr_rdn n h1
theorem wr_read {V : RV} (hw : WR V) : WR (readV V).2 := wr_rdn 17 hw
def rdsV : Nat → RV → Nat × RV
  | 0, V => (0, V)
  | n + 1, V => if iI (readV V).1 = iI (-1) then (0, (readV V).2) else ((rdsV n (readV V).2).1 + 1, (rdsV n (readV V).2).2)
theorem rds_succ {d : Nat} {V : RV} : rdsV (d + 1) V = if iI (readV V).1 = iI (-1) then (0, (readV V).2) else ((rdsV d (readV V).2).1 + 1, (rdsV d (readV V).2).2) := rfl
theorem wr_rds : ∀ (n : Nat) {V : RV}, WR V → WR (rdsV n V).2
  | 0, V, hw => hw
  | n + 1, V, hw => by
    unfold rdsV
    split
    · exact wr_read hw
    · exact wr_rds n (wr_read hw)
theorem w_rz0 {S : St} {Q : Int32 × St → Prop} (h : Q (iI 0, S)) : En Q (rz_ (iI 0) S) := ⟨_, rz0, h⟩
theorem w_rz1 {S : St} {Q : Int32 × St → Prop} (h : Q (iI 1, S)) : En Q (rz_ (iI 1) S) := ⟨_, rz1, h⟩
section RGI
variable {I I0 : MI} {J : MJ} {R R0 : MR} {r : Nat} {σ : Nat → Nat} {γ : Type} {Q : γ → Prop} {x : Int32} {i t l n m f : Int} {V : RV}
theorem cr_l {V : RV} (h : CR I R r σ V) (k : Nat) (hk : 1 ≤ k ∧ k ≤ 5) : I (r + 6) k = iI (V.2 6 k) := h.2.2 6 k hk
theorem cr_d {V : RV} (h : CR I R r σ V) (k : Nat) (hk : k < 8) : I (r + 7) k = iI (V.2 7 k) := h.2.2 7 k ⟨rfl, hk⟩
theorem note_C {it : Nat} (hrg : isRg r) (h : CTo r σ I0 R0 I R V) (hw : WR V) (hi : (it : Int) < V.1 6 0 8) : En (fun y => ∃ I', y = (381, I', J, R) ∧ CTo r σ I0 R0 I' R (noteV V it)) (f_X1_note (381, I, J, R) (r + 6) (pa r (σ 6)) (iI it)) := by
  have hc := h.1
  have l1' := cr_l hc 1 (by omega)
  have hb := hw.1
  unfold WB at hb
  have hw6 := hw.2.1 6 (by omega)
  have hat := hw6.at hi
  have hc0 := hc
  obtain ⟨hq, kr0, kr1, kr2, kr3, kr4, kr5, kr6, kr7, lr1, lr2, lr3, lr4, lr5, lr7, hpg⟩ := hrg
  have hsc := cr_s hc
  obtain ⟨⟨e0, e1, e2, e3, e4, e5, e6, e7, ep, ed, hσ, hσi⟩, hpp, hgg⟩ := hc
  have s7 := hsc 7 (by decide)
  have s8 := hsc 8 (by decide)
  have s9 := hsc 9 (by decide)
  have s10 := hsc 10 (by decide)
  have s11 := hsc 11 (by decide)
  have s12 := hsc 12 (by decide)
  have s13 := hsc 13 (by decide)
  have s14 := hsc 14 (by decide)
  have s15 := hsc 15 (by decide)
  have hP := hpp 6 (by omega)
  have c2 := hP.it hw6 2 (by decide) hi
  have c3 := hP.it hw6 3 (by decide) hi
  have c4 := hP.it hw6 4 (by decide) hi
  have c6 := hP.it hw6 6 (by decide) hi
  have c7 := hP.it hw6 7 (by decide) hi
  have w8 := hw6.1
  have hpg1 := hpg _ (hσ 6 (by omega))
  have hr1 := ed _ (hσ 6 (by omega))
  have hpin := pa_in (r := r) (hσ 6 (by omega))
  have hkk : ∀ j, j < 32 → I (pa r (σ 6) + 1) j = iI (V.1 6 1 j) := fun j hj => hP.old.2.1 j hj
  generalize pa r (σ 6) = q at *
  obtain ⟨hq9, k0, k1, k2, k3, k4, k5, k6, k7, k8, g1, g2, g3, g4, g5, g6, g7, g8⟩ := hpg1
  obtain ⟨r0, r1, r2, r3, r4, r5, r6, r7⟩ := hr1
  rw [u_X1_note]
  have h1 := cto_up (cto_up (cto_up (cto_up (cto_up h 6 5 (V.1 6 2 it - V.2 6 1 - 1) (by omega)) 6 1 (V.1 6 2 it) (by omega)) 6 2 (V.1 6 3 it) (by omega)) 6 3 (V.1 6 4 it) (by omega)) 6 4 (V.1 6 7 it) (by omega)
  have hk0 : ∀ g k, (noteK V it 0).2 g k = (upG (upG (upG (upG (upG V 6 5 (V.1 6 2 it - V.2 6 1 - 1)) 6 1 (V.1 6 2 it)) 6 2 (V.1 6 3 it)) 6 3 (V.1 6 4 it)) 6 4 (V.1 6 7 it)).2 g k := fun g k => by
    show (if g = 6 then (if k = 1 then V.1 6 2 it else if k = 2 then V.1 6 3 it else if k = 3 then V.1 6 4 it else if k = 4 then V.1 6 7 it else if k = 5 then V.1 6 2 it - V.2 6 1 - 1 else V.2 g k) else if g = 7 ∧ k < 0 then _ else V.2 g k) = (if g = 6 ∧ k = 4 then V.1 6 7 it else if g = 6 ∧ k = 3 then V.1 6 4 it else if g = 6 ∧ k = 2 then V.1 6 3 it else if g = 6 ∧ k = 1 then V.1 6 2 it else if g = 6 ∧ k = 5 then V.1 6 2 it - V.2 6 1 - 1 else V.2 g k)
    by_cases hg : g = 6
    · subst hg
      rw [if_pos rfl]
      by_cases h1 : k = 1
      · subst h1
        rfl
      by_cases h2 : k = 2
      · subst h2
        rfl
      by_cases h3 : k = 3
      · subst h3
        rfl
      by_cases h4 : k = 4
      · subst h4
        rfl
      by_cases h5 : k = 5
      · subst h5
        rfl
      rw [if_neg h1, if_neg h2, if_neg h3, if_neg h4, if_neg h5, if_neg (by omega), if_neg (by omega), if_neg (by omega), if_neg (by omega), if_neg (by omega)]
    · rw [if_neg hg, if_neg (by omega), if_neg (by omega), if_neg (by omega), if_neg (by omega), if_neg (by omega), if_neg (by omega)]
  have h1 := cto_congr (V' := noteK V it 0) h1 (fun _ _ _ _ _ => rfl) (fun g k _ => hk0 g k)
  have hfar1 := h1.1.2.1 6 (by omega)
  repeat ((first | (with_reducible first | refine w_ltA ?_ | refine w_ltS ?_ | refine w_ltM ?_ | refine w_ltN ?_ | refine w_lt ?_ | refine w_jn ?_ | refine w_ck (by omega) (by assumption) ?_ | refine w_gI (by omega) (by assumption) ?_ | refine w_gR (by omega) (by assumption) (by assumption) ?_ | refine w_al (by omega) (by assumption) (by assumption) ?_ | refine w_pI (by omega) (by assumption) ?_ | refine w_set (by omega) (by assumption) (by omega) (by omega) ?_ | refine w_at (by omega) (by assumption) (by omega) (by omega) ?_ | refine w_sI (by omega) (by assumption) (by omega) (by omega) ?_ | refine w_aI (by omega) (by assumption) (by omega) (by omega) ?_ | refine w_sZ (by omega) (by assumption) (by omega) (by omega) (by decide) ?_ | refine w_pZ (by omega) (by assumption) (by decide) ?_ | refine w_dv (by omega) (by omega) (by omega) (by omega) ?_ | refine w_rm (by omega) (by omega) (by omega) (by omega) ?_) | ((with_reducible refine w_pos ?_ ?_); focus (first | assumption | trivial | exact (ile (by omega) (by omega) (by omega) (by omega)).2 (by omega) | exact (ilt (by omega) (by omega) (by omega) (by omega)).2 (by omega) | exact (ieq (by omega) (by omega) (by omega) (by omega)).2 (by omega))) | ((with_reducible refine w_neg ?_ ?_); focus (first | assumption | exact not_false | trivial | exact mt (ile (by omega) (by omega) (by omega) (by omega)).1 (by omega) | exact mt (ilt (by omega) (by omega) (by omega) (by omega)).1 (by omega) | exact mt (ieq (by omega) (by omega) (by omega) (by omega)).1 (by omega)))); try simp (disch := omega) only [up_ne, Int.toNat_natCast, l1', c2, c3, c4, c6, c7])
  refine w_lp (V.1 6 7 it).toNat (fun j y => j ≤ (V.1 6 7 it).toNat ∧ ∃ I', y = (iI j, (381, I', J, R)) ∧ (∀ j, j < 32 → I' (q + 1) j = iI (V.1 6 1 j)) ∧ CTo r σ I0 R0 I' R (noteK V it j)) ⟨by omega, _, rfl, fun j hj => ?_, h1⟩ (by rw [FU_eq]; omega) (fun i y h => h.1) ?_
  · simp (disch := omega) only [up_ne]
    exact hkk j hj
  · rintro j y self ⟨hj, I', rfl, hx, hI⟩ ih
    try dsimp only
    have t4 : I' (r + 6) 4 = iI (V.1 6 7 it) := cr_l hI.1 4 (by omega)
    by_cases hn : j < (V.1 6 7 it).toNat
    · have hx1 := hx (V.1 6 6 it + 1 + j).toNat (by omega)
      repeat ((first | (with_reducible first | refine w_ltA ?_ | refine w_ltS ?_ | refine w_ltM ?_ | refine w_ltN ?_ | refine w_lt ?_ | refine w_jn ?_ | refine w_ck (by omega) (by assumption) ?_ | refine w_gI (by omega) (by assumption) ?_ | refine w_gR (by omega) (by assumption) (by assumption) ?_ | refine w_al (by omega) (by assumption) (by assumption) ?_ | refine w_pI (by omega) (by assumption) ?_ | refine w_set (by omega) (by assumption) (by omega) (by omega) ?_ | refine w_at (by omega) (by assumption) (by omega) (by omega) ?_ | refine w_sI (by omega) (by assumption) (by omega) (by omega) ?_ | refine w_aI (by omega) (by assumption) (by omega) (by omega) ?_ | refine w_sZ (by omega) (by assumption) (by omega) (by omega) (by decide) ?_ | refine w_pZ (by omega) (by assumption) (by decide) ?_ | refine w_dv (by omega) (by omega) (by omega) (by omega) ?_ | refine w_rm (by omega) (by omega) (by omega) (by omega) ?_) | ((with_reducible refine w_pos ?_ ?_); focus (first | assumption | trivial | exact (ile (by omega) (by omega) (by omega) (by omega)).2 (by omega) | exact (ilt (by omega) (by omega) (by omega) (by omega)).2 (by omega) | exact (ieq (by omega) (by omega) (by omega) (by omega)).2 (by omega))) | ((with_reducible refine w_neg ?_ ?_); focus (first | assumption | exact not_false | trivial | exact mt (ile (by omega) (by omega) (by omega) (by omega)).1 (by omega) | exact mt (ilt (by omega) (by omega) (by omega) (by omega)).1 (by omega) | exact mt (ieq (by omega) (by omega) (by omega) (by omega)).1 (by omega)))); try simp (disch := omega) only [t4, hx1])
      have ej : (j : Int) + 1 = ((j + 1 : Nat) : Int) := by omega
      rw [ej]
      refine ih _ ⟨by omega, _, rfl, fun j' hj' => ?_, ?_⟩
      · rw [up_ne (by omega)]
        exact hx j' hj'
      · have h2 := cto_up hI 7 j (V.1 6 1 (V.1 6 6 it + 1 + j).toNat) (by omega)
        rw [Int.toNat_natCast]
        refine cto_congr h2 (fun _ _ _ _ _ => rfl) (fun g k hv => ?_)
        show (if g = 6 then _ else if g = 7 ∧ k < j + 1 then V.1 6 1 (V.1 6 6 it + 1 + k).toNat else V.2 g k) = (if g = 7 ∧ k = j then V.1 6 1 (V.1 6 6 it + 1 + j).toNat else if g = 6 then _ else if g = 7 ∧ k < j then V.1 6 1 (V.1 6 6 it + 1 + k).toNat else V.2 g k)
        by_cases hg : g = 7 ∧ k = j
        · rw [if_pos hg, if_neg (by omega), if_pos (by omega), hg.2]
        · rw [if_neg hg]
          by_cases h6 : g = 6
          · rw [if_pos h6, if_pos h6]
          · rw [if_neg h6, if_neg h6]
            by_cases h7 : g = 7 ∧ k < j
            · rw [if_pos h7, if_pos (by omega)]
            · rw [if_neg h7, if_neg (by omega)]
    · repeat ((first | (with_reducible first | refine w_ltA ?_ | refine w_ltS ?_ | refine w_ltM ?_ | refine w_ltN ?_ | refine w_lt ?_ | refine w_jn ?_ | refine w_ck (by omega) (by assumption) ?_ | refine w_gI (by omega) (by assumption) ?_ | refine w_gR (by omega) (by assumption) (by assumption) ?_ | refine w_al (by omega) (by assumption) (by assumption) ?_ | refine w_pI (by omega) (by assumption) ?_ | refine w_set (by omega) (by assumption) (by omega) (by omega) ?_ | refine w_at (by omega) (by assumption) (by omega) (by omega) ?_ | refine w_sI (by omega) (by assumption) (by omega) (by omega) ?_ | refine w_aI (by omega) (by assumption) (by omega) (by omega) ?_ | refine w_sZ (by omega) (by assumption) (by omega) (by omega) (by decide) ?_ | refine w_pZ (by omega) (by assumption) (by decide) ?_ | refine w_dv (by omega) (by omega) (by omega) (by omega) ?_ | refine w_rm (by omega) (by omega) (by omega) (by omega) ?_) | ((with_reducible refine w_pos ?_ ?_); focus (first | assumption | trivial | exact (ile (by omega) (by omega) (by omega) (by omega)).2 (by omega) | exact (ilt (by omega) (by omega) (by omega) (by omega)).2 (by omega) | exact (ieq (by omega) (by omega) (by omega) (by omega)).2 (by omega))) | ((with_reducible refine w_neg ?_ ?_); focus (first | assumption | exact not_false | trivial | exact mt (ile (by omega) (by omega) (by omega) (by omega)).1 (by omega) | exact mt (ilt (by omega) (by omega) (by omega) (by omega)).1 (by omega) | exact mt (ieq (by omega) (by omega) (by omega) (by omega)).1 (by omega)))); try simp (disch := omega) only [t4])
      refine w_rt ⟨I', rfl, ?_⟩
      have : j = (V.1 6 7 it).toNat := by omega
      rw [this] at hI
      exact hI
theorem read_C (hrg : isRg r) (h : CTo r σ I0 R0 I R V) (hw : WR V) : En (fun y => y.1 = iI (readV V).1 ∧ ∃ I', y.2 = (381, I', J, R) ∧ CTo r σ I0 R0 I' R (readV V).2) (f_X4_readNext (381, I, J, R) r) := by
  rw [u_X4_readNext]
  have hb0 := hw.1
  unfold WB at hb0
  have hw60 := (hw.2.1 6 (by omega)).1
  refine w_lp 16 (fun j y => ∃ I' V', y = (381, I', J, R) ∧ CTo r σ I0 R0 I' R V' ∧ WR V' ∧ j ≤ 16 ∧ (j : Int) ≤ V'.2 0 7 ∧ readV V = rdnV (17 - j) V') ⟨I, V, rfl, h, hw, by omega, by omega, rfl⟩ (by rw [FU_eq]; omega) (fun i y h => by obtain ⟨_, _, _, _, _, h, _⟩ := h; exact h) ?_
  rintro j y self ⟨I', V', rfl, g, hwv, hj, hj7, hr⟩ ih
  have hb := hwv.1
  unfold WB at hb
  have hw6 := hwv.2.1 6 (by omega)
  have hc := g.1
  have hc1 := hc
  have hrg1 := hrg
  try dsimp only
  obtain ⟨d, hd⟩ : ∃ d, 17 - j = d + 1 := ⟨16 - j, by omega⟩
  rw [hd] at hr
  unfold rdnV at hr
  have hc0 := hc
  obtain ⟨hq, kr0, kr1, kr2, kr3, kr4, kr5, kr6, kr7, lr1, lr2, lr3, lr4, lr5, lr7, hpg⟩ := hrg
  have hsc := cr_s hc
  obtain ⟨⟨e0, e1, e2, e3, e4, e5, e6, e7, ep, ed, hσ, hσi⟩, hpp, hgg⟩ := hc
  have s7 := hsc 7 (by decide)
  have s8 := hsc 8 (by decide)
  have s9 := hsc 9 (by decide)
  have s10 := hsc 10 (by decide)
  have s11 := hsc 11 (by decide)
  have s12 := hsc 12 (by decide)
  have s13 := hsc 13 (by decide)
  have s14 := hsc 14 (by decide)
  have s15 := hsc 15 (by decide)
  have hP := hpp 6 (by omega)
  have c8 := hP.old.1.1
  have w8 := hw6.1
  have hpg1 := hpg _ (hσ 6 (by omega))
  have hr1 := ed _ (hσ 6 (by omega))
  have hpin := pa_in (r := r) (hσ 6 (by omega))
  have hkq := hpg1.2.1
  have hq9 := hpg1.1
  by_cases h1 : V'.1 6 0 8 ≤ V'.2 0 7
  · rw [if_pos h1] at hr
    rw [hr]
    repeat ((first | (with_reducible first | refine w_ltA ?_ | refine w_ltS ?_ | refine w_ltM ?_ | refine w_ltN ?_ | refine w_lt ?_ | refine w_jn ?_ | refine w_ck (by omega) (by assumption) ?_ | refine w_gI (by omega) (by assumption) ?_ | refine w_gR (by omega) (by assumption) (by assumption) ?_ | refine w_al (by omega) (by assumption) (by assumption) ?_ | refine w_pI (by omega) (by assumption) ?_ | refine w_set (by omega) (by assumption) (by omega) (by omega) ?_ | refine w_at (by omega) (by assumption) (by omega) (by omega) ?_ | refine w_sI (by omega) (by assumption) (by omega) (by omega) ?_ | refine w_aI (by omega) (by assumption) (by omega) (by omega) ?_ | refine w_sZ (by omega) (by assumption) (by omega) (by omega) (by decide) ?_ | refine w_pZ (by omega) (by assumption) (by decide) ?_ | refine w_dv (by omega) (by omega) (by omega) (by omega) ?_ | refine w_rm (by omega) (by omega) (by omega) (by omega) ?_) | ((with_reducible refine w_pos ?_ ?_); focus (first | assumption | trivial | exact (ile (by omega) (by omega) (by omega) (by omega)).2 (by omega) | exact (ilt (by omega) (by omega) (by omega) (by omega)).2 (by omega) | exact (ieq (by omega) (by omega) (by omega) (by omega)).2 (by omega))) | ((with_reducible refine w_neg ?_ ?_); focus (first | assumption | exact not_false | trivial | exact mt (ile (by omega) (by omega) (by omega) (by omega)).1 (by omega) | exact mt (ilt (by omega) (by omega) (by omega) (by omega)).1 (by omega) | exact mt (ieq (by omega) (by omega) (by omega) (by omega)).1 (by omega)))); try simp (disch := omega) only [s7, c8])
    exact w_rt ⟨rfl, I', rfl, g⟩
  rw [if_neg h1] at hr
  have h16 : j ≤ 15 := by omega
  obtain ⟨it, hit⟩ : ∃ it : Nat, V'.2 0 7 = it := ⟨(V'.2 0 7).toNat, by omega⟩
  have hit2 : (V'.2 0 7).toNat = it := by omega
  have g1 := cto_up0 g 7 (V'.2 0 7 + 1)
  have hw1 := wr_nxt hwv (by omega)
  have hP1 := g1.1.2.1 6 (by omega)
  have hrec := isRecord_C (J := J) (i := it) hpg1 hr1 hP1 hw6 (by rw [upG_1]; omega)
  rw [upG_1, ← hit] at hrec
  have hw61 := hw1.2.1 6 (by omega)
  have c3 := hP1.it hw61 3 (by decide) (i := it) (by rw [upG_1]; omega)
  have k3 := hpg1.2.2.2.2.1
  have l3' : ln (pa r (σ 6) + 3) = 16 := hpg1.2.2.2.2.2.2.2.2.2.2.2.2.1
  have r3 := hr1.2.2.1
  have hlv := (hw6.2.2.2.2.2.1 it (by omega)).2.2.2.2.2
  rw [hit2] at hr
  repeat ((first | (with_reducible first | refine w_ltA ?_ | refine w_ltS ?_ | refine w_ltM ?_ | refine w_ltN ?_ | refine w_lt ?_ | refine w_jn ?_ | refine w_ck (by omega) (by assumption) ?_ | refine w_gI (by omega) (by assumption) ?_ | refine w_gR (by omega) (by assumption) (by assumption) ?_ | refine w_al (by omega) (by assumption) (by assumption) ?_ | refine w_pI (by omega) (by assumption) ?_ | refine w_set (by omega) (by assumption) (by omega) (by omega) ?_ | refine w_at (by omega) (by assumption) (by omega) (by omega) ?_ | refine w_sI (by omega) (by assumption) (by omega) (by omega) ?_ | refine w_aI (by omega) (by assumption) (by omega) (by omega) ?_ | refine w_sZ (by omega) (by assumption) (by omega) (by omega) (by decide) ?_ | refine w_pZ (by omega) (by assumption) (by decide) ?_ | refine w_dv (by omega) (by omega) (by omega) (by omega) ?_ | refine w_rm (by omega) (by omega) (by omega) (by omega) ?_) | ((with_reducible refine w_pos ?_ ?_); focus (first | assumption | trivial | exact (ile (by omega) (by omega) (by omega) (by omega)).2 (by omega) | exact (ilt (by omega) (by omega) (by omega) (by omega)).2 (by omega) | exact (ieq (by omega) (by omega) (by omega) (by omega)).2 (by omega))) | ((with_reducible refine w_neg ?_ ?_); focus (first | assumption | exact not_false | trivial | exact mt (ile (by omega) (by omega) (by omega) (by omega)).1 (by omega) | exact mt (ilt (by omega) (by omega) (by omega) (by omega)).1 (by omega) | exact mt (ieq (by omega) (by omega) (by omega) (by omega)).1 (by omega)))); try simp (disch := omega) only [s7, c8])
  refine w_cP hrec ?_
  by_cases h2 : isR (V'.1 6) it = true
  · rw [if_pos h2] at hr ⊢
    have t14 : up I' r 7 (iI (V'.2 0 7 + 1)) r 14 = iI (V'.2 0 14) := cr_s g1.1 14 (by decide)
    repeat ((first | (with_reducible first | refine w_ltA ?_ | refine w_ltS ?_ | refine w_ltM ?_ | refine w_ltN ?_ | refine w_lt ?_ | refine w_jn ?_ | refine w_ck (by omega) (by assumption) ?_ | refine w_gI (by omega) (by assumption) ?_ | refine w_gR (by omega) (by assumption) (by assumption) ?_ | refine w_al (by omega) (by assumption) (by assumption) ?_ | refine w_pI (by omega) (by assumption) ?_ | refine w_set (by omega) (by assumption) (by omega) (by omega) ?_ | refine w_at (by omega) (by assumption) (by omega) (by omega) ?_ | refine w_sI (by omega) (by assumption) (by omega) (by omega) ?_ | refine w_aI (by omega) (by assumption) (by omega) (by omega) ?_ | refine w_sZ (by omega) (by assumption) (by omega) (by omega) (by decide) ?_ | refine w_pZ (by omega) (by assumption) (by decide) ?_ | refine w_dv (by omega) (by omega) (by omega) (by omega) ?_ | refine w_rm (by omega) (by omega) (by omega) (by omega) ?_) | ((with_reducible refine w_pos ?_ ?_); focus (first | assumption | trivial | exact (ile (by omega) (by omega) (by omega) (by omega)).2 (by omega) | exact (ilt (by omega) (by omega) (by omega) (by omega)).2 (by omega) | exact (ieq (by omega) (by omega) (by omega) (by omega)).2 (by omega))) | ((with_reducible refine w_neg ?_ ?_); focus (first | assumption | exact not_false | trivial | exact mt (ile (by omega) (by omega) (by omega) (by omega)).1 (by omega) | exact mt (ilt (by omega) (by omega) (by omega) (by omega)).1 (by omega) | exact mt (ieq (by omega) (by omega) (by omega) (by omega)).1 (by omega)))); try simp (disch := omega) only [t14])
    rw [show (V'.2 0 7).toNat = it from hit2, c3, upG_1]
    rw [bitV_C (by omega) (by omega)]
    by_cases h3 : bitV (V'.2 0 14) (V'.1 6 3 it) = true
    · rw [if_pos h3] at hr ⊢
      repeat ((first | (with_reducible first | refine w_ltA ?_ | refine w_ltS ?_ | refine w_ltM ?_ | refine w_ltN ?_ | refine w_lt ?_ | refine w_jn ?_ | refine w_ck (by omega) (by assumption) ?_ | refine w_gI (by omega) (by assumption) ?_ | refine w_gR (by omega) (by assumption) (by assumption) ?_ | refine w_al (by omega) (by assumption) (by assumption) ?_ | refine w_pI (by omega) (by assumption) ?_ | refine w_set (by omega) (by assumption) (by omega) (by omega) ?_ | refine w_at (by omega) (by assumption) (by omega) (by omega) ?_ | refine w_sI (by omega) (by assumption) (by omega) (by omega) ?_ | refine w_aI (by omega) (by assumption) (by omega) (by omega) ?_ | refine w_sZ (by omega) (by assumption) (by omega) (by omega) (by decide) ?_ | refine w_pZ (by omega) (by assumption) (by decide) ?_ | refine w_dv (by omega) (by omega) (by omega) (by omega) ?_ | refine w_rm (by omega) (by omega) (by omega) (by omega) ?_) | ((with_reducible refine w_pos ?_ ?_); focus (first | assumption | trivial | exact (ile (by omega) (by omega) (by omega) (by omega)).2 (by omega) | exact (ilt (by omega) (by omega) (by omega) (by omega)).2 (by omega) | exact (ieq (by omega) (by omega) (by omega) (by omega)).2 (by omega))) | ((with_reducible refine w_neg ?_ ?_); focus (first | assumption | exact not_false | trivial | exact mt (ile (by omega) (by omega) (by omega) (by omega)).1 (by omega) | exact mt (ilt (by omega) (by omega) (by omega) (by omega)).1 (by omega) | exact mt (ieq (by omega) (by omega) (by omega) (by omega)).1 (by omega)))); skip)
      have hno := note_C (J := J) (it := it) hrg1 g1 hw1 (by rw [upG_1]; omega)
      rw [← hit] at hno
      refine w_cV hno ?_
      rintro S ⟨I2, rfl, g2⟩
      repeat ((first | (with_reducible first | refine w_ltA ?_ | refine w_ltS ?_ | refine w_ltM ?_ | refine w_ltN ?_ | refine w_lt ?_ | refine w_jn ?_ | refine w_ck (by omega) (by assumption) ?_ | refine w_gI (by omega) (by assumption) ?_ | refine w_gR (by omega) (by assumption) (by assumption) ?_ | refine w_al (by omega) (by assumption) (by assumption) ?_ | refine w_pI (by omega) (by assumption) ?_ | refine w_set (by omega) (by assumption) (by omega) (by omega) ?_ | refine w_at (by omega) (by assumption) (by omega) (by omega) ?_ | refine w_sI (by omega) (by assumption) (by omega) (by omega) ?_ | refine w_aI (by omega) (by assumption) (by omega) (by omega) ?_ | refine w_sZ (by omega) (by assumption) (by omega) (by omega) (by decide) ?_ | refine w_pZ (by omega) (by assumption) (by decide) ?_ | refine w_dv (by omega) (by omega) (by omega) (by omega) ?_ | refine w_rm (by omega) (by omega) (by omega) (by omega) ?_) | ((with_reducible refine w_pos ?_ ?_); focus (first | assumption | trivial | exact (ile (by omega) (by omega) (by omega) (by omega)).2 (by omega) | exact (ilt (by omega) (by omega) (by omega) (by omega)).2 (by omega) | exact (ieq (by omega) (by omega) (by omega) (by omega)).2 (by omega))) | ((with_reducible refine w_neg ?_ ?_); focus (first | assumption | exact not_false | trivial | exact mt (ile (by omega) (by omega) (by omega) (by omega)).1 (by omega) | exact mt (ilt (by omega) (by omega) (by omega) (by omega)).1 (by omega) | exact mt (ieq (by omega) (by omega) (by omega) (by omega)).1 (by omega)))); skip)
      refine w_raise hrg1 g2 (by omega) (by omega) fun I3 g3 => ?_
      have t1 := cr_l g3.1 1 (by omega)
      repeat ((first | (with_reducible first | refine w_ltA ?_ | refine w_ltS ?_ | refine w_ltM ?_ | refine w_ltN ?_ | refine w_lt ?_ | refine w_jn ?_ | refine w_ck (by omega) (by assumption) ?_ | refine w_gI (by omega) (by assumption) ?_ | refine w_gR (by omega) (by assumption) (by assumption) ?_ | refine w_al (by omega) (by assumption) (by assumption) ?_ | refine w_pI (by omega) (by assumption) ?_ | refine w_set (by omega) (by assumption) (by omega) (by omega) ?_ | refine w_at (by omega) (by assumption) (by omega) (by omega) ?_ | refine w_sI (by omega) (by assumption) (by omega) (by omega) ?_ | refine w_aI (by omega) (by assumption) (by omega) (by omega) ?_ | refine w_sZ (by omega) (by assumption) (by omega) (by omega) (by decide) ?_ | refine w_pZ (by omega) (by assumption) (by decide) ?_ | refine w_dv (by omega) (by omega) (by omega) (by omega) ?_ | refine w_rm (by omega) (by omega) (by omega) (by omega) ?_) | ((with_reducible refine w_pos ?_ ?_); focus (first | assumption | trivial | exact (ile (by omega) (by omega) (by omega) (by omega)).2 (by omega) | exact (ilt (by omega) (by omega) (by omega) (by omega)).2 (by omega) | exact (ieq (by omega) (by omega) (by omega) (by omega)).2 (by omega))) | ((with_reducible refine w_neg ?_ ?_); focus (first | assumption | exact not_false | trivial | exact mt (ile (by omega) (by omega) (by omega) (by omega)).1 (by omega) | exact mt (ilt (by omega) (by omega) (by omega) (by omega)).1 (by omega) | exact mt (ieq (by omega) (by omega) (by omega) (by omega)).1 (by omega)))); skip)
      rw [hr]
      refine w_rt ⟨t1, I3, rfl, ?_⟩
      exact g3
    · rw [if_neg h3] at hr ⊢
      repeat ((first | (with_reducible first | refine w_ltA ?_ | refine w_ltS ?_ | refine w_ltM ?_ | refine w_ltN ?_ | refine w_lt ?_ | refine w_jn ?_ | refine w_ck (by omega) (by assumption) ?_ | refine w_gI (by omega) (by assumption) ?_ | refine w_gR (by omega) (by assumption) (by assumption) ?_ | refine w_al (by omega) (by assumption) (by assumption) ?_ | refine w_pI (by omega) (by assumption) ?_ | refine w_set (by omega) (by assumption) (by omega) (by omega) ?_ | refine w_at (by omega) (by assumption) (by omega) (by omega) ?_ | refine w_sI (by omega) (by assumption) (by omega) (by omega) ?_ | refine w_aI (by omega) (by assumption) (by omega) (by omega) ?_ | refine w_sZ (by omega) (by assumption) (by omega) (by omega) (by decide) ?_ | refine w_pZ (by omega) (by assumption) (by decide) ?_ | refine w_dv (by omega) (by omega) (by omega) (by omega) ?_ | refine w_rm (by omega) (by omega) (by omega) (by omega) ?_) | ((with_reducible refine w_pos ?_ ?_); focus (first | assumption | trivial | exact (ile (by omega) (by omega) (by omega) (by omega)).2 (by omega) | exact (ilt (by omega) (by omega) (by omega) (by omega)).2 (by omega) | exact (ieq (by omega) (by omega) (by omega) (by omega)).2 (by omega))) | ((with_reducible refine w_neg ?_ ?_); focus (first | assumption | exact not_false | trivial | exact mt (ile (by omega) (by omega) (by omega) (by omega)).1 (by omega) | exact mt (ilt (by omega) (by omega) (by omega) (by omega)).1 (by omega) | exact mt (ieq (by omega) (by omega) (by omega) (by omega)).1 (by omega)))); skip)
      refine w_raise hrg1 g1 (by omega) (by omega) fun I3 g3 => ?_
      refine ih _ ⟨I3, _, rfl, g3, wr_t hw1 _ _ (Or.inl (by omega)), by omega, ?_, ?_⟩
      · rw [upG_ne (by omega), upG_eq]
        omega
      · rw [hr, show 17 - (j + 1) = d by omega]
        rfl
  · rw [if_neg h2] at hr ⊢
    repeat ((first | (with_reducible first | refine w_ltA ?_ | refine w_ltS ?_ | refine w_ltM ?_ | refine w_ltN ?_ | refine w_lt ?_ | refine w_jn ?_ | refine w_ck (by omega) (by assumption) ?_ | refine w_gI (by omega) (by assumption) ?_ | refine w_gR (by omega) (by assumption) (by assumption) ?_ | refine w_al (by omega) (by assumption) (by assumption) ?_ | refine w_pI (by omega) (by assumption) ?_ | refine w_set (by omega) (by assumption) (by omega) (by omega) ?_ | refine w_at (by omega) (by assumption) (by omega) (by omega) ?_ | refine w_sI (by omega) (by assumption) (by omega) (by omega) ?_ | refine w_aI (by omega) (by assumption) (by omega) (by omega) ?_ | refine w_sZ (by omega) (by assumption) (by omega) (by omega) (by decide) ?_ | refine w_pZ (by omega) (by assumption) (by decide) ?_ | refine w_dv (by omega) (by omega) (by omega) (by omega) ?_ | refine w_rm (by omega) (by omega) (by omega) (by omega) ?_) | ((with_reducible refine w_pos ?_ ?_); focus (first | assumption | trivial | exact (ile (by omega) (by omega) (by omega) (by omega)).2 (by omega) | exact (ilt (by omega) (by omega) (by omega) (by omega)).2 (by omega) | exact (ieq (by omega) (by omega) (by omega) (by omega)).2 (by omega))) | ((with_reducible refine w_neg ?_ ?_); focus (first | assumption | exact not_false | trivial | exact mt (ile (by omega) (by omega) (by omega) (by omega)).1 (by omega) | exact mt (ilt (by omega) (by omega) (by omega) (by omega)).1 (by omega) | exact mt (ieq (by omega) (by omega) (by omega) (by omega)).1 (by omega)))); skip)
    refine ih _ ⟨_, _, rfl, g1, hw1, by omega, ?_, ?_⟩
    · rw [upG_eq]
      omega
    · rw [hr, show 17 - (j + 1) = d by omega]
theorem reads_C {n : Nat} (hrg : isRg r) (h : CTo r σ I0 R0 I R V) (hw : WR V) (hn : n ≤ 99) : En (fun y => y.1 = (if 0 < (rdsV n V).1 then iI 1 else iI 0) ∧ ∃ I', y.2 = (381, I', J, R) ∧ CTo r σ I0 R0 I' R (rdsV n V).2) (f_X4_readSome (381, I, J, R) r (iI n)) := by
  rw [u_X4_readSome]
  refine w_lp n (fun j y => ∃ I' V', y = (iI j, (381, I', J, R)) ∧ CTo r σ I0 R0 I' R V' ∧ WR V' ∧ j ≤ n ∧ (rdsV n V).1 = (rdsV (n - j) V').1 + j ∧ (rdsV n V).2 = (rdsV (n - j) V').2) ⟨I, V, rfl, h, hw, by omega, rfl, rfl⟩ (by rw [FU_eq]; omega) (fun i y h => by obtain ⟨_, _, _, _, _, h, _⟩ := h; exact h) ?_
  rintro j y self ⟨I', V', rfl, g, hwv, hj, hr1, hr2⟩ ih
  try dsimp only
  have hkr := hrg.2.1
  have hrr := hrg.1
  have fin : ∀ I2 V2, CTo r σ I0 R0 I2 R V2 → (rdsV n V).1 = j → (rdsV n V).2 = V2 → En (fun y => y.1 = (if 0 < (rdsV n V).1 then iI 1 else iI 0) ∧ ∃ I', y.2 = (381, I', J, R) ∧ CTo r σ I0 R0 I' R (rdsV n V).2) (jn_ (fun x3 => rz_ x3 (381, I2, J, R)) fun j3 => if iI j ≤ iI 0 then j3 (iI 0) else j3 (iI 1)) := fun I2 V2 g2 e1 e2 => by
    by_cases h0 : (j : Int) ≤ 0
    · repeat ((first | (with_reducible first | refine w_ltA ?_ | refine w_ltS ?_ | refine w_ltM ?_ | refine w_ltN ?_ | refine w_lt ?_ | refine w_jn ?_ | refine w_ck (by omega) (by assumption) ?_ | refine w_gI (by omega) (by assumption) ?_ | refine w_gR (by omega) (by assumption) (by assumption) ?_ | refine w_al (by omega) (by assumption) (by assumption) ?_ | refine w_pI (by omega) (by assumption) ?_ | refine w_set (by omega) (by assumption) (by omega) (by omega) ?_ | refine w_at (by omega) (by assumption) (by omega) (by omega) ?_ | refine w_sI (by omega) (by assumption) (by omega) (by omega) ?_ | refine w_aI (by omega) (by assumption) (by omega) (by omega) ?_ | refine w_sZ (by omega) (by assumption) (by omega) (by omega) (by decide) ?_ | refine w_pZ (by omega) (by assumption) (by decide) ?_ | refine w_dv (by omega) (by omega) (by omega) (by omega) ?_ | refine w_rm (by omega) (by omega) (by omega) (by omega) ?_) | ((with_reducible refine w_pos ?_ ?_); focus (first | assumption | trivial | exact (ile (by omega) (by omega) (by omega) (by omega)).2 (by omega) | exact (ilt (by omega) (by omega) (by omega) (by omega)).2 (by omega) | exact (ieq (by omega) (by omega) (by omega) (by omega)).2 (by omega))) | ((with_reducible refine w_neg ?_ ?_); focus (first | assumption | exact not_false | trivial | exact mt (ile (by omega) (by omega) (by omega) (by omega)).1 (by omega) | exact mt (ilt (by omega) (by omega) (by omega) (by omega)).1 (by omega) | exact mt (ieq (by omega) (by omega) (by omega) (by omega)).1 (by omega)))); skip)
      refine w_rz0 ⟨?_, I2, rfl, ?_⟩
      · rw [if_neg (by omega)]
      · rw [e2]
        exact g2
    · repeat ((first | (with_reducible first | refine w_ltA ?_ | refine w_ltS ?_ | refine w_ltM ?_ | refine w_ltN ?_ | refine w_lt ?_ | refine w_jn ?_ | refine w_ck (by omega) (by assumption) ?_ | refine w_gI (by omega) (by assumption) ?_ | refine w_gR (by omega) (by assumption) (by assumption) ?_ | refine w_al (by omega) (by assumption) (by assumption) ?_ | refine w_pI (by omega) (by assumption) ?_ | refine w_set (by omega) (by assumption) (by omega) (by omega) ?_ | refine w_at (by omega) (by assumption) (by omega) (by omega) ?_ | refine w_sI (by omega) (by assumption) (by omega) (by omega) ?_ | refine w_aI (by omega) (by assumption) (by omega) (by omega) ?_ | refine w_sZ (by omega) (by assumption) (by omega) (by omega) (by decide) ?_ | refine w_pZ (by omega) (by assumption) (by decide) ?_ | refine w_dv (by omega) (by omega) (by omega) (by omega) ?_ | refine w_rm (by omega) (by omega) (by omega) (by omega) ?_) | ((with_reducible refine w_pos ?_ ?_); focus (first | assumption | trivial | exact (ile (by omega) (by omega) (by omega) (by omega)).2 (by omega) | exact (ilt (by omega) (by omega) (by omega) (by omega)).2 (by omega) | exact (ieq (by omega) (by omega) (by omega) (by omega)).2 (by omega))) | ((with_reducible refine w_neg ?_ ?_); focus (first | assumption | exact not_false | trivial | exact mt (ile (by omega) (by omega) (by omega) (by omega)).1 (by omega) | exact mt (ilt (by omega) (by omega) (by omega) (by omega)).1 (by omega) | exact mt (ieq (by omega) (by omega) (by omega) (by omega)).1 (by omega)))); skip)
      refine w_rz1 ⟨?_, I2, rfl, ?_⟩
      · rw [if_pos (by omega)]
      · rw [e2]
        exact g2
  by_cases hn : j < n
  · obtain ⟨d, hd⟩ : ∃ d, n - j = d + 1 := ⟨n - j - 1, by omega⟩
    rw [hd, rds_succ] at hr1 hr2
    refine w_jnP (fun x => ∃ I2 V2, x = (381, I2, J, R) ∧ CTo r σ I0 R0 I2 R V2 ∧ (rdsV n V).1 = j ∧ (rdsV n V).2 = V2) ?_ ?_
    · rintro x ⟨I2, V2, rfl, g2, e1, e2⟩
      exact fin I2 V2 g2 e1 e2
    · intro jx hjx
      repeat ((first | (with_reducible first | refine w_ltA ?_ | refine w_ltS ?_ | refine w_ltM ?_ | refine w_ltN ?_ | refine w_lt ?_ | refine w_jn ?_ | refine w_ck (by omega) (by assumption) ?_ | refine w_gI (by omega) (by assumption) ?_ | refine w_gR (by omega) (by assumption) (by assumption) ?_ | refine w_al (by omega) (by assumption) (by assumption) ?_ | refine w_pI (by omega) (by assumption) ?_ | refine w_set (by omega) (by assumption) (by omega) (by omega) ?_ | refine w_at (by omega) (by assumption) (by omega) (by omega) ?_ | refine w_sI (by omega) (by assumption) (by omega) (by omega) ?_ | refine w_aI (by omega) (by assumption) (by omega) (by omega) ?_ | refine w_sZ (by omega) (by assumption) (by omega) (by omega) (by decide) ?_ | refine w_pZ (by omega) (by assumption) (by decide) ?_ | refine w_dv (by omega) (by omega) (by omega) (by omega) ?_ | refine w_rm (by omega) (by omega) (by omega) (by omega) ?_) | ((with_reducible refine w_pos ?_ ?_); focus (first | assumption | trivial | exact (ile (by omega) (by omega) (by omega) (by omega)).2 (by omega) | exact (ilt (by omega) (by omega) (by omega) (by omega)).2 (by omega) | exact (ieq (by omega) (by omega) (by omega) (by omega)).2 (by omega))) | ((with_reducible refine w_neg ?_ ?_); focus (first | assumption | exact not_false | trivial | exact mt (ile (by omega) (by omega) (by omega) (by omega)).1 (by omega) | exact mt (ilt (by omega) (by omega) (by omega) (by omega)).1 (by omega) | exact mt (ieq (by omega) (by omega) (by omega) (by omega)).1 (by omega)))); skip)
      refine w_cI (read_C (J := J) hrg g hwv) ?_
      rintro v S ⟨rfl, I2, rfl, g2⟩
      by_cases h1 : iI (readV V').1 = iI (-1)
      · rw [if_pos h1] at hr1 hr2
        repeat ((first | (with_reducible first | refine w_ltA ?_ | refine w_ltS ?_ | refine w_ltM ?_ | refine w_ltN ?_ | refine w_lt ?_ | refine w_jn ?_ | refine w_ck (by omega) (by assumption) ?_ | refine w_gI (by omega) (by assumption) ?_ | refine w_gR (by omega) (by assumption) (by assumption) ?_ | refine w_al (by omega) (by assumption) (by assumption) ?_ | refine w_pI (by omega) (by assumption) ?_ | refine w_set (by omega) (by assumption) (by omega) (by omega) ?_ | refine w_at (by omega) (by assumption) (by omega) (by omega) ?_ | refine w_sI (by omega) (by assumption) (by omega) (by omega) ?_ | refine w_aI (by omega) (by assumption) (by omega) (by omega) ?_ | refine w_sZ (by omega) (by assumption) (by omega) (by omega) (by decide) ?_ | refine w_pZ (by omega) (by assumption) (by decide) ?_ | refine w_dv (by omega) (by omega) (by omega) (by omega) ?_ | refine w_rm (by omega) (by omega) (by omega) (by omega) ?_) | ((with_reducible refine w_pos ?_ ?_); focus (first | assumption | trivial | exact (ile (by omega) (by omega) (by omega) (by omega)).2 (by omega) | exact (ilt (by omega) (by omega) (by omega) (by omega)).2 (by omega) | exact (ieq (by omega) (by omega) (by omega) (by omega)).2 (by omega))) | ((with_reducible refine w_neg ?_ ?_); focus (first | assumption | exact not_false | trivial | exact mt (ile (by omega) (by omega) (by omega) (by omega)).1 (by omega) | exact mt (ilt (by omega) (by omega) (by omega) (by omega)).1 (by omega) | exact mt (ieq (by omega) (by omega) (by omega) (by omega)).1 (by omega)))); skip)
        exact hjx _ ⟨I2, _, rfl, g2, by omega, hr2⟩
      · rw [if_neg h1] at hr1 hr2
        repeat ((first | (with_reducible first | refine w_ltA ?_ | refine w_ltS ?_ | refine w_ltM ?_ | refine w_ltN ?_ | refine w_lt ?_ | refine w_jn ?_ | refine w_ck (by omega) (by assumption) ?_ | refine w_gI (by omega) (by assumption) ?_ | refine w_gR (by omega) (by assumption) (by assumption) ?_ | refine w_al (by omega) (by assumption) (by assumption) ?_ | refine w_pI (by omega) (by assumption) ?_ | refine w_set (by omega) (by assumption) (by omega) (by omega) ?_ | refine w_at (by omega) (by assumption) (by omega) (by omega) ?_ | refine w_sI (by omega) (by assumption) (by omega) (by omega) ?_ | refine w_aI (by omega) (by assumption) (by omega) (by omega) ?_ | refine w_sZ (by omega) (by assumption) (by omega) (by omega) (by decide) ?_ | refine w_pZ (by omega) (by assumption) (by decide) ?_ | refine w_dv (by omega) (by omega) (by omega) (by omega) ?_ | refine w_rm (by omega) (by omega) (by omega) (by omega) ?_) | ((with_reducible refine w_pos ?_ ?_); focus (first | assumption | trivial | exact (ile (by omega) (by omega) (by omega) (by omega)).2 (by omega) | exact (ilt (by omega) (by omega) (by omega) (by omega)).2 (by omega) | exact (ieq (by omega) (by omega) (by omega) (by omega)).2 (by omega))) | ((with_reducible refine w_neg ?_ ?_); focus (first | assumption | exact not_false | trivial | exact mt (ile (by omega) (by omega) (by omega) (by omega)).1 (by omega) | exact mt (ilt (by omega) (by omega) (by omega) (by omega)).1 (by omega) | exact mt (ieq (by omega) (by omega) (by omega) (by omega)).1 (by omega)))); skip)
        refine ih _ ⟨I2, _, ?_, g2, wr_read hwv, by omega, ?_, ?_⟩
        · have : (j : Int) + 1 = ((j + 1 : Nat) : Int) := by omega
          rw [this]
        · rw [hr1, show n - (j + 1) = d by omega]
          show (rdsV d (readV V').2).1 + 1 + j = _
          omega
        · rw [hr2, show n - (j + 1) = d by omega]
  · have : n - j = 0 := by omega
    rw [this] at hr1 hr2
    refine w_jnP (fun x => x = (381, I', J, R)) ?_ ?_
    · rintro x rfl
      exact fin I' V' g (by rw [hr1]; show 0 + j = j; omega) hr2
    · intro jx hjx
      repeat ((first | (with_reducible first | refine w_ltA ?_ | refine w_ltS ?_ | refine w_ltM ?_ | refine w_ltN ?_ | refine w_lt ?_ | refine w_jn ?_ | refine w_ck (by omega) (by assumption) ?_ | refine w_gI (by omega) (by assumption) ?_ | refine w_gR (by omega) (by assumption) (by assumption) ?_ | refine w_al (by omega) (by assumption) (by assumption) ?_ | refine w_pI (by omega) (by assumption) ?_ | refine w_set (by omega) (by assumption) (by omega) (by omega) ?_ | refine w_at (by omega) (by assumption) (by omega) (by omega) ?_ | refine w_sI (by omega) (by assumption) (by omega) (by omega) ?_ | refine w_aI (by omega) (by assumption) (by omega) (by omega) ?_ | refine w_sZ (by omega) (by assumption) (by omega) (by omega) (by decide) ?_ | refine w_pZ (by omega) (by assumption) (by decide) ?_ | refine w_dv (by omega) (by omega) (by omega) (by omega) ?_ | refine w_rm (by omega) (by omega) (by omega) (by omega) ?_) | ((with_reducible refine w_pos ?_ ?_); focus (first | assumption | trivial | exact (ile (by omega) (by omega) (by omega) (by omega)).2 (by omega) | exact (ilt (by omega) (by omega) (by omega) (by omega)).2 (by omega) | exact (ieq (by omega) (by omega) (by omega) (by omega)).2 (by omega))) | ((with_reducible refine w_neg ?_ ?_); focus (first | assumption | exact not_false | trivial | exact mt (ile (by omega) (by omega) (by omega) (by omega)).1 (by omega) | exact mt (ilt (by omega) (by omega) (by omega) (by omega)).1 (by omega) | exact mt (ieq (by omega) (by omega) (by omega) (by omega)).1 (by omega)))); skip)
      exact hjx _ rfl
end RGI
