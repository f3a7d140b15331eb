/-! RINGS -/
abbrev RV : Type := (Nat → PV) × (Nat → Nat → Int)
def upP (V : RV) (p : Nat) (P : PV) : RV := (fun x => if x = p then P else V.1 x, V.2)
def upG (V : RV) (g k : Nat) (v : Int) : RV := (V.1, fun a b => if a = g ∧ b = k then v else V.2 a b)
abbrev vldR (g k : Nat) : Prop := if g = 0 then 7 ≤ k ∧ k ≤ 15 else if g = 2 ∨ g = 3 ∨ g = 4 then k < 4 else if g = 5 then k < 34 else if g = 6 then 1 ≤ k ∧ k ≤ 5 else g = 7 ∧ k < 8
theorem vldR_g {g k : Nat} (h : vldR g k) : g ≤ 7 ∧ g ≠ 1 := by
  unfold vldR at h
  repeat' split at h
  all_goals omega
def isRg (r : Nat) : Prop := r + 70 < 381 ∧ kd r = 4 ∧ kd (r + 1) = 15 ∧ kd (r + 2) = 11 ∧ kd (r + 3) = 11 ∧ kd (r + 4) = 11 ∧ kd (r + 5) = 11 ∧ kd (r + 6) = 1 ∧ kd (r + 7) = 11 ∧ ln (r + 1) = 6 ∧ ln (r + 2) = 4 ∧ ln (r + 3) = 4 ∧ ln (r + 4) = 4 ∧ ln (r + 5) = 34 ∧ ln (r + 7) = 8 ∧ ∀ j, j < 7 → isPg (pa r j)
theorem isRg_all : ∀ r, r ∈ rgs → isRg r := by
  intro r hr
  have h := isPg_all r hr
  have k : ∀ r, r ∈ rgs → r + 70 < 381 ∧ kd r = 4 ∧ kd (r + 1) = 15 ∧ kd (r + 2) = 11 ∧ kd (r + 3) = 11 ∧ kd (r + 4) = 11 ∧ kd (r + 5) = 11 ∧ kd (r + 6) = 1 ∧ kd (r + 7) = 11 ∧ ln (r + 1) = 6 ∧ ln (r + 2) = 4 ∧ ln (r + 3) = 4 ∧ ln (r + 4) = 4 ∧ ln (r + 5) = 34 ∧ ln (r + 7) = 8 := by decide +kernel
  obtain ⟨a1, a2, a3, a4, a5, a6, a7, a8, a9, a10, a11, a12, a13, a14, a15⟩ := k r hr
  exact ⟨a1, a2, a3, a4, a5, a6, a7, a8, a9, a10, a11, a12, a13, a14, a15, h⟩
def CRr (R : MR) (r : Nat) (σ : Nat → Nat) : Prop :=
  R r 0 = some (r + 1) ∧ R r 1 = some (r + 2) ∧ R r 2 = some (r + 3) ∧ R r 3 = some (r + 4) ∧ R r 4 = some (r + 5) ∧ R r 5 = some (r + 6) ∧ R r 6 = some (pa r (σ 6)) ∧ R (r + 6) 0 = some (r + 7) ∧ (∀ p, p < 6 → R (r + 1) p = some (pa r (σ p))) ∧ (∀ j, j < 7 → RfP R (pa r j)) ∧ (∀ p, p < 7 → σ p < 7) ∧ ∀ p p', p < 7 → p' < 7 → σ p = σ p' → p = p'
/-- the ring at r holds V: its pages by places, 6 the reader's; the rest by cell and slot -/
def CR (I : MI) (R : MR) (r : Nat) (σ : Nat → Nat) (V : RV) : Prop := CRr R r σ ∧ (∀ p, p < 7 → CP I (pa r (σ p)) (V.1 p)) ∧ ∀ g k, vldR g k → I (r + g) k = iI (V.2 g k)
def CTo (r : Nat) (σ : Nat → Nat) (I0 : MI) (R0 : MR) (I : MI) (R : MR) (V : RV) : Prop := CR I R r σ V ∧ (∀ a k, ¬ (r ≤ a ∧ a ≤ r + 70) → I a k = I0 a k) ∧ ∀ a k, ¬ ((a = r ∧ k = 6) ∨ a = r + 1) → R a k = R0 a k
def RS (r : Nat) (J : MJ) (I0 : MI) (R0 : MR) (S' : St) (V : RV) : Prop := ∃ I' R' σ', S' = (381, I', J, R') ∧ CTo r σ' I0 R0 I' R' V
theorem cto_0 {r : Nat} {σ : Nat → Nat} {I : MI} {R : MR} {V : RV} (h : CR I R r σ V) : CTo r σ I R I R V := ⟨h, fun _ _ _ => rfl, fun _ _ _ => rfl⟩
theorem CTo.rs {r : Nat} {σ : Nat → Nat} {I0 I : MI} {R0 R : MR} {V : RV} {J : MJ} (h : CTo r σ I0 R0 I R V) : RS r J I0 R0 (381, I, J, R) V := ⟨I, R, σ, rfl, h⟩
theorem pa_in {r j : Nat} (h : j < 7) : r + 8 ≤ pa r j ∧ pa r j + 8 ≤ r + 70 := by
  unfold pa
  omega
theorem pa_far {r j j' : Nat} (h : j ≠ j') : pa r j + 8 < pa r j' ∨ pa r j' + 8 < pa r j := by
  unfold pa
  omega
theorem cto_up {r : Nat} {σ : Nat → Nat} {I0 I : MI} {R0 R : MR} {V : RV} (h : CTo r σ I0 R0 I R V) (g k : Nat) (v : Int) (hg : g ≤ 7 ∧ g ≠ 1) : CTo r σ I0 R0 (up I (r + g) k (iI v)) R (upG V g k v) := by
  obtain ⟨⟨h1, h2, h3⟩, h4, h5⟩ := h
  refine ⟨⟨h1, fun p hp f k' hv => ?_, fun g' k' hv => ?_⟩, fun a k' ha => ?_, h5⟩
  · have := pa_in (r := r) (h1.2.2.2.2.2.2.2.2.2.2.1 p hp)
    rw [up_ne (by omega)]
    exact h2 p hp f k' hv
  · show up _ _ _ _ _ _ = iI (if g' = g ∧ k' = k then v else V.2 g' k')
    by_cases he : g' = g ∧ k' = k
    · rw [if_pos he, he.1, he.2, up_eq]
    · rw [if_neg he, up_ne (by omega)]
      exact h3 g' k' hv
  · rw [up_ne (by omega)]
    exact h4 a k' ha
theorem cto_up0 {r : Nat} {σ : Nat → Nat} {I0 I : MI} {R0 R : MR} {V : RV} (h : CTo r σ I0 R0 I R V) (k : Nat) (v : Int) : CTo r σ I0 R0 (up I r k (iI v)) R (upG V 0 k v) := cto_up h 0 k v (by omega)
theorem cto_pg {r : Nat} {σ : Nat → Nat} {I0 I I' : MI} {R0 R : MR} {V : RV} {P : PV} {p : Nat} (h : CTo r σ I0 R0 I R V) (hp : p < 7) (ht : PTo (pa r (σ p)) I I' P) : CTo r σ I0 R0 I' R (upP V p P) := by
  obtain ⟨⟨h1, h2, h3⟩, h4, h5⟩ := h
  have hs := h1.2.2.2.2.2.2.2.2.2.2
  have ha := pa_in (r := r) (hs.1 p hp)
  refine ⟨⟨h1, fun p' hp' f k' hv => ?_, fun g' k' hv => ?_⟩, fun a k' ha' => ?_, h5⟩
  · show _ = iI ((if p' = p then P else V.1 p') f k')
    by_cases he : p' = p
    · subst he
      rw [if_pos rfl]
      exact ht.1 f k' hv
    · rw [if_neg he]
      have hf := vld_f hv
      have := pa_far (r := r) (fun e => he (hs.2 p' p hp' hp e))
      rw [ht.2 _ _ (by omega)]
      exact h2 p' hp' f k' hv
  · have := vldR_g hv
    rw [ht.2 _ _ (by omega)]
    exact h3 g' k' hv
  · rw [ht.2 _ _ (by omega)]
    exact h4 a k' ha'
theorem cr_s {r : Nat} {σ : Nat → Nat} {I : MI} {R : MR} {V : RV} (h : CR I R r σ V) (k : Nat) (hk : 7 ≤ k ∧ k ≤ 15) : I r k = iI (V.2 0 k) := h.2.2 0 k (by unfold vldR; rw [if_pos rfl]; exact hk)
theorem cr_o {r : Nat} {σ : Nat → Nat} {I : MI} {R : MR} {V : RV} (h : CR I R r σ V) (g : Nat) (hg : g = 2 ∨ g = 3 ∨ g = 4) (k : Nat) (hk : k < 4) : I (r + g) k = iI (V.2 g k) := h.2.2 g k (by unfold vldR; rw [if_neg (by omega), if_pos hg]; exact hk)
theorem cr_t {r : Nat} {σ : Nat → Nat} {I : MI} {R : MR} {V : RV} (h : CR I R r σ V) (k : Nat) (hk : k < 34) : I (r + 5) k = iI (V.2 5 k) := h.2.2 5 k hk
/-- is live -/
def liveAt (V : RV) (p : Int) : Prop := p < V.2 0 8 ∧ ((V.2 0 12 ≤ p ∧ p < V.2 0 12 + V.2 0 13) ∨ (p < V.2 0 12 ∧ p + V.2 0 8 < V.2 0 12 + V.2 0 13))
def EP (P : PV) : Prop := P 0 8 = 0 ∧ P 0 9 = 0 ∧ P 0 10 = 0 ∧ ∀ k, k < 32 → P 1 k = 0
/-- a k-th open record -/
def WO (V : RV) (k : Nat) : Prop :=
  0 ≤ V.2 2 k ∧ liveAt V (V.2 2 k) ∧ 0 ≤ V.2 3 k ∧ V.2 3 k < V.1 (V.2 2 k).toNat 0 8 ∧ V.1 (V.2 2 k).toNat 8 (V.2 3 k).toNat = 0 ∧ V.1 (V.2 2 k).toNat 0 10 ≤ V.1 (V.2 2 k).toNat 5 (V.2 3 k).toNat ∧ 0 ≤ V.2 4 k ∧ V.2 4 k ≤ V.1 (V.2 2 k).toNat 7 (V.2 3 k).toNat ∧ (k : Int) ≤ V.1 (V.2 2 k).toNat 3 (V.2 3 k).toNat
/-- numbers in their bounds -/
def WB (V : RV) : Prop :=
  2 ≤ V.2 0 8 ∧ V.2 0 8 ≤ 6 ∧ 12 ≤ V.2 0 9 ∧ V.2 0 9 ≤ 32 ∧ (V.2 0 10 = 0 ∨ V.2 0 10 = 1) ∧ 0 ≤ V.2 0 11 ∧ V.2 0 11 ≤ 999999 ∧ 0 ≤ V.2 0 12 ∧ V.2 0 12 < V.2 0 8 ∧ 1 ≤ V.2 0 13 ∧ V.2 0 13 ≤ V.2 0 8 ∧ 0 ≤ V.2 0 14 ∧ V.2 0 14 ≤ 15 ∧ 0 ≤ V.2 0 15 ∧ V.2 0 15 ≤ 4 ∧ 0 ≤ V.2 0 7 ∧ V.2 0 7 ≤ V.1 6 0 8 ∧ 0 ≤ V.2 5 16 ∧ V.2 5 16 ≤ 999999 ∧ 0 ≤ V.2 5 18 ∧ V.2 5 18 ≤ 999999 ∧ 0 ≤ V.2 5 19 ∧ V.2 5 19 ≤ 4 ∧ 0 ≤ V.2 6 4 ∧ V.2 6 4 ≤ 8
def WR (V : RV) : Prop :=
  WB V ∧ (∀ p, p < 7 → WP (V.2 0 9) (V.2 0 11) (V.1 p)) ∧ (∀ p : Nat, p < 6 → ¬ liveAt V p → EP (V.1 p)) ∧ (∀ k : Nat, (k : Int) < V.2 0 15 → WO V k) ∧ ∀ k k' : Nat, k < k' → (k' : Int) < V.2 0 15 → ¬ (V.2 2 k = V.2 2 k' ∧ V.2 3 k = V.2 3 k')
def plc (V : RV) (k : Int) : Int := if V.2 0 8 ≤ V.2 0 12 + k then V.2 0 12 + k - V.2 0 8 else V.2 0 12 + k
theorem en_eq {β : Type} {v : β} {o : Option β} (h : En (fun y => y = v) o) : o = some v := by
  obtain ⟨x, h1, rfl⟩ := h
  exact h1
theorem plc_in {V : RV} (hw : WB V) {k : Int} (h0 : 0 ≤ k) (h1 : k ≤ V.2 0 8) : 0 ≤ plc V k ∧ plc V k ≤ V.2 0 8 := by
  unfold plc
  unfold WB at hw
  split <;> omega
theorem plc_live {V : RV} (hw : WB V) {k : Int} (h0 : 0 ≤ k) (h1 : k < V.2 0 13) : 0 ≤ plc V k ∧ plc V k < V.2 0 8 ∧ liveAt V (plc V k) := by
  unfold plc liveAt
  unfold WB at hw
  split <;> omega
section RGA
variable {I : MI} {J : MJ} {R : MR} {r : Nat} {σ : Nat → Nat} {β : Type} {x : Int32} {i t : Int} {V : RV}
theorem pageAt_C {p : Int} (hrg : isRg r) (hc : CR I R r σ V) (h0 : 0 ≤ p) (h6 : p < 6) : f_X4_pageAt (381, I, J, R) r (iI p) = some (pa r (σ p.toNat)) := by
  have hc0 := hc
  obtain ⟨hq, kr0, kr1, kr2, kr3, kr4, kr5, kr6, kr7, lr1, lr2, lr3, lr4, lr5, lr7, hpg⟩ := hrg
  have hsc := cr_s hc
  obtain ⟨⟨e0, e1, e2, e3, e4, e5, e6, e7, ep, ed, hσ, hσi⟩, hpp, hgg⟩ := hc
  have s7 := hsc 7 (by decide)
  have s8 := hsc 8 (by decide)
  have s9 := hsc 9 (by decide)
  have s10 := hsc 10 (by decide)
  have s11 := hsc 11 (by decide)
  have s12 := hsc 12 (by decide)
  have s13 := hsc 13 (by decide)
  have s14 := hsc 14 (by decide)
  have s15 := hsc 15 (by decide)
  have h5 := ep p.toNat (by omega)
  refine en_eq ?_
  rw [u_X4_pageAt]
  repeat ((first | (with_reducible first | refine w_ltA ?_ | refine w_ltS ?_ | refine w_ltM ?_ | refine w_ltN ?_ | refine w_lt ?_ | refine w_jn ?_ | refine w_ck (by omega) (by assumption) ?_ | refine w_gI (by omega) (by assumption) ?_ | refine w_gR (by omega) (by assumption) (by assumption) ?_ | refine w_al (by omega) (by assumption) (by assumption) ?_ | refine w_pI (by omega) (by assumption) ?_ | refine w_set (by omega) (by assumption) (by omega) (by omega) ?_ | refine w_at (by omega) (by assumption) (by omega) (by omega) ?_ | refine w_sI (by omega) (by assumption) (by omega) (by omega) ?_ | refine w_aI (by omega) (by assumption) (by omega) (by omega) ?_ | refine w_sZ (by omega) (by assumption) (by omega) (by omega) (by decide) ?_ | refine w_pZ (by omega) (by assumption) (by decide) ?_ | refine w_dv (by omega) (by omega) (by omega) (by omega) ?_ | refine w_rm (by omega) (by omega) (by omega) (by omega) ?_) | ((with_reducible refine w_pos ?_ ?_); focus (first | assumption | trivial | exact (ile (by omega) (by omega) (by omega) (by omega)).2 (by omega) | exact (ilt (by omega) (by omega) (by omega) (by omega)).2 (by omega) | exact (ieq (by omega) (by omega) (by omega) (by omega)).2 (by omega))) | ((with_reducible refine w_neg ?_ ?_); focus (first | assumption | exact not_false | trivial | exact mt (ile (by omega) (by omega) (by omega) (by omega)).1 (by omega) | exact mt (ilt (by omega) (by omega) (by omega) (by omega)).1 (by omega) | exact mt (ieq (by omega) (by omega) (by omega) (by omega)).1 (by omega)))); skip)
  refine w_aR (by omega) (by assumption) (by omega) (by omega) h5 ?_
  repeat ((first | (with_reducible first | refine w_ltA ?_ | refine w_ltS ?_ | refine w_ltM ?_ | refine w_ltN ?_ | refine w_lt ?_ | refine w_jn ?_ | refine w_ck (by omega) (by assumption) ?_ | refine w_gI (by omega) (by assumption) ?_ | refine w_gR (by omega) (by assumption) (by assumption) ?_ | refine w_al (by omega) (by assumption) (by assumption) ?_ | refine w_pI (by omega) (by assumption) ?_ | refine w_set (by omega) (by assumption) (by omega) (by omega) ?_ | refine w_at (by omega) (by assumption) (by omega) (by omega) ?_ | refine w_sI (by omega) (by assumption) (by omega) (by omega) ?_ | refine w_aI (by omega) (by assumption) (by omega) (by omega) ?_ | refine w_sZ (by omega) (by assumption) (by omega) (by omega) (by decide) ?_ | refine w_pZ (by omega) (by assumption) (by decide) ?_ | refine w_dv (by omega) (by omega) (by omega) (by omega) ?_ | refine w_rm (by omega) (by omega) (by omega) (by omega) ?_) | ((with_reducible refine w_pos ?_ ?_); focus (first | assumption | trivial | exact (ile (by omega) (by omega) (by omega) (by omega)).2 (by omega) | exact (ilt (by omega) (by omega) (by omega) (by omega)).2 (by omega) | exact (ieq (by omega) (by omega) (by omega) (by omega)).2 (by omega))) | ((with_reducible refine w_neg ?_ ?_); focus (first | assumption | exact not_false | trivial | exact mt (ile (by omega) (by omega) (by omega) (by omega)).1 (by omega) | exact mt (ilt (by omega) (by omega) (by omega) (by omega)).1 (by omega) | exact mt (ieq (by omega) (by omega) (by omega) (by omega)).1 (by omega)))); skip)
  refine w_aR (by omega) (by assumption) (by omega) (by omega) h5 ?_
  exact w_rt rfl
theorem placeOf_C {k : Int} (hrg : isRg r) (hc : CR I R r σ V) (hb : WB V) (h0 : -1 ≤ k) (h1 : k ≤ 6) : f_X4_placeOf (381, I, J, R) r (iI k) = some (iI (plc V k)) := by
  have hc0 := hc
  obtain ⟨hq, kr0, kr1, kr2, kr3, kr4, kr5, kr6, kr7, lr1, lr2, lr3, lr4, lr5, lr7, hpg⟩ := hrg
  have hsc := cr_s hc
  obtain ⟨⟨e0, e1, e2, e3, e4, e5, e6, e7, ep, ed, hσ, hσi⟩, hpp, hgg⟩ := hc
  have s7 := hsc 7 (by decide)
  have s8 := hsc 8 (by decide)
  have s9 := hsc 9 (by decide)
  have s10 := hsc 10 (by decide)
  have s11 := hsc 11 (by decide)
  have s12 := hsc 12 (by decide)
  have s13 := hsc 13 (by decide)
  have s14 := hsc 14 (by decide)
  have s15 := hsc 15 (by decide)
  unfold WB at hb
  refine en_eq ?_
  rw [u_X4_placeOf]
  by_cases h : V.2 0 8 ≤ V.2 0 12 + k
  · repeat ((first | (with_reducible first | refine w_ltA ?_ | refine w_ltS ?_ | refine w_ltM ?_ | refine w_ltN ?_ | refine w_lt ?_ | refine w_jn ?_ | refine w_ck (by omega) (by assumption) ?_ | refine w_gI (by omega) (by assumption) ?_ | refine w_gR (by omega) (by assumption) (by assumption) ?_ | refine w_al (by omega) (by assumption) (by assumption) ?_ | refine w_pI (by omega) (by assumption) ?_ | refine w_set (by omega) (by assumption) (by omega) (by omega) ?_ | refine w_at (by omega) (by assumption) (by omega) (by omega) ?_ | refine w_sI (by omega) (by assumption) (by omega) (by omega) ?_ | refine w_aI (by omega) (by assumption) (by omega) (by omega) ?_ | refine w_sZ (by omega) (by assumption) (by omega) (by omega) (by decide) ?_ | refine w_pZ (by omega) (by assumption) (by decide) ?_ | refine w_dv (by omega) (by omega) (by omega) (by omega) ?_ | refine w_rm (by omega) (by omega) (by omega) (by omega) ?_) | ((with_reducible refine w_pos ?_ ?_); focus (first | assumption | trivial | exact (ile (by omega) (by omega) (by omega) (by omega)).2 (by omega) | exact (ilt (by omega) (by omega) (by omega) (by omega)).2 (by omega) | exact (ieq (by omega) (by omega) (by omega) (by omega)).2 (by omega))) | ((with_reducible refine w_neg ?_ ?_); focus (first | assumption | exact not_false | trivial | exact mt (ile (by omega) (by omega) (by omega) (by omega)).1 (by omega) | exact mt (ilt (by omega) (by omega) (by omega) (by omega)).1 (by omega) | exact mt (ieq (by omega) (by omega) (by omega) (by omega)).1 (by omega)))); try simp (disch := omega) only [s8, s12])
    refine w_rt ?_
    rw [plc, if_pos h]
  · repeat ((first | (with_reducible first | refine w_ltA ?_ | refine w_ltS ?_ | refine w_ltM ?_ | refine w_ltN ?_ | refine w_lt ?_ | refine w_jn ?_ | refine w_ck (by omega) (by assumption) ?_ | refine w_gI (by omega) (by assumption) ?_ | refine w_gR (by omega) (by assumption) (by assumption) ?_ | refine w_al (by omega) (by assumption) (by assumption) ?_ | refine w_pI (by omega) (by assumption) ?_ | refine w_set (by omega) (by assumption) (by omega) (by omega) ?_ | refine w_at (by omega) (by assumption) (by omega) (by omega) ?_ | refine w_sI (by omega) (by assumption) (by omega) (by omega) ?_ | refine w_aI (by omega) (by assumption) (by omega) (by omega) ?_ | refine w_sZ (by omega) (by assumption) (by omega) (by omega) (by decide) ?_ | refine w_pZ (by omega) (by assumption) (by decide) ?_ | refine w_dv (by omega) (by omega) (by omega) (by omega) ?_ | refine w_rm (by omega) (by omega) (by omega) (by omega) ?_) | ((with_reducible refine w_pos ?_ ?_); focus (first | assumption | trivial | exact (ile (by omega) (by omega) (by omega) (by omega)).2 (by omega) | exact (ilt (by omega) (by omega) (by omega) (by omega)).2 (by omega) | exact (ieq (by omega) (by omega) (by omega) (by omega)).2 (by omega))) | ((with_reducible refine w_neg ?_ ?_); focus (first | assumption | exact not_false | trivial | exact mt (ile (by omega) (by omega) (by omega) (by omega)).1 (by omega) | exact mt (ilt (by omega) (by omega) (by omega) (by omega)).1 (by omega) | exact mt (ieq (by omega) (by omega) (by omega) (by omega)).1 (by omega)))); try simp (disch := omega) only [s8, s12])
    refine w_rt ?_
    rw [plc, if_neg h]
theorem tailPlace_C (hrg : isRg r) (hc : CR I R r σ V) (hb : WB V) : f_X4_tailPlace (381, I, J, R) r = some (iI (plc V (V.2 0 13 - 1))) := by
  have hp := placeOf_C (J := J) (k := V.2 0 13 - 1) hrg hc hb (by unfold WB at hb; omega) (by unfold WB at hb; omega)
  have hc0 := hc
  obtain ⟨hq, kr0, kr1, kr2, kr3, kr4, kr5, kr6, kr7, lr1, lr2, lr3, lr4, lr5, lr7, hpg⟩ := hrg
  have hsc := cr_s hc
  obtain ⟨⟨e0, e1, e2, e3, e4, e5, e6, e7, ep, ed, hσ, hσi⟩, hpp, hgg⟩ := hc
  have s7 := hsc 7 (by decide)
  have s8 := hsc 8 (by decide)
  have s9 := hsc 9 (by decide)
  have s10 := hsc 10 (by decide)
  have s11 := hsc 11 (by decide)
  have s12 := hsc 12 (by decide)
  have s13 := hsc 13 (by decide)
  have s14 := hsc 14 (by decide)
  have s15 := hsc 15 (by decide)
  refine en_eq ?_
  rw [u_X4_tailPlace]
  repeat ((first | (with_reducible first | refine w_ltA ?_ | refine w_ltS ?_ | refine w_ltM ?_ | refine w_ltN ?_ | refine w_lt ?_ | refine w_jn ?_ | refine w_ck (by omega) (by assumption) ?_ | refine w_gI (by omega) (by assumption) ?_ | refine w_gR (by omega) (by assumption) (by assumption) ?_ | refine w_al (by omega) (by assumption) (by assumption) ?_ | refine w_pI (by omega) (by assumption) ?_ | refine w_set (by omega) (by assumption) (by omega) (by omega) ?_ | refine w_at (by omega) (by assumption) (by omega) (by omega) ?_ | refine w_sI (by omega) (by assumption) (by omega) (by omega) ?_ | refine w_aI (by omega) (by assumption) (by omega) (by omega) ?_ | refine w_sZ (by omega) (by assumption) (by omega) (by omega) (by decide) ?_ | refine w_pZ (by omega) (by assumption) (by decide) ?_ | refine w_dv (by omega) (by omega) (by omega) (by omega) ?_ | refine w_rm (by omega) (by omega) (by omega) (by omega) ?_) | ((with_reducible refine w_pos ?_ ?_); focus (first | assumption | trivial | exact (ile (by omega) (by omega) (by omega) (by omega)).2 (by omega) | exact (ilt (by omega) (by omega) (by omega) (by omega)).2 (by omega) | exact (ieq (by omega) (by omega) (by omega) (by omega)).2 (by omega))) | ((with_reducible refine w_neg ?_ ?_); focus (first | assumption | exact not_false | trivial | exact mt (ile (by omega) (by omega) (by omega) (by omega)).1 (by omega) | exact mt (ilt (by omega) (by omega) (by omega) (by omega)).1 (by omega) | exact mt (ieq (by omega) (by omega) (by omega) (by omega)).1 (by omega)))); try simp (disch := omega) only [s13])
  refine w_cP hp ?_
  exact w_rt rfl
end RGA
