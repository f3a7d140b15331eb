/-! THE START: what the makers leave -/
def Zr (n : Nat) (I : MI) (J : MJ) (R : MR) : Prop := ∀ a, n ≤ a → ∀ k, I a k = iI 0 ∧ J a k = 0 ∧ R a k = none
def Vz : RV := (fun _ _ _ => 0, fun _ _ => 0)
def V00 : RV := begV Vz 3 16 1
def σ00 : Nat → Nat := fun p => if p = 6 then 0 else p + 1
theorem wr_00 : WR V00 := wr_beg (fun _ _ _ _ => Or.inl rfl) (by omega) (by omega) (Or.inr rfl)
theorem wn_00 : WN V00 := wn_beg
theorem cr_both {r : Nat} {σ : Nat → Nat} {I I' : MI} {R R' : MR} {V : RV} (h : CR I R r σ V) (hI : ∀ a k, r ≤ a → a ≤ r + 70 → I' a k = I a k) (hR : ∀ a k, r ≤ a → a ≤ r + 70 → R' a k = R a k) : CR I' R' r σ V := by
  have h1 := cr_same h hI
  obtain ⟨⟨e0, e1, e2, e3, e4, e5, e6, e7, ep, ed, hσ, hσi⟩, hpp, hgg⟩ := h1
  refine ⟨⟨(hR _ _ (by omega) (by omega)).trans e0, (hR _ _ (by omega) (by omega)).trans e1, (hR _ _ (by omega) (by omega)).trans e2, (hR _ _ (by omega) (by omega)).trans e3, (hR _ _ (by omega) (by omega)).trans e4, (hR _ _ (by omega) (by omega)).trans e5, (hR _ _ (by omega) (by omega)).trans e6, (hR _ _ (by omega) (by omega)).trans e7, fun p hp => (hR _ _ (by omega) (by omega)).trans (ep p hp), fun j hj => ?_, hσ, hσi⟩, hpp, hgg⟩
  have := pa_in (r := r) hj
  obtain ⟨a0, a1, a2, a3, a4, a5, a6, a7⟩ := ed j hj
  exact ⟨(hR _ _ (by omega) (by omega)).trans a0, (hR _ _ (by omega) (by omega)).trans a1, (hR _ _ (by omega) (by omega)).trans a2, (hR _ _ (by omega) (by omega)).trans a3, (hR _ _ (by omega) (by omega)).trans a4, (hR _ _ (by omega) (by omega)).trans a5, (hR _ _ (by omega) (by omega)).trans a6, (hR _ _ (by omega) (by omega)).trans a7⟩
section NIN
variable {α β : Type} {Q : β → Prop} {I : MI} {J : MJ} {R : MR} {a b c cb k n i r q : Nat} {x : Int32}
theorem Zr.le {m : Nat} (h : Zr n I J R) (hm : n ≤ m) : Zr m I J R := fun a ha => h a (by omega)
theorem grow_z (h : Zr n I J R) : grow (n, I, J, R) = (n + 1, I, J, R) := by
  have e1 : (fun b j => if b = n then (0 : Int32) else I b j) = I := by
    funext b j
    by_cases c : b = n
    · rw [if_pos c, c]
      exact ((h n (Nat.le_refl _) j).1).symm
    · rw [if_neg c]
  have e2 : (fun b j => if b = n then (0 : Int64) else J b j) = J := by
    funext b j
    by_cases c : b = n
    · rw [if_pos c, c]
      exact ((h n (Nat.le_refl _) j).2.1).symm
    · rw [if_neg c]
  have e3 : (fun b j => if b = n then (none : Option Nat) else R b j) = R := by
    funext b j
    by_cases c : b = n
    · rw [if_pos c, c]
      exact ((h n (Nat.le_refl _) j).2.2).symm
    · rw [if_neg c]
  show (n + 1, (fun b j => if b = n then (0 : Int32) else I b j), (fun b j => if b = n then (0 : Int64) else J b j), (fun b j => if b = n then (none : Option Nat) else R b j)) = _
  rw [e1, e2, e3]
theorem n_nw {K : Nat → St → Option β} (hk : kd n = c) (hz : Zr n I J R) (h : Zr (n + 1) I J R → En Q (K n (n + 1, I, J, R))) : En Q (nw_ (n, I, J, R) c K) := by
  have e : nw_ (n, I, J, R) c K = K n (grow (n, I, J, R)) := if_pos hk
  rw [e, grow_z hz]
  exact h (hz.le (by omega))
theorem n_na {l : Nat} {K : Nat → St → Option β} (hk : kd n = c) (hl : ln n = l) (hz : Zr n I J R) (h : Zr (n + 1) I J R → En Q (K n (n + 1, I, J, R))) : En Q (na_ (n, I, J, R) c l K) := by
  have e : na_ (n, I, J, R) c l K = K n (grow (n, I, J, R)) := if_pos ⟨hk, hl⟩
  rw [e, grow_z hz]
  exact h (hz.le (by omega))
theorem zr_upR {y : Option Nat} (h1 : a < n) (hz : Zr n I J R) : Zr n I J (upR R a k y) := fun b hb j => by
  rw [upR_ne (by omega)]
  exact hz b hb j
theorem n_pRo {K : St → Option β} {y : Option Nat} (h1 : a < n) (h2 : kd a = c) (hz : Zr n I J R) (h : ∀ R', Zr n I J R' → R' a k = y → (∀ b j, ¬ (b = a ∧ j = k) → R' b j = R b j) → En Q (K (n, I, J, R'))) : En Q (pR_ (n, I, J, R) a c k y K) := by
  have e : pR_ (n, I, J, R) a c k y K = K (n, I, J, upR R a k y) := if_pos ⟨h1, h2⟩
  rw [e]
  exact h _ (zr_upR h1 hz) upR_eq fun b j hb => upR_ne hb
theorem n_sRo {K : St → Option β} {y : Int32} (he : y = iI (i : Nat)) (h1 : a < n) (h2 : kd a = c) (h3 : i < ln a) (h5 : b < n) (h6 : kd b = cb) (hz : Zr n I J R) (h : ∀ R', Zr n I J R' → R' a i = some b → (∀ d j, ¬ (d = a ∧ j = i) → R' d j = R d j) → En Q (K (n, I, J, R'))) : En Q (sR_ (n, I, J, R) a c y b cb K) := by
  have hb := ln_big a
  have e : sR_ (n, I, J, R) a c y b cb K = K (n, I, J, upR R a i (some b)) := by
    rw [he]
    unfold sR_
    rw [if_pos ⟨⟨⟨h1, h2⟩, ix_ok (by omega) (by omega) hb⟩, h5, h6⟩, iI_nat ⟨by omega, by omega⟩]
    rfl
  rw [e]
  exact h _ (zr_upR h1 hz) upR_eq fun b j hb => upR_ne hb
theorem n_pIo {K : St → Option β} (h1 : a < n) (h2 : kd a = c) (hz : Zr n I J R) (h : ∀ I', Zr n I' J R → I' a k = x → (∀ b j, ¬ (b = a ∧ j = k) → I' b j = I b j) → En Q (K (n, I', J, R))) : En Q (pI_ (n, I, J, R) a c k x K) := by
  have e : pI_ (n, I, J, R) a c k x K = K (n, up I a k x, J, R) := if_pos ⟨h1, h2⟩
  rw [e]
  refine h _ (fun b hb j => ?_) (up_eq _ _ _ _) fun b j hb => up_ne hb
  rw [up_ne (by omega)]
  exact hz b hb j

theorem page_init (hp : isPg q) (hz : Zr (q + 1) I J R) : En (fun S => ∃ R', S = (q + 9, I, J, R') ∧ Zr (q + 9) I J R' ∧ RfP R' q ∧ ∀ b j, b ≠ q → R' b j = R b j) (f_X3_init (q + 1, I, J, R) q) := by
  obtain ⟨hq, k0, k1, k2, k3, k4, k5, k6, k7, k8, l1, l2, l3, l4, l5, l6, l7, l8⟩ := hp
  unfold f_X3_init
  refine n_na k1 l1 hz ?_
  intro z0
  refine n_pRo (by omega) k0 z0 ?_
  intro R0 y0 e0 f0
  refine n_na k2 l2 y0 ?_
  intro z1
  refine n_pRo (by omega) k0 z1 ?_
  intro R1 y1 e1 f1
  refine n_na k3 l3 y1 ?_
  intro z2
  refine n_pRo (by omega) k0 z2 ?_
  intro R2 y2 e2 f2
  refine n_na k4 l4 y2 ?_
  intro z3
  refine n_pRo (by omega) k0 z3 ?_
  intro R3 y3 e3 f3
  refine n_na k5 l5 y3 ?_
  intro z4
  refine n_pRo (by omega) k0 z4 ?_
  intro R4 y4 e4 f4
  refine n_na k6 l6 y4 ?_
  intro z5
  refine n_pRo (by omega) k0 z5 ?_
  intro R5 y5 e5 f5
  refine n_na k7 l7 y5 ?_
  intro z6
  refine n_pRo (by omega) k0 z6 ?_
  intro R6 y6 e6 f6
  refine n_na k8 l8 y6 ?_
  intro z7
  refine n_pRo (by omega) k0 z7 ?_
  intro R7 y7 e7 f7
  refine w_rt ⟨R7, rfl, y7, ⟨?_, ?_, ?_, ?_, ?_, ?_, ?_, ?_⟩, fun b j hb => ?_⟩
  · rw [f7 _ _ (by omega), f6 _ _ (by omega), f5 _ _ (by omega), f4 _ _ (by omega), f3 _ _ (by omega), f2 _ _ (by omega), f1 _ _ (by omega)]
    exact e0
  · rw [f7 _ _ (by omega), f6 _ _ (by omega), f5 _ _ (by omega), f4 _ _ (by omega), f3 _ _ (by omega), f2 _ _ (by omega)]
    exact e1
  · rw [f7 _ _ (by omega), f6 _ _ (by omega), f5 _ _ (by omega), f4 _ _ (by omega), f3 _ _ (by omega)]
    exact e2
  · rw [f7 _ _ (by omega), f6 _ _ (by omega), f5 _ _ (by omega), f4 _ _ (by omega)]
    exact e3
  · rw [f7 _ _ (by omega), f6 _ _ (by omega), f5 _ _ (by omega)]
    exact e4
  · rw [f7 _ _ (by omega), f6 _ _ (by omega)]
    exact e5
  · rw [f7 _ _ (by omega)]
    exact e6
  · exact e7
  · rw [f7 _ _ (by omega), f6 _ _ (by omega), f5 _ _ (by omega), f4 _ _ (by omega), f3 _ _ (by omega), f2 _ _ (by omega), f1 _ _ (by omega), f0 _ _ (by omega)]
theorem ring_init (hr : isRg r) (hz : Zr r I J R) : En (fun S => ∃ I' R', S = (r + 71, I', J, R') ∧ Zr (r + 71) I' J R' ∧ CR I' R' r σ00 V00 ∧ (∀ a k, ¬ (r ≤ a ∧ a ≤ r + 70) → I' a k = I a k) ∧ ∀ a k, ¬ (r ≤ a ∧ a ≤ r + 70) → R' a k = R a k) (f_X4_init (r + 1, I, J, R) r) := by
  have hr0 := hr
  obtain ⟨hq, kr0, kr1, kr2, kr3, kr4, kr5, kr6, kr7, lr1, lr2, lr3, lr4, lr5, lr7, hpg⟩ := hr
  have hz1 := hz.le (show r ≤ r + 1 by omega)
  unfold f_X4_init
  refine n_na kr1 lr1 hz1 ?_
  intro z0
  refine n_pRo (by omega) kr0 z0 ?_
  intro R0 y0 e0 f0
  refine n_na kr2 lr2 y0 ?_
  intro z1
  refine n_pRo (by omega) kr0 z1 ?_
  intro R1 y1 e1 f1
  refine n_na kr3 lr3 y1 ?_
  intro z2
  refine n_pRo (by omega) kr0 z2 ?_
  intro R2 y2 e2 f2
  refine n_na kr4 lr4 y2 ?_
  intro z3
  refine n_pRo (by omega) kr0 z3 ?_
  intro R3 y3 e3 f3
  refine n_na kr5 lr5 y3 ?_
  intro z4
  refine n_pRo (by omega) kr0 z4 ?_
  intro R4 y4 e4 f4
  refine n_nw kr6 y4 ?_
  intro z5
  refine w_cV (Q' := fun S => ∃ R', S = (r + 8, I, J, R') ∧ Zr (r + 8) I J R' ∧ R' (r + 6) 0 = some (r + 7) ∧ ∀ b j, ¬ (b = r + 6 ∧ j = 0) → R' b j = R4 b j) ?_ ?_
  · unfold f_X1_init
    refine n_na kr7 lr7 z5 ?_
    intro z
    refine n_pRo (by omega) kr6 z ?_
    intro R' y e f
    exact w_rt ⟨R', rfl, y, e, f⟩
  rintro S ⟨R5, rfl, y5, e5, f5⟩
  refine n_pRo (by omega) kr0 y5 ?_
  intro R6 y6 e6 f6
  have p0 : isPg (r + 8) := hpg 0 (by omega)
  refine n_nw p0.2.1 y6 ?_
  intro z7
  refine w_cV (page_init p0 z7) ?_
  rintro S ⟨R7, rfl, y7, g0, f7⟩
  refine n_pRo (by omega) kr0 y7 ?_
  intro R8 y8 e8 f8
  have q1 : isPg (r + 8 + 9) := hpg 1 (by omega)
  have h0 : R8 r 0 = some (r + 1) := by
    rw [f8 _ _ (by omega), f7 _ _ (by omega), f6 _ _ (by omega), f5 _ _ (by omega), f4 _ _ (by omega), f3 _ _ (by omega), f2 _ _ (by omega), f1 _ _ (by omega)]
    exact e0
  refine n_gR (by omega) kr0 h0 ?_
  refine n_ck (by omega) kr1 ?_
  refine n_gR (by omega) kr0 h0 ?_
  refine n_nw q1.2.1 y8 ?_
  intro w0
  refine w_cV (page_init q1 w0) ?_
  rintro S ⟨R9, rfl, y9, g1, f9⟩
  refine n_sRo (i := 0) rfl (by omega) kr1 (by omega) (by omega) q1.2.1 y9 ?_
  intro R10 y10 e10 f10
  have q2 : isPg (r + 8 + 9 + 9) := hpg 2 (by omega)
  have h1 : R10 r 0 = some (r + 1) := by
    rw [f10 _ _ (by omega), f9 _ _ (by omega), f8 _ _ (by omega), f7 _ _ (by omega), f6 _ _ (by omega), f5 _ _ (by omega), f4 _ _ (by omega), f3 _ _ (by omega), f2 _ _ (by omega), f1 _ _ (by omega)]
    exact e0
  refine n_gR (by omega) kr0 h1 ?_
  refine n_ck (by omega) kr1 ?_
  refine n_gR (by omega) kr0 h1 ?_
  refine n_nw q2.2.1 y10 ?_
  intro w1
  refine w_cV (page_init q2 w1) ?_
  rintro S ⟨R11, rfl, y11, g2, f11⟩
  refine n_sRo (i := 1) rfl (by omega) kr1 (by omega) (by omega) q2.2.1 y11 ?_
  intro R12 y12 e12 f12
  have q3 : isPg (r + 8 + 9 + 9 + 9) := hpg 3 (by omega)
  have h2 : R12 r 0 = some (r + 1) := by
    rw [f12 _ _ (by omega), f11 _ _ (by omega), f10 _ _ (by omega), f9 _ _ (by omega), f8 _ _ (by omega), f7 _ _ (by omega), f6 _ _ (by omega), f5 _ _ (by omega), f4 _ _ (by omega), f3 _ _ (by omega), f2 _ _ (by omega), f1 _ _ (by omega)]
    exact e0
  refine n_gR (by omega) kr0 h2 ?_
  refine n_ck (by omega) kr1 ?_
  refine n_gR (by omega) kr0 h2 ?_
  refine n_nw q3.2.1 y12 ?_
  intro w2
  refine w_cV (page_init q3 w2) ?_
  rintro S ⟨R13, rfl, y13, g3, f13⟩
  refine n_sRo (i := 2) rfl (by omega) kr1 (by omega) (by omega) q3.2.1 y13 ?_
  intro R14 y14 e14 f14
  have q4 : isPg (r + 8 + 9 + 9 + 9 + 9) := hpg 4 (by omega)
  have h3 : R14 r 0 = some (r + 1) := by
    rw [f14 _ _ (by omega), f13 _ _ (by omega), f12 _ _ (by omega), f11 _ _ (by omega), f10 _ _ (by omega), f9 _ _ (by omega), f8 _ _ (by omega), f7 _ _ (by omega), f6 _ _ (by omega), f5 _ _ (by omega), f4 _ _ (by omega), f3 _ _ (by omega), f2 _ _ (by omega), f1 _ _ (by omega)]
    exact e0
  refine n_gR (by omega) kr0 h3 ?_
  refine n_ck (by omega) kr1 ?_
  refine n_gR (by omega) kr0 h3 ?_
  refine n_nw q4.2.1 y14 ?_
  intro w3
  refine w_cV (page_init q4 w3) ?_
  rintro S ⟨R15, rfl, y15, g4, f15⟩
  refine n_sRo (i := 3) rfl (by omega) kr1 (by omega) (by omega) q4.2.1 y15 ?_
  intro R16 y16 e16 f16
  have q5 : isPg (r + 8 + 9 + 9 + 9 + 9 + 9) := hpg 5 (by omega)
  have h4 : R16 r 0 = some (r + 1) := by
    rw [f16 _ _ (by omega), f15 _ _ (by omega), f14 _ _ (by omega), f13 _ _ (by omega), f12 _ _ (by omega), f11 _ _ (by omega), f10 _ _ (by omega), f9 _ _ (by omega), f8 _ _ (by omega), f7 _ _ (by omega), f6 _ _ (by omega), f5 _ _ (by omega), f4 _ _ (by omega), f3 _ _ (by omega), f2 _ _ (by omega), f1 _ _ (by omega)]
    exact e0
  refine n_gR (by omega) kr0 h4 ?_
  refine n_ck (by omega) kr1 ?_
  refine n_gR (by omega) kr0 h4 ?_
  refine n_nw q5.2.1 y16 ?_
  intro w4
  refine w_cV (page_init q5 w4) ?_
  rintro S ⟨R17, rfl, y17, g5, f17⟩
  refine n_sRo (i := 4) rfl (by omega) kr1 (by omega) (by omega) q5.2.1 y17 ?_
  intro R18 y18 e18 f18
  have q6 : isPg (r + 8 + 9 + 9 + 9 + 9 + 9 + 9) := hpg 6 (by omega)
  have h5 : R18 r 0 = some (r + 1) := by
    rw [f18 _ _ (by omega), f17 _ _ (by omega), f16 _ _ (by omega), f15 _ _ (by omega), f14 _ _ (by omega), f13 _ _ (by omega), f12 _ _ (by omega), f11 _ _ (by omega), f10 _ _ (by omega), f9 _ _ (by omega), f8 _ _ (by omega), f7 _ _ (by omega), f6 _ _ (by omega), f5 _ _ (by omega), f4 _ _ (by omega), f3 _ _ (by omega), f2 _ _ (by omega), f1 _ _ (by omega)]
    exact e0
  refine n_gR (by omega) kr0 h5 ?_
  refine n_ck (by omega) kr1 ?_
  refine n_gR (by omega) kr0 h5 ?_
  refine n_nw q6.2.1 y18 ?_
  intro w5
  refine w_cV (page_init q6 w5) ?_
  rintro S ⟨R19, rfl, y19, g6, f19⟩
  refine n_sRo (i := 5) rfl (by omega) kr1 (by omega) (by omega) q6.2.1 y19 ?_
  intro R20 y20 e20 f20
  have h6 : R20 r 0 = some (r + 1) := by
    rw [f20 _ _ (by omega), f19 _ _ (by omega), f18 _ _ (by omega), f17 _ _ (by omega), f16 _ _ (by omega), f15 _ _ (by omega), f14 _ _ (by omega), f13 _ _ (by omega), f12 _ _ (by omega), f11 _ _ (by omega), f10 _ _ (by omega), f9 _ _ (by omega), f8 _ _ (by omega), f7 _ _ (by omega), f6 _ _ (by omega), f5 _ _ (by omega), f4 _ _ (by omega), f3 _ _ (by omega), f2 _ _ (by omega), f1 _ _ (by omega)]
    exact e0
  refine n_gR (by omega) kr0 h6 ?_
  refine n_ck (by omega) kr1 ?_
  refine n_ck (by omega) kr0 ?_
  have t1 : R20 r 1 = some (r + 2) := by
    rw [f20 _ _ (by omega), f19 _ _ (by omega), f18 _ _ (by omega), f17 _ _ (by omega), f16 _ _ (by omega), f15 _ _ (by omega), f14 _ _ (by omega), f13 _ _ (by omega), f12 _ _ (by omega), f11 _ _ (by omega), f10 _ _ (by omega), f9 _ _ (by omega), f8 _ _ (by omega), f7 _ _ (by omega), f6 _ _ (by omega), f5 _ _ (by omega), f4 _ _ (by omega), f3 _ _ (by omega), f2 _ _ (by omega)]
    exact e1
  have t2 : R20 r 2 = some (r + 3) := by
    rw [f20 _ _ (by omega), f19 _ _ (by omega), f18 _ _ (by omega), f17 _ _ (by omega), f16 _ _ (by omega), f15 _ _ (by omega), f14 _ _ (by omega), f13 _ _ (by omega), f12 _ _ (by omega), f11 _ _ (by omega), f10 _ _ (by omega), f9 _ _ (by omega), f8 _ _ (by omega), f7 _ _ (by omega), f6 _ _ (by omega), f5 _ _ (by omega), f4 _ _ (by omega), f3 _ _ (by omega)]
    exact e2
  have t3 : R20 r 3 = some (r + 4) := by
    rw [f20 _ _ (by omega), f19 _ _ (by omega), f18 _ _ (by omega), f17 _ _ (by omega), f16 _ _ (by omega), f15 _ _ (by omega), f14 _ _ (by omega), f13 _ _ (by omega), f12 _ _ (by omega), f11 _ _ (by omega), f10 _ _ (by omega), f9 _ _ (by omega), f8 _ _ (by omega), f7 _ _ (by omega), f6 _ _ (by omega), f5 _ _ (by omega), f4 _ _ (by omega)]
    exact e3
  have t4 : R20 r 4 = some (r + 5) := by
    rw [f20 _ _ (by omega), f19 _ _ (by omega), f18 _ _ (by omega), f17 _ _ (by omega), f16 _ _ (by omega), f15 _ _ (by omega), f14 _ _ (by omega), f13 _ _ (by omega), f12 _ _ (by omega), f11 _ _ (by omega), f10 _ _ (by omega), f9 _ _ (by omega), f8 _ _ (by omega), f7 _ _ (by omega), f6 _ _ (by omega), f5 _ _ (by omega)]
    exact e4
  have t5 : R20 r 5 = some (r + 6) := by
    rw [f20 _ _ (by omega), f19 _ _ (by omega), f18 _ _ (by omega), f17 _ _ (by omega), f16 _ _ (by omega), f15 _ _ (by omega), f14 _ _ (by omega), f13 _ _ (by omega), f12 _ _ (by omega), f11 _ _ (by omega), f10 _ _ (by omega), f9 _ _ (by omega), f8 _ _ (by omega), f7 _ _ (by omega)]
    exact e6
  have t6 : R20 r 6 = some (r + 8) := by
    rw [f20 _ _ (by omega), f19 _ _ (by omega), f18 _ _ (by omega), f17 _ _ (by omega), f16 _ _ (by omega), f15 _ _ (by omega), f14 _ _ (by omega), f13 _ _ (by omega), f12 _ _ (by omega), f11 _ _ (by omega), f10 _ _ (by omega), f9 _ _ (by omega)]
    exact e8
  have t7 : R20 (r + 6) 0 = some (r + 7) := by
    rw [f20 _ _ (by omega), f19 _ _ (by omega), f18 _ _ (by omega), f17 _ _ (by omega), f16 _ _ (by omega), f15 _ _ (by omega), f14 _ _ (by omega), f13 _ _ (by omega), f12 _ _ (by omega), f11 _ _ (by omega), f10 _ _ (by omega), f9 _ _ (by omega), f8 _ _ (by omega), f7 _ _ (by omega), f6 _ _ (by omega)]
    exact e5
  have s0 : R20 (r + 1) 0 = some (r + 8 + 9 * 1) := by
    rw [f20 _ _ (by omega), f19 _ _ (by omega), f18 _ _ (by omega), f17 _ _ (by omega), f16 _ _ (by omega), f15 _ _ (by omega), f14 _ _ (by omega), f13 _ _ (by omega), f12 _ _ (by omega), f11 _ _ (by omega)]
    exact e10
  have s1 : R20 (r + 1) 1 = some (r + 8 + 9 * 2) := by
    rw [f20 _ _ (by omega), f19 _ _ (by omega), f18 _ _ (by omega), f17 _ _ (by omega), f16 _ _ (by omega), f15 _ _ (by omega), f14 _ _ (by omega), f13 _ _ (by omega)]
    exact e12
  have s2 : R20 (r + 1) 2 = some (r + 8 + 9 * 3) := by
    rw [f20 _ _ (by omega), f19 _ _ (by omega), f18 _ _ (by omega), f17 _ _ (by omega), f16 _ _ (by omega), f15 _ _ (by omega)]
    exact e14
  have s3 : R20 (r + 1) 3 = some (r + 8 + 9 * 4) := by
    rw [f20 _ _ (by omega), f19 _ _ (by omega), f18 _ _ (by omega), f17 _ _ (by omega)]
    exact e16
  have s4 : R20 (r + 1) 4 = some (r + 8 + 9 * 5) := by
    rw [f20 _ _ (by omega), f19 _ _ (by omega)]
    exact e18
  have s5 : R20 (r + 1) 5 = some (r + 8 + 9 * 6) := by
    exact e20
  have u0 : RfP R20 (r + 8 + 9 * 0) := by
    obtain ⟨a0, a1, a2, a3, a4, a5, a6, a7⟩ := g0
    refine ⟨?_, ?_, ?_, ?_, ?_, ?_, ?_, ?_⟩
    · rw [f20 _ _ (by omega), f19 _ _ (by omega), f18 _ _ (by omega), f17 _ _ (by omega), f16 _ _ (by omega), f15 _ _ (by omega), f14 _ _ (by omega), f13 _ _ (by omega), f12 _ _ (by omega), f11 _ _ (by omega), f10 _ _ (by omega), f9 _ _ (by omega), f8 _ _ (by omega)]
      exact a0
    · rw [f20 _ _ (by omega), f19 _ _ (by omega), f18 _ _ (by omega), f17 _ _ (by omega), f16 _ _ (by omega), f15 _ _ (by omega), f14 _ _ (by omega), f13 _ _ (by omega), f12 _ _ (by omega), f11 _ _ (by omega), f10 _ _ (by omega), f9 _ _ (by omega), f8 _ _ (by omega)]
      exact a1
    · rw [f20 _ _ (by omega), f19 _ _ (by omega), f18 _ _ (by omega), f17 _ _ (by omega), f16 _ _ (by omega), f15 _ _ (by omega), f14 _ _ (by omega), f13 _ _ (by omega), f12 _ _ (by omega), f11 _ _ (by omega), f10 _ _ (by omega), f9 _ _ (by omega), f8 _ _ (by omega)]
      exact a2
    · rw [f20 _ _ (by omega), f19 _ _ (by omega), f18 _ _ (by omega), f17 _ _ (by omega), f16 _ _ (by omega), f15 _ _ (by omega), f14 _ _ (by omega), f13 _ _ (by omega), f12 _ _ (by omega), f11 _ _ (by omega), f10 _ _ (by omega), f9 _ _ (by omega), f8 _ _ (by omega)]
      exact a3
    · rw [f20 _ _ (by omega), f19 _ _ (by omega), f18 _ _ (by omega), f17 _ _ (by omega), f16 _ _ (by omega), f15 _ _ (by omega), f14 _ _ (by omega), f13 _ _ (by omega), f12 _ _ (by omega), f11 _ _ (by omega), f10 _ _ (by omega), f9 _ _ (by omega), f8 _ _ (by omega)]
      exact a4
    · rw [f20 _ _ (by omega), f19 _ _ (by omega), f18 _ _ (by omega), f17 _ _ (by omega), f16 _ _ (by omega), f15 _ _ (by omega), f14 _ _ (by omega), f13 _ _ (by omega), f12 _ _ (by omega), f11 _ _ (by omega), f10 _ _ (by omega), f9 _ _ (by omega), f8 _ _ (by omega)]
      exact a5
    · rw [f20 _ _ (by omega), f19 _ _ (by omega), f18 _ _ (by omega), f17 _ _ (by omega), f16 _ _ (by omega), f15 _ _ (by omega), f14 _ _ (by omega), f13 _ _ (by omega), f12 _ _ (by omega), f11 _ _ (by omega), f10 _ _ (by omega), f9 _ _ (by omega), f8 _ _ (by omega)]
      exact a6
    · rw [f20 _ _ (by omega), f19 _ _ (by omega), f18 _ _ (by omega), f17 _ _ (by omega), f16 _ _ (by omega), f15 _ _ (by omega), f14 _ _ (by omega), f13 _ _ (by omega), f12 _ _ (by omega), f11 _ _ (by omega), f10 _ _ (by omega), f9 _ _ (by omega), f8 _ _ (by omega)]
      exact a7
  have u1 : RfP R20 (r + 8 + 9 * 1) := by
    obtain ⟨a0, a1, a2, a3, a4, a5, a6, a7⟩ := g1
    refine ⟨?_, ?_, ?_, ?_, ?_, ?_, ?_, ?_⟩
    · rw [f20 _ _ (by omega), f19 _ _ (by omega), f18 _ _ (by omega), f17 _ _ (by omega), f16 _ _ (by omega), f15 _ _ (by omega), f14 _ _ (by omega), f13 _ _ (by omega), f12 _ _ (by omega), f11 _ _ (by omega), f10 _ _ (by omega)]
      exact a0
    · rw [f20 _ _ (by omega), f19 _ _ (by omega), f18 _ _ (by omega), f17 _ _ (by omega), f16 _ _ (by omega), f15 _ _ (by omega), f14 _ _ (by omega), f13 _ _ (by omega), f12 _ _ (by omega), f11 _ _ (by omega), f10 _ _ (by omega)]
      exact a1
    · rw [f20 _ _ (by omega), f19 _ _ (by omega), f18 _ _ (by omega), f17 _ _ (by omega), f16 _ _ (by omega), f15 _ _ (by omega), f14 _ _ (by omega), f13 _ _ (by omega), f12 _ _ (by omega), f11 _ _ (by omega), f10 _ _ (by omega)]
      exact a2
    · rw [f20 _ _ (by omega), f19 _ _ (by omega), f18 _ _ (by omega), f17 _ _ (by omega), f16 _ _ (by omega), f15 _ _ (by omega), f14 _ _ (by omega), f13 _ _ (by omega), f12 _ _ (by omega), f11 _ _ (by omega), f10 _ _ (by omega)]
      exact a3
    · rw [f20 _ _ (by omega), f19 _ _ (by omega), f18 _ _ (by omega), f17 _ _ (by omega), f16 _ _ (by omega), f15 _ _ (by omega), f14 _ _ (by omega), f13 _ _ (by omega), f12 _ _ (by omega), f11 _ _ (by omega), f10 _ _ (by omega)]
      exact a4
    · rw [f20 _ _ (by omega), f19 _ _ (by omega), f18 _ _ (by omega), f17 _ _ (by omega), f16 _ _ (by omega), f15 _ _ (by omega), f14 _ _ (by omega), f13 _ _ (by omega), f12 _ _ (by omega), f11 _ _ (by omega), f10 _ _ (by omega)]
      exact a5
    · rw [f20 _ _ (by omega), f19 _ _ (by omega), f18 _ _ (by omega), f17 _ _ (by omega), f16 _ _ (by omega), f15 _ _ (by omega), f14 _ _ (by omega), f13 _ _ (by omega), f12 _ _ (by omega), f11 _ _ (by omega), f10 _ _ (by omega)]
      exact a6
    · rw [f20 _ _ (by omega), f19 _ _ (by omega), f18 _ _ (by omega), f17 _ _ (by omega), f16 _ _ (by omega), f15 _ _ (by omega), f14 _ _ (by omega), f13 _ _ (by omega), f12 _ _ (by omega), f11 _ _ (by omega), f10 _ _ (by omega)]
      exact a7
  have u2 : RfP R20 (r + 8 + 9 * 2) := by
    obtain ⟨a0, a1, a2, a3, a4, a5, a6, a7⟩ := g2
    refine ⟨?_, ?_, ?_, ?_, ?_, ?_, ?_, ?_⟩
    · rw [f20 _ _ (by omega), f19 _ _ (by omega), f18 _ _ (by omega), f17 _ _ (by omega), f16 _ _ (by omega), f15 _ _ (by omega), f14 _ _ (by omega), f13 _ _ (by omega), f12 _ _ (by omega)]
      exact a0
    · rw [f20 _ _ (by omega), f19 _ _ (by omega), f18 _ _ (by omega), f17 _ _ (by omega), f16 _ _ (by omega), f15 _ _ (by omega), f14 _ _ (by omega), f13 _ _ (by omega), f12 _ _ (by omega)]
      exact a1
    · rw [f20 _ _ (by omega), f19 _ _ (by omega), f18 _ _ (by omega), f17 _ _ (by omega), f16 _ _ (by omega), f15 _ _ (by omega), f14 _ _ (by omega), f13 _ _ (by omega), f12 _ _ (by omega)]
      exact a2
    · rw [f20 _ _ (by omega), f19 _ _ (by omega), f18 _ _ (by omega), f17 _ _ (by omega), f16 _ _ (by omega), f15 _ _ (by omega), f14 _ _ (by omega), f13 _ _ (by omega), f12 _ _ (by omega)]
      exact a3
    · rw [f20 _ _ (by omega), f19 _ _ (by omega), f18 _ _ (by omega), f17 _ _ (by omega), f16 _ _ (by omega), f15 _ _ (by omega), f14 _ _ (by omega), f13 _ _ (by omega), f12 _ _ (by omega)]
      exact a4
    · rw [f20 _ _ (by omega), f19 _ _ (by omega), f18 _ _ (by omega), f17 _ _ (by omega), f16 _ _ (by omega), f15 _ _ (by omega), f14 _ _ (by omega), f13 _ _ (by omega), f12 _ _ (by omega)]
      exact a5
    · rw [f20 _ _ (by omega), f19 _ _ (by omega), f18 _ _ (by omega), f17 _ _ (by omega), f16 _ _ (by omega), f15 _ _ (by omega), f14 _ _ (by omega), f13 _ _ (by omega), f12 _ _ (by omega)]
      exact a6
    · rw [f20 _ _ (by omega), f19 _ _ (by omega), f18 _ _ (by omega), f17 _ _ (by omega), f16 _ _ (by omega), f15 _ _ (by omega), f14 _ _ (by omega), f13 _ _ (by omega), f12 _ _ (by omega)]
      exact a7
  have u3 : RfP R20 (r + 8 + 9 * 3) := by
    obtain ⟨a0, a1, a2, a3, a4, a5, a6, a7⟩ := g3
    refine ⟨?_, ?_, ?_, ?_, ?_, ?_, ?_, ?_⟩
    · rw [f20 _ _ (by omega), f19 _ _ (by omega), f18 _ _ (by omega), f17 _ _ (by omega), f16 _ _ (by omega), f15 _ _ (by omega), f14 _ _ (by omega)]
      exact a0
    · rw [f20 _ _ (by omega), f19 _ _ (by omega), f18 _ _ (by omega), f17 _ _ (by omega), f16 _ _ (by omega), f15 _ _ (by omega), f14 _ _ (by omega)]
      exact a1
    · rw [f20 _ _ (by omega), f19 _ _ (by omega), f18 _ _ (by omega), f17 _ _ (by omega), f16 _ _ (by omega), f15 _ _ (by omega), f14 _ _ (by omega)]
      exact a2
    · rw [f20 _ _ (by omega), f19 _ _ (by omega), f18 _ _ (by omega), f17 _ _ (by omega), f16 _ _ (by omega), f15 _ _ (by omega), f14 _ _ (by omega)]
      exact a3
    · rw [f20 _ _ (by omega), f19 _ _ (by omega), f18 _ _ (by omega), f17 _ _ (by omega), f16 _ _ (by omega), f15 _ _ (by omega), f14 _ _ (by omega)]
      exact a4
    · rw [f20 _ _ (by omega), f19 _ _ (by omega), f18 _ _ (by omega), f17 _ _ (by omega), f16 _ _ (by omega), f15 _ _ (by omega), f14 _ _ (by omega)]
      exact a5
    · rw [f20 _ _ (by omega), f19 _ _ (by omega), f18 _ _ (by omega), f17 _ _ (by omega), f16 _ _ (by omega), f15 _ _ (by omega), f14 _ _ (by omega)]
      exact a6
    · rw [f20 _ _ (by omega), f19 _ _ (by omega), f18 _ _ (by omega), f17 _ _ (by omega), f16 _ _ (by omega), f15 _ _ (by omega), f14 _ _ (by omega)]
      exact a7
  have u4 : RfP R20 (r + 8 + 9 * 4) := by
    obtain ⟨a0, a1, a2, a3, a4, a5, a6, a7⟩ := g4
    refine ⟨?_, ?_, ?_, ?_, ?_, ?_, ?_, ?_⟩
    · rw [f20 _ _ (by omega), f19 _ _ (by omega), f18 _ _ (by omega), f17 _ _ (by omega), f16 _ _ (by omega)]
      exact a0
    · rw [f20 _ _ (by omega), f19 _ _ (by omega), f18 _ _ (by omega), f17 _ _ (by omega), f16 _ _ (by omega)]
      exact a1
    · rw [f20 _ _ (by omega), f19 _ _ (by omega), f18 _ _ (by omega), f17 _ _ (by omega), f16 _ _ (by omega)]
      exact a2
    · rw [f20 _ _ (by omega), f19 _ _ (by omega), f18 _ _ (by omega), f17 _ _ (by omega), f16 _ _ (by omega)]
      exact a3
    · rw [f20 _ _ (by omega), f19 _ _ (by omega), f18 _ _ (by omega), f17 _ _ (by omega), f16 _ _ (by omega)]
      exact a4
    · rw [f20 _ _ (by omega), f19 _ _ (by omega), f18 _ _ (by omega), f17 _ _ (by omega), f16 _ _ (by omega)]
      exact a5
    · rw [f20 _ _ (by omega), f19 _ _ (by omega), f18 _ _ (by omega), f17 _ _ (by omega), f16 _ _ (by omega)]
      exact a6
    · rw [f20 _ _ (by omega), f19 _ _ (by omega), f18 _ _ (by omega), f17 _ _ (by omega), f16 _ _ (by omega)]
      exact a7
  have u5 : RfP R20 (r + 8 + 9 * 5) := by
    obtain ⟨a0, a1, a2, a3, a4, a5, a6, a7⟩ := g5
    refine ⟨?_, ?_, ?_, ?_, ?_, ?_, ?_, ?_⟩
    · rw [f20 _ _ (by omega), f19 _ _ (by omega), f18 _ _ (by omega)]
      exact a0
    · rw [f20 _ _ (by omega), f19 _ _ (by omega), f18 _ _ (by omega)]
      exact a1
    · rw [f20 _ _ (by omega), f19 _ _ (by omega), f18 _ _ (by omega)]
      exact a2
    · rw [f20 _ _ (by omega), f19 _ _ (by omega), f18 _ _ (by omega)]
      exact a3
    · rw [f20 _ _ (by omega), f19 _ _ (by omega), f18 _ _ (by omega)]
      exact a4
    · rw [f20 _ _ (by omega), f19 _ _ (by omega), f18 _ _ (by omega)]
      exact a5
    · rw [f20 _ _ (by omega), f19 _ _ (by omega), f18 _ _ (by omega)]
      exact a6
    · rw [f20 _ _ (by omega), f19 _ _ (by omega), f18 _ _ (by omega)]
      exact a7
  have u6 : RfP R20 (r + 8 + 9 * 6) := by
    obtain ⟨a0, a1, a2, a3, a4, a5, a6, a7⟩ := g6
    refine ⟨?_, ?_, ?_, ?_, ?_, ?_, ?_, ?_⟩
    · rw [f20 _ _ (by omega)]
      exact a0
    · rw [f20 _ _ (by omega)]
      exact a1
    · rw [f20 _ _ (by omega)]
      exact a2
    · rw [f20 _ _ (by omega)]
      exact a3
    · rw [f20 _ _ (by omega)]
      exact a4
    · rw [f20 _ _ (by omega)]
      exact a5
    · rw [f20 _ _ (by omega)]
      exact a6
    · rw [f20 _ _ (by omega)]
      exact a7
  have hc : CR I R20 r σ00 Vz := by
    refine ⟨⟨h6, t1, t2, t3, t4, t5, t6, t7, fun p hp => ?_, fun j hj => ?_, fun p hp => ?_, fun p p' hp hp' he => ?_⟩, fun p hp f k _ => ?_, fun g k _ => ?_⟩
    · have e : σ00 p = p + 1 := if_neg (by omega)
      rw [e]
      rcases (show p = 0 ∨ p = 1 ∨ p = 2 ∨ p = 3 ∨ p = 4 ∨ p = 5 by omega) with rfl | rfl | rfl | rfl | rfl | rfl
      · exact s0
      · exact s1
      · exact s2
      · exact s3
      · exact s4
      · exact s5
    · rcases (show j = 0 ∨ j = 1 ∨ j = 2 ∨ j = 3 ∨ j = 4 ∨ j = 5 ∨ j = 6 by omega) with rfl | rfl | rfl | rfl | rfl | rfl | rfl
      · exact u0
      · exact u1
      · exact u2
      · exact u3
      · exact u4
      · exact u5
      · exact u6
    · unfold σ00
      split <;> omega
    · unfold σ00 at he
      split at he <;> split at he <;> omega
    · have h1 : σ00 p < 7 := by
        unfold σ00
        split <;> omega
      have := pa_in (r := r) h1
      exact (hz _ (by omega) k).1
    · exact (hz _ (by omega) k).1
  refine w_cV (begin_N (J := J) (n := 3) (c := 16) (o := 1) (by omega) hr0 (cto_0 hc) (Or.inr rfl)) ?_
  rintro S ⟨I', rfl, hM⟩
  refine w_rt ⟨I', R20, rfl, fun a ha k => ?_, hM.1, fun a k ha => hM.2.1 a k ha, fun a k ha => ?_⟩
  · rw [hM.2.1 _ _ (by omega)]
    exact y20 a (by omega) k
  · rw [f20 _ _ (by omega), f19 _ _ (by omega), f18 _ _ (by omega), f17 _ _ (by omega), f16 _ _ (by omega), f15 _ _ (by omega), f14 _ _ (by omega), f13 _ _ (by omega), f12 _ _ (by omega), f11 _ _ (by omega), f10 _ _ (by omega), f9 _ _ (by omega), f8 _ _ (by omega), f7 _ _ (by omega), f6 _ _ (by omega), f5 _ _ (by omega), f4 _ _ (by omega), f3 _ _ (by omega), f2 _ _ (by omega), f1 _ _ (by omega), f0 _ _ (by omega)]
theorem text_init (ha : kd a = 6 ∧ kd (a + 1) = 11 ∧ ln (a + 1) = 400) (hz : Zr a I J R) : En (fun S => ∃ I' R', S = (a + 2, I', J, R') ∧ Zr (a + 2) I' J R' ∧ R' a 0 = some (a + 1) ∧ I' a 1 = iI 0 ∧ I' a 2 = iI 0 ∧ I' a 3 = iI (-1) ∧ (∀ b k, b ≠ a → I' b k = I b k) ∧ ∀ b k, b ≠ a → R' b k = R b k) (f_X6_init (a + 1, I, J, R) a) := by
  obtain ⟨k0, k1, l1⟩ := ha
  unfold f_X6_init
  refine n_na k1 l1 (hz.le (by omega)) ?_
  intro z0
  refine n_pRo (by omega) k0 z0 ?_
  intro R1 y1 e1 f1
  refine n_pIo (by omega) k0 y1 ?_
  intro I1 y2 e2 f2
  refine n_pIo (by omega) k0 y2 ?_
  intro I2 y3 e3 f3
  refine n_pIo (by omega) k0 y3 ?_
  intro I3 y4 e4 f4
  refine w_rt ⟨I3, R1, rfl, y4, e1, ?_, ?_, ?_, fun b k hb => ?_, fun b k hb => f1 _ _ (by omega)⟩
  · rw [f4 _ _ (by omega), f3 _ _ (by omega), f2 _ _ (by omega)]
    exact (hz a (Nat.le_refl _) 1).1
  · rw [f4 _ _ (by omega), f3 _ _ (by omega)]
    exact e2
  · rw [f4 _ _ (by omega)]
    exact e3
  · rw [f4 _ _ (by omega), f3 _ _ (by omega), f2 _ _ (by omega)]
/-- an image's maker -/
theorem image_init (hk : kd a = 0 ∧ kd (a + 1) = 4 ∧ kd (a + 72) = 6 ∧ kd (a + 73) = 11 ∧ ln (a + 73) = 400) (hr : isRg (a + 1)) (hz : Zr a I J R) : En (fun S => ∃ I' R', S = (a + 74, I', J, R') ∧ Zr (a + 74) I' J R' ∧ R' a 0 = some (a + 1) ∧ R' a 1 = some (a + 72) ∧ R' (a + 72) 0 = some (a + 73) ∧ I' a 2 = iI 0 ∧ CR I' R' (a + 1) σ00 V00 ∧ (∀ b k, ¬ (a ≤ b ∧ b ≤ a + 73) → I' b k = I b k) ∧ ∀ b k, ¬ (a ≤ b ∧ b ≤ a + 73) → R' b k = R b k) (f_X0_init (a + 1, I, J, R) a) := by
  obtain ⟨k0, k1, k2, k3, l3⟩ := hk
  unfold f_X0_init
  refine n_nw k1 (hz.le (by omega)) ?_
  intro z0
  refine w_cV (ring_init hr (hz.le (by omega))) ?_
  rintro S ⟨I1, R1, rfl, y1, hc, f1, g1⟩
  refine n_pRo (by omega) k0 y1 ?_
  intro R2 y2 e2 g2
  refine n_nw k2 y2 ?_
  intro z3
  refine w_cV (text_init (a := a + 72) ⟨k2, k3, l3⟩ y2) ?_
  rintro S ⟨I3, R3, rfl, y3, e3, -, -, -, f3, g3⟩
  refine n_pRo (by omega) k0 y3 ?_
  intro R4 y4 e4 g4
  refine w_rt ⟨I3, R4, rfl, y4, ?_, e4, ?_, ?_, ?_, fun b k hb => ?_, fun b k hb => ?_⟩
  · rw [g4 _ _ (by omega), g3 _ _ (by omega)]
    exact e2
  · rw [g4 _ _ (by omega)]
    exact e3
  · rw [f3 _ _ (by omega), f1 _ _ (by omega)]
    exact (hz a (Nat.le_refl _) 2).1
  · exact cr_both hc (fun b k h1 h2 => f3 _ _ (by omega)) (fun b k h1 h2 => by rw [g4 _ _ (by omega), g3 _ _ (by omega), g2 _ _ (by omega)])
  · rw [f3 _ _ (by omega), f1 _ _ (by omega)]
  · rw [g4 _ _ (by omega), g3 _ _ (by omega), g2 _ _ (by omega), g1 _ _ (by omega)]
end NIN
