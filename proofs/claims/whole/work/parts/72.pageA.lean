/-! THE CLASS'S PAGES -/
section PG
variable {I : MI} {J : MJ} {R : MR} {a b c k q : Nat} {β : Type} {x : Int32} {i z now t : Int} {P : PV}
theorem gR2 {K : Nat → Option β} (h1 : a < 381) (h2 : kd a = c) : gR_ (381, I, J, R) a c k K = nn_ (R a k) K := if_pos ⟨h1, h2⟩
theorem nn_s {K : Nat → Option β} : nn_ (some b) K = K b := rfl
theorem aR2 {K : Nat → Option β} (h1 : a < 381) (h2 : kd a = c) (h0 : 0 ≤ i) (h3 : i < ln a) : aR_ (381, I, J, R) a c (iI i) K = nn_ (R a i.toNat) K := by
  unfold aR_
  have := ln_big a
  rw [if_pos ⟨⟨h1, h2⟩, ix_ok h0 h3 this⟩, iI_nat ⟨by omega, by omega⟩]
def pDelta (P : PV) (t : Int) : Int := if P 0 8 = 0 then 0 else t - P 4 ((P 0 8).toNat - 1)
theorem CP.it (hc : CP I q P) (hw : WP z now P) (f : Nat) (hf : 2 ≤ f ∧ f ≤ 8) {i : Nat} (hi : (i : Int) < P 0 8) : I (q + f) i = iI (P f i) := hc.old.2.2 f hf.1 hf.2 i (by have := hw.1.2; omega)
theorem deltaAt_C (hp : isPg q) (hr : RfP R q) (hc : CP I q P) (hw : WP z now P) : f_X3_deltaAt (381, I, J, R) q (iI t) = some (iI (pDelta P t)) := by
  obtain ⟨hq, k0, k1, k2, k3, k4, k5, k6, k7, k8, l1, l2, l3, l4, l5, l6, l7, l8⟩ := hp
  obtain ⟨r0, r1, r2, r3, r4, r5, r6, r7⟩ := hr
  obtain ⟨⟨c0, c1, c2⟩, cc, ci⟩ := hc.old
  obtain ⟨⟨w1, w2⟩, -⟩ := hw
  unfold f_X3_deltaAt lt_ jn_ rt_
  simp (disch := first | assumption | omega) only [gI', gR2, nn_s, r3, c0, L0, L1, iI_sub, ilt, al', l4]
  by_cases h : P 0 8 = 0
  · rw [if_pos (by omega)]
    simp only [pDelta, h, if_true]
  · rw [if_neg (by omega), if_pos (by omega), aI' (by omega) k4 (by omega) (by omega)]
    rw [ci 4 (by decide) (by decide) _ (by omega), iI_sub]
    have e : (P 0 8 - 1).toNat = (P 0 8).toNat - 1 := by omega
    simp only [pDelta, h, if_false, e]
def pSize (P : PV) (t d : Int) : Int := if 15 < pDelta P t then 4 + d else 1 + d
theorem sizeFor_C {d : Int} (hp : isPg q) (hr : RfP R q) (hc : CP I q P) (hw : WP z now P) (ht : 0 ≤ pDelta P t ∧ pDelta P t ≤ 999999) : f_X3_sizeFor (381, I, J, R) q (iI t) (iI d) = some (iI (pSize P t d)) := by
  have hd := deltaAt_C (J := J) (t := t) hp hr hc hw
  obtain ⟨hq, k0, -⟩ := hp
  unfold f_X3_sizeFor lt_ jn_ rt_
  simp (disch := first | assumption | omega) only [ck', hd, cP_some, L15, L4, L1, L0, ile, ilt, iI_add]
  unfold pSize
  by_cases h : pDelta P t ≤ 15
  · rw [if_pos h, if_neg (by omega)]
  · rw [if_neg h, if_pos (by omega)]
end PG
