/-! THE CLASS'S PAGES: more questions -/
theorem lp_run2 {α β : Type} {F : (α → Option β) → α → Option β} {r : Option β} {x0 : α} (n : Nat) (x : Nat → α) (h0 : x 0 = x0) (hs : ∀ i, i < n → ∀ self, F self (x i) = self (x (i + 1))) (he : ∀ self, F self (x n) = r) {N : Nat} (hN : n < N) : lp_ F N x0 = r := by
  rw [← h0]
  exact lp_run n x hs he hN
theorem WP.ord {z now : Int} {P : PV} (hw : WP z now P) {i j : Nat} (hij : i < j) (hj : (j : Int) < P 0 8) : pEnd P i ≤ P 5 j := by
  obtain ⟨-, -, -, -, -, wi, -⟩ := hw
  induction j with
  | zero => omega
  | succ j ih =>
    have h1 := wi (j + 1) hj
    rw [h1.1, if_neg (by omega), Nat.add_sub_cancel]
    rcases Nat.lt_or_ge i j with h | h
    · have h2 := ih h (by omega)
      have h3 := wi j (by omega)
      have h4 := h3.2.2.1
      have h5 := h3.2.2.2.1
      unfold pEnd at *
      omega
    · have : i = j := by omega
      subst this
      exact Int.le_refl _
theorem WP.top {z now : Int} {P : PV} (hw : WP z now P) {i : Nat} (hi : (i : Int) < P 0 8) : pEnd P i ≤ P 0 9 := by
  have hw' := hw
  obtain ⟨w0, -, -, w4, -, wi, -⟩ := hw
  rw [w4, if_neg (by omega)]
  rcases Nat.lt_or_ge i ((P 0 8).toNat - 1) with h | h
  · have h1 := hw'.ord h (by omega)
    have h2 := wi ((P 0 8).toNat - 1) (by omega)
    have h3 := h2.2.2.1
    have h4 := h2.2.2.2.1
    unfold pEnd at *
    omega
  · have : i = (P 0 8).toNat - 1 := by omega
    subst this
    exact Int.le_refl _
/-- where an item lies -/
theorem WP.at {z now : Int} {P : PV} (hw : WP z now P) {i : Nat} (hi : (i : Int) < P 0 8) : 0 ≤ P 5 i ∧ P 5 i ≤ P 6 i ∧ P 6 i ≤ P 5 i + 3 ∧ 1 ≤ P 7 i ∧ P 7 i ≤ 8 ∧ P 6 i + 1 + P 7 i ≤ P 0 9 ∧ P 0 9 ≤ z := by
  have h1 := hw.top hi
  obtain ⟨-, -, w3, -, -, wi, -⟩ := hw
  have h2 := wi i hi
  have h3 := h2.2.1
  have h4 := h2.2.2.1
  have h5 := h2.2.2.2.1
  have h6 := h2.2.2.2.2.1
  unfold pEnd at h1
  omega
section PGC
variable {I : MI} {J : MJ} {R : MR} {a b c k q : Nat} {β : Type} {x : Int32} {i z now t : Int} {P : PV}
theorem isReady_C {i : Nat} (hp : isPg q) (hr : RfP R q) (hc : CP I q P) (hw : WP z now P) (hz : z ≤ 32) (hi : (i : Int) < P 0 8) : f_X3_isReady (381, I, J, R) q (iI i) = some (if isRd P i then iI 1 else iI 0) := by
  have hrec := isRecord_C (J := J) hp hr hc hw hi
  have c6 := hc.it hw 6 (by decide) hi
  have h6 := hw.at hi
  obtain ⟨hq, k0, k1, k2, k3, k4, k5, k6, k7, k8, l1, l2, l3, l4, l5, l6, l7, l8⟩ := hp
  obtain ⟨r0, r1, r2, r3, r4, r5, r6, r7⟩ := hr
  obtain ⟨⟨c0, c1, c2⟩, cc, ci⟩ := hc.old
  obtain ⟨⟨w1, w2⟩, ⟨w3, w4⟩, ⟨w5, w6⟩, -, -, wi, -⟩ := hw
  unfold f_X3_isReady jn_
  simp (disch := first | assumption | omega) only [ck', hrec, cP_some, gR2, r5, nn_s, L0, L1, gI', c2]
  rw [at' (by omega) k6 (by omega) (by omega)]
  rw [Int.toNat_natCast, c6, cP_some]
  simp (disch := first | assumption | omega) only [ile]
  by_cases h8 : P 8 i = 0
  · have e1 : isR P i = true := by simp [isR, h8]
    simp only [e1, if_true]
    rw [if_neg (by rw [ieq (by omega) (by omega) (by omega) (by omega)]; omega)]
    by_cases h9 : P 6 i < P 0 10
    · have e2 : isRd P i = true := by simp [isRd, h8, h9]
      rw [if_neg (by omega), rzP1, e2]
      rfl
    · have e2 : isRd P i = false := by simp [isRd, h9]
      rw [if_pos (by omega), rzP0, e2]
      rfl
  · have e1 : isR P i = false := by simp [isR, h8]
    have e2 : isRd P i = false := by simp [isRd, h8]
    simp only [e1, e2, Bool.false_eq_true, if_false, if_true, rzP0]
theorem readyRecords_C (hp : isPg q) (hr : RfP R q) (hc : CP I q P) (hw : WP z now P) (hz : z ≤ 32) : f_X3_readyRecords (381, I, J, R) q = some (iI (cnt (isRd P) (P 0 8).toNat)) := by
  have hrec := fun (i : Nat) (hi : (i : Int) < P 0 8) => isReady_C (J := J) hp hr hc hw hz hi
  obtain ⟨hq, k0, -⟩ := hp
  obtain ⟨⟨c0, c1, c2⟩, cc, ci⟩ := hc.old
  obtain ⟨⟨w1, w2⟩, -⟩ := hw
  unfold f_X3_readyRecords
  refine lp_run2 (P 0 8).toNat (fun i => (iI (cnt (isRd P) i), iI (i : Int))) rfl (fun i hi self => ?_) (fun self => ?_) (by rw [FU_eq]; omega)
  · dsimp only
    simp (disch := first | assumption | omega) only [gI', c0, ile, ck', jn_, lt_]
    rw [if_neg (by omega), hrec i (by omega), cP_some, L1, iI_add, iI_add]
    have e1 : cnt (isRd P) (i + 1) = cnt (isRd P) i + (if isRd P i then 1 else 0) := rfl
    have e2 : ((i + 1 : Nat) : Int) = (i : Int) + 1 := by omega
    rw [e1, e2]
    by_cases hR : isRd P i = true
    · simp only [hR, if_true, L0]
      rw [if_neg (by rw [ieq (by omega) (by omega) (by omega) (by omega)]; omega)]
    · simp only [hR, L0, if_true, Bool.false_eq_true, if_false, Int.add_zero]
  · dsimp only
    simp (disch := first | assumption | omega) only [gI', c0, ile]
    rw [if_pos (by omega)]
    rfl
/-- the k-th record's item -/
theorem itemOfRecord_C {k i : Nat} (hp : isPg q) (hr : RfP R q) (hc : CP I q P) (hw : WP z now P) (hi : (i : Int) < P 0 8) (h1 : isR P i = true) (h2 : cnt (isR P) i = k) : f_X3_itemOfRecord (381, I, J, R) q (iI k) = some (iI i) := by
  have hrec := fun (i : Nat) (hi : (i : Int) < P 0 8) => isRecord_C (J := J) hp hr hc hw hi
  obtain ⟨hq, k0, -⟩ := hp
  obtain ⟨⟨c0, c1, c2⟩, cc, ci⟩ := hc.old
  obtain ⟨⟨w1, w2⟩, -⟩ := hw
  unfold f_X3_itemOfRecord
  refine lp_run2 i (fun j => (iI (k - cnt (isR P) j), iI (j : Int))) (by show (iI (k - 0), iI 0) = _; rw [Int.sub_zero]; rfl) (fun j hj self => ?_) (fun self => ?_) (by rw [FU_eq]; omega)
  · have hm := cnt_mono (isR P) (show j + 1 ≤ i by omega)
    have hl := cnt_le (isR P) j
    have hl2 := cnt_le (isR P) i
    dsimp only
    simp (disch := first | assumption | omega) only [gI', c0, ile, ck', jn_, lt_]
    rw [if_neg (by omega), hrec j (by omega), cP_some, L1, iI_add, iI_neg, iI_add]
    have e1 : cnt (isR P) (j + 1) = cnt (isR P) j + (if isR P j then 1 else 0) := rfl
    have e2 : ((j + 1 : Nat) : Int) = (j : Int) + 1 := by omega
    rw [e1] at hm
    rw [e1, e2]
    by_cases hR : isR P j = true
    · have n1 : ¬ (iI 1 = iI 0) := by decide
      simp only [hR, if_true, L0] at hm ⊢
      have n2 : ¬ (iI (↑k - cnt (isR P) j) = iI 0) := by rw [ieq (by omega) (by omega) (by omega) (by omega)]; omega
      simp only [if_neg n1, if_neg n2, Int.sub_sub, Int.add_neg_eq_sub]
    · simp only [hR, L0, if_true, Bool.false_eq_true, if_false, Int.add_zero]
  · dsimp only
    simp (disch := first | assumption | omega) only [gI', c0, ile, ck', jn_]
    rw [if_neg (by omega), hrec i hi, cP_some, h1, h2, Int.sub_self, L0]
    simp only [if_true]
    rw [if_neg (by rw [ieq (by omega) (by omega) (by omega) (by omega)]; omega)]
    rfl
theorem atP {f i : Nat} (hp : isPg q) (hc : CP I q P) (hw : WP z now P) (hf : 2 ≤ f ∧ f ≤ 7) (hi : (i : Int) < P 0 8) : f_X8_at (381, I, J, R) (q + f) (iI i) = some (iI (P f i)) := by
  have c6 := hc.it hw f ⟨hf.1, by omega⟩ hi
  obtain ⟨hq, k0, k1, k2, k3, k4, k5, k6, k7, k8, l1, l2, l3, l4, l5, l6, l7, l8⟩ := hp
  obtain ⟨⟨w1, w2⟩, -⟩ := hw
  have hk : kd (q + f) = 11 ∧ ln (q + f) = 16 := by
    rcases (show f = 2 ∨ f = 3 ∨ f = 4 ∨ f = 5 ∨ f = 6 ∨ f = 7 by omega) with rfl | rfl | rfl | rfl | rfl | rfl <;> exact ⟨by assumption, by assumption⟩
  rw [at' (by omega) hk.1 (by omega) (by omega), Int.toNat_natCast, c6]
theorem atC {j : Int} (hp : isPg q) (hc : CP I q P) (hj : 0 ≤ j ∧ j < 32) : f_X8_at (381, I, J, R) (q + 1) (iI j) = some (iI (P 1 j.toNat)) := by
  obtain ⟨hq, k0, k1, k2, k3, k4, k5, k6, k7, k8, l1, l2, l3, l4, l5, l6, l7, l8⟩ := hp
  rw [at' (by omega) k1 hj.1 (by omega), hc.old.2.1 _ (by omega)]
theorem itemFigure_C {i : Nat} {w : Int} (hp : isPg q) (hr : RfP R q) (hc : CP I q P) (hw : WP z now P) (hi : (i : Int) < P 0 8) (hw1 : -2147483648 ≤ w) (hw2 : w < 2147483648) : f_X3_itemFigure (381, I, J, R) q (iI i) (iI w) = some (iI (if w = 0 then P 2 i else if w = 1 then P 3 i else if w = 2 then P 4 i else if w = 3 then P 7 i else -2)) := by
  have a2 := atP (J := J) (R := R) (f := 2) hp hc hw (by decide) hi
  have a3 := atP (J := J) (R := R) (f := 3) hp hc hw (by decide) hi
  have a4 := atP (J := J) (R := R) (f := 4) hp hc hw (by decide) hi
  have a7 := atP (J := J) (R := R) (f := 7) hp hc hw (by decide) hi
  obtain ⟨hq, k0, -⟩ := hp
  obtain ⟨r0, r1, r2, r3, r4, r5, r6, r7⟩ := hr
  unfold f_X3_itemFigure
  simp (disch := first | assumption | omega) only [L0, L1, L2, L3, ieq, gR2, r1, r2, r3, r6, nn_s, a2, a3, a4, a7, cP_some, rt_, iI_neg]
  repeat' split
  all_goals rfl
theorem dataOf_C {i : Nat} {w : Int} (hp : isPg q) (hr : RfP R q) (hc : CP I q P) (hw : WP z now P) (hz : z ≤ 32) (hi : (i : Int) < P 0 8) (hw1 : 0 ≤ w) (hw2 : w < P 7 i) : f_X3_dataOf (381, I, J, R) q (iI i) (iI w) = some (iI (P 1 (P 6 i + 1 + w).toNat)) := by
  have a6 := atP (J := J) (R := R) (f := 6) hp hc hw (by decide) hi
  have h6 := hw.at hi
  have hc1 := atC (J := J) (R := R) (j := P 6 i + 1 + w) hp hc (by omega)
  obtain ⟨hq, k0, -⟩ := hp
  obtain ⟨r0, r1, r2, r3, r4, r5, r6, r7⟩ := hr
  unfold f_X3_dataOf
  simp (disch := first | assumption | omega) only [L1, gR2, r0, r5, nn_s, a6, cP_some, rt_, lt_, iI_add, hc1]
theorem figure_C {w : Int} (hp : isPg q) (hr : RfP R q) (hc : CP I q P) (hw : WP z now P) (hw1 : -2147483648 ≤ w) (hw2 : w < 2147483648) : f_X3_figure (381, I, J, R) q (iI w) = some (iI (if w = 0 then (if P 0 8 = 0 then -1 else P 4 0) else if w = 1 then P 0 9 else if w = 2 then P 0 10 else if w = 3 then cnt (isR P) (P 0 8).toNat else if w = 4 then P 0 8 - cnt (isR P) (P 0 8).toNat else -2)) := by
  have hf := recordsFrom_C (J := J) (s := 0) hp hr hc hw hw.1.1
  rw [show cnt (isR P) 0 = 0 from rfl, Int.sub_zero, show ((0 : Nat) : Int) = 0 from rfl] at hf
  have hcc := hc
  have hww := hw
  have hpp := hp
  obtain ⟨hq, k0, -⟩ := hp
  obtain ⟨r0, r1, r2, r3, r4, r5, r6, r7⟩ := hr
  obtain ⟨⟨c0, c1, c2⟩, cc, ci⟩ := hc.old
  obtain ⟨⟨w1, w2⟩, -⟩ := hw
  unfold f_X3_figure
  simp (disch := first | assumption | omega) only [L0, L1, L2, L3, L4, ieq, ck', hf, cP_some, gR2, r3, nn_s, gI', c0, c1, c2, rt_, lt_, iI_sub, iI_neg, jn_]
  by_cases h0 : w = 0
  · rw [if_pos h0, if_pos h0]
    by_cases h1 : P 0 8 = 0
    · rw [if_pos h1, if_pos h1]
    · rw [if_neg h1, if_neg h1, show (0 : Int) = ((0 : Nat) : Int) from rfl, atP (f := 4) hpp hcc hww (by decide) (by omega)]
      rfl
  · rw [if_neg h0, if_neg h0]
    repeat' split
    all_goals rfl
theorem sumOf_C {s m : Int} (hp : isPg q) (hr : RfP R q) (hc : CP I q P) (hs : 0 ≤ s) (hm : 0 ≤ m) (hsm : s + m ≤ 32) : f_X3_sumOf (381, I, J, R) q (iI s) (iI m) = some (iI ((List.range m.toNat).foldl (fun (t : Int) (j : Nat) => t + P 1 (s + j).toNat) 0)) := by
  have hat := fun (j : Int) (hj : 0 ≤ j ∧ j < 32) => atC (J := J) (R := R) hp hc hj
  obtain ⟨hq, k0, -⟩ := hp
  obtain ⟨r0, r1, r2, r3, r4, r5, r6, r7⟩ := hr
  unfold f_X3_sumOf
  refine lp_run2 m.toNat (fun i => (iI ((List.range i).foldl (fun (t : Int) (j : Nat) => t + P 1 (s + j).toNat) 0), iI (i : Int))) rfl (fun i hi self => ?_) (fun self => ?_) (by rw [FU_eq]; omega)
  · dsimp only
    simp (disch := first | assumption | omega) only [ile, gR2, r0, nn_s, lt_, iI_add, L1]
    rw [if_neg (by omega), hat _ (by omega), cP_some, iI_add, List.range_succ, List.foldl_append]
    rfl
  · dsimp only
    simp (disch := first | assumption | omega) only [ile]
    rw [if_pos (by omega)]
    rfl
end PGC
