/-! PAGES STAY WELL-FORMED -/
theorem wi_congr {P P' : PV} {i : Nat} (h : WI P i) (h1 : ∀ f, 2 ≤ f → f ≤ 8 → ∀ j, j ≤ i → P' f j = P f j) (h0 : P' 0 10 = P 0 10) (hc : ∀ k : Nat, (k : Int) = P 5 i ∨ (k : Int) = P 6 i ∨ (k : Int) = P 6 i + 1 → P' 1 k = P 1 k) (h5 : 0 ≤ P 5 i) : WI P' i := by
  obtain ⟨a1, a2, a3, a4, a5, a6, a7, a8, a9, a10, a11, a12, a13, a14⟩ := h
  have e3 := h1 3 (by omega) (by omega) i (by omega)
  have e4 := h1 4 (by omega) (by omega) i (by omega)
  have e4' := h1 4 (by omega) (by omega) (i - 1) (by omega)
  have e5 := h1 5 (by omega) (by omega) i (by omega)
  have e6 := h1 6 (by omega) (by omega) i (by omega)
  have e6' := h1 6 (by omega) (by omega) (i - 1) (by omega)
  have e7 := h1 7 (by omega) (by omega) i (by omega)
  have e7' := h1 7 (by omega) (by omega) (i - 1) (by omega)
  have e8 := h1 8 (by omega) (by omega) i (by omega)
  unfold WI pEnd at *
  rw [e3, e4, e4', e5, e6, e6', e7, e7', e8, h0, hc (P 5 i).toNat (by omega), hc (P 6 i).toNat (by omega), hc (P 6 i + 1).toNat (by omega)]
  exact ⟨a1, a2, a3, a4, a5, a6, a7, a8, a9, a10, a11, a12, a13, a14⟩
theorem wp_now {z now now' : Int} {P : PV} (h : WP z now P) (hn : now ≤ now') : WP z now' P := by
  obtain ⟨a1, a2, a3, a4, a5, a6, a7, a8⟩ := h
  exact ⟨a1, a2, a3, a4, a5, a6, fun i hi => Int.le_trans (a7 i hi) hn, a8⟩
theorem wp_cl {z now z' now' : Int} {P : PV} (h : WP z now P) (hz : 0 ≤ z') : WP z' now' (clP P) := by
  have e1 : clP P 0 8 = 0 := by unfold clP; simp (disch := omega) only [upv_eq, upv_ne]
  have e2 : clP P 0 9 = 0 := by unfold clP; simp (disch := omega) only [upv_eq, upv_ne]
  have e3 : clP P 0 10 = 0 := by unfold clP; simp (disch := omega) only [upv_eq, upv_ne]
  have e4 : ∀ k, k < 32 → clP P 1 k = 0 := fun k hk => by unfold clP; rw [upv_ne (by omega), upv_ne (by omega), upv_ne (by omega), zrv_in (by omega)]
  have e5 : ∀ k, clP P 8 k = P 8 k := fun k => by unfold clP; rw [upv_ne (by omega), upv_ne (by omega), upv_ne (by omega), zrv_ne (by omega)]
  refine ⟨by omega, by omega, by omega, by rw [e1, e2, if_pos rfl], fun j hj => by rw [e4 j hj]; omega, fun i hi => by omega, fun i hi => by omega, fun i hi => ?_⟩
  rw [e5]
  exact h.2.2.2.2.2.2.2 i hi
theorem ep_cl {P : PV} : EP (clP P) := by
  refine ⟨by unfold clP; simp (disch := omega) only [upv_eq, upv_ne], by unfold clP; simp (disch := omega) only [upv_eq, upv_ne], by unfold clP; simp (disch := omega) only [upv_eq, upv_ne], fun k hk => by unfold clP; rw [upv_ne (by omega), upv_ne (by omega), upv_ne (by omega), zrv_in (by omega)]⟩
/-- all of a page ready -/
def rdP (P : PV) : PV := upv P 0 10 (P 0 9)
theorem wp_rd {z now : Int} {P : PV} (h : WP z now P) : WP z now (rdP P) := by
  have hw := h
  obtain ⟨a1, a2, a3, a4, a5, a6, a7, a8⟩ := h
  have e : ∀ f k, ¬ (f = 0 ∧ k = 10) → rdP P f k = P f k := fun f k hk => upv_ne hk
  have e10 : rdP P 0 10 = P 0 9 := upv_eq _ _ _ _
  have e8 := e 0 8 (by omega)
  have e9 := e 0 9 (by omega)
  refine ⟨by omega, by omega, by omega, ?_, fun j hj => ?_, fun i hi => ?_, fun i hi => ?_, fun i hi => ?_⟩
  · rw [e8, e9, a4]
    unfold pEnd
    rw [e 6 _ (by omega), e 7 _ (by omega)]
  · rw [e 1 j (by omega)]
    exact a5 j hj
  · rw [e8] at hi
    have h1 := a6 i hi
    have h2 := hw.top hi
    obtain ⟨b1, b2, b3, b4, b5, b6, b7, b8, b9, b10, b11, b12, b13, b14⟩ := h1
    unfold WI pEnd at *
    rw [e10]
    simp (disch := omega) only [e]
    exact ⟨b1, b2, b3, b4, b5, b6, b7, b8, b9, b10, Or.inl h2, b12, b13, b14⟩
  · rw [e8] at hi
    rw [e 4 i (by omega)]
    exact a7 i hi
  · rw [e 8 i (by omega)]
    exact a8 i hi
section LAY
variable {P : PV} {n l t d z : Int}
theorem layP_0 : layP P n l t d 0 8 = P 0 8 + 1 ∧ layP P n l t d 0 9 = hdOf P t + 1 + d ∧ layP P n l t d 0 10 = P 0 10 := by
  unfold layP
  by_cases h : 15 < pDelta P t
  · simp only [if_pos h]
    simp (disch := omega) only [upv_eq, upv_ne]
    exact ⟨trivial, trivial, trivial⟩
  · simp only [if_neg h]
    simp (disch := omega) only [upv_eq, upv_ne]
    exact ⟨trivial, trivial, trivial⟩
theorem layP_r {f k : Nat} (hf : 2 ≤ f) (hk : k ≠ (P 0 8).toNat) : layP P n l t d f k = P f k := by
  unfold layP
  by_cases h : 15 < pDelta P t
  · simp only [if_pos h]
    simp (disch := omega) only [upv_ne]
  · simp only [if_neg h]
    simp (disch := omega) only [upv_ne]
theorem layP_n : layP P n l t d 2 (P 0 8).toNat = n ∧ layP P n l t d 3 (P 0 8).toNat = l ∧ layP P n l t d 4 (P 0 8).toNat = t ∧ layP P n l t d 5 (P 0 8).toNat = P 0 9 ∧ layP P n l t d 6 (P 0 8).toNat = hdOf P t ∧ layP P n l t d 7 (P 0 8).toNat = d ∧ layP P n l t d 8 (P 0 8).toNat = 0 := by
  unfold layP
  simp (disch := omega) only [upv_eq, upv_ne]
  exact ⟨trivial, trivial, trivial, trivial, trivial, trivial, trivial⟩
/-- a laid page's cells -/
theorem layP_c {k : Nat} (h0 : 0 ≤ P 0 9) (hk : (k : Int) < P 0 9) : layP P n l t d 1 k = P 1 k := by
  unfold layP hdOf
  by_cases h : 15 < pDelta P t
  · simp only [if_pos h]
    simp (disch := omega) only [upv_ne]
  · simp only [if_neg h]
    simp (disch := omega) only [upv_ne]
theorem layP_h (h0 : 0 ≤ P 0 9) : layP P n l t d 1 (hdOf P t).toNat = if 15 < pDelta P t then 16 * d else 16 * d + pDelta P t := by
  unfold layP
  simp (disch := omega) only [upv_eq, upv_ne]
theorem layP_e (h0 : 0 ≤ P 0 9) (h : 15 < pDelta P t) : layP P n l t d 1 (P 0 9).toNat = 240 + pDelta P t % 16 := by
  unfold layP hdOf
  simp only [if_pos h]
  simp (disch := omega) only [upv_eq, upv_ne]
theorem layP_b (h0 : 0 ≤ P 0 9) (hp : 0 ≤ pDelta P t ∧ pDelta P t ≤ 999999) (hd : 1 ≤ d ∧ d ≤ 8) (hb : ∀ j, j < 32 → 0 ≤ P 1 j ∧ P 1 j ≤ 255) {j : Nat} (hj : j < 32) : 0 ≤ layP P n l t d 1 j ∧ layP P n l t d 1 j ≤ 255 := by
  have hbj := hb j hj
  have ad : ∀ (Q : PV) (f k : Nat) (v : Int), f ≠ 1 → upv Q f k v 1 j = Q 1 j := fun Q f k v hf => upv_ne (by omega)
  have au : ∀ (Q : PV) (k : Nat) (v : Int), 0 ≤ Q 1 j ∧ Q 1 j ≤ 255 → 0 ≤ v ∧ v ≤ 255 → 0 ≤ upv Q 1 k v 1 j ∧ upv Q 1 k v 1 j ≤ 255 := fun Q k v h1 h2 => by
    unfold upv
    split
    · exact h2
    · exact h1
  unfold layP
  by_cases h : 15 < pDelta P t
  · simp only [if_pos h]
    rw [ad _ _ _ _ (by omega), ad _ _ _ _ (by omega), ad _ _ _ _ (by omega), ad _ _ _ _ (by omega), ad _ _ _ _ (by omega), ad _ _ _ _ (by omega), ad _ _ _ _ (by omega), ad _ _ _ _ (by omega), ad _ _ _ _ (by omega)]
    exact au _ _ _ (au _ _ _ (au _ _ _ (au _ _ _ hbj (by omega)) (by omega)) (by omega)) (by omega)
  · simp only [if_neg h]
    rw [ad _ _ _ _ (by omega), ad _ _ _ _ (by omega), ad _ _ _ _ (by omega), ad _ _ _ _ (by omega), ad _ _ _ _ (by omega), ad _ _ _ _ (by omega), ad _ _ _ _ (by omega), ad _ _ _ _ (by omega), ad _ _ _ _ (by omega)]
    exact au _ _ _ hbj (by omega)
theorem hdOf_size : hdOf P t + 1 + d = P 0 9 + pSize P t d := by
  unfold hdOf pSize
  split <;> omega
theorem wp_lay (hw : WP z t P) (h0 : 0 ≤ t) (h1 : t ≤ 999999) (hl : 0 ≤ l ∧ l ≤ 3) (hd : 1 ≤ d ∧ d ≤ 8) (hz : z ≤ 32) (hfit : P 0 9 + pSize P t d ≤ z) : WP z t (layP P n l t d) := by
  have hw1 := hw
  have hdl := hw.delta h0 h1
  have hs := hdOf_size (P := P) (t := t) (d := d)
  obtain ⟨a1, a2, a3, a4, a5, a6, a7, a8⟩ := hw
  obtain ⟨e8, e9, e10⟩ := layP_0 (P := P) (n := n) (l := l) (t := t) (d := d)
  obtain ⟨n2, n3, n4, n5, n6, n7, n8⟩ := layP_n (P := P) (n := n) (l := l) (t := t) (d := d)
  have hh : hdOf P t = P 0 9 ∨ hdOf P t = P 0 9 + 3 := by
    unfold hdOf
    split <;> omega
  have hit : ((P 0 8 + 1).toNat - 1) = (P 0 8).toNat := by omega
  refine ⟨by omega, by omega, by omega, ?_, fun j hj => layP_b (by omega) hdl hd a5 hj, fun i hi => ?_, fun i hi => ?_, fun i hi => ?_⟩
  · rw [e8, e9, if_neg (by omega), hit]
    unfold pEnd
    rw [n6, n7]
  · rw [e8] at hi
    rcases (show (i : Int) < P 0 8 ∨ i = (P 0 8).toNat by omega) with h | h
    · have h2 := hw1.at h
      refine wi_congr (a6 i h) (fun f hf1 hf2 j hj => layP_r hf1 (by omega)) e10 (fun k hk => layP_c (by omega) (by omega)) h2.1
    · have hpe : P 0 9 = if i = 0 then 0 else pEnd P (i - 1) := by
        rw [a4]
        by_cases hi0 : i = 0
        · rw [if_pos hi0, if_pos (by omega)]
        · rw [if_neg hi0, if_neg (by omega), h]
      have hpe2 : (if i = 0 then 0 else pEnd (layP P n l t d) (i - 1)) = if i = 0 then 0 else pEnd P (i - 1) := by
        by_cases hi0 : i = 0
        · rw [if_pos hi0, if_pos hi0]
        · rw [if_neg hi0, if_neg hi0]
          unfold pEnd
          rw [layP_r (by omega) (by omega), layP_r (by omega) (by omega)]
      have h4 : 0 < i → layP P n l t d 4 (i - 1) ≤ t := fun hi0 => by
        rw [layP_r (by omega) (by omega)]
        exact a7 (i - 1) (by omega)
      have hhd := layP_h (P := P) (n := n) (l := l) (t := t) (d := d) (by omega)
      subst h
      unfold WI
      rw [n3, n4, n5, n6, n7, n8, e10, hpe2, ← hpe]
      refine ⟨rfl, by omega, hh, hd.1, hd.2, hl.1, hl.2, h0, Or.inl rfl, h4, Or.inr a2.2, fun hx => ?_, fun _ => ?_, fun h => by omega⟩
      · have h15 : 15 < pDelta P t := by
          unfold hdOf at hx
          split at hx <;> omega
        rw [layP_e (by omega) h15]
        omega
      · rw [hhd]
        split <;> omega
  · rw [e8] at hi
    rcases (show (i : Int) < P 0 8 ∨ i = (P 0 8).toNat by omega) with h | h
    · rw [layP_r (by omega) (by omega)]
      exact a7 i h
    · rw [h, n4]
      exact Int.le_refl _
  · rcases (show i ≠ (P 0 8).toNat ∨ i = (P 0 8).toNat by omega) with h | h
    · rw [layP_r (by omega) h]
      exact a8 i hi
    · rw [h, n8]
      exact Or.inl rfl
end LAY
