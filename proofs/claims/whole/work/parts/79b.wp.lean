/-! PAGES STAY WELL-FORMED: what is taken back, what leaves a gap -/
section TBG
variable {P : PV} {z now : Int}
theorem tbP_v : tbP P 0 8 = P 0 8 - 1 ∧ tbP P 0 9 = P 5 ((P 0 8).toNat - 1) ∧ tbP P 0 10 = P 0 10 := by
  unfold tbP
  refine ⟨?_, ?_, ?_⟩
  · rw [upv_ne (by omega), zrv_ne (by omega), upv_eq]
  · rw [upv_eq]
  · rw [upv_ne (by omega), zrv_ne (by omega), upv_ne (by omega)]
theorem tbP_r {f k : Nat} (hf : 2 ≤ f) : tbP P f k = P f k := by
  unfold tbP
  rw [upv_ne (by omega), zrv_ne (by omega), upv_ne (by omega)]
theorem tbP_c {k : Nat} (hk : (k : Int) < P 5 ((P 0 8).toNat - 1)) : tbP P 1 k = P 1 k := by
  unfold tbP
  rw [upv_ne (by omega), zrv_ne (by omega), upv_ne (by omega)]
theorem wp_tb (hw : WP z now P) (h0 : 0 < P 0 8) (hr : P 0 10 ≤ P 5 ((P 0 8).toNat - 1)) : WP z now (tbP P) := by
  have hw1 := hw
  obtain ⟨a1, a2, a3, a4, a5, a6, a7, a8⟩ := hw
  obtain ⟨e8, e9, e10⟩ := tbP_v (P := P)
  have hl := a6 ((P 0 8).toNat - 1) (by omega)
  have hat := hw1.at (i := (P 0 8).toNat - 1) (by omega)
  have hl1 := hl.1
  have hl2 := hl.2.1
  refine ⟨by omega, by omega, by omega, ?_, fun j hj => ?_, fun i hi => ?_, fun i hi => ?_, fun i hi => ?_⟩
  · rw [e8, e9, hl1]
    by_cases h : P 0 8 - 1 = 0
    · rw [if_pos h, if_pos (by omega)]
    · rw [if_neg h, if_neg (by omega)]
      unfold pEnd
      rw [tbP_r (by omega), tbP_r (by omega)]
      have : (P 0 8 - 1).toNat - 1 = (P 0 8).toNat - 1 - 1 := by omega
      rw [this]
  · unfold tbP
    rw [upv_ne (by omega)]
    unfold zrv
    split
    · omega
    · rw [upv_ne (by omega)]
      exact a5 j hj
  · rw [e8] at hi
    have h1 := hw1.ord (i := i) (j := (P 0 8).toNat - 1) (by omega) (by omega)
    have h2 := hw1.at (i := i) (by omega)
    have h3 := (a6 i (by omega)).2.2.2.2.1
    unfold pEnd at h1
    exact wi_congr (a6 i (by omega)) (fun f hf1 hf2 j hj => tbP_r hf1) e10 (fun k hk => tbP_c (by omega)) h2.1
  · rw [e8] at hi
    rw [tbP_r (by omega)]
    exact a7 i (by omega)
  · rw [tbP_r (by omega)]
    exact a8 i hi
theorem gpP_0 {i k : Nat} : gpP P i 0 k = P 0 k := by
  unfold gpP
  rw [upv_ne (by omega), zrv_ne (by omega), upv_ne (by omega), upv_ne (by omega)]
theorem gpP_r {i f k : Nat} (hf : 2 ≤ f) (h : ¬ (f = 8 ∧ k = i)) : gpP P i f k = P f k := by
  unfold gpP
  rw [upv_ne (by omega), zrv_ne (by omega), upv_ne (by omega), upv_ne (by omega)]
theorem gpP_8 {i : Nat} : gpP P i 8 i = 1 := by
  unfold gpP
  rw [upv_eq]
theorem gpP_c {i k : Nat} (h6 : 0 ≤ P 6 i) (h7 : 1 ≤ P 7 i) (hk : (k : Int) < P 6 i ∨ P 6 i + 1 + P 7 i ≤ k) : gpP P i 1 k = P 1 k := by
  unfold gpP
  rw [upv_ne (by omega), zrv_ne (by omega), upv_ne (by omega), upv_ne (by omega)]
theorem gpP_h {i : Nat} (h6 : 0 ≤ P 6 i) (h7 : 1 ≤ P 7 i) : gpP P i 1 (P 6 i).toNat = 224 + P 1 (P 6 i).toNat % 16 ∧ gpP P i 1 (P 6 i + 1).toNat = P 7 i := by
  unfold gpP
  constructor
  · rw [upv_ne (by omega), zrv_ne (by omega), upv_ne (by omega), upv_eq]
  · rw [upv_ne (by omega), zrv_ne (by omega), upv_eq]
theorem wp_gp {i : Nat} (hw : WP z now P) (hi : (i : Int) < P 0 8) : WP z now (gpP P i) := by
  have hw1 := hw
  obtain ⟨a1, a2, a3, a4, a5, a6, a7, a8⟩ := hw
  have hat := hw1.at hi
  have hgi := gpP_h (P := P) (i := i) (by omega) (by omega)
  refine ⟨by rw [gpP_0]; exact a1, by rw [gpP_0, gpP_0]; exact a2, by rw [gpP_0, gpP_0]; exact a3, ?_, fun j hj => ?_, fun j hj => ?_, fun j hj => ?_, fun j hj => ?_⟩
  · rw [gpP_0, gpP_0, a4]
    unfold pEnd
    rw [gpP_r (by omega) (by omega), gpP_r (by omega) (by omega)]
  · have hb := a5 j hj
    have hbh := a5 (P 6 i).toNat
    unfold gpP
    rw [upv_ne (by omega)]
    unfold zrv
    split
    · omega
    · unfold upv
      repeat' split
      all_goals omega
  · rw [gpP_0] at hj
    have hj1 := hw1.at hj
    have h7 := (a6 j hj).2.2.2.2.1
    by_cases he : j = i
    · subst he
      obtain ⟨b1, b2, b3, b4, b5, b6, b7, b8, b9, b10, b11, b12, b13, b14⟩ := a6 j hj
      have hcb := a5 (P 6 j).toNat
      unfold WI pEnd at *
      rw [gpP_8, gpP_r (f := 3) (by omega) (by omega), gpP_r (f := 4) (by omega) (by omega), gpP_r (f := 4) (by omega) (by omega), gpP_r (f := 5) (by omega) (by omega), gpP_r (f := 6) (by omega) (by omega), gpP_r (f := 6) (by omega) (by omega), gpP_r (f := 7) (by omega) (by omega), gpP_r (f := 7) (by omega) (by omega), gpP_0, hgi.1, hgi.2]
      refine ⟨b1, b2, b3, b4, b5, b6, b7, b8, Or.inr rfl, b10, b11, fun h => ?_, fun h => by omega, fun _ => ⟨by omega, by omega, rfl⟩⟩
      rw [gpP_c (by omega) (by omega) (by omega)]
      exact b12 h
    · have e7 : gpP P i 7 j = P 7 j := gpP_r (by omega) (by omega)
      have hfar : P 6 j + 1 < P 6 i ∨ P 6 i + 1 + P 7 i ≤ P 5 j := by
        rcases Nat.lt_or_ge j i with h | h
        · have h1 := hw1.ord h hi
          unfold pEnd at h1
          omega
        · have h1 := hw1.ord (show i < j by omega) hj
          unfold pEnd at h1
          omega
      have hc : ∀ k : Nat, (k : Int) = P 5 j ∨ (k : Int) = P 6 j ∨ (k : Int) = P 6 j + 1 → gpP P i 1 k = P 1 k := fun k hk => gpP_c (by omega) (by omega) (by omega)
      obtain ⟨b1, b2, b3, b4, b5, b6, b7, b8, b9, b10, b11, b12, b13, b14⟩ := a6 j hj
      unfold WI pEnd at *
      rw [gpP_r (f := 3) (by omega) (by omega), gpP_r (f := 4) (by omega) (by omega), gpP_r (f := 4) (by omega) (by omega), gpP_r (f := 5) (by omega) (by omega), gpP_r (f := 6) (by omega) (by omega), gpP_r (f := 6) (by omega) (by omega), e7, gpP_r (f := 7) (by omega) (by omega), gpP_r (f := 8) (by omega) (by omega), gpP_0, hc (P 5 j).toNat (by omega), hc (P 6 j).toNat (by omega), hc (P 6 j + 1).toNat (by omega)]
      exact ⟨b1, b2, b3, b4, b5, b6, b7, b8, b9, b10, b11, b12, b13, b14⟩
  · rw [gpP_0] at hj
    rw [gpP_r (by omega) (by omega)]
    exact a7 j hj
  · by_cases he : j = i
    · rw [he, gpP_8]
      exact Or.inr rfl
    · rw [gpP_r (by omega) (by omega)]
      exact a8 j hj
end TBG
