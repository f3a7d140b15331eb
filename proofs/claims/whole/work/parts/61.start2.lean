/-! THE START, its texts -/
abbrev gvw : Cond := Jvm.Cond.and given_1 narrow_1
theorem tx_ex : ∀ i, i < 14 → Cond.exactly (strTm i) "java/lang/String" ∈ flatC gvw := by decide +kernel
theorem tx_co : ∀ i, i < 14 → Cond.eq (.field (strTm i) "java/lang/String" "coder" "B") (.int 0) ∈ flatC gvw := by decide +kernel
theorem tx_ar : ∀ i, i < 14 → Cond.arrayOf (.field (strTm i) "java/lang/String" "value" "[B") .byte ∈ flatC gvw := by decide +kernel
theorem tx_le : ∀ i, i < 14 → Cond.eq (.length (.field (strTm i) "java/lang/String" "value" "[B")) (.int (Int32.ofNat (strL.getD i 0))) ∈ flatC gvw := by decide +kernel
theorem tx_el : ∀ i, i < 14 → ∀ j, j < strL.getD i 0 → Cond.eq (.elem (.field (strTm i) "java/lang/String" "value" "[B") (.int (Int32.ofNat j))) (.int ((strB.getD i []).getD j 0)) ∈ flatC gvw := by decide +kernel
theorem tx_ne0 : ∀ j, j < 14 → 0 < j → Cond.not (Cond.eq (strTm 0) (strTm j)) ∈ flatC gvw := by decide +kernel
theorem tx_ne1 : ∀ j, j < 14 → 1 < j → Cond.not (Cond.eq (strTm 1) (strTm j)) ∈ flatC gvw := by decide +kernel
theorem tx_ne2 : ∀ j, j < 14 → 2 < j → Cond.not (Cond.eq (strTm 2) (strTm j)) ∈ flatC gvw := by decide +kernel
theorem tx_ne3 : ∀ j, j < 14 → 3 < j → Cond.not (Cond.eq (strTm 3) (strTm j)) ∈ flatC gvw := by decide +kernel
theorem tx_ne4 : ∀ j, j < 14 → 4 < j → Cond.not (Cond.eq (strTm 4) (strTm j)) ∈ flatC gvw := by decide +kernel
theorem tx_ne5 : ∀ j, j < 14 → 5 < j → Cond.not (Cond.eq (strTm 5) (strTm j)) ∈ flatC gvw := by decide +kernel
theorem tx_ne6 : ∀ j, j < 14 → 6 < j → Cond.not (Cond.eq (strTm 6) (strTm j)) ∈ flatC gvw := by decide +kernel
theorem tx_ne7 : ∀ j, j < 14 → 7 < j → Cond.not (Cond.eq (strTm 7) (strTm j)) ∈ flatC gvw := by decide +kernel
theorem tx_ne8 : ∀ j, j < 14 → 8 < j → Cond.not (Cond.eq (strTm 8) (strTm j)) ∈ flatC gvw := by decide +kernel
theorem tx_ne9 : ∀ j, j < 14 → 9 < j → Cond.not (Cond.eq (strTm 9) (strTm j)) ∈ flatC gvw := by decide +kernel
theorem tx_ne10 : ∀ j, j < 14 → 10 < j → Cond.not (Cond.eq (strTm 10) (strTm j)) ∈ flatC gvw := by decide +kernel
theorem tx_ne11 : ∀ j, j < 14 → 11 < j → Cond.not (Cond.eq (strTm 11) (strTm j)) ∈ flatC gvw := by decide +kernel
theorem tx_ne12 : ∀ j, j < 14 → 12 < j → Cond.not (Cond.eq (strTm 12) (strTm j)) ∈ flatC gvw := by decide +kernel
theorem tx_lt : ∀ i j, i < j → j < 14 → Cond.not (Cond.eq (strTm i) (strTm j)) ∈ flatC gvw := by
  intro i j hij hj
  match i, hij with
  | 0, h => exact tx_ne0 j hj h
  | 1, h => exact tx_ne1 j hj h
  | 2, h => exact tx_ne2 j hj h
  | 3, h => exact tx_ne3 j hj h
  | 4, h => exact tx_ne4 j hj h
  | 5, h => exact tx_ne5 j hj h
  | 6, h => exact tx_ne6 j hj h
  | 7, h => exact tx_ne7 j hj h
  | 8, h => exact tx_ne8 j hj h
  | 9, h => exact tx_ne9 j hj h
  | 10, h => exact tx_ne10 j hj h
  | 11, h => exact tx_ne11 j hj h
  | 12, h => exact tx_ne12 j hj h
  | i + 13, h => omega
theorem tx_ne : ∀ i, i < 14 → ∀ j, j < 14 → i ≠ j → Cond.not (Cond.eq (strTm i) (strTm j)) ∈ flatC gvw ∨ Cond.not (Cond.eq (strTm j) (strTm i)) ∈ flatC gvw := by
  intro i hi j hj hij
  rcases Nat.lt_or_gt_of_ne hij with h | h
  · exact Or.inl (tx_lt i j h hj)
  · exact Or.inr (tx_lt j i h hi)
theorem tx_compact : Cond.eq (.static "java/lang/String" "COMPACT_STRINGS" "Z") (.int 1) ∈ flatC gvw := by decide +kernel
theorem tx_sioobe : Cond.isRef (.static "jdk/internal/util/Preconditions" "SIOOBE_FORMATTER" "Ljava/util/function/BiFunction;") ∈ flatC gvw := by decide +kernel
theorem start_S {s : State} {args : Array Value} {G : Gx} (hG : G.1 = s.heap.size) (hts : ∀ w ∈ lw_tbl, w.before args s = true) (hgv : gvw.before args s = true) : wStr G s := by
  have hf := flat_of_before _ hgv
  have hA : ∀ a : Nat, a < s.heap.size → ¬ wA G a := fun a ha h => by
    have h' : G.1 ≤ a := h
    omega
  obtain ⟨adK, adV, hS, hev⟩ := vk_Sof (args := args) (s := s) (N := 14) (tm := strTm) (len := strL) (byt := strB) (A := wA G) (fun i hi => by have := str_len i hi; omega) (fun i hi => hf _ (tx_ex i hi)) (fun i hi => hf _ (tx_co i hi)) (fun i hi => hf _ (tx_ar i hi)) (fun i hi => hf _ (tx_le i hi)) (fun i hi j hj => hf _ (tx_el i hi j hj))
    (fun i j hi hj hij => (tx_ne i hi j hj hij).imp (hf _) (hf _)) hA
  exact ⟨adK, adV, fun i hi => vk_R.of (hts _ (ksr i hi)) (hev i hi), hS, va_Zof (hts _ kst_compact) (hts _ kst_ini.1) (va_eqt (hf _ tx_compact)) hA, va_Zqof (hts _ kst_sioobe) (hts _ kst_ini.2) (hf _ tx_sioobe) hA⟩
def S0 : St := (0, fun _ _ => 0, fun _ _ => 0, fun _ _ => none)
