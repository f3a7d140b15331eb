/-! RINGS STAY WELL-FORMED -/
theorem liveAt_congr {V V' : RV} {p : Int} (h8 : V'.2 0 8 = V.2 0 8) (h12 : V'.2 0 12 = V.2 0 12) (h13 : V'.2 0 13 = V.2 0 13) : liveAt V' p ↔ liveAt V p := by
  unfold liveAt
  rw [h8, h12, h13]
/-- what stands outside the pages and the open ones may change within its bounds -/
theorem wr_G {V V' : RV} (hw : WR V) (hb : WB V') (h1 : V'.1 = V.1) (h8 : V'.2 0 8 = V.2 0 8) (h9 : V'.2 0 9 = V.2 0 9) (h12 : V'.2 0 12 = V.2 0 12) (h13 : V'.2 0 13 = V.2 0 13) (h15 : V'.2 0 15 = V.2 0 15) (h11 : V.2 0 11 ≤ V'.2 0 11) (ho : ∀ g k, g = 2 ∨ g = 3 ∨ g = 4 → V'.2 g k = V.2 g k) : WR V' := by
  obtain ⟨a1, a2, a3, a4, a5⟩ := hw
  refine ⟨hb, fun p hp => ?_, fun p hp hl => ?_, fun k hk => ?_, fun k k' hk hk' => ?_⟩
  · rw [h9, h1]
    exact wp_now (a2 p hp) h11
  · rw [h1]
    exact a3 p hp fun h => hl ((liveAt_congr h8 h12 h13).2 h)
  · have h := a4 k (by omega)
    unfold WO at *
    rw [ho 2 k (by omega), ho 3 k (by omega), ho 4 k (by omega), h1, liveAt_congr h8 h12 h13]
    exact h
  · rw [ho 2 k (by omega), ho 3 k (by omega), ho 2 k' (by omega), ho 3 k' (by omega)]
    exact a5 k k' hk (by omega)
theorem wr_t {V : RV} (hw : WR V) (k : Nat) (v : Int) (hk : k ≠ 16 ∧ k ≠ 18 ∧ k ≠ 19 ∨ (0 ≤ v ∧ v ≤ 999999 ∧ (k = 19 → v ≤ 4))) : WR (upG V 5 k v) := by
  have e : ∀ g j, ¬ (g = 5 ∧ j = k) → (upG V 5 k v).2 g j = V.2 g j := fun g j h => if_neg h
  refine wr_G hw ?_ rfl (e _ _ (by omega)) (e _ _ (by omega)) (e _ _ (by omega)) (e _ _ (by omega)) (e _ _ (by omega)) (by rw [e _ _ (by omega)]; exact Int.le_refl _) (fun g j h => e _ _ (by omega))
  have hb := hw.1
  unfold WB at *
  have e1 : (upG V 5 k v).1 = V.1 := rfl
  have t16 : 0 ≤ (upG V 5 k v).2 5 16 ∧ (upG V 5 k v).2 5 16 ≤ 999999 := by
    show 0 ≤ (if 5 = 5 ∧ 16 = k then v else V.2 5 16) ∧ (if 5 = 5 ∧ 16 = k then v else V.2 5 16) ≤ 999999
    split <;> omega
  have t18 : 0 ≤ (upG V 5 k v).2 5 18 ∧ (upG V 5 k v).2 5 18 ≤ 999999 := by
    show 0 ≤ (if 5 = 5 ∧ 18 = k then v else V.2 5 18) ∧ (if 5 = 5 ∧ 18 = k then v else V.2 5 18) ≤ 999999
    split <;> omega
  have t19 : 0 ≤ (upG V 5 k v).2 5 19 ∧ (upG V 5 k v).2 5 19 ≤ 4 := by
    show 0 ≤ (if 5 = 5 ∧ 19 = k then v else V.2 5 19) ∧ (if 5 = 5 ∧ 19 = k then v else V.2 5 19) ≤ 4
    split <;> omega
  rw [e1]
  simp (disch := omega) only [e]
  omega
/-- one page more is live -/
theorem wr_live {V : RV} (hw : WR V) (hl : V.2 0 13 < V.2 0 8) : WR (upG V 0 13 (V.2 0 13 + 1)) := by
  have e : ∀ g j, ¬ (g = 0 ∧ j = 13) → (upG V 0 13 (V.2 0 13 + 1)).2 g j = V.2 g j := fun g j h => if_neg h
  have e13 : (upG V 0 13 (V.2 0 13 + 1)).2 0 13 = V.2 0 13 + 1 := rfl
  have e1 : (upG V 0 13 (V.2 0 13 + 1)).1 = V.1 := rfl
  obtain ⟨a1, a2, a3, a4, a5⟩ := hw
  have hll : ∀ p, liveAt V p → liveAt (upG V 0 13 (V.2 0 13 + 1)) p := fun p h => by
    unfold liveAt at *
    rw [e13, e _ _ (by omega), e _ _ (by omega)]
    omega
  refine ⟨?_, fun p hp => ?_, fun p hp hl => ?_, fun k hk => ?_, fun k k' hk hk' => ?_⟩
  · unfold WB at *
    rw [e1, e13]
    simp (disch := omega) only [e]
    omega
  · rw [e1, e _ _ (by omega), e _ _ (by omega)]
    exact a2 p hp
  · rw [e1]
    exact a3 p hp fun h => hl (hll _ h)
  · rw [e _ _ (by omega)] at hk
    have h := a4 k hk
    unfold WO at *
    rw [e 2 k (by omega), e 3 k (by omega), e 4 k (by omega), e1]
    exact ⟨h.1, hll _ h.2.1, h.2.2⟩
  · rw [e _ _ (by omega)] at hk'
    rw [e 2 k (by omega), e 3 k (by omega), e 2 k' (by omega), e 3 k' (by omega)]
    exact a5 k k' hk hk'
/-- the head's page gone -/
def recs (P : PV) : Int := cnt (isR P) (P 0 8).toNat
def ovwV (V : RV) : RV := upG (upG (upG (upP V (V.2 0 12).toNat (clP (V.1 (V.2 0 12).toNat))) 0 12 (plc V 1)) 0 13 (V.2 0 13 - 1)) 5 8 (V.2 5 8 + recs (V.1 (V.2 0 12).toNat))
theorem ovw_p {V : RV} {p : Nat} : (ovwV V).1 p = if p = (V.2 0 12).toNat then clP (V.1 (V.2 0 12).toNat) else V.1 p := rfl
theorem ovw_g {V : RV} {g k : Nat} (h : ¬ (g = 5 ∧ k = 8)) (h1 : ¬ (g = 0 ∧ k = 13)) (h2 : ¬ (g = 0 ∧ k = 12)) : (ovwV V).2 g k = V.2 g k := by
  show (if g = 5 ∧ k = 8 then _ else if g = 0 ∧ k = 13 then _ else if g = 0 ∧ k = 12 then _ else V.2 g k) = _
  rw [if_neg h, if_neg h1, if_neg h2]
theorem wr_ovw {V : RV} (hw : WR V) (hl : 2 ≤ V.2 0 13) (ho : opIn V (V.2 0 12) = false) : WR (ovwV V) := by
  obtain ⟨a1, a2, a3, a4, a5⟩ := hw
  have e12 : (ovwV V).2 0 12 = plc V 1 := rfl
  have e13 : (ovwV V).2 0 13 = V.2 0 13 - 1 := rfl
  have hb := a1
  unfold WB at hb
  have hno : ∀ k : Nat, (k : Int) < V.2 0 15 → V.2 2 k ≠ V.2 0 12 := fun k hk h => by
    have : opIn V (V.2 0 12) = true := opIn_iff.2 ⟨k, hk, h⟩
    rw [ho] at this
    cases this
  have hlv : ∀ p, p ≠ V.2 0 12 → 0 ≤ p → (liveAt (ovwV V) p ↔ liveAt V p) := fun p hp hp0 => by
    unfold liveAt
    rw [e12, e13, ovw_g (by omega) (by omega) (by omega)]
    unfold plc
    split <;> omega
  refine ⟨?_, fun p hp => ?_, fun p hp hd => ?_, fun k hk => ?_, fun k k' hk hk' => ?_⟩
  · unfold WB
    rw [e12, e13, ovw_p, if_neg (by omega)]
    simp (disch := omega) only [ovw_g]
    unfold plc
    split <;> omega
  · rw [ovw_p, ovw_g (by omega) (by omega) (by omega), ovw_g (by omega) (by omega) (by omega)]
    split
    · exact wp_cl (a2 (V.2 0 12).toNat (by omega)) (by omega)
    · exact a2 p hp
  · rw [ovw_p]
    split
    · exact ep_cl
    · exact a3 p hp fun h => hd ((hlv p (by omega) (by omega)).2 h)
  · rw [ovw_g (by omega) (by omega) (by omega)] at hk
    have h := a4 k hk
    have hn := hno k hk
    unfold WO at *
    rw [ovw_g (g := 2) (by omega) (by omega) (by omega), ovw_g (g := 3) (by omega) (by omega) (by omega), ovw_g (g := 4) (by omega) (by omega) (by omega), ovw_p, if_neg (by omega)]
    exact ⟨h.1, (hlv _ hn h.1).2 h.2.1, h.2.2⟩
  · rw [ovw_g (by omega) (by omega) (by omega)] at hk'
    rw [ovw_g (g := 2) (by omega) (by omega) (by omega), ovw_g (g := 3) (by omega) (by omega) (by omega), ovw_g (g := 2) (by omega) (by omega) (by omega), ovw_g (g := 3) (by omega) (by omega) (by omega)]
    exact a5 k k' hk hk'
