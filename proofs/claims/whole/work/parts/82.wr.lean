/-! RINGS STAY WELL-FORMED: one more is open -/
theorem upG_eq {V : RV} {g k : Nat} {v : Int} : (upG V g k v).2 g k = v := if_pos ⟨rfl, rfl⟩
theorem upG_ne {V : RV} {g k g' k' : Nat} {v : Int} (h : ¬ (g' = g ∧ k' = k)) : (upG V g k v).2 g' k' = V.2 g' k' := if_neg h
theorem upG_1 {V : RV} {g k : Nat} {v : Int} : (upG V g k v).1 = V.1 := rfl
theorem upP_2 {V : RV} {p : Nat} {P : PV} : (upP V p P).2 = V.2 := rfl
def opn4 (V : RV) (m l n : Int) : RV := upG (upG (upG (upP (upG V 2 (V.2 0 15).toNat (plc V (V.2 0 13 - 1))) (plc V (V.2 0 13 - 1)).toNat (layP (tlP V) m l (V.2 0 11) n)) 3 (V.2 0 15).toNat (tlP V 0 8)) 4 (V.2 0 15).toNat 0) 0 15 (V.2 0 15 + 1)
theorem inn_le {V : RV} (hw : WR V) : -1 ≤ inn V ∧ inn V ≤ 3 ∧ V.2 0 15 - 1 ≤ inn V := by
  have hb := hw.1
  unfold WB at hb
  unfold inn
  split
  · have h1 := hw.o (k := (V.2 0 15 - 1).toNat) (by omega)
    have h2 := (h1.2.2.2.2.2.2.2.2.2.2.2.1 (V.2 3 (V.2 0 15 - 1).toNat).toNat (by omega)).2.2.2.2.2
    have h3 := (hw.2.2.2.1 (V.2 0 15 - 1).toNat (by omega)).2.2.2.2.2.2.2.2
    omega
  · omega
section OPN
variable {V : RV} {m l n : Int}
theorem opn4_p {p : Nat} : (opn4 V m l n).1 p = if p = (plc V (V.2 0 13 - 1)).toNat then layP (tlP V) m l (V.2 0 11) n else V.1 p := rfl
theorem opn4_g {g k : Nat} (h0 : ¬ (g = 0 ∧ k = 15)) (h : ¬ ((g = 2 ∨ g = 3 ∨ g = 4) ∧ k = (V.2 0 15).toNat)) : (opn4 V m l n).2 g k = V.2 g k := by
  show (if g = 0 ∧ k = 15 then _ else if g = 4 ∧ k = (V.2 0 15).toNat then _ else if g = 3 ∧ k = (V.2 0 15).toNat then _ else if g = 2 ∧ k = (V.2 0 15).toNat then _ else V.2 g k) = _
  rw [if_neg h0, if_neg (by omega), if_neg (by omega), if_neg (by omega)]
theorem opn4_n : (opn4 V m l n).2 0 15 = V.2 0 15 + 1 ∧ (opn4 V m l n).2 2 (V.2 0 15).toNat = plc V (V.2 0 13 - 1) ∧ (opn4 V m l n).2 3 (V.2 0 15).toNat = tlP V 0 8 ∧ (opn4 V m l n).2 4 (V.2 0 15).toNat = 0 := by
  unfold opn4
  refine ⟨rfl, ?_, ?_, ?_⟩
  · rw [upG_ne (by omega), upG_ne (by omega), upG_ne (by omega), upP_2, upG_eq]
  · rw [upG_ne (by omega), upG_ne (by omega), upG_eq]
  · rw [upG_ne (by omega), upG_eq]
theorem wr_opn4 (hw : WR V) (hi : inn V < l) (hl : l ≤ 3) (hn : 1 ≤ n ∧ n ≤ 8) (hfit : tlP V 0 9 + pSize (tlP V) (V.2 0 11) n ≤ V.2 0 9) : WR (opn4 V m l n) := by
  have hil := inn_le hw
  have htl := tlp_in hw
  obtain ⟨a1, a2, a3, a4, a5⟩ := hw
  have hb := a1
  unfold WB at hb
  obtain ⟨n15, n2, n3, n4⟩ := opn4_n (V := V) (m := m) (l := l) (n := n)
  have hlay : WP (V.2 0 9) (V.2 0 11) (layP (tlP V) m l (V.2 0 11) n) := wp_lay htl.2.2.2.2 (by omega) (by omega) (by omega) hn (by omega) hfit
  obtain ⟨q8, q9, q10⟩ := layP_0 (P := tlP V) (n := m) (l := l) (t := V.2 0 11) (d := n)
  obtain ⟨y2, y3, y4, y5, y6, y7, y8⟩ := layP_n (P := tlP V) (n := m) (l := l) (t := V.2 0 11) (d := n)
  have h8 := opn4_g (V := V) (m := m) (l := l) (n := n) (g := 0) (k := 8) (by omega) (by omega)
  have h12 := opn4_g (V := V) (m := m) (l := l) (n := n) (g := 0) (k := 12) (by omega) (by omega)
  have h13 := opn4_g (V := V) (m := m) (l := l) (n := n) (g := 0) (k := 13) (by omega) (by omega)
  have hlv := fun p => liveAt_congr (p := p) h8 h12 h13
  have hT := htl.2.2.2.2
  have hT1 := hT.1
  have hT2 := hT.2.1
  refine ⟨?_, fun p hp => ?_, fun p hp hd => ?_, fun k hk => ?_, fun k k' hk hk' => ?_⟩
  · unfold WB
    rw [n15, opn4_p, if_neg (by omega)]
    simp (disch := omega) only [opn4_g]
    omega
  · rw [opn4_p, opn4_g (by omega) (by omega), opn4_g (by omega) (by omega)]
    split
    · exact hlay
    · exact a2 p hp
  · have hd' : ¬ liveAt V p := fun h => hd ((hlv p).2 h)
    rw [opn4_p, if_neg]
    · exact a3 p hp hd'
    · intro he
      have : (p : Int) = plc V (V.2 0 13 - 1) := by omega
      exact hd' (this ▸ htl.2.2.2.1)
  · rw [n15] at hk
    rcases (show (k : Int) < V.2 0 15 ∨ k = (V.2 0 15).toNat by omega) with h | h
    · have ho := a4 k h
      unfold WO at *
      rw [opn4_g (g := 2) (by omega) (by omega), opn4_g (g := 3) (by omega) (by omega), opn4_g (g := 4) (by omega) (by omega), opn4_p]
      obtain ⟨o1, o2, o3, o4, o5, o6, o7, o8, o9⟩ := ho
      refine ⟨o1, (hlv _).2 o2, o3, ?_⟩
      split
      · next he =>
        have e : V.1 (V.2 2 k).toNat = tlP V := by
          rw [he]
          rfl
        rw [e] at o4 o5 o6 o8 o9
        rw [q8, q10, layP_r (by omega) (by omega), layP_r (by omega) (by omega), layP_r (by omega) (by omega), layP_r (by omega) (by omega)]
        exact ⟨by omega, o5, o6, o7, o8, o9⟩
      · exact ⟨o4, o5, o6, o7, o8, o9⟩
    · subst h
      unfold WO
      rw [n2, n3, n4, opn4_p, if_pos rfl, q8, q10, y8, y5, y7, y3]
      exact ⟨htl.1, (hlv _).2 htl.2.2.2.1, by omega, by omega, rfl, by omega, by omega, by omega, by omega⟩
  · rw [n15] at hk'
    rcases (show (k' : Int) < V.2 0 15 ∨ k' = (V.2 0 15).toNat by omega) with h | h
    · rw [opn4_g (g := 2) (by omega) (by omega), opn4_g (g := 3) (by omega) (by omega), opn4_g (g := 2) (by omega) (by omega), opn4_g (g := 3) (by omega) (by omega)]
      exact a5 k k' hk h
    · subst h
      rw [opn4_g (g := 2) (by omega) (by omega), opn4_g (g := 3) (by omega) (by omega), n2, n3]
      rintro ⟨u1, u2⟩
      have ho := (a4 k (by omega)).2.2.2.1
      rw [u1] at ho
      have : V.1 (plc V (V.2 0 13 - 1)).toNat = tlP V := rfl
      rw [this] at ho
      omega
end OPN
