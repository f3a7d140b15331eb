/-! RINGS: the numbers of what lies there are those that were given -/
def WN (V : RV) : Prop := 0 ≤ V.2 5 6 ∧ ∀ p, p < 7 → ∀ i : Nat, (i : Int) < V.1 p 0 8 → 1 ≤ V.1 p 2 i ∧ V.1 p 2 i ≤ V.2 5 6
def PR (P' P : PV) : Prop := P' 0 8 ≤ P 0 8 ∧ ∀ i : Nat, (i : Int) < P' 0 8 → P' 2 i = P 2 i
theorem pr_r {P : PV} : PR P P := ⟨Int.le_refl _, fun _ _ => rfl⟩
theorem wn_of {V V' : RV} (h : WN V) (h6 : V.2 5 6 ≤ V'.2 5 6) (hp : ∀ p, p < 7 → ∃ q, q < 7 ∧ PR (V'.1 p) (V.1 q)) : WN V' := by
  refine ⟨by have := h.1; omega, fun p hp' i hi => ?_⟩
  obtain ⟨q, hq, h1, h2⟩ := hp p hp'
  rw [h2 i hi]
  have := h.2 q hq i (by omega)
  omega
theorem wn_g {V V' : RV} (h : WN V) (h6 : V.2 5 6 ≤ V'.2 5 6) (h1 : V'.1 = V.1) : WN V' := wn_of h h6 fun p hp => ⟨p, hp, by rw [h1]; exact pr_r⟩
theorem pr_cl {P Q : PV} (h : 0 ≤ Q 0 8) : PR (clP P) Q := ⟨by rw [ep_cl.1]; exact h, fun i hi => by rw [ep_cl.1] at hi; omega⟩
theorem wn_go {V : RV} {n : Int} (h : WN V) : WN (goV V n).2 := by
  unfold goV
  repeat' split
  all_goals exact h
theorem wn_msk {V : RV} {n : Int} (h : WN V) : WN (mskV V n).2 := by
  unfold mskV
  repeat' split
  all_goals exact h
theorem wn_upP {V : RV} {p : Nat} {P : PV} (h : WN V) (hp : p < 7) (hP : PR P (V.1 p)) : WN (upP V p P) := by
  refine wn_of h (by rw [upP_2]; omega) fun q hq => ?_
  show ∃ q', q' < 7 ∧ PR (if q = p then P else V.1 q) (V.1 q')
  by_cases he : q = p
  · rw [if_pos he]
    exact ⟨p, hp, hP⟩
  · rw [if_neg he]
    exact ⟨q, hq, pr_r⟩
theorem wn_up {V : RV} {g k : Nat} {v : Int} (h : WN V) (hn : ¬ (g = 5 ∧ k = 6)) : WN (upG V g k v) := wn_g h (by rw [upG_ne (by omega)]; omega) rfl
theorem wn_put {V : RV} {l m : Int} (hw : WR V) (h : WN V) : WN (putV V l m).2 := by
  unfold putV
  split
  · exact h
  split
  · exact h
  split
  · next h1 h2 h3 =>
    have hi := hw.i h3.1
    split
    · refine wn_up (wn_upP h (by omega) ⟨?_, fun i _ => upv_ne (by omega)⟩) (by omega)
      rw [upv_ne (by omega)]
      exact Int.le_refl _
    · exact h
  · exact h
theorem wn_cls {V : RV} (h : WN V) : WN (clsV V) := by
  have hd : WN (decV V) := wn_up h (by omega)
  unfold clsV
  split
  · refine wn_of hd (Int.le_refl _) fun p hp => ⟨p, hp, ?_⟩
    show PR (if p < 6 then rdP ((decV V).1 p) else (decV V).1 p) _
    split
    · refine ⟨?_, fun i _ => upv_ne (by omega)⟩
      unfold rdP
      rw [upv_ne (by omega)]
      exact Int.le_refl _
    · exact pr_r
  · exact hd
theorem wn_end {V : RV} {l : Int} (h : WN V) : WN (endV V l).2 := by
  unfold endV
  split
  · refine wn_cls ?_
    unfold lgV
    split
    · exact wn_up (wn_up h (by omega)) (by omega)
    · exact h
  · exact h
theorem wn_drp {V : RV} {l : Int} (hw : WR V) (h : WN V) : WN (drpV V l).2 := by
  unfold drpV
  split
  · next h3 =>
    have hi := hw.i h3.1
    refine wn_cls (wn_up (wn_upP h (by omega) ?_) (by omega))
    split
    · refine ⟨?_, fun i _ => tbP_r (by omega)⟩
      rw [tbP_v.1]
      show iPg V 0 8 - 1 ≤ iPg V 0 8
      omega
    · refine ⟨?_, fun i _ => gpP_r (by omega) (by omega)⟩
      rw [gpP_0]
      exact Int.le_refl _
  · exact h
theorem wn_swp {V : RV} {f : Int} (hw : WR V) (h : WN V) : WN (swpV V f).2 := by
  have hb := hw.1
  unfold WB at hb
  unfold swpV
  split
  · have h2 : WN (swp2 V) := by
      refine wn_of h ?_ fun p hp => ?_
      · rw [swp2_g (by omega) (by omega) (by omega)]
        omega
      · rw [swp2_p]
        split
        · exact ⟨6, by omega, pr_cl (hw.2.1 6 (by omega)).1.1⟩
        split
        · exact ⟨_, by omega, pr_r⟩
        · exact ⟨p, hp, pr_r⟩
    unfold swp3
    split
    · exact h2
    · exact wn_up (wn_up h2 (by omega)) (by omega)
  · exact h
theorem rdn_1 : ∀ (n : Nat) {V : RV}, (rdnV n V).2.1 = V.1 ∧ (rdnV n V).2.2 5 6 = V.2 5 6
  | 0, V => ⟨rfl, rfl⟩
  | n + 1, V => by
    rw [rdn_succ]
    split
    · exact ⟨rfl, rfl⟩
    split
    · split
      · refine ⟨rfl, ?_⟩
        rw [upG_ne (by omega)]
        unfold noteV
        rw [note_g (by omega), upG_ne (by omega)]
      · have := rdn_1 n (V := upG (upG V 0 7 (V.2 0 7 + 1)) 5 10 (V.2 5 10 + 1))
        refine ⟨this.1, ?_⟩
        rw [this.2, upG_ne (by omega), upG_ne (by omega)]
    · have := rdn_1 n (V := upG V 0 7 (V.2 0 7 + 1))
      refine ⟨this.1, ?_⟩
      rw [this.2, upG_ne (by omega)]
theorem wn_read {V : RV} (h : WN V) : WN (readV V).2 := wn_g h (by rw [show (readV V).2.2 5 6 = V.2 5 6 from (rdn_1 17).2]; omega) (rdn_1 17).1
theorem rds_1 : ∀ (n : Nat) {V : RV}, (rdsV n V).2.1 = V.1 ∧ (rdsV n V).2.2 5 6 = V.2 5 6
  | 0, V => ⟨rfl, rfl⟩
  | n + 1, V => by
    rw [rds_succ]
    have h1 : (readV V).2.1 = V.1 ∧ (readV V).2.2 5 6 = V.2 5 6 := rdn_1 17
    split
    · exact h1
    · have := rds_1 n (V := (readV V).2)
      exact ⟨this.1.trans h1.1, this.2.trans h1.2⟩
theorem wn_rds {n : Nat} {V : RV} (h : WN V) : WN (rdsV n V).2 := wn_g h (by rw [(rds_1 n).2]; omega) (rds_1 n).1
theorem wn_ovw {V : RV} (hw : WR V) (h : WN V) : WN (ovwV V) := by
  have hb := hw.1
  unfold WB at hb
  refine wn_of h (by rw [ovw_g (by omega) (by omega) (by omega)]; omega) fun p hp => ?_
  rw [ovw_p]
  split
  · exact ⟨_, by omega, pr_cl (hw.2.1 (V.2 0 12).toNat (by omega)).1.1⟩
  · exact ⟨p, hp, pr_r⟩
theorem wn_opn {V : RV} {l n : Int} (hw : WR V) (h : WN V) (h6 : 1 ≤ V.2 5 6) (hl : 0 ≤ l ∧ l ≤ 3) : WN (opnV V l n) ∧ (opnV V l n).2 5 6 = V.2 5 6 := by
  have htl := tlp_in hw
  have e6 : (opnV V l n).2 5 6 = V.2 5 6 := by
    unfold opnV
    dsimp only
    rw [upG_ne (by omega), upG_ne (by omega), upG_ne (by omega), opn4_g (by omega) (by omega), extV_2 (by omega)]
  have e1 : ∀ p, (opnV V l n).1 p = if p = (plc V (V.2 0 13 - 1)).toNat then layP (tlP V) (V.2 5 6) l (V.2 0 11) n else V.1 p := fun p => by
    show (opn4 (extV V) (V.2 5 6) l n).1 p = _
    rw [opn4_p, extV_t.1, extV_t.2, extV_1, extV_2 (by omega)]
  refine ⟨⟨by omega, fun p hp i hi => ?_⟩, e6⟩
  rw [e1] at hi ⊢
  rw [e6]
  by_cases he : p = (plc V (V.2 0 13 - 1)).toNat
  · rw [if_pos he] at hi ⊢
    have ht : tlP V = V.1 p := by
      rw [he]
      rfl
    rw [(layP_0).1] at hi
    by_cases hx : i = (tlP V 0 8).toNat
    · rw [hx, (layP_n).1]
      omega
    · rw [layP_r (by omega) hx, ht]
      rw [ht] at hi hx
      have h8 := (hw.2.1 p hp).1
      exact h.2 p hp i (by omega)
  · rw [if_neg he] at hi ⊢
    exact h.2 p hp i hi
theorem wn_tak {V : RV} {l n : Int} (hw : WR V) (h : WN V) : WN (takV V l n).2 ∧ V.2 5 6 ≤ (takV V l n).2.2 5 6 ∧ (takV V l n).2.2 5 6 ≤ V.2 5 6 + 1 := by
  have h0 := h.1
  unfold takV
  by_cases h1 : wayV V l n = -1
  · rw [if_pos h1]
    exact ⟨h, Int.le_refl _, by show V.2 5 6 ≤ V.2 5 6 + 1; omega⟩
  rw [if_neg h1]
  by_cases h2 : wayV V l n = -2
  · rw [if_pos h2]
    exact ⟨h, Int.le_refl _, by show V.2 5 6 ≤ V.2 5 6 + 1; omega⟩
  rw [if_neg h2]
  obtain ⟨⟨b1, b2, b3, b4, b5⟩, hcs⟩ := way_cases h1 h2
  have hg := wr_gvn hw
  have g6 : (gvnV V).2 5 6 = V.2 5 6 + 1 := upG_eq
  have hgn : WN (gvnV V) := wn_g h (by omega) rfl
  by_cases h3 : wayV V l n = -3
  · rw [if_pos h3]
    have e : (lstV V l).2 5 6 = V.2 5 6 + 1 := by
      unfold lstV
      dsimp only
      rw [upG_ne (by omega), upG_ne (by omega), g6]
    exact ⟨show WN (lstV V l) from wn_g h (by omega) rfl, by show V.2 5 6 ≤ (lstV V l).2 5 6; omega, by show (lstV V l).2 5 6 ≤ V.2 5 6 + 1; omega⟩
  rw [if_neg h3]
  obtain ⟨k1, k2, k3⟩ := nxt_ok hw h1 h2 h3
  have hn : WN (nxtV (wayV V l n) (gvnV V)) ∧ (nxtV (wayV V l n) (gvnV V)).2 5 6 = V.2 5 6 + 1 := by
    unfold nxtV
    split
    · exact ⟨wn_up (wn_ovw hg hgn) (by omega), by rw [mr_2 (by omega), ovw_g (by omega) (by omega) (by omega), g6]⟩
    split
    · exact ⟨hgn, g6⟩
    · exact ⟨wn_up hgn (by omega), by rw [mr_2 (by omega), g6]⟩
  have ho := wn_opn (l := l) (n := n) k1 hn.1 (by omega) ⟨b1, b2⟩
  exact ⟨ho.1, by rw [ho.2, hn.2]; omega, by rw [ho.2, hn.2]; omega⟩
theorem wn_trn {V : RV} (hb : V.2 0 8 ≤ 6) (h : WN V) : WN (trnV V) := by
  refine wn_up (V := turnV V) (wn_of h (Int.le_refl _) fun p hp => ?_) (by omega)
  show ∃ q, q < 7 ∧ PR (if (p : Int) < V.2 0 8 - 1 then V.1 (p + 1) else if (p : Int) = V.2 0 8 - 1 then V.1 0 else V.1 p) (V.1 q)
  split
  · exact ⟨p + 1, by omega, pr_r⟩
  split
  · exact ⟨0, by omega, pr_r⟩
  · exact ⟨p, hp, pr_r⟩
theorem wn_trnN : ∀ (n : Nat) {V : RV}, V.2 0 8 ≤ 6 → WN V → WN (trnN n V)
  | 0, V, _, h => h
  | n + 1, V, hb, h => wn_trnN n (V := trnV V) (by rw [trnV, upG_ne (by omega)]; exact hb) (wn_trn hb h)
theorem wn_ovwN : ∀ (n : Nat) {V : RV}, WR V → (n : Int) < V.2 0 13 → V.2 0 15 = 0 → WN V → WN (ovwN n V)
  | 0, V, _, _, _, h => h
  | n + 1, V, hw, hl, ho, h => by
    have e13 : (ovwV V).2 0 13 = V.2 0 13 - 1 := rfl
    exact wn_ovwN n (wr_ovw hw (by omega) (op_no (by omega))) (by omega) (by rw [ovw_g (by omega) (by omega) (by omega)]; exact ho) (wn_ovw hw h)
theorem wn_rsz {V : RV} {n : Int} (hw : WR V) (h : WN V) : WN (rszV V n).2 := by
  have hb := hw.1
  unfold WB at hb
  unfold rszV
  repeat' split
  all_goals first | exact h | skip
  have h1 := wr_ovwN (V.2 0 13 - n).toNat hw (by omega) (by omega)
  have h2 := wn_ovwN (V.2 0 13 - n).toNat hw (by omega) (by omega) h
  exact wn_up (wn_trnN _ (by omega) h2) (by omega)
theorem wn_beg {V : RV} {n c o : Int} : WN (begV V n c o) := by
  refine ⟨Int.le_refl _, fun p hp i hi => ?_⟩
  have e : (begV V n c o).1 p = clP (V.1 p) := if_pos hp
  rw [e, ep_cl.1] at hi
  omega
theorem rdn_b : ∀ (n : Nat) {V : RV}, WN V → 0 ≤ V.2 0 7 → V.1 6 0 8 - V.2 0 7 < n → ((rdnV n V).1 = -1 ∧ V.1 6 0 8 ≤ (rdnV n V).2.2 0 7) ∨ (1 ≤ (rdnV n V).1 ∧ (rdnV n V).1 ≤ V.2 5 6)
  | 0, V, h, h7, hn => by
    refine Or.inl ⟨rfl, ?_⟩
    show V.1 6 0 8 ≤ V.2 0 7
    omega
  | n + 1, V, h, h7, hn => by
    rw [rdn_succ]
    split
    · next h1 => exact Or.inl ⟨rfl, h1⟩
    next h1 =>
    split
    · split
      · exact Or.inr (h.2 6 (by omega) _ (by omega))
      · have := rdn_b n (V := upG (upG V 0 7 (V.2 0 7 + 1)) 5 10 (V.2 5 10 + 1)) (wn_up (wn_up h (by omega)) (by omega)) (by rw [upG_ne (by omega), upG_eq]; omega) (by rw [upG_ne (g' := 0) (by omega), upG_eq]; show V.1 6 0 8 - (V.2 0 7 + 1) < n; omega)
        rw [upG_ne (g' := 5) (k' := 6) (by omega), upG_ne (g' := 5) (k' := 6) (by omega)] at this
        exact this
    · have := rdn_b n (V := upG V 0 7 (V.2 0 7 + 1)) (wn_up h (by omega)) (by rw [upG_eq]; omega) (by rw [upG_eq]; show V.1 6 0 8 - (V.2 0 7 + 1) < n; omega)
      rw [upG_ne (g' := 5) (k' := 6) (by omega)] at this
      exact this
/-- two reads, the second also where the first finds nothing -/
theorem read_2 {V : RV} (hw : WR V) (h : WN V) (hb : V.2 5 6 < 2147483647) : (rdsV 2 V).2 = (readV (readV V).2).2 := by
  have hb0 := hw.1
  unfold WB at hb0
  have h8 := (hw.2.1 6 (by omega)).1
  have hx : _ := rdn_b 17 h (by omega) (by omega)
  rw [rds_succ]
  rcases hx with ⟨h1, h2⟩ | ⟨h1, h2⟩
  · have h1 : (readV V).1 = -1 := h1
    have h2 : V.1 6 0 8 ≤ (readV V).2.2 0 7 := h2
    rw [if_pos (by rw [h1])]
    have e : readV (readV V).2 = (-1, (readV V).2) := by
      show rdnV 17 (readV V).2 = _
      rw [rdn_succ, if_pos]
      rw [show (readV V).2.1 = V.1 from (rdn_1 17).1]
      exact h2
    rw [e]
  · have h1 : 1 ≤ (readV V).1 := h1
    have h2 : (readV V).1 ≤ V.2 5 6 := h2
    rw [if_neg (mt (ieq (by omega) (by omega) (by omega) (by omega)).1 (by omega)), rds_succ]
    split
    · rfl
    · rfl
