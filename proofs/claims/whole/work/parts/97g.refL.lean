/-! THE REFERENCE: reads, resize -/
theorem cnt_drop {p p' : Nat → Bool} {x : Nat} : ∀ {n : Nat}, x < n → p x = true → p' x = false → (∀ i, i ≠ x → p' i = p i) → cnt p' n = cnt p n - 1
  | 0, h, _, _, _ => by omega
  | n + 1, h, h1, h2, h3 => by
    show cnt p' n + (if p' n then 1 else 0) = cnt p n + (if p n then 1 else 0) - 1
    by_cases he : x = n
    · subst he
      rw [h1, h2, cnt_congr (fun i hi => h3 i (by omega))]
      simp
    · rw [h3 n (fun h => he h.symm), cnt_drop (by omega) h1 h2 h3]
      omega
def unB (u : Nat → Nat) (m i : Nat) : Bool := (List.range m).all fun k => decide (u k ≠ i)
theorem unB_0 {u : Nat → Nat} {i : Nat} : unB u 0 i = true := rfl
theorem unB_s {u : Nat → Nat} {m i : Nat} : unB u (m + 1) i = (unB u m i && decide (u m ≠ i)) := by
  unfold unB
  rw [List.range_succ, List.all_append]
  simp
theorem unB_iff {u : Nat → Nat} {m i : Nat} : unB u m i = true ↔ ∀ k, k < m → u k ≠ i := by
  unfold unB
  rw [List.all_eq_true]
  constructor
  · intro h k hk
    exact of_decide_eq_true (h k (List.mem_range.2 hk))
  · intro h k hk
    exact decide_eq_true (h k (List.mem_range.1 hk))
theorem unB_cnt {u : Nat → Nat} : ∀ {m : Nat}, (∀ k, k < m → u k < 7) → (∀ k k', k < m → k' < m → u k = u k' → k = k') → cnt (unB u m) 7 = 7 - m
  | 0, _, _ => rfl
  | m + 1, h1, h2 => by
    have ih := unB_cnt (u := u) (m := m) (fun k hk => h1 k (by omega)) (fun k k' hk hk' he => h2 k k' (by omega) (by omega) he)
    rw [cnt_drop (p := unB u m) (x := u m) (h1 m (by omega)) (unB_iff.2 fun k hk he => by have := h2 k m (by omega) (by omega) he; omega) (by rw [unB_s]; simp) (fun i hi => by rw [unB_s]; have hne : u m ≠ i := fun h => hi h.symm; simp [hne]), ih]
    omega
theorem msk_or : ∀ mk, mk < 128 → ∀ x, x < 7 → (iI (mk : Nat) ||| ((iI 1 : Int32) <<< (iI (x : Nat) &&& 31)) : Int32) = iI ((mk ||| 2 ^ x : Nat) : Int) := by decide +kernel
theorem msk_0 : ∀ x, x < 7 → ((iI 1 : Int32) <<< (iI (x : Nat) &&& 31) : Int32) = iI ((2 ^ x : Nat) : Int) := by decide +kernel
theorem msk_lt : ∀ mk, mk < 128 → ∀ x, x < 7 → (mk ||| 2 ^ x) < 128 := by decide +kernel
theorem msk_bit : ∀ mk, mk < 128 → ∀ x, x < 7 → ((iI (mk : Nat) >>> (iI (x : Nat) &&& 31)) &&& iI 1 : Int32) = if Nat.testBit mk x then iI 1 else iI 0 := by decide +kernel
theorem msk_tb : ∀ x, x < 7 → ∀ i, i < 7 → Nat.testBit (2 ^ x) i = decide (x = i) := by decide +kernel
theorem ovwN_8 : ∀ (n : Nat) {V : RV}, (ovwN n V).2 5 8 = V.2 5 8 + ovwS n V
  | 0, V => by show V.2 5 8 = V.2 5 8 + 0; omega
  | n + 1, V => by
    show (ovwN n (ovwV V)).2 5 8 = V.2 5 8 + (recs (V.1 (V.2 0 12).toNat) + ovwS n (ovwV V))
    rw [ovwN_8 n, show (ovwV V).2 5 8 = V.2 5 8 + recs (V.1 (V.2 0 12).toNat) from rfl]
    omega
theorem trn_p : ∀ (n : Nat) {V : RV} {c p : Nat}, V.2 0 8 = c → p < c → n < c → (trnN n V).1 p = V.1 (if p + n < c then p + n else p + n - c)
  | 0, V, c, p, hc, hp, hn => by
    show V.1 p = _
    rw [if_pos (by omega), Nat.add_zero]
  | n + 1, V, c, p, hc, hp, hn => by
    show (trnN n (trnV V)).1 p = _
    rw [trn_p n (V := trnV V) (c := c) (by rw [trnV, upG_ne (by omega)]; exact hc) hp (by omega)]
    show (if (((if p + n < c then p + n else p + n - c : Nat) : Nat) : Int) < V.2 0 8 - 1 then V.1 ((if p + n < c then p + n else p + n - c) + 1) else if (((if p + n < c then p + n else p + n - c : Nat) : Nat) : Int) = V.2 0 8 - 1 then V.1 0 else V.1 (if p + n < c then p + n else p + n - c)) = _
    by_cases h1 : p + n < c
    · rw [if_pos h1]
      by_cases h2 : p + n < c - 1
      · rw [if_pos (by omega), if_pos (by omega)]
        rfl
      · rw [if_neg (by omega), if_pos (by omega), if_neg (by omega), show p + (n + 1) - c = 0 by omega]
    · rw [if_neg h1, if_pos (by omega), if_neg (by omega), show p + n - c + 1 = p + (n + 1) - c by omega]
theorem pm_ep {I : MI} {b : Nat} {P P' : PV} (h : PM I b P) (he : EP P) (he' : EP P') : PM I b P' := by
  obtain ⟨a0, a1, a2, a3, a4, a5⟩ := h
  obtain ⟨x1, x2, x3, x4⟩ := he
  obtain ⟨y1, y2, y3, y4⟩ := he'
  refine ⟨?_, ?_, ?_, ?_, fun k hk => ?_, fun i f hi => by omega⟩
  · rw [a0, if_pos x1, if_pos y1]
  · rw [a1, x2, y2]
  · rw [a2, x3, y3]
  · rw [a3, x1, y1]
  · rw [a4 k hk, x4 k hk, y4 k hk]
theorem mto_381 {I0 I : MI} {π : Nat → Nat} {V : RV} (h : MTo I0 I π V) {k : Nat} {x : Int32} : MTo I0 (up I 380 k x) π V := by
  have e : ∀ k', up I 380 k x 374 k' = I 374 k' := fun k' => up_ne (by omega)
  obtain ⟨⟨b1, b2, b3, b4, b5, b6, b7, b8, b9⟩, f1, f2⟩ := h
  refine ⟨⟨b1, b2, fun j' hj' => by rw [e]; exact b3 j' hj', by rw [e]; exact b4, by rw [e]; exact b5, fun d h1 h2 => by rw [e]; exact b6 d h1 h2, fun k' h1 h2 => by rw [e, e, e]; exact b7 k' h1 h2, fun q hq => by rw [e]; exact b8 q hq, fun q hq => pm_congr (b9 q hq) fun k h1 h2 => e k⟩, fun a k' h1 h2 => by rw [up_ne (by omega)]; exact f1 a k' h1 h2, fun k' hk => by rw [e]; exact f2 k' hk⟩
section RFL
variable {I I0 : MI} {J : MJ} {R : MR} {π : Nat → Nat} {γ : Type} {Q : γ → Prop} {V : RV} {P k i f l m : Int} {x : Int32}
theorem reads_Q {n : Nat} (hR : RQ R) (h : MTo I0 I π V) (hw : WR V) (hn : n ≤ 99) : En (fun y => y.1 = (if 0 < (rdsV n V).1 then iI 1 else iI 0) ∧ ∃ I', y.2 = (381, I', J, R) ∧ MTo I0 I' π (rdsV n V).2) (f_X9_readMany (381, I, J, R) 373 (iI n)) := by
  have k374 := kd_374
  rw [u_X9_readMany]
  refine w_lp n (fun j y => ∃ I' V', y = (iI j, (381, I', J, R)) ∧ MTo I0 I' π V' ∧ WR V' ∧ j ≤ n ∧ (rdsV n V).1 = (rdsV (n - j) V').1 + j ∧ (rdsV n V).2 = (rdsV (n - j) V').2) ⟨I, V, rfl, h, hw, by omega, rfl, rfl⟩ (by rw [FU_eq]; omega) (fun i y h => by obtain ⟨_, _, _, _, _, h, _⟩ := h; exact h) ?_
  rintro j y self ⟨I', V', rfl, g, hwv, hj, hr1, hr2⟩ ih
  try dsimp only
  have fin : ∀ I2 V2, MTo I0 I2 π V2 → (rdsV n V).1 = j → (rdsV n V).2 = V2 → En (fun y => y.1 = (if 0 < (rdsV n V).1 then iI 1 else iI 0) ∧ ∃ I', y.2 = (381, I', J, R) ∧ MTo I0 I' π (rdsV n V).2) (jn_ (fun x3 => rz_ x3 (381, I2, J, R)) fun j3 => if iI j ≤ iI 0 then j3 (iI 0) else j3 (iI 1)) := fun I2 V2 g2 e1 e2 => by
    by_cases h0 : (j : Int) ≤ 0
    · repeat ((first | (with_reducible first | refine w_ltA ?_ | refine w_ltS ?_ | refine w_ltM ?_ | refine w_ltN ?_ | refine w_lt ?_ | refine w_jn ?_ | refine w_ck (by omega) (by assumption) ?_ | refine w_gI (by omega) (by assumption) ?_ | refine w_gR (by omega) (by assumption) (by assumption) ?_ | refine w_al (by omega) (by assumption) (by assumption) ?_ | refine w_pI (by omega) (by assumption) ?_ | refine w_set (by omega) (by assumption) (by omega) (by omega) ?_ | refine w_at (by omega) (by assumption) (by omega) (by omega) ?_ | refine w_sI (by omega) (by assumption) (by omega) (by omega) ?_ | refine w_aI (by omega) (by assumption) (by omega) (by omega) ?_ | refine w_sZ (by omega) (by assumption) (by omega) (by omega) (by decide) ?_ | refine w_pZ (by omega) (by assumption) (by decide) ?_ | refine w_dv (by omega) (by omega) (by omega) (by omega) ?_ | refine w_rm (by omega) (by omega) (by omega) (by omega) ?_) | ((with_reducible refine w_pos ?_ ?_); focus (first | assumption | trivial | exact (ile (by omega) (by omega) (by omega) (by omega)).2 (by omega) | exact (ilt (by omega) (by omega) (by omega) (by omega)).2 (by omega) | exact (ieq (by omega) (by omega) (by omega) (by omega)).2 (by omega))) | ((with_reducible refine w_neg ?_ ?_); focus (first | assumption | exact not_false | trivial | exact mt (ile (by omega) (by omega) (by omega) (by omega)).1 (by omega) | exact mt (ilt (by omega) (by omega) (by omega) (by omega)).1 (by omega) | exact mt (ieq (by omega) (by omega) (by omega) (by omega)).1 (by omega)))); skip)
      refine w_rz0 ⟨?_, I2, rfl, ?_⟩
      · rw [if_neg (by omega)]
      · rw [e2]
        exact g2
    · repeat ((first | (with_reducible first | refine w_ltA ?_ | refine w_ltS ?_ | refine w_ltM ?_ | refine w_ltN ?_ | refine w_lt ?_ | refine w_jn ?_ | refine w_ck (by omega) (by assumption) ?_ | refine w_gI (by omega) (by assumption) ?_ | refine w_gR (by omega) (by assumption) (by assumption) ?_ | refine w_al (by omega) (by assumption) (by assumption) ?_ | refine w_pI (by omega) (by assumption) ?_ | refine w_set (by omega) (by assumption) (by omega) (by omega) ?_ | refine w_at (by omega) (by assumption) (by omega) (by omega) ?_ | refine w_sI (by omega) (by assumption) (by omega) (by omega) ?_ | refine w_aI (by omega) (by assumption) (by omega) (by omega) ?_ | refine w_sZ (by omega) (by assumption) (by omega) (by omega) (by decide) ?_ | refine w_pZ (by omega) (by assumption) (by decide) ?_ | refine w_dv (by omega) (by omega) (by omega) (by omega) ?_ | refine w_rm (by omega) (by omega) (by omega) (by omega) ?_) | ((with_reducible refine w_pos ?_ ?_); focus (first | assumption | trivial | exact (ile (by omega) (by omega) (by omega) (by omega)).2 (by omega) | exact (ilt (by omega) (by omega) (by omega) (by omega)).2 (by omega) | exact (ieq (by omega) (by omega) (by omega) (by omega)).2 (by omega))) | ((with_reducible refine w_neg ?_ ?_); focus (first | assumption | exact not_false | trivial | exact mt (ile (by omega) (by omega) (by omega) (by omega)).1 (by omega) | exact mt (ilt (by omega) (by omega) (by omega) (by omega)).1 (by omega) | exact mt (ieq (by omega) (by omega) (by omega) (by omega)).1 (by omega)))); skip)
      refine w_rz1 ⟨?_, I2, rfl, ?_⟩
      · rw [if_pos (by omega)]
      · rw [e2]
        exact g2
  by_cases hn : j < n
  · obtain ⟨d, hd⟩ : ∃ d, n - j = d + 1 := ⟨n - j - 1, by omega⟩
    rw [hd, rds_succ] at hr1 hr2
    refine w_jnP (fun x => ∃ I2 V2, x = (381, I2, J, R) ∧ MTo I0 I2 π V2 ∧ (rdsV n V).1 = j ∧ (rdsV n V).2 = V2) ?_ ?_
    · rintro x ⟨I2, V2, rfl, g2, e1, e2⟩
      exact fin I2 V2 g2 e1 e2
    · intro jx hjx
      repeat ((first | (with_reducible first | refine w_ltA ?_ | refine w_ltS ?_ | refine w_ltM ?_ | refine w_ltN ?_ | refine w_lt ?_ | refine w_jn ?_ | refine w_ck (by omega) (by assumption) ?_ | refine w_gI (by omega) (by assumption) ?_ | refine w_gR (by omega) (by assumption) (by assumption) ?_ | refine w_al (by omega) (by assumption) (by assumption) ?_ | refine w_pI (by omega) (by assumption) ?_ | refine w_set (by omega) (by assumption) (by omega) (by omega) ?_ | refine w_at (by omega) (by assumption) (by omega) (by omega) ?_ | refine w_sI (by omega) (by assumption) (by omega) (by omega) ?_ | refine w_aI (by omega) (by assumption) (by omega) (by omega) ?_ | refine w_sZ (by omega) (by assumption) (by omega) (by omega) (by decide) ?_ | refine w_pZ (by omega) (by assumption) (by decide) ?_ | refine w_dv (by omega) (by omega) (by omega) (by omega) ?_ | refine w_rm (by omega) (by omega) (by omega) (by omega) ?_) | ((with_reducible refine w_pos ?_ ?_); focus (first | assumption | trivial | exact (ile (by omega) (by omega) (by omega) (by omega)).2 (by omega) | exact (ilt (by omega) (by omega) (by omega) (by omega)).2 (by omega) | exact (ieq (by omega) (by omega) (by omega) (by omega)).2 (by omega))) | ((with_reducible refine w_neg ?_ ?_); focus (first | assumption | exact not_false | trivial | exact mt (ile (by omega) (by omega) (by omega) (by omega)).1 (by omega) | exact mt (ilt (by omega) (by omega) (by omega) (by omega)).1 (by omega) | exact mt (ieq (by omega) (by omega) (by omega) (by omega)).1 (by omega)))); skip)
      refine w_cI (readOne_Q (J := J) hR g hwv) ?_
      rintro v S ⟨rfl, I2, rfl, g2⟩
      by_cases h1 : iI (readV V').1 = iI (-1)
      · rw [if_pos h1] at hr1 hr2
        repeat ((first | (with_reducible first | refine w_ltA ?_ | refine w_ltS ?_ | refine w_ltM ?_ | refine w_ltN ?_ | refine w_lt ?_ | refine w_jn ?_ | refine w_ck (by omega) (by assumption) ?_ | refine w_gI (by omega) (by assumption) ?_ | refine w_gR (by omega) (by assumption) (by assumption) ?_ | refine w_al (by omega) (by assumption) (by assumption) ?_ | refine w_pI (by omega) (by assumption) ?_ | refine w_set (by omega) (by assumption) (by omega) (by omega) ?_ | refine w_at (by omega) (by assumption) (by omega) (by omega) ?_ | refine w_sI (by omega) (by assumption) (by omega) (by omega) ?_ | refine w_aI (by omega) (by assumption) (by omega) (by omega) ?_ | refine w_sZ (by omega) (by assumption) (by omega) (by omega) (by decide) ?_ | refine w_pZ (by omega) (by assumption) (by decide) ?_ | refine w_dv (by omega) (by omega) (by omega) (by omega) ?_ | refine w_rm (by omega) (by omega) (by omega) (by omega) ?_) | ((with_reducible refine w_pos ?_ ?_); focus (first | assumption | trivial | exact (ile (by omega) (by omega) (by omega) (by omega)).2 (by omega) | exact (ilt (by omega) (by omega) (by omega) (by omega)).2 (by omega) | exact (ieq (by omega) (by omega) (by omega) (by omega)).2 (by omega))) | ((with_reducible refine w_neg ?_ ?_); focus (first | assumption | exact not_false | trivial | exact mt (ile (by omega) (by omega) (by omega) (by omega)).1 (by omega) | exact mt (ilt (by omega) (by omega) (by omega) (by omega)).1 (by omega) | exact mt (ieq (by omega) (by omega) (by omega) (by omega)).1 (by omega)))); skip)
        exact hjx _ ⟨I2, _, rfl, g2, by omega, hr2⟩
      · rw [if_neg h1] at hr1 hr2
        repeat ((first | (with_reducible first | refine w_ltA ?_ | refine w_ltS ?_ | refine w_ltM ?_ | refine w_ltN ?_ | refine w_lt ?_ | refine w_jn ?_ | refine w_ck (by omega) (by assumption) ?_ | refine w_gI (by omega) (by assumption) ?_ | refine w_gR (by omega) (by assumption) (by assumption) ?_ | refine w_al (by omega) (by assumption) (by assumption) ?_ | refine w_pI (by omega) (by assumption) ?_ | refine w_set (by omega) (by assumption) (by omega) (by omega) ?_ | refine w_at (by omega) (by assumption) (by omega) (by omega) ?_ | refine w_sI (by omega) (by assumption) (by omega) (by omega) ?_ | refine w_aI (by omega) (by assumption) (by omega) (by omega) ?_ | refine w_sZ (by omega) (by assumption) (by omega) (by omega) (by decide) ?_ | refine w_pZ (by omega) (by assumption) (by decide) ?_ | refine w_dv (by omega) (by omega) (by omega) (by omega) ?_ | refine w_rm (by omega) (by omega) (by omega) (by omega) ?_) | ((with_reducible refine w_pos ?_ ?_); focus (first | assumption | trivial | exact (ile (by omega) (by omega) (by omega) (by omega)).2 (by omega) | exact (ilt (by omega) (by omega) (by omega) (by omega)).2 (by omega) | exact (ieq (by omega) (by omega) (by omega) (by omega)).2 (by omega))) | ((with_reducible refine w_neg ?_ ?_); focus (first | assumption | exact not_false | trivial | exact mt (ile (by omega) (by omega) (by omega) (by omega)).1 (by omega) | exact mt (ilt (by omega) (by omega) (by omega) (by omega)).1 (by omega) | exact mt (ieq (by omega) (by omega) (by omega) (by omega)).1 (by omega)))); skip)
        refine ih _ ⟨I2, _, ?_, g2, wr_read hwv, by omega, ?_, ?_⟩
        · have : (j : Int) + 1 = ((j + 1 : Nat) : Int) := by omega
          rw [this]
        · rw [hr1, show n - (j + 1) = d by omega]
          show (rdsV d (readV V').2).1 + 1 + j = _
          omega
        · rw [hr2, show n - (j + 1) = d by omega]
  · have : n - j = 0 := by omega
    rw [this] at hr1 hr2
    refine w_jnP (fun x => x = (381, I', J, R)) ?_ ?_
    · rintro x rfl
      exact fin I' V' g (by rw [hr1]; show 0 + j = j; omega) hr2
    · intro jx hjx
      repeat ((first | (with_reducible first | refine w_ltA ?_ | refine w_ltS ?_ | refine w_ltM ?_ | refine w_ltN ?_ | refine w_lt ?_ | refine w_jn ?_ | refine w_ck (by omega) (by assumption) ?_ | refine w_gI (by omega) (by assumption) ?_ | refine w_gR (by omega) (by assumption) (by assumption) ?_ | refine w_al (by omega) (by assumption) (by assumption) ?_ | refine w_pI (by omega) (by assumption) ?_ | refine w_set (by omega) (by assumption) (by omega) (by omega) ?_ | refine w_at (by omega) (by assumption) (by omega) (by omega) ?_ | refine w_sI (by omega) (by assumption) (by omega) (by omega) ?_ | refine w_aI (by omega) (by assumption) (by omega) (by omega) ?_ | refine w_sZ (by omega) (by assumption) (by omega) (by omega) (by decide) ?_ | refine w_pZ (by omega) (by assumption) (by decide) ?_ | refine w_dv (by omega) (by omega) (by omega) (by omega) ?_ | refine w_rm (by omega) (by omega) (by omega) (by omega) ?_) | ((with_reducible refine w_pos ?_ ?_); focus (first | assumption | trivial | exact (ile (by omega) (by omega) (by omega) (by omega)).2 (by omega) | exact (ilt (by omega) (by omega) (by omega) (by omega)).2 (by omega) | exact (ieq (by omega) (by omega) (by omega) (by omega)).2 (by omega))) | ((with_reducible refine w_neg ?_ ?_); focus (first | assumption | exact not_false | trivial | exact mt (ile (by omega) (by omega) (by omega) (by omega)).1 (by omega) | exact mt (ilt (by omega) (by omega) (by omega) (by omega)).1 (by omega) | exact mt (ieq (by omega) (by omega) (by omega) (by omega)).1 (by omega)))); skip)
      exact hjx _ rfl
/-- the pages in their new places -/
theorem mto_rsz {W : RV} {n : Int} {I1 I' : MI} {o : Nat → Nat} (h : MTo I0 I1 π W) (hw : WR W) (ho0 : W.2 0 15 = 0) (hn : 2 ≤ n ∧ n ≤ 6) (hl : W.2 0 13 ≤ n) (hI : ∀ a k, a ≠ 380 → ¬ (a = 374 ∧ (k = 0 ∨ k = 4 ∨ k = 5 ∨ (55 ≤ k ∧ k < 61))) → I' a k = I1 a k) (e0 : I' 374 0 = iI n) (e4 : I' 374 4 = iI 0) (e5 : I' 374 5 = iI (W.2 0 13 - 1)) (ep : ∀ p, p < 6 → I' 374 (55 + p) = iI (o p)) (o7 : ∀ p, p < 6 → o p < 7 ∧ o p ≠ π 6) (oi : ∀ p p', p < 6 → p' < 6 → o p = o p' → p = p') (ol : ∀ p : Nat, (p : Int) < W.2 0 13 → o p = π (plc W p).toNat) : MTo I0 I' (fun p => if p < 6 then o p else π 6) (rsz2 W n) := by
  have hb := hw.1
  unfold WB at hb
  have hwr := wr_rsz2 hw ho0 hn hl
  have hz := (wr_trnN (W.2 0 12).toNat hw (by omega) ho0).2
  obtain ⟨⟨b1, b2, b3, b4, b5, b6, b7, b8, b9⟩, f1, f2⟩ := h
  have eg : ∀ g k, ¬ (g = 0 ∧ (k = 8 ∨ k = 12)) → (rsz2 W n).2 g k = W.2 g k := fun g k hh => by
    unfold rsz2
    rw [upG_ne (by omega), trn_g (V := W) (by omega)]
  have r8 : (rsz2 W n).2 0 8 = n := upG_eq
  have r12 : (rsz2 W n).2 0 12 = 0 := by
    unfold rsz2
    rw [upG_ne (by omega)]
    exact hz
  have hon : ∀ q, q < 7 → ∃ p, p < 7 ∧ π p = q := by
    intro q hq
    have hc := unB_cnt (u := π) (m := 7) b1 b2
    rcases hx : unB π 7 q with _ | _
    · by_cases hex : ∃ p, p < 7 ∧ π p = q
      · exact hex
      · have := unB_iff.2 (show ∀ k, k < 7 → π k ≠ q from fun k hk he => hex ⟨k, hk, he⟩)
        rw [hx] at this
        cases this
    · have hm := cnt_mono (unB π 7) (show q + 1 ≤ 7 by omega)
      have e1 : cnt (unB π 7) (q + 1) = cnt (unB π 7) q + 1 := by
        show cnt _ q + (if unB π 7 q then 1 else 0) = _
        rw [hx, if_pos rfl]
      have := (cnt_le (unB π 7) q).1
      omega
  refine ⟨⟨fun p hp => ?_, fun p p' hp hp' he => ?_, fun j' hj' => ?_, ?_, ?_, fun d h1 h2 => ?_, fun k' h1 h2 => ?_, fun q hq => ?_, fun q hq => ?_⟩, fun a k' h1 h2 => ?_, fun k' hk => ?_⟩
  · dsimp only
    split
    · next h => exact (o7 p h).1
    · exact b1 6 (by omega)
  · dsimp only at he
    by_cases c1 : p < 6
    · rw [if_pos c1] at he
      by_cases c2 : p' < 6
      · rw [if_pos c2] at he
        exact oi p p' c1 c2 he
      · rw [if_neg c2] at he
        exact absurd he (o7 p c1).2
    · rw [if_neg c1] at he
      by_cases c2 : p' < 6
      · rw [if_pos c2] at he
        exact absurd he.symm (o7 p' c2).2
      · omega
  · by_cases c0 : j' = 0
    · rw [c0, e0]
      show iI n = iI ((rsz2 W n).2 0 8)
      rw [r8]
    by_cases c4 : j' = 4
    · rw [c4, e4]
      show iI 0 = iI ((rsz2 W n).2 0 12)
      rw [r12]
    have hi := sg_is hj'
    have hj5 := hj'.2.1
    have hj35 := hj'.1
    have hne : ¬ ((sg j').1 = 0 ∧ ((sg j').2 = 8 ∨ (sg j').2 = 12)) := fun h => by
      rcases h.2 with hx | hx
      · exact c0 (hi.1 (Prod.ext h.1 hx))
      · exact c4 (hi.2.1 (Prod.ext h.1 hx))
    rw [hI _ _ (by omega) (by omega), eg _ _ hne]
    exact b3 j' hj'
  · rw [e5]
    unfold plc
    rw [r8, r12, eg 0 13 (by omega), if_neg (by omega)]
    congr 1
    omega
  · rw [hI _ _ (by omega) (by omega)]
    dsimp only
    rw [if_neg (by omega)]
    exact b5
  · rw [eg _ _ (by omega)] at h2
    rw [hI _ _ (by omega) (by omega), eg _ _ (by omega)]
    exact b6 d h1 h2
  · rw [eg _ _ (by omega)] at h2
    omega
  · dsimp only
    rw [ep q hq, if_pos hq]
  · have hcg : ∀ b P, PM I1 (61 + 132 * b) P → PM I' (61 + 132 * b) P := fun b P hP => pm_congr hP fun k h1 h2 => hI _ _ (by omega) (by omega)
    dsimp only
    by_cases c6 : q < 6
    · rw [if_pos c6]
      by_cases hlv : (q : Int) < W.2 0 13
      · have ev : (rsz2 W n).1 q = W.1 (plc W q).toNat := by
          show (trnN (W.2 0 12).toNat W).1 q = _
          rw [trn_p _ (c := (W.2 0 8).toNat) (by omega) (by omega) (by omega)]
          have eix : (if q + (W.2 0 12).toNat < (W.2 0 8).toNat then q + (W.2 0 12).toNat else q + (W.2 0 12).toNat - (W.2 0 8).toNat) = (plc W q).toNat := by
            unfold plc
            by_cases hc : W.2 0 8 ≤ W.2 0 12 + (q : Int)
            · rw [if_pos hc, if_neg (by omega)]
              omega
            · rw [if_neg hc, if_pos (by omega)]
              omega
          rw [eix]
        rw [ol q hlv, ev]
        have := plc_live hw.1 (k := q) (by omega) hlv
        exact hcg _ _ (b9 _ (by omega))
      · have hd : EP ((rsz2 W n).1 q) := hwr.2.2.1 q c6 (fun hh => by
          unfold liveAt at hh
          rw [r8, r12, eg 0 13 (by omega)] at hh
          omega)
        obtain ⟨p, hp, he⟩ := hon (o q) (o7 q c6).1
        have hp6 : p ≠ 6 := fun h => (o7 q c6).2 (by rw [← he, h])
        have hdp : EP (W.1 p) := hw.2.2.1 p (by omega) (fun hh => by
          obtain ⟨kk, hk1, hk2⟩ := live_plc hw.1 hh
          have h3 := ol kk hk1
          rw [hk2, he] at h3
          have := oi kk q (by omega) c6 h3
          omega)
        rw [← he]
        exact hcg _ _ (pm_ep (b9 p hp) hdp hd)
    · have e6 : q = 6 := by omega
      subst e6
      have ev : ∀ m {U : RV}, U.2 0 8 ≤ 6 → (trnN m U).1 6 = U.1 6 := by
        intro m
        induction m with
        | zero => exact fun _ => rfl
        | succ m ihm =>
          intro U hU
          show (trnN m (trnV U)).1 6 = _
          rw [ihm (by rw [trnV, upG_ne (by omega)]; exact hU)]
          show (if ((6 : Nat) : Int) < U.2 0 8 - 1 then _ else if ((6 : Nat) : Int) = U.2 0 8 - 1 then _ else U.1 6) = _
          rw [if_neg (by omega), if_neg (by omega)]
      rw [if_neg (by omega)]
      have e2 : (rsz2 W n).1 6 = W.1 6 := ev _ (by omega)
      rw [e2]
      exact hcg _ _ (b9 6 (by omega))
  · rw [hI _ _ h2 (by omega)]
    exact f1 a k' h1 h2
  · rw [hI _ _ (by omega) (by omega)]
    exact f2 k' hk
end RFL
