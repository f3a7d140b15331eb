/-! THE CLASS'S PAGES: what changes them -/
def upv (P : PV) (f k : Nat) (v : Int) : PV := fun f' k' => if f' = f ∧ k' = k then v else P f' k'
theorem upv_eq (P : PV) (f k : Nat) (v : Int) : upv P f k v f k = v := if_pos ⟨rfl, rfl⟩
theorem upv_ne {P : PV} {f k : Nat} {v : Int} {f' k' : Nat} (h : ¬ (f' = f ∧ k' = k)) : upv P f k v f' k' = P f' k' := if_neg h
/-- from I0 to I the cells of q alone changed; it holds P -/
def PTo (q : Nat) (I0 I : MI) (P : PV) : Prop := CP I q P ∧ ∀ a k, ¬ (q ≤ a ∧ a ≤ q + 8) → I a k = I0 a k
theorem pto_0 {q : Nat} {I : MI} {P : PV} (h : CP I q P) : PTo q I I P := ⟨h, fun _ _ _ => rfl⟩
theorem pto_up {q : Nat} {I0 I : MI} {P : PV} (h : PTo q I0 I P) (f k : Nat) (v : Int) (hf : f ≤ 8) : PTo q I0 (up I (q + f) k (iI v)) (upv P f k v) := by
  refine ⟨fun f' k' hv => ?_, fun a k' ha => ?_⟩
  · unfold up upv
    by_cases he : f' = f ∧ k' = k
    · rw [if_pos he, if_pos (by omega)]
    · rw [if_neg he, if_neg (by omega)]
      exact h.1 f' k' hv
  · rw [up_ne (by omega)]
    exact h.2 a k' ha
theorem pto_up0 {q : Nat} {I0 I : MI} {P : PV} (h : PTo q I0 I P) (k : Nat) (v : Int) : PTo q I0 (up I q k (iI v)) (upv P 0 k v) := pto_up h 0 k v (by omega)
/-- a stretch of a row set to 0 -/
def zr (I : MI) (a s n : Nat) : MI := fun b k => if b = a ∧ s ≤ k ∧ k < s + n then iI 0 else I b k
theorem zr_0 (I : MI) (a s : Nat) : zr I a s 0 = I := by
  funext b k
  unfold zr
  rw [if_neg (by omega)]
theorem zr_up (I : MI) (a s n : Nat) : up (zr I a s n) a (s + n) (iI 0) = zr I a s (n + 1) := by
  funext b k
  show (if b = a ∧ k = s + n then iI 0 else if b = a ∧ s ≤ k ∧ k < s + n then iI 0 else I b k) = if b = a ∧ s ≤ k ∧ k < s + (n + 1) then iI 0 else I b k
  by_cases h : b = a ∧ k = s + n
  · rw [if_pos h, if_pos (by omega)]
  · rw [if_neg h]
    by_cases h2 : b = a ∧ s ≤ k ∧ k < s + n
    · rw [if_pos h2, if_pos (by omega)]
    · rw [if_neg h2, if_neg (by omega)]
theorem zr_ne {I : MI} {a s n b k : Nat} (h : ¬ (b = a ∧ s ≤ k ∧ k < s + n)) : zr I a s n b k = I b k := if_neg h
def zrv (P : PV) (s n : Nat) : PV := fun f k => if f = 1 ∧ s ≤ k ∧ k < s + n then 0 else P f k
theorem zrv_ne {P : PV} {s n f k : Nat} (h : ¬ (f = 1 ∧ s ≤ k ∧ k < s + n)) : zrv P s n f k = P f k := if_neg h
theorem zrv_in {P : PV} {s n k : Nat} (h : s ≤ k ∧ k < s + n) : zrv P s n 1 k = 0 := if_pos ⟨rfl, h⟩
theorem pto_zr {q : Nat} {I0 I : MI} {P : PV} (h : PTo q I0 I P) (s n : Nat) : PTo q I0 (zr I (q + 1) s n) (zrv P s n) := by
  refine ⟨fun f' k' hv => ?_, fun a k' ha => ?_⟩
  · unfold zr zrv
    by_cases he : f' = 1 ∧ s ≤ k' ∧ k' < s + n
    · rw [if_pos he, if_pos (by omega)]
    · rw [if_neg he, if_neg (by omega)]
      exact h.1 f' k' hv
  · rw [zr_ne (by omega)]
    exact h.2 a k' ha
section PGD
variable {I : MI} {J : MJ} {R : MR} {a b c k q : Nat} {β : Type} {x : Int32} {i z now t : Int} {P : PV}
/-- a page with a record laid down -/
def hdOf (P : PV) (t : Int) : Int := if 15 < pDelta P t then P 0 9 + 3 else P 0 9
def layP (P : PV) (n l t d : Int) : PV :=
  let dl := pDelta P t
  let P1 := if 15 < dl then upv (upv (upv P 1 (P 0 9).toNat (240 + dl % 16)) 1 (P 0 9 + 1).toNat (dl / 16 % 256)) 1 (P 0 9 + 2).toNat (dl / 4096) else P
  let P2 := upv P1 1 (hdOf P t).toNat (if 15 < dl then 16 * d else 16 * d + dl)
  let it := (P 0 8).toNat
  upv (upv (upv (upv (upv (upv (upv (upv (upv P2 2 it n) 3 it l) 4 it t) 5 it (P 0 9)) 6 it (hdOf P t)) 7 it d) 8 it 0) 0 8 (P 0 8 + 1)) 0 9 (hdOf P t + 1 + d)
theorem layDown_C {n l d : Int} (hp : isPg q) (hr : RfP R q) (hc : CP I q P) (hw : WP z now P) (hz : z ≤ 32) (ht : 0 ≤ pDelta P t ∧ pDelta P t ≤ 999999) (h1 : 1 ≤ d) (h8 : d ≤ 8) (hfit : P 0 9 + pSize P t d ≤ z) : En (fun y => y.1 = iI (P 0 8) ∧ ∃ I', y.2 = (381, I', J, R) ∧ PTo q I I' (layP P n l t d)) (f_X3_layDown (381, I, J, R) q (iI n) (iI l) (iI t) (iI d)) := by
  have hdl := deltaAt_C (J := J) (t := t) hp hr hc hw
  have hc0 := hc
  obtain ⟨hq, k0, k1, k2, k3, k4, k5, k6, k7, k8, l1, l2, l3, l4, l5, l6, l7, l8⟩ := hp
  obtain ⟨r0, r1, r2, r3, r4, r5, r6, r7⟩ := hr
  obtain ⟨⟨c0, c1, c2⟩, cc, ci⟩ := hc.old
  obtain ⟨⟨w1, w2⟩, w3, ⟨w4, w5⟩, -⟩ := hw
  rw [u_X3_layDown]
  unfold pSize at hfit
  ((first | (with_reducible first | refine w_ltA ?_ | refine w_ltS ?_ | refine w_ltM ?_ | refine w_ltN ?_ | refine w_lt ?_ | refine w_jn ?_ | refine w_ck (by omega) (by assumption) ?_ | refine w_gI (by omega) (by assumption) ?_ | refine w_gR (by omega) (by assumption) (by assumption) ?_ | refine w_al (by omega) (by assumption) (by assumption) ?_ | refine w_pI (by omega) (by assumption) ?_ | refine w_set (by omega) (by assumption) (by omega) (by omega) ?_ | refine w_at (by omega) (by assumption) (by omega) (by omega) ?_ | refine w_sI (by omega) (by assumption) (by omega) (by omega) ?_ | refine w_aI (by omega) (by assumption) (by omega) (by omega) ?_ | refine w_sZ (by omega) (by assumption) (by omega) (by omega) (by decide) ?_ | refine w_pZ (by omega) (by assumption) (by decide) ?_ | refine w_dv (by omega) (by omega) (by omega) (by omega) ?_ | refine w_rm (by omega) (by omega) (by omega) (by omega) ?_) | ((with_reducible refine w_pos ?_ ?_); focus (first | assumption | trivial | exact (ile (by omega) (by omega) (by omega) (by omega)).2 (by omega) | exact (ilt (by omega) (by omega) (by omega) (by omega)).2 (by omega) | exact (ieq (by omega) (by omega) (by omega) (by omega)).2 (by omega))) | ((with_reducible refine w_neg ?_ ?_); focus (first | assumption | exact not_false | trivial | exact mt (ile (by omega) (by omega) (by omega) (by omega)).1 (by omega) | exact mt (ilt (by omega) (by omega) (by omega) (by omega)).1 (by omega) | exact mt (ieq (by omega) (by omega) (by omega) (by omega)).1 (by omega)))); try simp (disch := omega) only [up_ne, c0, c1])
  ((first | (with_reducible first | refine w_ltA ?_ | refine w_ltS ?_ | refine w_ltM ?_ | refine w_ltN ?_ | refine w_lt ?_ | refine w_jn ?_ | refine w_ck (by omega) (by assumption) ?_ | refine w_gI (by omega) (by assumption) ?_ | refine w_gR (by omega) (by assumption) (by assumption) ?_ | refine w_al (by omega) (by assumption) (by assumption) ?_ | refine w_pI (by omega) (by assumption) ?_ | refine w_set (by omega) (by assumption) (by omega) (by omega) ?_ | refine w_at (by omega) (by assumption) (by omega) (by omega) ?_ | refine w_sI (by omega) (by assumption) (by omega) (by omega) ?_ | refine w_aI (by omega) (by assumption) (by omega) (by omega) ?_ | refine w_sZ (by omega) (by assumption) (by omega) (by omega) (by decide) ?_ | refine w_pZ (by omega) (by assumption) (by decide) ?_ | refine w_dv (by omega) (by omega) (by omega) (by omega) ?_ | refine w_rm (by omega) (by omega) (by omega) (by omega) ?_) | ((with_reducible refine w_pos ?_ ?_); focus (first | assumption | trivial | exact (ile (by omega) (by omega) (by omega) (by omega)).2 (by omega) | exact (ilt (by omega) (by omega) (by omega) (by omega)).2 (by omega) | exact (ieq (by omega) (by omega) (by omega) (by omega)).2 (by omega))) | ((with_reducible refine w_neg ?_ ?_); focus (first | assumption | exact not_false | trivial | exact mt (ile (by omega) (by omega) (by omega) (by omega)).1 (by omega) | exact mt (ilt (by omega) (by omega) (by omega) (by omega)).1 (by omega) | exact mt (ieq (by omega) (by omega) (by omega) (by omega)).1 (by omega)))); try simp (disch := omega) only [up_ne, c0, c1])
  refine w_cP hdl ?_
  ((first | (with_reducible first | refine w_ltA ?_ | refine w_ltS ?_ | refine w_ltM ?_ | refine w_ltN ?_ | refine w_lt ?_ | refine w_jn ?_ | refine w_ck (by omega) (by assumption) ?_ | refine w_gI (by omega) (by assumption) ?_ | refine w_gR (by omega) (by assumption) (by assumption) ?_ | refine w_al (by omega) (by assumption) (by assumption) ?_ | refine w_pI (by omega) (by assumption) ?_ | refine w_set (by omega) (by assumption) (by omega) (by omega) ?_ | refine w_at (by omega) (by assumption) (by omega) (by omega) ?_ | refine w_sI (by omega) (by assumption) (by omega) (by omega) ?_ | refine w_aI (by omega) (by assumption) (by omega) (by omega) ?_ | refine w_sZ (by omega) (by assumption) (by omega) (by omega) (by decide) ?_ | refine w_pZ (by omega) (by assumption) (by decide) ?_ | refine w_dv (by omega) (by omega) (by omega) (by omega) ?_ | refine w_rm (by omega) (by omega) (by omega) (by omega) ?_) | ((with_reducible refine w_pos ?_ ?_); focus (first | assumption | trivial | exact (ile (by omega) (by omega) (by omega) (by omega)).2 (by omega) | exact (ilt (by omega) (by omega) (by omega) (by omega)).2 (by omega) | exact (ieq (by omega) (by omega) (by omega) (by omega)).2 (by omega))) | ((with_reducible refine w_neg ?_ ?_); focus (first | assumption | exact not_false | trivial | exact mt (ile (by omega) (by omega) (by omega) (by omega)).1 (by omega) | exact mt (ilt (by omega) (by omega) (by omega) (by omega)).1 (by omega) | exact mt (ieq (by omega) (by omega) (by omega) (by omega)).1 (by omega)))); try simp (disch := omega) only [up_ne, c0, c1])
  by_cases h : pDelta P t ≤ 15
  · have h' : ¬ 15 < pDelta P t := by omega
    rw [if_neg h'] at hfit
    have hh : hdOf P t = P 0 9 := if_neg h'
    repeat ((first | (with_reducible first | refine w_ltA ?_ | refine w_ltS ?_ | refine w_ltM ?_ | refine w_ltN ?_ | refine w_lt ?_ | refine w_jn ?_ | refine w_ck (by omega) (by assumption) ?_ | refine w_gI (by omega) (by assumption) ?_ | refine w_gR (by omega) (by assumption) (by assumption) ?_ | refine w_al (by omega) (by assumption) (by assumption) ?_ | refine w_pI (by omega) (by assumption) ?_ | refine w_set (by omega) (by assumption) (by omega) (by omega) ?_ | refine w_at (by omega) (by assumption) (by omega) (by omega) ?_ | refine w_sI (by omega) (by assumption) (by omega) (by omega) ?_ | refine w_aI (by omega) (by assumption) (by omega) (by omega) ?_ | refine w_sZ (by omega) (by assumption) (by omega) (by omega) (by decide) ?_ | refine w_pZ (by omega) (by assumption) (by decide) ?_ | refine w_dv (by omega) (by omega) (by omega) (by omega) ?_ | refine w_rm (by omega) (by omega) (by omega) (by omega) ?_) | ((with_reducible refine w_pos ?_ ?_); focus (first | assumption | trivial | exact (ile (by omega) (by omega) (by omega) (by omega)).2 (by omega) | exact (ilt (by omega) (by omega) (by omega) (by omega)).2 (by omega) | exact (ieq (by omega) (by omega) (by omega) (by omega)).2 (by omega))) | ((with_reducible refine w_neg ?_ ?_); focus (first | assumption | exact not_false | trivial | exact mt (ile (by omega) (by omega) (by omega) (by omega)).1 (by omega) | exact mt (ilt (by omega) (by omega) (by omega) (by omega)).1 (by omega) | exact mt (ieq (by omega) (by omega) (by omega) (by omega)).1 (by omega)))); try simp (disch := omega) only [up_ne, c0, c1])
    refine w_rt ?_
    refine ⟨rfl, _, rfl, ?_⟩
    unfold layP
    simp only [if_neg h', hh]
    exact pto_up0 (pto_up0 (pto_up (pto_up (pto_up (pto_up (pto_up (pto_up (pto_up (pto_up (pto_0 hc0) 1 _ _ (by omega)) 2 _ _ (by omega)) 3 _ _ (by omega)) 4 _ _ (by omega)) 5 _ _ (by omega)) 6 _ _ (by omega)) 7 _ _ (by omega)) 8 _ _ (by omega)) 8 _) 9 _
  · have h' : 15 < pDelta P t := by omega
    rw [if_pos h'] at hfit
    have hh : hdOf P t = P 0 9 + 3 := if_pos h'
    repeat ((first | (with_reducible first | refine w_ltA ?_ | refine w_ltS ?_ | refine w_ltM ?_ | refine w_ltN ?_ | refine w_lt ?_ | refine w_jn ?_ | refine w_ck (by omega) (by assumption) ?_ | refine w_gI (by omega) (by assumption) ?_ | refine w_gR (by omega) (by assumption) (by assumption) ?_ | refine w_al (by omega) (by assumption) (by assumption) ?_ | refine w_pI (by omega) (by assumption) ?_ | refine w_set (by omega) (by assumption) (by omega) (by omega) ?_ | refine w_at (by omega) (by assumption) (by omega) (by omega) ?_ | refine w_sI (by omega) (by assumption) (by omega) (by omega) ?_ | refine w_aI (by omega) (by assumption) (by omega) (by omega) ?_ | refine w_sZ (by omega) (by assumption) (by omega) (by omega) (by decide) ?_ | refine w_pZ (by omega) (by assumption) (by decide) ?_ | refine w_dv (by omega) (by omega) (by omega) (by omega) ?_ | refine w_rm (by omega) (by omega) (by omega) (by omega) ?_) | ((with_reducible refine w_pos ?_ ?_); focus (first | assumption | trivial | exact (ile (by omega) (by omega) (by omega) (by omega)).2 (by omega) | exact (ilt (by omega) (by omega) (by omega) (by omega)).2 (by omega) | exact (ieq (by omega) (by omega) (by omega) (by omega)).2 (by omega))) | ((with_reducible refine w_neg ?_ ?_); focus (first | assumption | exact not_false | trivial | exact mt (ile (by omega) (by omega) (by omega) (by omega)).1 (by omega) | exact mt (ilt (by omega) (by omega) (by omega) (by omega)).1 (by omega) | exact mt (ieq (by omega) (by omega) (by omega) (by omega)).1 (by omega)))); try simp (disch := omega) only [up_ne, c0, c1])
    refine w_rt ?_
    refine ⟨rfl, _, rfl, ?_⟩
    unfold layP
    simp only [if_pos h', hh]
    exact pto_up0 (pto_up0 (pto_up (pto_up (pto_up (pto_up (pto_up (pto_up (pto_up (pto_up (pto_up (pto_up (pto_up (pto_0 hc0) 1 _ _ (by omega)) 1 _ _ (by omega)) 1 _ _ (by omega)) 1 _ _ (by omega)) 2 _ _ (by omega)) 3 _ _ (by omega)) 4 _ _ (by omega)) 5 _ _ (by omega)) 6 _ _ (by omega)) 7 _ _ (by omega)) 8 _ _ (by omega)) 8 _) 9 _
/-- the last item taken back -/
def tbP (P : PV) : PV := upv (zrv (upv P 0 8 (P 0 8 - 1)) (P 5 ((P 0 8).toNat - 1)).toNat (P 0 9 - P 5 ((P 0 8).toNat - 1)).toNat) 0 9 (P 5 ((P 0 8).toNat - 1))
theorem takeBack_C (hp : isPg q) (hr : RfP R q) (hc : CP I q P) (hw : WP z now P) (hz : z ≤ 32) (h0 : 0 < P 0 8) : En (fun S' => ∃ I', S' = (381, I', J, R) ∧ PTo q I I' (tbP P)) (f_X3_takeBack (381, I, J, R) q) := by
  have hc0 := hc
  have ha := hw.at (i := (P 0 8).toNat - 1) (by omega)
  have c5 := hc.it hw 5 (by decide) (i := (P 0 8).toNat - 1) (by omega)
  obtain ⟨hq, k0, k1, k2, k3, k4, k5, k6, k7, k8, l1, l2, l3, l4, l5, l6, l7, l8⟩ := hp
  obtain ⟨r0, r1, r2, r3, r4, r5, r6, r7⟩ := hr
  obtain ⟨⟨c0, c1, c2⟩, cc, ci⟩ := hc.old
  obtain ⟨⟨w1, w2⟩, w3, ⟨w4, w5⟩, -⟩ := hw
  have e : (P 0 8 - 1).toNat = (P 0 8).toNat - 1 := by omega
  rw [u_X3_takeBack]
  repeat ((first | (with_reducible first | refine w_ltA ?_ | refine w_ltS ?_ | refine w_ltM ?_ | refine w_ltN ?_ | refine w_lt ?_ | refine w_jn ?_ | refine w_ck (by omega) (by assumption) ?_ | refine w_gI (by omega) (by assumption) ?_ | refine w_gR (by omega) (by assumption) (by assumption) ?_ | refine w_al (by omega) (by assumption) (by assumption) ?_ | refine w_pI (by omega) (by assumption) ?_ | refine w_set (by omega) (by assumption) (by omega) (by omega) ?_ | refine w_at (by omega) (by assumption) (by omega) (by omega) ?_ | refine w_sI (by omega) (by assumption) (by omega) (by omega) ?_ | refine w_aI (by omega) (by assumption) (by omega) (by omega) ?_ | refine w_sZ (by omega) (by assumption) (by omega) (by omega) (by decide) ?_ | refine w_pZ (by omega) (by assumption) (by decide) ?_ | refine w_dv (by omega) (by omega) (by omega) (by omega) ?_ | refine w_rm (by omega) (by omega) (by omega) (by omega) ?_) | ((with_reducible refine w_pos ?_ ?_); focus (first | assumption | trivial | exact (ile (by omega) (by omega) (by omega) (by omega)).2 (by omega) | exact (ilt (by omega) (by omega) (by omega) (by omega)).2 (by omega) | exact (ieq (by omega) (by omega) (by omega) (by omega)).2 (by omega))) | ((with_reducible refine w_neg ?_ ?_); focus (first | assumption | exact not_false | trivial | exact mt (ile (by omega) (by omega) (by omega) (by omega)).1 (by omega) | exact mt (ilt (by omega) (by omega) (by omega) (by omega)).1 (by omega) | exact mt (ieq (by omega) (by omega) (by omega) (by omega)).1 (by omega)))); try simp (disch := omega) only [up_ne, up_eq, c0, c1, e, c5])
  generalize hf : P 5 ((P 0 8).toNat - 1) = f at *
  refine w_lp (P 0 9 - f).toNat (fun i y => i ≤ (P 0 9 - f).toNat ∧ y = (iI (f + i), (381, zr (up I q 8 (iI (P 0 8 - 1))) (q + 1) f.toNat i, J, R))) ⟨by omega, ?_⟩ (by rw [FU_eq]; omega) (fun i y h => h.1) ?_
  · rw [zr_0]
    show (iI f, _) = (iI (f + 0), _)
    rw [Int.add_zero]
  · rintro i y self ⟨hi, rfl⟩ ih
    dsimp only
    by_cases hn : i < (P 0 9 - f).toNat
    · repeat ((first | (with_reducible first | refine w_ltA ?_ | refine w_ltS ?_ | refine w_ltM ?_ | refine w_ltN ?_ | refine w_lt ?_ | refine w_jn ?_ | refine w_ck (by omega) (by assumption) ?_ | refine w_gI (by omega) (by assumption) ?_ | refine w_gR (by omega) (by assumption) (by assumption) ?_ | refine w_al (by omega) (by assumption) (by assumption) ?_ | refine w_pI (by omega) (by assumption) ?_ | refine w_set (by omega) (by assumption) (by omega) (by omega) ?_ | refine w_at (by omega) (by assumption) (by omega) (by omega) ?_ | refine w_sI (by omega) (by assumption) (by omega) (by omega) ?_ | refine w_aI (by omega) (by assumption) (by omega) (by omega) ?_ | refine w_sZ (by omega) (by assumption) (by omega) (by omega) (by decide) ?_ | refine w_pZ (by omega) (by assumption) (by decide) ?_ | refine w_dv (by omega) (by omega) (by omega) (by omega) ?_ | refine w_rm (by omega) (by omega) (by omega) (by omega) ?_) | ((with_reducible refine w_pos ?_ ?_); focus (first | assumption | trivial | exact (ile (by omega) (by omega) (by omega) (by omega)).2 (by omega) | exact (ilt (by omega) (by omega) (by omega) (by omega)).2 (by omega) | exact (ieq (by omega) (by omega) (by omega) (by omega)).2 (by omega))) | ((with_reducible refine w_neg ?_ ?_); focus (first | assumption | exact not_false | trivial | exact mt (ile (by omega) (by omega) (by omega) (by omega)).1 (by omega) | exact mt (ilt (by omega) (by omega) (by omega) (by omega)).1 (by omega) | exact mt (ieq (by omega) (by omega) (by omega) (by omega)).1 (by omega)))); try simp (disch := omega) only [up_ne, up_eq, zr_ne, c0, c1])
      refine ih _ ⟨by omega, ?_⟩
      have e1 : (f + (i : Int)).toNat = f.toNat + i := by omega
      have e2 : f + (i : Int) + 1 = f + ((i + 1 : Nat) : Int) := by omega
      rw [e1, zr_up, e2]
    · repeat ((first | (with_reducible first | refine w_ltA ?_ | refine w_ltS ?_ | refine w_ltM ?_ | refine w_ltN ?_ | refine w_lt ?_ | refine w_jn ?_ | refine w_ck (by omega) (by assumption) ?_ | refine w_gI (by omega) (by assumption) ?_ | refine w_gR (by omega) (by assumption) (by assumption) ?_ | refine w_al (by omega) (by assumption) (by assumption) ?_ | refine w_pI (by omega) (by assumption) ?_ | refine w_set (by omega) (by assumption) (by omega) (by omega) ?_ | refine w_at (by omega) (by assumption) (by omega) (by omega) ?_ | refine w_sI (by omega) (by assumption) (by omega) (by omega) ?_ | refine w_aI (by omega) (by assumption) (by omega) (by omega) ?_ | refine w_sZ (by omega) (by assumption) (by omega) (by omega) (by decide) ?_ | refine w_pZ (by omega) (by assumption) (by decide) ?_ | refine w_dv (by omega) (by omega) (by omega) (by omega) ?_ | refine w_rm (by omega) (by omega) (by omega) (by omega) ?_) | ((with_reducible refine w_pos ?_ ?_); focus (first | assumption | trivial | exact (ile (by omega) (by omega) (by omega) (by omega)).2 (by omega) | exact (ilt (by omega) (by omega) (by omega) (by omega)).2 (by omega) | exact (ieq (by omega) (by omega) (by omega) (by omega)).2 (by omega))) | ((with_reducible refine w_neg ?_ ?_); focus (first | assumption | exact not_false | trivial | exact mt (ile (by omega) (by omega) (by omega) (by omega)).1 (by omega) | exact mt (ilt (by omega) (by omega) (by omega) (by omega)).1 (by omega) | exact mt (ieq (by omega) (by omega) (by omega) (by omega)).1 (by omega)))); try simp (disch := omega) only [up_ne, up_eq, zr_ne, c0, c1])
      refine w_rt ?_
      have e1 : i = (P 0 9 - f).toNat := by omega
      refine ⟨_, rfl, ?_⟩
      unfold tbP
      rw [hf, e1]
      exact pto_up0 (pto_zr (pto_up0 (pto_0 hc0) 8 _) _ _) 9 _
/-- a gap left -/
def gpP (P : PV) (i : Nat) : PV := upv (zrv (upv (upv P 1 (P 6 i).toNat (224 + P 1 (P 6 i).toNat % 16)) 1 (P 6 i + 1).toNat (P 7 i)) (P 6 i + 2).toNat (P 7 i - 1).toNat) 8 i 1
theorem leaveGap_C {i : Nat} (hp : isPg q) (hr : RfP R q) (hc : CP I q P) (hw : WP z now P) (hz : z ≤ 32) (hi : (i : Int) < P 0 8) : En (fun S' => ∃ I', S' = (381, I', J, R) ∧ PTo q I I' (gpP P i)) (f_X3_leaveGap (381, I, J, R) q (iI i)) := by
  have hc0 := hc
  have ha := hw.at hi
  have c6 := hc.it hw 6 (by decide) hi
  have c7 := hc.it hw 7 (by decide) hi
  have hcb := hw.2.2.2.2.1 (P 6 i).toNat (by omega)
  obtain ⟨hq, k0, k1, k2, k3, k4, k5, k6, k7, k8, l1, l2, l3, l4, l5, l6, l7, l8⟩ := hp
  obtain ⟨r0, r1, r2, r3, r4, r5, r6, r7⟩ := hr
  obtain ⟨⟨c0, c1, c2⟩, cc, ci⟩ := hc.old
  have c1h := cc (P 6 i).toNat (by omega)
  obtain ⟨⟨w1, w2⟩, w3, ⟨w4, w5⟩, -⟩ := hw
  rw [u_X3_leaveGap]
  repeat ((first | (with_reducible first | refine w_ltA ?_ | refine w_ltS ?_ | refine w_ltM ?_ | refine w_ltN ?_ | refine w_lt ?_ | refine w_jn ?_ | refine w_ck (by omega) (by assumption) ?_ | refine w_gI (by omega) (by assumption) ?_ | refine w_gR (by omega) (by assumption) (by assumption) ?_ | refine w_al (by omega) (by assumption) (by assumption) ?_ | refine w_pI (by omega) (by assumption) ?_ | refine w_set (by omega) (by assumption) (by omega) (by omega) ?_ | refine w_at (by omega) (by assumption) (by omega) (by omega) ?_ | refine w_sI (by omega) (by assumption) (by omega) (by omega) ?_ | refine w_aI (by omega) (by assumption) (by omega) (by omega) ?_ | refine w_sZ (by omega) (by assumption) (by omega) (by omega) (by decide) ?_ | refine w_pZ (by omega) (by assumption) (by decide) ?_ | refine w_dv (by omega) (by omega) (by omega) (by omega) ?_ | refine w_rm (by omega) (by omega) (by omega) (by omega) ?_) | ((with_reducible refine w_pos ?_ ?_); focus (first | assumption | trivial | exact (ile (by omega) (by omega) (by omega) (by omega)).2 (by omega) | exact (ilt (by omega) (by omega) (by omega) (by omega)).2 (by omega) | exact (ieq (by omega) (by omega) (by omega) (by omega)).2 (by omega))) | ((with_reducible refine w_neg ?_ ?_); focus (first | assumption | exact not_false | trivial | exact mt (ile (by omega) (by omega) (by omega) (by omega)).1 (by omega) | exact mt (ilt (by omega) (by omega) (by omega) (by omega)).1 (by omega) | exact mt (ieq (by omega) (by omega) (by omega) (by omega)).1 (by omega)))); try simp (disch := omega) only [up_ne, up_eq, c0, c1, c6, c7, c1h, Int.toNat_natCast])
  refine w_lp (P 7 i - 1).toNat (fun j y => j ≤ (P 7 i - 1).toNat ∧ y = (iI (1 + j), (381, zr (up (up I (q + 1) (P 6 i).toNat (iI (224 + P 1 (P 6 i).toNat % 16))) (q + 1) (P 6 i + 1).toNat (iI (P 7 i))) (q + 1) (P 6 i + 2).toNat j, J, R))) ⟨by omega, ?_⟩ (by rw [FU_eq]; omega) (fun i y h => h.1) ?_
  · rw [zr_0]
    rfl
  · rintro j y self ⟨hj, rfl⟩ ih
    dsimp only
    by_cases hn : j < (P 7 i - 1).toNat
    · repeat ((first | (with_reducible first | refine w_ltA ?_ | refine w_ltS ?_ | refine w_ltM ?_ | refine w_ltN ?_ | refine w_lt ?_ | refine w_jn ?_ | refine w_ck (by omega) (by assumption) ?_ | refine w_gI (by omega) (by assumption) ?_ | refine w_gR (by omega) (by assumption) (by assumption) ?_ | refine w_al (by omega) (by assumption) (by assumption) ?_ | refine w_pI (by omega) (by assumption) ?_ | refine w_set (by omega) (by assumption) (by omega) (by omega) ?_ | refine w_at (by omega) (by assumption) (by omega) (by omega) ?_ | refine w_sI (by omega) (by assumption) (by omega) (by omega) ?_ | refine w_aI (by omega) (by assumption) (by omega) (by omega) ?_ | refine w_sZ (by omega) (by assumption) (by omega) (by omega) (by decide) ?_ | refine w_pZ (by omega) (by assumption) (by decide) ?_ | refine w_dv (by omega) (by omega) (by omega) (by omega) ?_ | refine w_rm (by omega) (by omega) (by omega) (by omega) ?_) | ((with_reducible refine w_pos ?_ ?_); focus (first | assumption | trivial | exact (ile (by omega) (by omega) (by omega) (by omega)).2 (by omega) | exact (ilt (by omega) (by omega) (by omega) (by omega)).2 (by omega) | exact (ieq (by omega) (by omega) (by omega) (by omega)).2 (by omega))) | ((with_reducible refine w_neg ?_ ?_); focus (first | assumption | exact not_false | trivial | exact mt (ile (by omega) (by omega) (by omega) (by omega)).1 (by omega) | exact mt (ilt (by omega) (by omega) (by omega) (by omega)).1 (by omega) | exact mt (ieq (by omega) (by omega) (by omega) (by omega)).1 (by omega)))); try simp (disch := omega) only [up_ne, up_eq, c0, c1, c6, c7, c1h, Int.toNat_natCast])
      refine ih _ ⟨by omega, ?_⟩
      have e1 : (P 6 i + 1 + (1 + (j : Int))).toNat = (P 6 i + 2).toNat + j := by omega
      have e2 : 1 + (j : Int) + 1 = 1 + ((j + 1 : Nat) : Int) := by omega
      rw [e1, zr_up, e2]
    · repeat ((first | (with_reducible first | refine w_ltA ?_ | refine w_ltS ?_ | refine w_ltM ?_ | refine w_ltN ?_ | refine w_lt ?_ | refine w_jn ?_ | refine w_ck (by omega) (by assumption) ?_ | refine w_gI (by omega) (by assumption) ?_ | refine w_gR (by omega) (by assumption) (by assumption) ?_ | refine w_al (by omega) (by assumption) (by assumption) ?_ | refine w_pI (by omega) (by assumption) ?_ | refine w_set (by omega) (by assumption) (by omega) (by omega) ?_ | refine w_at (by omega) (by assumption) (by omega) (by omega) ?_ | refine w_sI (by omega) (by assumption) (by omega) (by omega) ?_ | refine w_aI (by omega) (by assumption) (by omega) (by omega) ?_ | refine w_sZ (by omega) (by assumption) (by omega) (by omega) (by decide) ?_ | refine w_pZ (by omega) (by assumption) (by decide) ?_ | refine w_dv (by omega) (by omega) (by omega) (by omega) ?_ | refine w_rm (by omega) (by omega) (by omega) (by omega) ?_) | ((with_reducible refine w_pos ?_ ?_); focus (first | assumption | trivial | exact (ile (by omega) (by omega) (by omega) (by omega)).2 (by omega) | exact (ilt (by omega) (by omega) (by omega) (by omega)).2 (by omega) | exact (ieq (by omega) (by omega) (by omega) (by omega)).2 (by omega))) | ((with_reducible refine w_neg ?_ ?_); focus (first | assumption | exact not_false | trivial | exact mt (ile (by omega) (by omega) (by omega) (by omega)).1 (by omega) | exact mt (ilt (by omega) (by omega) (by omega) (by omega)).1 (by omega) | exact mt (ieq (by omega) (by omega) (by omega) (by omega)).1 (by omega)))); try simp (disch := omega) only [up_ne, up_eq, c0, c1, c6, c7, c1h, Int.toNat_natCast])
      refine w_rt ?_
      have e1 : j = (P 7 i - 1).toNat := by omega
      refine ⟨_, rfl, ?_⟩
      unfold gpP
      rw [e1]
      exact pto_up (pto_zr (pto_up (pto_up (pto_0 hc0) 1 _ _ (by omega)) 1 _ _ (by omega)) _ _) 8 _ _ (by omega)
/-- a page emptied -/
def clP (P : PV) : PV := upv (upv (upv (zrv P 0 32) 0 8 0) 0 9 0) 0 10 0
theorem pclear_C (hp : isPg q) (hr : RfP R q) (hc : CP I q P) : En (fun S' => ∃ I', S' = (381, I', J, R) ∧ PTo q I I' (clP P)) (f_X3_clear (381, I, J, R) q) := by
  obtain ⟨hq, k0, k1, k2, k3, k4, k5, k6, k7, k8, l1, l2, l3, l4, l5, l6, l7, l8⟩ := hp
  obtain ⟨r0, r1, r2, r3, r4, r5, r6, r7⟩ := hr
  rw [u_X3_clear]
  refine w_lp 32 (fun j y => j ≤ 32 ∧ y = (iI j, (381, zr I (q + 1) 0 j, J, R))) ⟨by omega, ?_⟩ (by rw [FU_eq]; omega) (fun i y h => h.1) ?_
  · rw [zr_0]
    rfl
  · rintro j y self ⟨hj, rfl⟩ ih
    dsimp only
    by_cases hn : j < 32
    · repeat ((first | (with_reducible first | refine w_ltA ?_ | refine w_ltS ?_ | refine w_ltM ?_ | refine w_ltN ?_ | refine w_lt ?_ | refine w_jn ?_ | refine w_ck (by omega) (by assumption) ?_ | refine w_gI (by omega) (by assumption) ?_ | refine w_gR (by omega) (by assumption) (by assumption) ?_ | refine w_al (by omega) (by assumption) (by assumption) ?_ | refine w_pI (by omega) (by assumption) ?_ | refine w_set (by omega) (by assumption) (by omega) (by omega) ?_ | refine w_at (by omega) (by assumption) (by omega) (by omega) ?_ | refine w_sI (by omega) (by assumption) (by omega) (by omega) ?_ | refine w_aI (by omega) (by assumption) (by omega) (by omega) ?_ | refine w_sZ (by omega) (by assumption) (by omega) (by omega) (by decide) ?_ | refine w_pZ (by omega) (by assumption) (by decide) ?_ | refine w_dv (by omega) (by omega) (by omega) (by omega) ?_ | refine w_rm (by omega) (by omega) (by omega) (by omega) ?_) | ((with_reducible refine w_pos ?_ ?_); focus (first | assumption | trivial | exact (ile (by omega) (by omega) (by omega) (by omega)).2 (by omega) | exact (ilt (by omega) (by omega) (by omega) (by omega)).2 (by omega) | exact (ieq (by omega) (by omega) (by omega) (by omega)).2 (by omega))) | ((with_reducible refine w_neg ?_ ?_); focus (first | assumption | exact not_false | trivial | exact mt (ile (by omega) (by omega) (by omega) (by omega)).1 (by omega) | exact mt (ilt (by omega) (by omega) (by omega) (by omega)).1 (by omega) | exact mt (ieq (by omega) (by omega) (by omega) (by omega)).1 (by omega)))); try simp (disch := omega) only [up_ne, up_eq, c0, c1, c6, c7, c1h, Int.toNat_natCast])
      refine ih _ ⟨by omega, ?_⟩
      have e2 : (j : Int) + 1 = ((j + 1 : Nat) : Int) := by omega
      have e3 := zr_up I (q + 1) 0 j
      rw [Nat.zero_add] at e3
      rw [Int.toNat_natCast, e3, e2]
    · repeat ((first | (with_reducible first | refine w_ltA ?_ | refine w_ltS ?_ | refine w_ltM ?_ | refine w_ltN ?_ | refine w_lt ?_ | refine w_jn ?_ | refine w_ck (by omega) (by assumption) ?_ | refine w_gI (by omega) (by assumption) ?_ | refine w_gR (by omega) (by assumption) (by assumption) ?_ | refine w_al (by omega) (by assumption) (by assumption) ?_ | refine w_pI (by omega) (by assumption) ?_ | refine w_set (by omega) (by assumption) (by omega) (by omega) ?_ | refine w_at (by omega) (by assumption) (by omega) (by omega) ?_ | refine w_sI (by omega) (by assumption) (by omega) (by omega) ?_ | refine w_aI (by omega) (by assumption) (by omega) (by omega) ?_ | refine w_sZ (by omega) (by assumption) (by omega) (by omega) (by decide) ?_ | refine w_pZ (by omega) (by assumption) (by decide) ?_ | refine w_dv (by omega) (by omega) (by omega) (by omega) ?_ | refine w_rm (by omega) (by omega) (by omega) (by omega) ?_) | ((with_reducible refine w_pos ?_ ?_); focus (first | assumption | trivial | exact (ile (by omega) (by omega) (by omega) (by omega)).2 (by omega) | exact (ilt (by omega) (by omega) (by omega) (by omega)).2 (by omega) | exact (ieq (by omega) (by omega) (by omega) (by omega)).2 (by omega))) | ((with_reducible refine w_neg ?_ ?_); focus (first | assumption | exact not_false | trivial | exact mt (ile (by omega) (by omega) (by omega) (by omega)).1 (by omega) | exact mt (ilt (by omega) (by omega) (by omega) (by omega)).1 (by omega) | exact mt (ieq (by omega) (by omega) (by omega) (by omega)).1 (by omega)))); try simp (disch := omega) only [up_ne, up_eq, c0, c1, c6, c7, c1h, Int.toNat_natCast])
      refine w_rt ?_
      have e1 : j = 32 := by omega
      refine ⟨_, rfl, ?_⟩
      unfold clP
      rw [e1]
      exact pto_up0 (pto_up0 (pto_up0 (pto_zr (pto_0 hc) _ _) 8 _) 9 _) 10 _
/-- a row copied -/
def cpI (I : MI) (a b n : Nat) : MI := fun c j => if c = b then va_cpy (I a) (I b) 0 0 n j else I c j
theorem cpI_in {I : MI} {a b n k : Nat} (h : k < n) : cpI I a b n b k = I a k := by
  show (if b = b then (if 0 ≤ k ∧ k < 0 + n then I a (0 + (k - 0)) else I b k) else I b k) = _
  rw [if_pos rfl, if_pos (by omega)]
  congr 1
  omega
theorem cpI_ne {I : MI} {a b n c k : Nat} (h : c ≠ b) : cpI I a b n c k = I c k := if_neg h
theorem w_cpr {γ : Type} {Q : γ → Prop} {n : Nat} {K : St → Option γ} (h1 : a < 381) (h2 : kd a = 11) (h3 : ln a = n) (h4 : b < 381) (h5 : kd b = 11) (h6 : ln b = n) (h : En Q (K (381, cpI I a b n, J, R))) : En Q (cV_ (f_X8_copyRow (381, I, J, R) a b) K) := by
  have hb := ln_big b
  have e : f_X8_copyRow (381, I, J, R) a b = some (381, cpI I a b n, J, R) := by
    rw [u_X8_copyRow, al' h1 h2, al' h4 h5, h3, h6]
    unfold lt_ cp_ rt_
    have e2 : (if iI (n : Int) < iI (n : Int) then iI (n : Int) else iI (n : Int)) = iI (n : Int) := by split <;> rfl
    have e3 : (iI (n : Int)).toNatClampNeg = n := by rw [inat (by omega) (by omega), Int.toNat_natCast]
    rw [e2]
    dsimp only
    rw [e3]
    rw [if_pos ⟨⟨⟨h1, h2⟩, h4, h5⟩, by rw [L0, ilt (by omega) (by omega) (by omega) (by omega)]; omega, by omega, by omega⟩]
    rfl
  rw [e]
  exact h
def rowv (P : PV) (f : Nat) (P' : PV) : PV := fun f' k => if f' = f then P' f' k else P f' k
theorem pto_row {q q' : Nat} {I0 I : MI} {P P' : PV} (h : PTo q I0 I P) (h' : CP I q' P') (hq : q' + 8 < q ∨ q + 8 < q') (f n : Nat) (h0 : f ≠ 0) (h8 : f ≤ 8) (hn : ∀ k, vld f k → k < n) : PTo q I0 (cpI I (q' + f) (q + f) n) (rowv P f P') ∧ CP (cpI I (q' + f) (q + f) n) q' P' := by
  refine ⟨⟨fun f' k hv => ?_, fun a k ha => ?_⟩, fun f' k hv => ?_⟩
  · unfold rowv
    by_cases hf : f' = f
    · subst hf
      rw [if_pos rfl, cpI_in (hn k hv)]
      exact h' _ _ hv
    · rw [if_neg hf, cpI_ne (by omega)]
      exact h.1 _ _ hv
  · rw [cpI_ne (by omega)]
    exact h.2 a k ha
  · have : f' ≤ 8 := by
      unfold vld at hv
      split at hv
      · omega
      · split at hv <;> omega
    rw [cpI_ne (by omega)]
    exact h' _ _ hv
theorem vld_cells {k : Nat} (h : vld 1 k) : k < 32 := h
theorem vld_row {f k : Nat} (hf : 2 ≤ f) (h : vld f k) : k < 16 := by
  unfold vld at h
  rw [if_neg (by omega), if_neg (by omega)] at h
  exact h.2
theorem vld_f {f k : Nat} (h : vld f k) : f ≤ 8 := by
  unfold vld at h
  split at h
  · omega
  · split at h <;> omega
/-- one page's content to another -/
theorem pcopy_C {q' : Nat} {P' : PV} (hp : isPg q) (hr : RfP R q) (hc : CP I q P) (hp' : isPg q') (hr' : RfP R q') (hc' : CP I q' P') (hq : q' + 8 < q ∨ q + 8 < q') (hg : ∀ i, i < 16 → P' 8 i = 0 ∨ P' 8 i = 1) : En (fun S' => ∃ I', S' = (381, I', J, R) ∧ PTo q I I' P') (f_X3_copyFrom (381, I, J, R) q q') := by
  obtain ⟨hq1, k0, k1, k2, k3, k4, k5, k6, k7, k8, l1, l2, l3, l4, l5, l6, l7, l8⟩ := hp
  obtain ⟨r0, r1, r2, r3, r4, r5, r6, r7⟩ := hr
  obtain ⟨hq1', k0', k1', k2', k3', k4', k5', k6', k7', k8', l1', l2', l3', l4', l5', l6', l7', l8'⟩ := hp'
  obtain ⟨r0', r1', r2', r3', r4', r5', r6', r7'⟩ := hr'
  rw [u_X3_copyFrom]
  have t1 := pto_row (pto_0 hc) hc' hq 1 32 (by omega) (by omega) (fun k h => vld_cells h)
  have t2 := pto_row t1.1 t1.2 hq 2 16 (by omega) (by omega) (fun k h => vld_row (by omega) h)
  have t3 := pto_row t2.1 t2.2 hq 3 16 (by omega) (by omega) (fun k h => vld_row (by omega) h)
  have t4 := pto_row t3.1 t3.2 hq 4 16 (by omega) (by omega) (fun k h => vld_row (by omega) h)
  have t5 := pto_row t4.1 t4.2 hq 5 16 (by omega) (by omega) (fun k h => vld_row (by omega) h)
  have t6 := pto_row t5.1 t5.2 hq 6 16 (by omega) (by omega) (fun k h => vld_row (by omega) h)
  have t7 := pto_row t6.1 t6.2 hq 7 16 (by omega) (by omega) (fun k h => vld_row (by omega) h)
  repeat ((first | (with_reducible first | refine w_cpr (by omega) (by assumption) (by assumption) (by omega) (by assumption) (by assumption) ?_ | refine w_ltA ?_ | refine w_ltS ?_ | refine w_ltM ?_ | refine w_ltN ?_ | refine w_lt ?_ | refine w_jn ?_ | refine w_ck (by omega) (by assumption) ?_ | refine w_gI (by omega) (by assumption) ?_ | refine w_gR (by omega) (by assumption) (by assumption) ?_ | refine w_al (by omega) (by assumption) (by assumption) ?_ | refine w_pI (by omega) (by assumption) ?_ | refine w_set (by omega) (by assumption) (by omega) (by omega) ?_ | refine w_at (by omega) (by assumption) (by omega) (by omega) ?_ | refine w_sI (by omega) (by assumption) (by omega) (by omega) ?_ | refine w_aI (by omega) (by assumption) (by omega) (by omega) ?_ | refine w_sZ (by omega) (by assumption) (by omega) (by omega) (by decide) ?_ | refine w_pZ (by omega) (by assumption) (by decide) ?_ | refine w_dv (by omega) (by omega) (by omega) (by omega) ?_ | refine w_rm (by omega) (by omega) (by omega) (by omega) ?_) | ((with_reducible refine w_pos ?_ ?_); focus (first | assumption | trivial | exact (ile (by omega) (by omega) (by omega) (by omega)).2 (by omega) | exact (ilt (by omega) (by omega) (by omega) (by omega)).2 (by omega) | exact (ieq (by omega) (by omega) (by omega) (by omega)).2 (by omega))) | ((with_reducible refine w_neg ?_ ?_); focus (first | assumption | exact not_false | trivial | exact mt (ile (by omega) (by omega) (by omega) (by omega)).1 (by omega) | exact mt (ilt (by omega) (by omega) (by omega) (by omega)).1 (by omega) | exact mt (ieq (by omega) (by omega) (by omega) (by omega)).1 (by omega)))); skip)
  revert t7
  generalize cpI (cpI (cpI (cpI (cpI (cpI (cpI I (q' + 1) (q + 1) 32) (q' + 2) (q + 2) 16) (q' + 3) (q + 3) 16) (q' + 4) (q + 4) 16) (q' + 5) (q + 5) 16) (q' + 6) (q + 6) 16) (q' + 7) (q + 7) 16 = I7
  rintro ⟨t7, s7⟩
  clear t1 t2 t3 t4 t5 t6
  let T : Nat → MI := fun j b k => if b = q + 8 ∧ k < j then iI (P' 8 k) else I7 b k
  refine w_lp 16 (fun j y => j ≤ 16 ∧ y = (iI j, (381, T j, J, R))) ⟨by omega, ?_⟩ (by rw [FU_eq]; omega) (fun i y h => h.1) ?_
  · have : T 0 = I7 := by
      funext b k
      exact if_neg (by omega)
    rw [this]
    rfl
  · rintro j y self ⟨hj, rfl⟩ ih
    dsimp only
    have hT : ∀ f k, vld f k → T j (q' + f) k = iI (P' f k) := fun f k hv => by
      have := vld_f hv
      show (if q' + f = q + 8 ∧ k < j then _ else _) = _
      rw [if_neg (by omega)]
      exact s7 f k hv
    have h08 := hT 0 8 (by decide)
    have h09 := hT 0 9 (by decide)
    have h010 := hT 0 10 (by decide)
    rw [Nat.add_zero] at h08 h09 h010
    by_cases hn : j < 16
    · repeat ((first | (with_reducible first | refine w_ltA ?_ | refine w_ltS ?_ | refine w_ltM ?_ | refine w_ltN ?_ | refine w_lt ?_ | refine w_jn ?_ | refine w_ck (by omega) (by assumption) ?_ | refine w_gI (by omega) (by assumption) ?_ | refine w_gR (by omega) (by assumption) (by assumption) ?_ | refine w_al (by omega) (by assumption) (by assumption) ?_ | refine w_pI (by omega) (by assumption) ?_ | refine w_set (by omega) (by assumption) (by omega) (by omega) ?_ | refine w_at (by omega) (by assumption) (by omega) (by omega) ?_ | refine w_sI (by omega) (by assumption) (by omega) (by omega) ?_ | refine w_aI (by omega) (by assumption) (by omega) (by omega) ?_ | refine w_sZ (by omega) (by assumption) (by omega) (by omega) (by decide) ?_ | refine w_pZ (by omega) (by assumption) (by decide) ?_ | refine w_dv (by omega) (by omega) (by omega) (by omega) ?_ | refine w_rm (by omega) (by omega) (by omega) (by omega) ?_) | ((with_reducible refine w_pos ?_ ?_); focus (first | assumption | trivial | exact (ile (by omega) (by omega) (by omega) (by omega)).2 (by omega) | exact (ilt (by omega) (by omega) (by omega) (by omega)).2 (by omega) | exact (ieq (by omega) (by omega) (by omega) (by omega)).2 (by omega))) | ((with_reducible refine w_neg ?_ ?_); focus (first | assumption | exact not_false | trivial | exact mt (ile (by omega) (by omega) (by omega) (by omega)).1 (by omega) | exact mt (ilt (by omega) (by omega) (by omega) (by omega)).1 (by omega) | exact mt (ieq (by omega) (by omega) (by omega) (by omega)).1 (by omega)))); skip)
      rw [Int.toNat_natCast, hT 8 j (show 8 ≤ 8 ∧ j < 16 from ⟨by omega, hn⟩)]
      refine w_sZ (by omega) (by assumption) (by omega) (by omega) ?_ ?_
      · rcases hg j hn with h | h
        · exact Or.inl (congrArg iI h)
        · exact Or.inr (congrArg iI h)
      repeat ((first | (with_reducible first | refine w_ltA ?_ | refine w_ltS ?_ | refine w_ltM ?_ | refine w_ltN ?_ | refine w_lt ?_ | refine w_jn ?_ | refine w_ck (by omega) (by assumption) ?_ | refine w_gI (by omega) (by assumption) ?_ | refine w_gR (by omega) (by assumption) (by assumption) ?_ | refine w_al (by omega) (by assumption) (by assumption) ?_ | refine w_pI (by omega) (by assumption) ?_ | refine w_set (by omega) (by assumption) (by omega) (by omega) ?_ | refine w_at (by omega) (by assumption) (by omega) (by omega) ?_ | refine w_sI (by omega) (by assumption) (by omega) (by omega) ?_ | refine w_aI (by omega) (by assumption) (by omega) (by omega) ?_ | refine w_sZ (by omega) (by assumption) (by omega) (by omega) (by decide) ?_ | refine w_pZ (by omega) (by assumption) (by decide) ?_ | refine w_dv (by omega) (by omega) (by omega) (by omega) ?_ | refine w_rm (by omega) (by omega) (by omega) (by omega) ?_) | ((with_reducible refine w_pos ?_ ?_); focus (first | assumption | trivial | exact (ile (by omega) (by omega) (by omega) (by omega)).2 (by omega) | exact (ilt (by omega) (by omega) (by omega) (by omega)).2 (by omega) | exact (ieq (by omega) (by omega) (by omega) (by omega)).2 (by omega))) | ((with_reducible refine w_neg ?_ ?_); focus (first | assumption | exact not_false | trivial | exact mt (ile (by omega) (by omega) (by omega) (by omega)).1 (by omega) | exact mt (ilt (by omega) (by omega) (by omega) (by omega)).1 (by omega) | exact mt (ieq (by omega) (by omega) (by omega) (by omega)).1 (by omega)))); skip)
      refine ih _ ⟨by omega, ?_⟩
      rw [Int.toNat_natCast]
      have e2 : (j : Int) + 1 = ((j + 1 : Nat) : Int) := by omega
      have e3 : up (T j) (q + 8) j (iI (P' 8 j)) = T (j + 1) := by
        funext b k
        show (if b = q + 8 ∧ k = j then _ else if b = q + 8 ∧ k < j then _ else _) = if b = q + 8 ∧ k < j + 1 then _ else _
        by_cases h : b = q + 8 ∧ k = j
        · rw [if_pos h, if_pos (by omega), h.2]
        · rw [if_neg h]
          by_cases h2 : b = q + 8 ∧ k < j
          · rw [if_pos h2, if_pos (by omega)]
          · rw [if_neg h2, if_neg (by omega)]
      rw [e3, e2]
    · have e1 : j = 16 := by omega
      subst e1
      repeat ((first | (with_reducible first | refine w_ltA ?_ | refine w_ltS ?_ | refine w_ltM ?_ | refine w_ltN ?_ | refine w_lt ?_ | refine w_jn ?_ | refine w_ck (by omega) (by assumption) ?_ | refine w_gI (by omega) (by assumption) ?_ | refine w_gR (by omega) (by assumption) (by assumption) ?_ | refine w_al (by omega) (by assumption) (by assumption) ?_ | refine w_pI (by omega) (by assumption) ?_ | refine w_set (by omega) (by assumption) (by omega) (by omega) ?_ | refine w_at (by omega) (by assumption) (by omega) (by omega) ?_ | refine w_sI (by omega) (by assumption) (by omega) (by omega) ?_ | refine w_aI (by omega) (by assumption) (by omega) (by omega) ?_ | refine w_sZ (by omega) (by assumption) (by omega) (by omega) (by decide) ?_ | refine w_pZ (by omega) (by assumption) (by decide) ?_ | refine w_dv (by omega) (by omega) (by omega) (by omega) ?_ | refine w_rm (by omega) (by omega) (by omega) (by omega) ?_) | ((with_reducible refine w_pos ?_ ?_); focus (first | assumption | trivial | exact (ile (by omega) (by omega) (by omega) (by omega)).2 (by omega) | exact (ilt (by omega) (by omega) (by omega) (by omega)).2 (by omega) | exact (ieq (by omega) (by omega) (by omega) (by omega)).2 (by omega))) | ((with_reducible refine w_neg ?_ ?_); focus (first | assumption | exact not_false | trivial | exact mt (ile (by omega) (by omega) (by omega) (by omega)).1 (by omega) | exact mt (ilt (by omega) (by omega) (by omega) (by omega)).1 (by omega) | exact mt (ieq (by omega) (by omega) (by omega) (by omega)).1 (by omega)))); try simp (disch := omega) only [up_ne, h08, h09, h010])
      refine w_rt ?_
      refine ⟨_, rfl, fun f k hv => ?_, fun a k ha => ?_⟩
      · have hf := vld_f hv
        by_cases h0 : f = 0
        · subst h0
          have hk : k = 8 ∨ k = 9 ∨ k = 10 := by
            have h1 : 8 ≤ k ∧ k ≤ 10 := hv
            omega
          rw [Nat.add_zero]
          rcases hk with rfl | rfl | rfl
          · rw [up_ne (by omega), up_ne (by omega), up_eq]
          · rw [up_ne (by omega), up_eq]
          · rw [up_eq]
        · rw [up_ne (by omega), up_ne (by omega), up_ne (by omega)]
          show (if q + f = q + 8 ∧ k < 16 then _ else _) = _
          by_cases h8 : f = 8
          · subst h8
            rw [if_pos ⟨rfl, vld_row (by omega) hv⟩]
          · rw [if_neg (by omega)]
            refine (t7.1 f k hv).trans (congrArg iI ?_)
            unfold rowv
            rcases (show f = 1 ∨ f = 2 ∨ f = 3 ∨ f = 4 ∨ f = 5 ∨ f = 6 ∨ f = 7 by omega) with rfl | rfl | rfl | rfl | rfl | rfl | rfl <;> rfl
      · rw [up_ne (by omega), up_ne (by omega), up_ne (by omega)]
        show (if a = q + 8 ∧ k < 16 then _ else _) = _
        rw [if_neg (by omega)]
        exact t7.2 a k ha
end PGD
