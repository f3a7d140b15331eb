/-! THE CLASS'S PAGES: what changes them -/
def upv (P : PV) (f k : Nat) (v : Int) : PV := fun f' k' => if f' = f ∧ k' = k then v else P f' k'
theorem upv_eq (P : PV) (f k : Nat) (v : Int) : upv P f k v f k = v := if_pos ⟨rfl, rfl⟩
theorem upv_ne {P : PV} {f k : Nat} {v : Int} {f' k' : Nat} (h : ¬ (f' = f ∧ k' = k)) : upv P f k v f' k' = P f' k' := if_neg h
/-- from I0 to I the cells of q alone changed; it holds P -/
def PTo (q : Nat) (I0 I : MI) (P : PV) : Prop := CP I q P ∧ ∀ a k, ¬ (q ≤ a ∧ a ≤ q + 8) → I a k = I0 a k
theorem pto_0 {q : Nat} {I : MI} {P : PV} (h : CP I q P) : PTo q I I P := ⟨h, fun _ _ _ => rfl⟩
theorem pto_up {q : Nat} {I0 I : MI} {P : PV} (h : PTo q I0 I P) (f k : Nat) (v : Int) (hf : f ≤ 8) : PTo q I0 (up I (q + f) k (iI v)) (upv P f k v) := by
  refine ⟨fun f' k' hv => ?_, fun a k' ha => ?_⟩
  · unfold up upv
    by_cases he : f' = f ∧ k' = k
    · rw [if_pos he, if_pos (by omega)]
    · rw [if_neg he, if_neg (by omega)]
      exact h.1 f' k' hv
  · rw [up_ne (by omega)]
    exact h.2 a k' ha
theorem pto_up0 {q : Nat} {I0 I : MI} {P : PV} (h : PTo q I0 I P) (k : Nat) (v : Int) : PTo q I0 (up I q k (iI v)) (upv P 0 k v) := pto_up h 0 k v (by omega)
/-- a stretch of a row set to 0 -/
def zr (I : MI) (a s n : Nat) : MI := fun b k => if b = a ∧ s ≤ k ∧ k < s + n then iI 0 else I b k
theorem zr_0 (I : MI) (a s : Nat) : zr I a s 0 = I := by
  funext b k
  unfold zr
  rw [if_neg (by omega)]
theorem zr_up (I : MI) (a s n : Nat) : up (zr I a s n) a (s + n) (iI 0) = zr I a s (n + 1) := by
  funext b k
  show (if b = a ∧ k = s + n then iI 0 else if b = a ∧ s ≤ k ∧ k < s + n then iI 0 else I b k) = if b = a ∧ s ≤ k ∧ k < s + (n + 1) then iI 0 else I b k
  by_cases h : b = a ∧ k = s + n
  · rw [if_pos h, if_pos (by omega)]
  · rw [if_neg h]
    by_cases h2 : b = a ∧ s ≤ k ∧ k < s + n
    · rw [if_pos h2, if_pos (by omega)]
    · rw [if_neg h2, if_neg (by omega)]
theorem zr_ne {I : MI} {a s n b k : Nat} (h : ¬ (b = a ∧ s ≤ k ∧ k < s + n)) : zr I a s n b k = I b k := if_neg h
def zrv (P : PV) (s n : Nat) : PV := fun f k => if f = 1 ∧ s ≤ k ∧ k < s + n then 0 else P f k
theorem zrv_ne {P : PV} {s n f k : Nat} (h : ¬ (f = 1 ∧ s ≤ k ∧ k < s + n)) : zrv P s n f k = P f k := if_neg h
theorem zrv_in {P : PV} {s n k : Nat} (h : s ≤ k ∧ k < s + n) : zrv P s n 1 k = 0 := if_pos ⟨rfl, h⟩
theorem pto_zr {q : Nat} {I0 I : MI} {P : PV} (h : PTo q I0 I P) (s n : Nat) : PTo q I0 (zr I (q + 1) s n) (zrv P s n) := by
  refine ⟨fun f' k' hv => ?_, fun a k' ha => ?_⟩
  · unfold zr zrv
    by_cases he : f' = 1 ∧ s ≤ k' ∧ k' < s + n
    · rw [if_pos he, if_pos (by omega)]
    · rw [if_neg he, if_neg (by omega)]
      exact h.1 f' k' hv
  · rw [zr_ne (by omega)]
    exact h.2 a k' ha
section PGD
variable {I : MI} {J : MJ} {R : MR} {a b c k q : Nat} {β : Type} {x : Int32} {i z now t : Int} {P : PV}
/-- a page with a record laid down -/
def hdOf (P : PV) (t : Int) : Int := if 15 < pDelta P t then P 0 9 + 3 else P 0 9
def layP (P : PV) (n l t d : Int) : PV :=
  let dl := pDelta P t
  let P1 := if 15 < dl then upv (upv (upv P 1 (P 0 9).toNat (240 + dl % 16)) 1 (P 0 9 + 1).toNat (dl / 16 % 256)) 1 (P 0 9 + 2).toNat (dl / 4096) else P
  let P2 := upv P1 1 (hdOf P t).toNat (if 15 < dl then 16 * d else 16 * d + dl)
  let it := (P 0 8).toNat
  upv (upv (upv (upv (upv (upv (upv (upv (upv P2 2 it n) 3 it l) 4 it t) 5 it (P 0 9)) 6 it (hdOf P t)) 7 it d) 8 it 0) 0 8 (P 0 8 + 1)) 0 9 (hdOf P t + 1 + d)
theorem layDown_C {n l d : Int} (hp : isPg q) (hr : RfP R q) (hc : CP I q P) (hw : WP z now P) (hz : z ≤ 32) (ht : 0 ≤ pDelta P t ∧ pDelta P t ≤ 999999) (h1 : 1 ≤ d) (h8 : d ≤ 8) (hfit : P 0 9 + pSize P t d ≤ z) : En (fun y => y.1 = iI (P 0 8) ∧ ∃ I', y.2 = (382, I', J, R) ∧ PTo q I I' (layP P n l t d)) (f_X3_layDown (382, I, J, R) q (iI n) (iI l) (iI t) (iI d)) := by
  have hdl := deltaAt_C (J := J) (t := t) hp hr hc hw
  have hc0 := hc
  obtain ⟨hq, k0, k1, k2, k3, k4, k5, k6, k7, k8, l1, l2, l3, l4, l5, l6, l7, l8⟩ := hp
  obtain ⟨r0, r1, r2, r3, r4, r5, r6, r7⟩ := hr
  obtain ⟨⟨c0, c1, c2⟩, cc, ci⟩ := hc.old
  obtain ⟨⟨w1, w2⟩, w3, ⟨w4, w5⟩, -⟩ := hw
  rw [u_X3_layDown]
  unfold pSize at hfit
  ((first | (with_reducible first | refine w_ltA ?_ | refine w_ltS ?_ | refine w_ltM ?_ | refine w_ltN ?_ | refine w_lt ?_ | refine w_jn ?_ | refine w_ck (by omega) (by assumption) ?_ | refine w_gI (by omega) (by assumption) ?_ | refine w_gR (by omega) (by assumption) (by assumption) ?_ | refine w_al (by omega) (by assumption) (by assumption) ?_ | refine w_pI (by omega) (by assumption) ?_ | refine w_set (by omega) (by assumption) (by omega) (by omega) ?_ | refine w_at (by omega) (by assumption) (by omega) (by omega) ?_ | refine w_sI (by omega) (by assumption) (by omega) (by omega) ?_ | refine w_aI (by omega) (by assumption) (by omega) (by omega) ?_ | refine w_sZ (by omega) (by assumption) (by omega) (by omega) (by decide) ?_ | refine w_pZ (by omega) (by assumption) (by decide) ?_ | refine w_dv (by omega) (by omega) (by omega) (by omega) ?_ | refine w_rm (by omega) (by omega) (by omega) (by omega) ?_) | ((with_reducible refine w_pos ?_ ?_); focus (first | assumption | trivial | exact (ile (by omega) (by omega) (by omega) (by omega)).2 (by omega) | exact (ilt (by omega) (by omega) (by omega) (by omega)).2 (by omega) | exact (ieq (by omega) (by omega) (by omega) (by omega)).2 (by omega))) | ((with_reducible refine w_neg ?_ ?_); focus (first | assumption | exact not_false | trivial | exact mt (ile (by omega) (by omega) (by omega) (by omega)).1 (by omega) | exact mt (ilt (by omega) (by omega) (by omega) (by omega)).1 (by omega) | exact mt (ieq (by omega) (by omega) (by omega) (by omega)).1 (by omega)))); try simp (disch := omega) only [up_ne, c0, c1])
  ((first | (with_reducible first | refine w_ltA ?_ | refine w_ltS ?_ | refine w_ltM ?_ | refine w_ltN ?_ | refine w_lt ?_ | refine w_jn ?_ | refine w_ck (by omega) (by assumption) ?_ | refine w_gI (by omega) (by assumption) ?_ | refine w_gR (by omega) (by assumption) (by assumption) ?_ | refine w_al (by omega) (by assumption) (by assumption) ?_ | refine w_pI (by omega) (by assumption) ?_ | refine w_set (by omega) (by assumption) (by omega) (by omega) ?_ | refine w_at (by omega) (by assumption) (by omega) (by omega) ?_ | refine w_sI (by omega) (by assumption) (by omega) (by omega) ?_ | refine w_aI (by omega) (by assumption) (by omega) (by omega) ?_ | refine w_sZ (by omega) (by assumption) (by omega) (by omega) (by decide) ?_ | refine w_pZ (by omega) (by assumption) (by decide) ?_ | refine w_dv (by omega) (by omega) (by omega) (by omega) ?_ | refine w_rm (by omega) (by omega) (by omega) (by omega) ?_) | ((with_reducible refine w_pos ?_ ?_); focus (first | assumption | trivial | exact (ile (by omega) (by omega) (by omega) (by omega)).2 (by omega) | exact (ilt (by omega) (by omega) (by omega) (by omega)).2 (by omega) | exact (ieq (by omega) (by omega) (by omega) (by omega)).2 (by omega))) | ((with_reducible refine w_neg ?_ ?_); focus (first | assumption | exact not_false | trivial | exact mt (ile (by omega) (by omega) (by omega) (by omega)).1 (by omega) | exact mt (ilt (by omega) (by omega) (by omega) (by omega)).1 (by omega) | exact mt (ieq (by omega) (by omega) (by omega) (by omega)).1 (by omega)))); try simp (disch := omega) only [up_ne, c0, c1])
  refine w_cP hdl ?_
  ((first | (with_reducible first | refine w_ltA ?_ | refine w_ltS ?_ | refine w_ltM ?_ | refine w_ltN ?_ | refine w_lt ?_ | refine w_jn ?_ | refine w_ck (by omega) (by assumption) ?_ | refine w_gI (by omega) (by assumption) ?_ | refine w_gR (by omega) (by assumption) (by assumption) ?_ | refine w_al (by omega) (by assumption) (by assumption) ?_ | refine w_pI (by omega) (by assumption) ?_ | refine w_set (by omega) (by assumption) (by omega) (by omega) ?_ | refine w_at (by omega) (by assumption) (by omega) (by omega) ?_ | refine w_sI (by omega) (by assumption) (by omega) (by omega) ?_ | refine w_aI (by omega) (by assumption) (by omega) (by omega) ?_ | refine w_sZ (by omega) (by assumption) (by omega) (by omega) (by decide) ?_ | refine w_pZ (by omega) (by assumption) (by decide) ?_ | refine w_dv (by omega) (by omega) (by omega) (by omega) ?_ | refine w_rm (by omega) (by omega) (by omega) (by omega) ?_) | ((with_reducible refine w_pos ?_ ?_); focus (first | assumption | trivial | exact (ile (by omega) (by omega) (by omega) (by omega)).2 (by omega) | exact (ilt (by omega) (by omega) (by omega) (by omega)).2 (by omega) | exact (ieq (by omega) (by omega) (by omega) (by omega)).2 (by omega))) | ((with_reducible refine w_neg ?_ ?_); focus (first | assumption | exact not_false | trivial | exact mt (ile (by omega) (by omega) (by omega) (by omega)).1 (by omega) | exact mt (ilt (by omega) (by omega) (by omega) (by omega)).1 (by omega) | exact mt (ieq (by omega) (by omega) (by omega) (by omega)).1 (by omega)))); try simp (disch := omega) only [up_ne, c0, c1])
  by_cases h : pDelta P t ≤ 15
  · have h' : ¬ 15 < pDelta P t := by omega
    rw [if_neg h'] at hfit
    have hh : hdOf P t = P 0 9 := if_neg h'
    repeat ((first | (with_reducible first | refine w_ltA ?_ | refine w_ltS ?_ | refine w_ltM ?_ | refine w_ltN ?_ | refine w_lt ?_ | refine w_jn ?_ | refine w_ck (by omega) (by assumption) ?_ | refine w_gI (by omega) (by assumption) ?_ | refine w_gR (by omega) (by assumption) (by assumption) ?_ | refine w_al (by omega) (by assumption) (by assumption) ?_ | refine w_pI (by omega) (by assumption) ?_ | refine w_set (by omega) (by assumption) (by omega) (by omega) ?_ | refine w_at (by omega) (by assumption) (by omega) (by omega) ?_ | refine w_sI (by omega) (by assumption) (by omega) (by omega) ?_ | refine w_aI (by omega) (by assumption) (by omega) (by omega) ?_ | refine w_sZ (by omega) (by assumption) (by omega) (by omega) (by decide) ?_ | refine w_pZ (by omega) (by assumption) (by decide) ?_ | refine w_dv (by omega) (by omega) (by omega) (by omega) ?_ | refine w_rm (by omega) (by omega) (by omega) (by omega) ?_) | ((with_reducible refine w_pos ?_ ?_); focus (first | assumption | trivial | exact (ile (by omega) (by omega) (by omega) (by omega)).2 (by omega) | exact (ilt (by omega) (by omega) (by omega) (by omega)).2 (by omega) | exact (ieq (by omega) (by omega) (by omega) (by omega)).2 (by omega))) | ((with_reducible refine w_neg ?_ ?_); focus (first | assumption | exact not_false | trivial | exact mt (ile (by omega) (by omega) (by omega) (by omega)).1 (by omega) | exact mt (ilt (by omega) (by omega) (by omega) (by omega)).1 (by omega) | exact mt (ieq (by omega) (by omega) (by omega) (by omega)).1 (by omega)))); try simp (disch := omega) only [up_ne, c0, c1])
    refine w_rt ?_
    refine ⟨rfl, _, rfl, ?_⟩
    unfold layP
    simp only [if_neg h', hh]
    exact pto_up0 (pto_up0 (pto_up (pto_up (pto_up (pto_up (pto_up (pto_up (pto_up (pto_up (pto_0 hc0) 1 _ _ (by omega)) 2 _ _ (by omega)) 3 _ _ (by omega)) 4 _ _ (by omega)) 5 _ _ (by omega)) 6 _ _ (by omega)) 7 _ _ (by omega)) 8 _ _ (by omega)) 8 _) 9 _
  · have h' : 15 < pDelta P t := by omega
    rw [if_pos h'] at hfit
    have hh : hdOf P t = P 0 9 + 3 := if_pos h'
    repeat ((first | (with_reducible first | refine w_ltA ?_ | refine w_ltS ?_ | refine w_ltM ?_ | refine w_ltN ?_ | refine w_lt ?_ | refine w_jn ?_ | refine w_ck (by omega) (by assumption) ?_ | refine w_gI (by omega) (by assumption) ?_ | refine w_gR (by omega) (by assumption) (by assumption) ?_ | refine w_al (by omega) (by assumption) (by assumption) ?_ | refine w_pI (by omega) (by assumption) ?_ | refine w_set (by omega) (by assumption) (by omega) (by omega) ?_ | refine w_at (by omega) (by assumption) (by omega) (by omega) ?_ | refine w_sI (by omega) (by assumption) (by omega) (by omega) ?_ | refine w_aI (by omega) (by assumption) (by omega) (by omega) ?_ | refine w_sZ (by omega) (by assumption) (by omega) (by omega) (by decide) ?_ | refine w_pZ (by omega) (by assumption) (by decide) ?_ | refine w_dv (by omega) (by omega) (by omega) (by omega) ?_ | refine w_rm (by omega) (by omega) (by omega) (by omega) ?_) | ((with_reducible refine w_pos ?_ ?_); focus (first | assumption | trivial | exact (ile (by omega) (by omega) (by omega) (by omega)).2 (by omega) | exact (ilt (by omega) (by omega) (by omega) (by omega)).2 (by omega) | exact (ieq (by omega) (by omega) (by omega) (by omega)).2 (by omega))) | ((with_reducible refine w_neg ?_ ?_); focus (first | assumption | exact not_false | trivial | exact mt (ile (by omega) (by omega) (by omega) (by omega)).1 (by omega) | exact mt (ilt (by omega) (by omega) (by omega) (by omega)).1 (by omega) | exact mt (ieq (by omega) (by omega) (by omega) (by omega)).1 (by omega)))); try simp (disch := omega) only [up_ne, c0, c1])
    refine w_rt ?_
    refine ⟨rfl, _, rfl, ?_⟩
    unfold layP
    simp only [if_pos h', hh]
    exact pto_up0 (pto_up0 (pto_up (pto_up (pto_up (pto_up (pto_up (pto_up (pto_up (pto_up (pto_up (pto_up (pto_up (pto_0 hc0) 1 _ _ (by omega)) 1 _ _ (by omega)) 1 _ _ (by omega)) 1 _ _ (by omega)) 2 _ _ (by omega)) 3 _ _ (by omega)) 4 _ _ (by omega)) 5 _ _ (by omega)) 6 _ _ (by omega)) 7 _ _ (by omega)) 8 _ _ (by omega)) 8 _) 9 _
end PGD
