/-! THE CLASS'S PAGES: questions -/
/-- how many of the first n are such -/
def cnt (p : Nat → Bool) : Nat → Int
  | 0 => 0
  | n + 1 => cnt p n + (if p n then 1 else 0)
theorem cnt_le (p : Nat → Bool) : ∀ n : Nat, 0 ≤ cnt p n ∧ cnt p n ≤ n
  | 0 => ⟨Int.le_refl _, Int.le_refl _⟩
  | n + 1 => by
    have := cnt_le p n
    unfold cnt
    split <;> constructor <;> omega
theorem cnt_mono (p : Nat → Bool) {a b : Nat} (h : a ≤ b) : cnt p a ≤ cnt p b := by
  induction b with
  | zero => have : a = 0 := by omega
            subst this; exact Int.le_refl _
  | succ b ih =>
    rcases Nat.lt_or_ge b a with h1 | h1
    · have : a = b + 1 := by omega
      subst this; exact Int.le_refl _
    · have := ih h1
      show _ ≤ cnt p b + _
      split <;> omega
theorem cnt_congr {p p' : Nat → Bool} {n : Nat} (h : ∀ i, i < n → p i = p' i) : cnt p n = cnt p' n := by
  induction n with
  | zero => rfl
  | succ n ih =>
    show cnt p n + _ = cnt p' n + _
    rw [ih (fun i hi => h i (by omega)), h n (by omega)]
/-- an item is a record; it is ready -/
def isR (P : PV) (i : Nat) : Bool := decide (P 8 i = 0)
def isRd (P : PV) (i : Nat) : Bool := decide (P 8 i = 0 ∧ P 6 i < P 0 10)
section PGB
variable {I : MI} {J : MJ} {R : MR} {a b c k q : Nat} {β : Type} {x : Int32} {i z now t : Int} {P : PV}
theorem isRecord_C {i : Nat} (hp : isPg q) (hr : RfP R q) (hc : CP I q P) (hw : WP z now P) (hi : (i : Int) < P 0 8) : f_X3_isRecord (381, I, J, R) q (iI i) = some (if isR P i then iI 1 else iI 0) := by
  have c8 := hc.it hw 8 (by decide) hi
  obtain ⟨hq, k0, k1, k2, k3, k4, k5, k6, k7, k8, l1, l2, l3, l4, l5, l6, l7, l8⟩ := hp
  obtain ⟨r0, r1, r2, r3, r4, r5, r6, r7⟩ := hr
  obtain ⟨⟨c0, c1, c2⟩, cc, ci⟩ := hc.old
  obtain ⟨⟨w1, w2⟩, -, -, -, -, wi, -⟩ := hw
  have w8 := (wi i hi).2.2.2.2.2.2.2.2.1
  unfold f_X3_isRecord jn_
  simp (disch := first | assumption | omega) only [L0, L1, ilt, gI', c0, ile, gR2, r7, nn_s, al', l8]
  rw [if_neg (by omega), if_neg (by omega), if_neg (by omega), aI' (by omega) k8 (by omega) (by omega)]
  rw [Int.toNat_natCast, c8]
  simp (disch := first | assumption | omega) only [ieq, isR]
  rcases w8 with h | h
  · simp [h, rzP1]
  · simp [h, rzP0]
theorem recordsFrom_C {s : Nat} (hp : isPg q) (hr : RfP R q) (hc : CP I q P) (hw : WP z now P) (hs : (s : Int) ≤ P 0 8) : f_X3_recordsFrom (381, I, J, R) q (iI s) = some (iI (cnt (isR P) (P 0 8).toNat - cnt (isR P) s)) := by
  have hrec := fun (i : Nat) (hi : (i : Int) < P 0 8) => isRecord_C (J := J) hp hr hc hw hi
  obtain ⟨hq, k0, -⟩ := hp
  obtain ⟨⟨c0, c1, c2⟩, cc, ci⟩ := hc.old
  obtain ⟨⟨w1, w2⟩, -⟩ := hw
  unfold f_X3_recordsFrom
  have hx := lp_run (F := fun self1 (x1 : Int32 × Int32) => gI_ (381, I, J, R) q 3 8 fun v2 => if v2 ≤ x1.2 then rt_ x1.1 else ck_ (381, I, J, R) q 3 <| cP_ (f_X3_isRecord (381, I, J, R) q x1.2) fun v3 => jn_ (fun (x4 : Int32) => lt_ (x1.2 + 1) fun v5 => self1 (x4, v5)) fun j4 => if v3 = 0 then j4 (x1.1) else lt_ (x1.1 + 1) fun v6 => j4 (v6))
    (r := some (iI (cnt (isR P) (P 0 8).toNat - cnt (isR P) s))) ((P 0 8).toNat - s) (fun i => (iI (cnt (isR P) (s + i) - cnt (isR P) s), iI ((s + i : Nat) : Int))) (fun i hi self => ?_) (fun self => ?_) (N := FU) (by rw [FU_eq]; omega)
  · have e : ((iI (cnt (isR P) (s + 0) - cnt (isR P) s), iI ((s + 0 : Nat) : Int)) : Int32 × Int32) = (0, iI s) := by
      rw [Nat.add_zero, Int.sub_self]
      rfl
    rw [e] at hx
    exact hx
  · dsimp only
    simp (disch := first | assumption | omega) only [gI', c0, ile, ck', jn_, lt_]
    rw [if_neg (by omega), hrec (s + i) (by omega), cP_some, L1, iI_add, iI_add]
    have e1 : cnt (isR P) (s + (i + 1)) = cnt (isR P) (s + i) + (if isR P (s + i) then 1 else 0) := rfl
    have e2 : ((s + (i + 1) : Nat) : Int) = ((s + i : Nat) : Int) + 1 := by omega
    rw [e1, e2]
    by_cases hR : isR P (s + i) = true
    · simp only [hR, if_true, L0]
      rw [if_neg (by rw [ieq (by omega) (by omega) (by omega) (by omega)]; omega)]
      congr 2
      congr 1
      omega
    · simp only [hR, L0, if_true, Bool.false_eq_true, if_false, Int.add_zero]
  · dsimp only
    simp (disch := first | assumption | omega) only [gI', c0, ile]
    rw [if_pos (by omega)]
    have e : s + ((P 0 8).toNat - s) = (P 0 8).toNat := by omega
    rw [e]
    rfl
end PGB
