/-! states as four parts; rules by which the functions of the picture are read -/
abbrev MI : Type := Nat → Nat → Int32
abbrev MJ : Type := Nat → Nat → Int64
abbrev MR : Type := Nat → Nat → Option Nat
def up (I : MI) (a k : Nat) (x : Int32) : MI := fun b j => if b = a ∧ j = k then x else I b j
theorem up_at (I : MI) (a k : Nat) (x : Int32) (b j : Nat) : up I a k x b j = if b = a ∧ j = k then x else I b j := rfl
theorem up_ne {I : MI} {a k : Nat} {x : Int32} {b j : Nat} (h : ¬ (b = a ∧ j = k)) : up I a k x b j = I b j := if_neg h
theorem up_eq (I : MI) (a k : Nat) (x : Int32) : up I a k x a k = x := if_pos ⟨rfl, rfl⟩
theorem uI_t (n : Nat) (I : MI) (J : MJ) (R : MR) (a k : Nat) (x : Int32) : uI (n, I, J, R) a k x = (n, up I a k x, J, R) := rfl
section MEM
variable {I : MI} {J : MJ} {R : MR} {a b c k : Nat} {β : Type} {x : Int32} {i : Int}
theorem gI' {K : Int32 → Option β} (h1 : a < 381) (h2 : kd a = c) : gI_ (381, I, J, R) a c k K = K (I a k) := if_pos ⟨h1, h2⟩
theorem gJ' {K : Int64 → Option β} (h1 : a < 381) (h2 : kd a = c) : gJ_ (381, I, J, R) a c k K = K (J a k) := if_pos ⟨h1, h2⟩
theorem gR' {K : Nat → Option β} (h1 : a < 381) (h2 : kd a = c) (h3 : R a k = some b) : gR_ (381, I, J, R) a c k K = K b := gR_at (S := (381, I, J, R)) h1 h2 h3
theorem pI' {K : St → Option β} (h1 : a < 381) (h2 : kd a = c) : pI_ (381, I, J, R) a c k x K = K (381, up I a k x, J, R) := if_pos ⟨h1, h2⟩
theorem pZ' {K : St → Option β} (h1 : a < 381) (h2 : kd a = c) (h3 : x = 0 ∨ x = 1) : pZ_ (381, I, J, R) a c k x K = K (381, up I a k x, J, R) := if_pos ⟨⟨h1, h2⟩, h3⟩
theorem ck' {K : Option β} (h1 : a < 381) (h2 : kd a = c) : ck_ (381, I, J, R) a c K = K := if_pos ⟨h1, h2⟩
theorem al' {K : Int32 → Option β} (h1 : a < 381) (h2 : kd a = c) : al_ (381, I, J, R) a c K = K (iI (ln a)) := al_at (S := (381, I, J, R)) h1 h2
theorem ln_big (a : Nat) : ln a < 2147483648 := by
  rcases Nat.lt_or_ge a 381 with h | h
  · have : ∀ a, a < 381 → ln a < 2147483648 := by decide +kernel
    exact this a h
  · have hl : LD.length = 381 := by decide +kernel
    simp [ln, List.getD_eq_getElem?_getD, List.getElem?_eq_none (by omega : LD.length ≤ a)]
theorem aI' {K : Int32 → Option β} (h1 : a < 381) (h2 : kd a = c) (h0 : 0 ≤ i) (h3 : i < ln a) : aI_ (381, I, J, R) a c (iI i) K = K (I a i.toNat) := aI_at' (S := (381, I, J, R)) h1 h2 h0 h3 (ln_big a)
theorem aR' {K : Nat → Option β} (h1 : a < 381) (h2 : kd a = c) (h0 : 0 ≤ i) (h3 : i < ln a) (hb : R a i.toNat = some b) : aR_ (381, I, J, R) a c (iI i) K = K b := aR_at' (S := (381, I, J, R)) h1 h2 h0 h3 (ln_big a) hb
theorem sI' {K : St → Option β} (h1 : a < 381) (h2 : kd a = 11) (h0 : 0 ≤ i) (h3 : i < ln a) : sI_ (381, I, J, R) a (iI i) x K = K (381, up I a i.toNat x, J, R) := sI_at (S := (381, I, J, R)) h1 h2 h0 h3 (ln_big a)
theorem sZ' {K : St → Option β} (h1 : a < 381) (h2 : kd a = 13) (h0 : 0 ≤ i) (h3 : i < ln a) (hx : x = 0 ∨ x = 1) : sZ_ (381, I, J, R) a (iI i) x K = K (381, up I a i.toNat x, J, R) := sZ_at (S := (381, I, J, R)) h1 h2 h0 h3 (ln_big a) hx
theorem at' (h1 : a < 381) (h2 : kd a = 11) (h0 : 0 ≤ i) (h3 : i < ln a) : f_X8_at (381, I, J, R) a (iI i) = some (I a i.toNat) := by
  have := ln_big a
  rw [at_spec (S := (381, I, J, R)) h1 h2 (by omega) (by omega) this, if_pos ⟨h0, h3⟩]
theorem at_out (h1 : a < 381) (h2 : kd a = 11) (hb1 : -2147483648 ≤ i) (hb2 : i < 2147483648) (h3 : ¬ (0 ≤ i ∧ i < ln a)) : f_X8_at (381, I, J, R) a (iI i) = some (iI 0) := by
  rw [at_spec (S := (381, I, J, R)) h1 h2 hb1 hb2 (ln_big a), if_neg h3]
theorem set' (h1 : a < 381) (h2 : kd a = 11) (h0 : 0 ≤ i) (h3 : i < ln a) : f_X8_set (381, I, J, R) a (iI i) x = some (381, up I a i.toNat x, J, R) := by
  have := ln_big a
  rw [set_spec (S := (381, I, J, R)) h1 h2 (by omega) (by omega) this, if_pos ⟨h0, h3⟩, uI_t]
theorem cP_some {α : Type} {x : α} {K : α → Option β} : cP_ (some x) K = K x := rfl
theorem cI_some {α : Type} {x : α} {S : St} {K : α → St → Option β} : cI_ (some (x, S)) K = K x S := rfl
theorem cV_some {S : St} {K : St → Option β} : cV_ (some S) K = K S := rfl
theorem rz0 {S : St} : rz_ (iI 0) S = some (iI 0, S) := rfl
theorem rz1 {S : St} : rz_ (iI 1) S = some (iI 1, S) := rfl
theorem rzP0 : rzP_ (iI 0) = some (iI 0) := rfl
theorem rzP1 : rzP_ (iI 1) = some (iI 1) := rfl
theorem dv' {p q : Int} {K : Int32 → Option β} (h0 : 0 ≤ p) (h1 : p < 2147483648) (h2 : 0 < q) (h3 : q < 2147483648) : dv_ (iI p) (iI q) K = K (iI (p / q)) := by
  unfold dv_
  rw [if_neg (by rw [L0, ieq (by omega) h3 (by omega) (by omega)]; omega), iI_div h0 h1 h2 h3]
theorem rm' {p q : Int} {K : Int32 → Option β} (h0 : 0 ≤ p) (h1 : p < 2147483648) (h2 : 0 < q) (h3 : q < 2147483648) : rm_ (iI p) (iI q) K = K (iI (p % q)) := by
  unfold rm_
  rw [if_neg (by rw [L0, ieq (by omega) h3 (by omega) (by omega)]; omega), iI_rem h0 h1 h2 h3]
end MEM
/-- a loop whose course is known -/
theorem lp_run {α β : Type} {F : (α → Option β) → α → Option β} {r : Option β} (n : Nat) (x : Nat → α) (hs : ∀ i, i < n → ∀ self, F self (x i) = self (x (i + 1))) (he : ∀ self, F self (x n) = r) {N : Nat} (hN : n < N) : lp_ F N (x 0) = r := by
  have key : ∀ (d i M : Nat), i + d = n → d < M → lp_ F M (x i) = r := by
    intro d
    induction d with
    | zero =>
      intro i M hi hM
      obtain ⟨M', rfl⟩ : ∃ M', M = M' + 1 := ⟨M - 1, by omega⟩
      have : i = n := by omega
      subst this
      exact he _
    | succ d ih =>
      intro i M hi hM
      obtain ⟨M', rfl⟩ : ∃ M', M = M' + 1 := ⟨M - 1, by omega⟩
      rw [lp_go, hs i (by omega)]
      exact ih (i + 1) M' (by omega) (by omega)
  exact key n 0 N (by omega) hN
theorem FU_eq : FU = 5000 := rfl
/-! pages -/
def pa (r j : Nat) : Nat := r + 8 + 9 * j
/-- a page's nine cells -/
def isPg (q : Nat) : Prop := q + 8 < 381 ∧ kd q = 3 ∧ kd (q + 1) = 11 ∧ kd (q + 2) = 11 ∧ kd (q + 3) = 11 ∧ kd (q + 4) = 11 ∧ kd (q + 5) = 11 ∧ kd (q + 6) = 11 ∧ kd (q + 7) = 11 ∧ kd (q + 8) = 13 ∧ ln (q + 1) = 32 ∧ ln (q + 2) = 16 ∧ ln (q + 3) = 16 ∧ ln (q + 4) = 16 ∧ ln (q + 5) = 16 ∧ ln (q + 6) = 16 ∧ ln (q + 7) = 16 ∧ ln (q + 8) = 16
def rgs : List Nat := [1, 72, 152, 226, 300]
theorem isPg_all : ∀ r, r ∈ rgs → ∀ j, j < 7 → isPg (pa r j) := by unfold isPg pa; decide +kernel
def RfP (R : MR) (q : Nat) : Prop := R q 0 = some (q + 1) ∧ R q 1 = some (q + 2) ∧ R q 2 = some (q + 3) ∧ R q 3 = some (q + 4) ∧ R q 4 = some (q + 5) ∧ R q 5 = some (q + 6) ∧ R q 6 = some (q + 7) ∧ R q 7 = some (q + 8)
/-- a page as it is meant: 0, at 8 9 10: how many items, used, ready; 1: cells; 2 to 8, an item each: number, level, time, start, where its cell ahead of data is, how many data, gap -/
abbrev PV : Type := Nat → Nat → Int
abbrev vld (f k : Nat) : Prop := if f = 0 then 8 ≤ k ∧ k ≤ 10 else if f = 1 then k < 32 else f ≤ 8 ∧ k < 16
def CP (I : MI) (q : Nat) (P : PV) : Prop := ∀ f k, vld f k → I (q + f) k = iI (P f k)
theorem CP.old {I : MI} {q : Nat} {P : PV} (h : CP I q P) : (I q 8 = iI (P 0 8) ∧ I q 9 = iI (P 0 9) ∧ I q 10 = iI (P 0 10)) ∧ (∀ i, i < 32 → I (q + 1) i = iI (P 1 i)) ∧ ∀ f, 2 ≤ f → f ≤ 8 → ∀ i : Nat, i < 16 → I (q + f) i = iI (P f i) :=
  ⟨⟨h 0 8 (by decide), h 0 9 (by decide), h 0 10 (by decide)⟩, fun i hi => h 1 i hi, fun f h2 h8 i hi => h f i (by unfold vld; rw [if_neg (by omega), if_neg (by omega)]; exact ⟨h8, hi⟩)⟩
/-- where the last item ends -/
def pEnd (P : PV) (i : Nat) : Int := P 6 i + 1 + P 7 i
def WI (P : PV) (i : Nat) : Prop :=
  P 5 i = (if i = 0 then 0 else pEnd P (i - 1)) ∧ 2 * (i : Int) ≤ P 5 i ∧ (P 6 i = P 5 i ∨ P 6 i = P 5 i + 3) ∧ 1 ≤ P 7 i ∧ P 7 i ≤ 8 ∧ 0 ≤ P 3 i ∧ P 3 i ≤ 3 ∧ 0 ≤ P 4 i ∧ (P 8 i = 0 ∨ P 8 i = 1) ∧
  (0 < i → P 4 (i - 1) ≤ P 4 i) ∧ (pEnd P i ≤ P 0 10 ∨ P 0 10 ≤ P 5 i) ∧ (P 6 i = P 5 i + 3 → 240 ≤ P 1 (P 5 i).toNat) ∧ (P 8 i = 0 → P 1 (P 6 i).toNat / 16 = P 7 i) ∧ (P 8 i = 1 → 224 ≤ P 1 (P 6 i).toNat ∧ P 1 (P 6 i).toNat < 240 ∧ P 1 (P 6 i + 1).toNat = P 7 i)
/-- a page of z cells, at the time now -/
def WP (z now : Int) (P : PV) : Prop :=
  (0 ≤ P 0 8 ∧ P 0 8 ≤ 16) ∧ (0 ≤ P 0 10 ∧ P 0 10 ≤ P 0 9) ∧ (2 * P 0 8 ≤ P 0 9 ∧ P 0 9 ≤ z) ∧ P 0 9 = (if P 0 8 = 0 then 0 else pEnd P ((P 0 8).toNat - 1)) ∧ (∀ j, j < 32 → 0 ≤ P 1 j ∧ P 1 j ≤ 255) ∧ (∀ i : Nat, (i : Int) < P 0 8 → WI P i) ∧ (∀ i : Nat, (i : Int) < P 0 8 → P 4 i ≤ now) ∧ ∀ i, i < 16 → P 8 i = 0 ∨ P 8 i = 1
