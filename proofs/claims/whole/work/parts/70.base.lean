/-! THE PURE HALF: whole numbers for the machine's ints -/
def iI (a : Int) : Int32 := Int32.ofInt a
def R31 (a : Int) : Prop := -2147483648 ≤ a ∧ a < 2147483648
theorem iI_toInt {a : Int} (h : R31 a) : (iI a).toInt = a := Int32.toInt_ofInt_of_le h.1 h.2
theorem iI_add (a b : Int) : iI a + iI b = iI (a + b) := (Int32.ofInt_add a b).symm
theorem iI_sub (a b : Int) : iI a - iI b = iI (a - b) := (Int32.ofInt_sub a b).symm
theorem iI_mul (a b : Int) : iI a * iI b = iI (a * b) := (Int32.ofInt_mul a b).symm
theorem iI_neg (a : Int) : -(iI a) = iI (-a) := (Int32.ofInt_neg a).symm
theorem iI_of (x : Int32) : ∃ a : Int, R31 a ∧ x = iI a := ⟨x.toInt, ⟨x.le_toInt, x.toInt_lt⟩, (Int32.ofInt_toInt x).symm⟩
theorem iI_lt {a b : Int} (ha : R31 a) (hb : R31 b) : iI a < iI b ↔ a < b := by rw [Int32.lt_iff_toInt_lt, iI_toInt ha, iI_toInt hb]
theorem iI_le {a b : Int} (ha : R31 a) (hb : R31 b) : iI a ≤ iI b ↔ a ≤ b := by rw [Int32.le_iff_toInt_le, iI_toInt ha, iI_toInt hb]
theorem iI_eq {a b : Int} (ha : R31 a) (hb : R31 b) : iI a = iI b ↔ a = b := by rw [← Int32.toInt_inj, iI_toInt ha, iI_toInt hb]
theorem iI_nat {a : Int} (h : R31 a) : (iI a).toNatClampNeg = a.toNat := Int32.toNatClampNeg_ofInt_of_le h.1 h.2
theorem iI_nI (n : Nat) : nI n = iI n := Int32.ofInt_eq_ofNat.symm
theorem iI_nI' (n : Nat) : Int32.ofNat n = iI n := Int32.ofInt_eq_ofNat.symm
theorem iI_div {a b : Int} (h0 : 0 ≤ a) (ha : a < 2147483648) (hb : 0 < b) (hb' : b < 2147483648) : iI a / iI b = iI (a / b) := by
  obtain ⟨n, rfl⟩ := Int.eq_ofNat_of_zero_le h0
  obtain ⟨m, rfl⟩ := Int.eq_ofNat_of_zero_le (Int.le_of_lt hb)
  rw [← iI_nI, ← iI_nI, pk_div (by omega) (by omega) (by omega), iI_nI, Int.natCast_ediv]
theorem iI_rem {a b : Int} (h0 : 0 ≤ a) (ha : a < 2147483648) (hb : 0 < b) (hb' : b < 2147483648) : iI a - iI a / iI b * iI b = iI (a % b) := by
  rw [iI_div h0 ha hb hb', iI_mul, iI_sub]
  congr 1
  have := Int.emod_add_mul_ediv a b
  rw [Int.mul_comm]
  omega
theorem ilt {a b : Int} (h1 : -2147483648 ≤ a) (h2 : a < 2147483648) (h3 : -2147483648 ≤ b) (h4 : b < 2147483648) : iI a < iI b ↔ a < b := iI_lt ⟨h1, h2⟩ ⟨h3, h4⟩
theorem ile {a b : Int} (h1 : -2147483648 ≤ a) (h2 : a < 2147483648) (h3 : -2147483648 ≤ b) (h4 : b < 2147483648) : iI a ≤ iI b ↔ a ≤ b := iI_le ⟨h1, h2⟩ ⟨h3, h4⟩
theorem ieq {a b : Int} (h1 : -2147483648 ≤ a) (h2 : a < 2147483648) (h3 : -2147483648 ≤ b) (h4 : b < 2147483648) : iI a = iI b ↔ a = b := iI_eq ⟨h1, h2⟩ ⟨h3, h4⟩
theorem inat {a : Int} (h1 : -2147483648 ≤ a) (h2 : a < 2147483648) : (iI a).toNatClampNeg = a.toNat := iI_nat ⟨h1, h2⟩
theorem L0 : (0 : Int32) = iI 0 := rfl
theorem L1 : (1 : Int32) = iI 1 := rfl
theorem L2 : (2 : Int32) = iI 2 := rfl
theorem L3 : (3 : Int32) = iI 3 := rfl
theorem L4 : (4 : Int32) = iI 4 := rfl
theorem L5 : (5 : Int32) = iI 5 := rfl
theorem L6 : (6 : Int32) = iI 6 := rfl
theorem L7 : (7 : Int32) = iI 7 := rfl
theorem L8 : (8 : Int32) = iI 8 := rfl
theorem L9 : (9 : Int32) = iI 9 := rfl
theorem L10 : (10 : Int32) = iI 10 := rfl
theorem L11 : (11 : Int32) = iI 11 := rfl
theorem L12 : (12 : Int32) = iI 12 := rfl
theorem L13 : (13 : Int32) = iI 13 := rfl
theorem L14 : (14 : Int32) = iI 14 := rfl
theorem L15 : (15 : Int32) = iI 15 := rfl
theorem L16 : (16 : Int32) = iI 16 := rfl
theorem L17 : (17 : Int32) = iI 17 := rfl
theorem L18 : (18 : Int32) = iI 18 := rfl
theorem L19 : (19 : Int32) = iI 19 := rfl
theorem L20 : (20 : Int32) = iI 20 := rfl
theorem L21 : (21 : Int32) = iI 21 := rfl
theorem L22 : (22 : Int32) = iI 22 := rfl
theorem L23 : (23 : Int32) = iI 23 := rfl
theorem L24 : (24 : Int32) = iI 24 := rfl
theorem L25 : (25 : Int32) = iI 25 := rfl
theorem L26 : (26 : Int32) = iI 26 := rfl
theorem L27 : (27 : Int32) = iI 27 := rfl
theorem L28 : (28 : Int32) = iI 28 := rfl
theorem L29 : (29 : Int32) = iI 29 := rfl
theorem L30 : (30 : Int32) = iI 30 := rfl
theorem L31 : (31 : Int32) = iI 31 := rfl
theorem L32 : (32 : Int32) = iI 32 := rfl
theorem L33 : (33 : Int32) = iI 33 := rfl
theorem L34 : (34 : Int32) = iI 34 := rfl
theorem L36 : (36 : Int32) = iI 36 := rfl
theorem L37 : (37 : Int32) = iI 37 := rfl
theorem L38 : (38 : Int32) = iI 38 := rfl
theorem L39 : (39 : Int32) = iI 39 := rfl
theorem L40 : (40 : Int32) = iI 40 := rfl
theorem L41 : (41 : Int32) = iI 41 := rfl
theorem L43 : (43 : Int32) = iI 43 := rfl
theorem L55 : (55 : Int32) = iI 55 := rfl
theorem L60 : (60 : Int32) = iI 60 := rfl
theorem L61 : (61 : Int32) = iI 61 := rfl
theorem L80 : (80 : Int32) = iI 80 := rfl
theorem L97 : (97 : Int32) = iI 97 := rfl
theorem L99 : (99 : Int32) = iI 99 := rfl
theorem L122 : (122 : Int32) = iI 122 := rfl
theorem L132 : (132 : Int32) = iI 132 := rfl
theorem L224 : (224 : Int32) = iI 224 := rfl
theorem L240 : (240 : Int32) = iI 240 := rfl
theorem L255 : (255 : Int32) = iI 255 := rfl
theorem L256 : (256 : Int32) = iI 256 := rfl
theorem L400 : (400 : Int32) = iI 400 := rfl
theorem L985 : (985 : Int32) = iI 985 := rfl
theorem L986 : (986 : Int32) = iI 986 := rfl
theorem L987 : (987 : Int32) = iI 987 := rfl
theorem L988 : (988 : Int32) = iI 988 := rfl
theorem L4096 : (4096 : Int32) = iI 4096 := rfl
theorem L5000 : (5000 : Int32) = iI 5000 := rfl
theorem L999999 : (999999 : Int32) = iI 999999 := rfl
theorem L1103515245 : (1103515245 : Int32) = iI 1103515245 := rfl
theorem L12345 : (12345 : Int32) = iI 12345 := rfl
theorem L48 : (48 : Int32) = iI 48 := rfl
theorem L57 : (57 : Int32) = iI 57 := rfl
theorem L59 : (59 : Int32) = iI 59 := rfl
theorem ite_some {α : Type} {c : Prop} [Decidable c] (a b : α) : (if c then some a else some b) = some (if c then a else b) := by split <;> rfl
theorem gI_at {β : Type} {S : St} {a c k : Nat} {K : Int32 → Option β} (h1 : a < S.1) (h2 : kd a = c) : gI_ S a c k K = K (S.2.1 a k) := if_pos ⟨h1, h2⟩
theorem gJ_at {β : Type} {S : St} {a c k : Nat} {K : Int64 → Option β} (h1 : a < S.1) (h2 : kd a = c) : gJ_ S a c k K = K (S.2.2.1 a k) := if_pos ⟨h1, h2⟩
theorem gR_at {β : Type} {S : St} {a c k b : Nat} {K : Nat → Option β} (h1 : a < S.1) (h2 : kd a = c) (h3 : S.2.2.2 a k = some b) : gR_ S a c k K = K b := by
  unfold gR_
  rw [if_pos ⟨h1, h2⟩, h3]
  rfl
theorem pI_at {β : Type} {S : St} {a c k : Nat} {x : Int32} {K : St → Option β} (h1 : a < S.1) (h2 : kd a = c) : pI_ S a c k x K = K (uI S a k x) := if_pos ⟨h1, h2⟩
theorem pZ_at {β : Type} {S : St} {a c k : Nat} {x : Int32} {K : St → Option β} (h1 : a < S.1) (h2 : kd a = c) (h3 : x = 0 ∨ x = 1) : pZ_ S a c k x K = K (uI S a k x) := if_pos ⟨⟨h1, h2⟩, h3⟩
theorem ck_at {β : Type} {S : St} {a c : Nat} {K : Option β} (h1 : a < S.1) (h2 : kd a = c) : ck_ S a c K = K := if_pos ⟨h1, h2⟩
theorem al_at {β : Type} {S : St} {a c : Nat} {K : Int32 → Option β} (h1 : a < S.1) (h2 : kd a = c) : al_ S a c K = K (iI (ln a)) := by
  unfold al_
  rw [if_pos ⟨h1, h2⟩, iI_nI']
theorem ix_ok {i : Int} {n : Nat} (h0 : 0 ≤ i) (h1 : i < n) (hn : n < 2147483648) : ¬ (iI i < 0 ∨ n ≤ (iI i).toNatClampNeg) := by
  have hr : R31 i := ⟨by omega, by omega⟩
  rw [iI_nat hr, L0, iI_lt hr ⟨by omega, by omega⟩]
  omega
theorem aI_at' {β : Type} {S : St} {a c : Nat} {i : Int} {K : Int32 → Option β} (h1 : a < S.1) (h2 : kd a = c) (h0 : 0 ≤ i) (h3 : i < ln a) (hn : ln a < 2147483648) : aI_ S a c (iI i) K = K (S.2.1 a i.toNat) := by
  unfold aI_
  rw [if_pos ⟨⟨h1, h2⟩, ix_ok h0 h3 hn⟩, iI_nat ⟨by omega, by omega⟩]
theorem aJ_at' {β : Type} {S : St} {a : Nat} {i : Int} {K : Int64 → Option β} (h1 : a < S.1) (h2 : kd a = 12) (h0 : 0 ≤ i) (h3 : i < ln a) (hn : ln a < 2147483648) : aJ_ S a (iI i) K = K (S.2.2.1 a i.toNat) := by
  unfold aJ_
  rw [if_pos ⟨⟨h1, h2⟩, ix_ok h0 h3 hn⟩, iI_nat ⟨by omega, by omega⟩]
theorem aR_at' {β : Type} {S : St} {a c b : Nat} {i : Int} {K : Nat → Option β} (h1 : a < S.1) (h2 : kd a = c) (h0 : 0 ≤ i) (h3 : i < ln a) (hn : ln a < 2147483648) (hb : S.2.2.2 a i.toNat = some b) : aR_ S a c (iI i) K = K b := by
  unfold aR_
  rw [if_pos ⟨⟨h1, h2⟩, ix_ok h0 h3 hn⟩, iI_nat ⟨by omega, by omega⟩, hb]
  rfl
theorem sI_at {β : Type} {S : St} {a : Nat} {i : Int} {x : Int32} {K : St → Option β} (h1 : a < S.1) (h2 : kd a = 11) (h0 : 0 ≤ i) (h3 : i < ln a) (hn : ln a < 2147483648) : sI_ S a (iI i) x K = K (uI S a i.toNat x) := by
  unfold sI_
  rw [if_pos ⟨⟨h1, h2⟩, ix_ok h0 h3 hn⟩, iI_nat ⟨by omega, by omega⟩]
theorem sZ_at {β : Type} {S : St} {a : Nat} {i : Int} {x : Int32} {K : St → Option β} (h1 : a < S.1) (h2 : kd a = 13) (h0 : 0 ≤ i) (h3 : i < ln a) (hn : ln a < 2147483648) (hx : x = 0 ∨ x = 1) : sZ_ S a (iI i) x K = K (uI S a i.toNat x) := by
  unfold sZ_
  rw [if_pos ⟨⟨h1, h2⟩, ix_ok h0 h3 hn⟩, iI_nat ⟨by omega, by omega⟩]
  rcases hx with rfl | rfl <;> rfl
theorem uI_1 (S : St) (a k : Nat) (x : Int32) : (uI S a k x).1 = S.1 := rfl
theorem uI_R (S : St) (a k : Nat) (x : Int32) : (uI S a k x).2.2.2 = S.2.2.2 := rfl
theorem uI_J (S : St) (a k : Nat) (x : Int32) : (uI S a k x).2.2.1 = S.2.2.1 := rfl
theorem uI_I (S : St) (a k : Nat) (x : Int32) (b j : Nat) : (uI S a k x).2.1 b j = if b = a ∧ j = k then x else S.2.1 b j := rfl
theorem lp_go {α β : Type} {F : (α → Option β) → α → Option β} {n : Nat} {x : α} : lp_ F (n + 1) x = F (lp_ F n) x := rfl
/-- a row read: 0 outside -/
theorem at_spec {S : St} {a : Nat} {i : Int} (h1 : a < S.1) (h2 : kd a = 11) (hi1 : -2147483648 ≤ i) (hi2 : i < 2147483648) (hn : ln a < 2147483648) : f_X8_at S a (iI i) = some (if 0 ≤ i ∧ i < ln a then S.2.1 a i.toNat else iI 0) := by
  unfold f_X8_at jn_ rt_
  simp (disch := omega) only [L0, ilt, al_at h1 h2]
  by_cases h0 : i < 0
  · rw [if_pos h0, if_neg (by omega)]
  · rw [if_neg h0]
    by_cases h3 : i < ln a
    · rw [if_pos h3, aI_at' h1 h2 (by omega) h3 hn, if_pos ⟨by omega, h3⟩]
    · rw [if_neg h3, if_neg (by omega)]
theorem set_spec {S : St} {a : Nat} {i : Int} {x : Int32} (h1 : a < S.1) (h2 : kd a = 11) (hi1 : -2147483648 ≤ i) (hi2 : i < 2147483648) (hn : ln a < 2147483648) : f_X8_set S a (iI i) x = some (if 0 ≤ i ∧ i < ln a then uI S a i.toNat x else S) := by
  unfold f_X8_set jn_ rt_
  simp (disch := omega) only [L0, ilt, ile, al_at h1 h2]
  by_cases h0 : i < 0
  · rw [if_pos h0, if_neg (by omega)]
  · rw [if_neg h0]
    by_cases h3 : i < ln a
    · rw [if_neg (by omega), sI_at h1 h2 (by omega) h3 hn, if_pos ⟨by omega, h3⟩]
    · rw [if_pos (by omega), if_neg (by omega)]
