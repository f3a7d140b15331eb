/-! THE PURE HALF: steps from the outside in -/
def En {α : Type} (Q : α → Prop) (o : Option α) : Prop := ∃ x, o = some x ∧ Q x
theorem En.mono {α : Type} {Q Q' : α → Prop} {o : Option α} (h : En Q o) (hq : ∀ x, Q x → Q' x) : En Q' o := by
  obtain ⟨x, h1, h2⟩ := h
  exact ⟨x, h1, hq x h2⟩
theorem jn_def {α β : Type} (e : α → Option β) (b : (α → Option β) → Option β) : jn_ e b = b e := rfl
section CALC
variable {α β : Type} {Q : β → Prop} {I : MI} {J : MJ} {R : MR} {a b c k n : Nat} {x : Int32} {i p q : Int} {S : St}
theorem w_rt {r : β} (h : Q r) : En Q (rt_ r) := ⟨r, rfl, h⟩
theorem w_some {r : β} (h : Q r) : En Q (some r) := ⟨r, rfl, h⟩
theorem w_lt {e : α} {K : α → Option β} (h : En Q (K e)) : En Q (lt_ e K) := h
theorem w_ltA {K : Int32 → Option β} (h : En Q (K (iI (p + q)))) : En Q (lt_ (iI p + iI q) K) := by rw [iI_add]; exact h
theorem w_ltS {K : Int32 → Option β} (h : En Q (K (iI (p - q)))) : En Q (lt_ (iI p - iI q) K) := by rw [iI_sub]; exact h
theorem w_ltM {K : Int32 → Option β} (h : En Q (K (iI (p * q)))) : En Q (lt_ (iI p * iI q) K) := by rw [iI_mul]; exact h
theorem w_ltN {K : Int32 → Option β} (h : En Q (K (iI (-p)))) : En Q (lt_ (-(iI p)) K) := by rw [iI_neg]; exact h
theorem w_jn {e : α → Option β} {f : (α → Option β) → Option β} (h : En Q (f e)) : En Q (jn_ e f) := h
theorem w_ck {K : Option β} (h1 : a < 381) (h2 : kd a = c) (h : En Q K) : En Q (ck_ (381, I, J, R) a c K) := by rw [ck' h1 h2]; exact h
theorem w_gI {K : Int32 → Option β} (h1 : a < 381) (h2 : kd a = c) (h : En Q (K (I a k))) : En Q (gI_ (381, I, J, R) a c k K) := by rw [gI' h1 h2]; exact h
theorem w_gJ {K : Int64 → Option β} (h1 : a < 381) (h2 : kd a = c) (h : En Q (K (J a k))) : En Q (gJ_ (381, I, J, R) a c k K) := by rw [gJ' h1 h2]; exact h
theorem w_gR {K : Nat → Option β} (h1 : a < 381) (h2 : kd a = c) (h3 : R a k = some b) (h : En Q (K b)) : En Q (gR_ (381, I, J, R) a c k K) := by rw [gR' h1 h2 h3]; exact h
theorem w_al {K : Int32 → Option β} (h1 : a < 381) (h2 : kd a = c) (h3 : ln a = n) (h : En Q (K (iI n))) : En Q (al_ (381, I, J, R) a c K) := by rw [al' h1 h2, h3]; exact h
theorem w_pI {K : St → Option β} (h1 : a < 381) (h2 : kd a = c) (h : En Q (K (381, up I a k x, J, R))) : En Q (pI_ (381, I, J, R) a c k x K) := by rw [pI' h1 h2]; exact h
theorem w_pZ {K : St → Option β} (h1 : a < 381) (h2 : kd a = c) (h3 : x = 0 ∨ x = 1) (h : En Q (K (381, up I a k x, J, R))) : En Q (pZ_ (381, I, J, R) a c k x K) := by rw [pZ' h1 h2 h3]; exact h
theorem w_set {K : St → Option β} (h1 : a < 381) (h2 : kd a = 11) (h3 : 0 ≤ i) (h4 : i < ln a) (h : En Q (K (381, up I a i.toNat x, J, R))) : En Q (cV_ (f_X8_set (381, I, J, R) a (iI i) x) K) := by rw [set' h1 h2 h3 h4]; exact h
theorem w_at {K : Int32 → Option β} (h1 : a < 381) (h2 : kd a = 11) (h3 : 0 ≤ i) (h4 : i < ln a) (h : En Q (K (I a i.toNat))) : En Q (cP_ (f_X8_at (381, I, J, R) a (iI i)) K) := by rw [at' h1 h2 h3 h4]; exact h
theorem w_sI {K : St → Option β} (h1 : a < 381) (h2 : kd a = 11) (h3 : 0 ≤ i) (h4 : i < ln a) (h : En Q (K (381, up I a i.toNat x, J, R))) : En Q (sI_ (381, I, J, R) a (iI i) x K) := by rw [sI' h1 h2 h3 h4]; exact h
theorem w_sZ {K : St → Option β} (h1 : a < 381) (h2 : kd a = 13) (h3 : 0 ≤ i) (h4 : i < ln a) (h5 : x = 0 ∨ x = 1) (h : En Q (K (381, up I a i.toNat x, J, R))) : En Q (sZ_ (381, I, J, R) a (iI i) x K) := by rw [sZ' h1 h2 h3 h4 h5]; exact h
theorem w_aI {K : Int32 → Option β} (h1 : a < 381) (h2 : kd a = c) (h3 : 0 ≤ i) (h4 : i < ln a) (h : En Q (K (I a i.toNat))) : En Q (aI_ (381, I, J, R) a c (iI i) K) := by rw [aI' h1 h2 h3 h4]; exact h
theorem w_aR {K : Nat → Option β} (h1 : a < 381) (h2 : kd a = c) (h3 : 0 ≤ i) (h4 : i < ln a) (h5 : R a i.toNat = some b) (h : En Q (K b)) : En Q (aR_ (381, I, J, R) a c (iI i) K) := by rw [aR' h1 h2 h3 h4 h5]; exact h
theorem w_dv {K : Int32 → Option β} (h0 : 0 ≤ p) (h1 : p < 2147483648) (h2 : 0 < q) (h3 : q < 2147483648) (h : En Q (K (iI (p / q)))) : En Q (dv_ (iI p) (iI q) K) := by rw [dv' h0 h1 h2 h3]; exact h
theorem w_rm {K : Int32 → Option β} (h0 : 0 ≤ p) (h1 : p < 2147483648) (h2 : 0 < q) (h3 : q < 2147483648) (h : En Q (K (iI (p % q)))) : En Q (rm_ (iI p) (iI q) K) := by rw [rm' h0 h1 h2 h3]; exact h
theorem w_pos {C : Prop} {d : Decidable C} {A B : Option β} (hc : C) (h : En Q A) : En Q (if C then A else B) := by rw [if_pos hc]; exact h
theorem w_neg {C : Prop} {d : Decidable C} {A B : Option β} (hc : ¬ C) (h : En Q B) : En Q (if C then A else B) := by rw [if_neg hc]; exact h
theorem w_cP {F : Option α} {v : α} {K : α → Option β} (hF : F = some v) (h : En Q (K v)) : En Q (cP_ F K) := by rw [hF]; exact h
theorem w_cV {F : Option St} {Q' : St → Prop} {K : St → Option β} (hF : En Q' F) (h : ∀ S, Q' S → En Q (K S)) : En Q (cV_ F K) := by
  obtain ⟨S, e, hS⟩ := hF
  rw [e]
  exact h S hS
theorem w_cI {F : Option (α × St)} {Q' : α × St → Prop} {K : α → St → Option β} (hF : En Q' F) (h : ∀ v S, Q' (v, S) → En Q (K v S)) : En Q (cI_ F K) := by
  obtain ⟨⟨v, S⟩, e, hS⟩ := hF
  rw [e]
  exact h v S hS
/-- a loop by what holds at its i-th beginning -/
theorem w_lp {F : (α → Option β) → α → Option β} {x0 : α} {N : Nat} (M : Nat) (Jv : Nat → α → Prop) (h0 : Jv 0 x0) (hM : M < N) (hb : ∀ i y, Jv i y → i ≤ M) (hs : ∀ i y self, Jv i y → (∀ y', Jv (i + 1) y' → En Q (self y')) → En Q (F self y)) : En Q (lp_ F N x0) := by
  have key : ∀ (d i M' : Nat) (y : α), i + d = M → d < M' → Jv i y → En Q (lp_ F M' y) := by
    intro d
    induction d with
    | zero =>
      intro i M' y hi hM' hy
      obtain ⟨M'', rfl⟩ : ∃ m, M' = m + 1 := ⟨M' - 1, by omega⟩
      refine hs i y _ hy fun y' hy' => ?_
      have := hb _ _ hy'
      omega
    | succ d ih =>
      intro i M' y hi hM' hy
      obtain ⟨M'', rfl⟩ : ∃ m, M' = m + 1 := ⟨M' - 1, by omega⟩
      exact hs i y _ hy fun y' hy' => ih (i + 1) M'' y' (by omega) (by omega) hy'
  exact key M 0 N x0 (by omega) hM h0
end CALC
