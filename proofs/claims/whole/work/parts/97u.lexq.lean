/-! TEXTS: the reference's tokens -/
def upJ (J : MJ) (a k : Nat) (x : Int64) : MJ := fun b j => if b = a ∧ j = k then x else J b j
theorem upJ_eq {J : MJ} {a k : Nat} {x : Int64} : upJ J a k x a k = x := if_pos ⟨rfl, rfl⟩
theorem upJ_ne {J : MJ} {a k b j : Nat} {x : Int64} (h : ¬ (b = a ∧ j = k)) : upJ J a k x b j = J b j := if_neg h
def kR (k : Int) : Int := if k = 1 then 2 else if k = 2 then 3 else if k = 3 then 4 else if k = 4 then 1 else 0
def wcd (T : TX) (s : Nat) : Nat → Nat
  | 0 => 0
  | m + 1 => wcd T s m * 256 + (T (s + m)).toNat
/-- the reference holds the text -/
def TXR (I : MI) (T : TX) (n : Nat) : Prop := I 373 5 = iI (n : Nat) ∧ ∀ i, i < n → I 375 i &&& iI 255 = iI (T i)
def TkR (I : MI) (J : MJ) (T : TX) (n i : Nat) : Prop := I 373 4 = iI (tE T n i : Nat) ∧ I 373 6 = iI (tS T n i : Nat) ∧ I 373 7 = iI (kR (tK T n i)) ∧ (tK T n i = 2 → I 373 8 = iI (tN T n i)) ∧ (tK T n i = 1 → J 373 9 = if tE T n i - tS T n i ≤ 8 then Int64.ofNat (wcd T (tS T n i) (tE T n i - tS T n i)) else 0)
/-- only the token's own slots change -/
def FT (I I' : MI) (J J' : MJ) : Prop := (∀ a k, ¬ (a = 373 ∧ (k = 4 ∨ k = 6 ∨ k = 7 ∨ k = 8)) → I' a k = I a k) ∧ ∀ a k, ¬ (a = 373 ∧ k = 9) → J' a k = J a k
theorem ft_r {I : MI} {J : MJ} : FT I I J J := ⟨fun _ _ _ => rfl, fun _ _ _ => rfl⟩
theorem ft_u {I I' : MI} {J J' : MJ} {k : Nat} {x : Int32} (h : FT I I' J J') (hk : k = 4 ∨ k = 6 ∨ k = 7 ∨ k = 8) : FT I (up I' 373 k x) J J' := ⟨fun a j ha => by
  rw [up_ne (by omega)]
  exact h.1 a j ha, h.2⟩
theorem ft_j {I I' : MI} {J J' : MJ} {x : Int64} (h : FT I I' J J') : FT I I' J (upJ J' 373 9 x) := ⟨h.1, fun a j ha => by
  rw [upJ_ne (by omega)]
  exact h.2 a j ha⟩
theorem FT.t {I I' I2 : MI} {J J' J2 : MJ} (h : FT I I' J J') (h2 : FT I' I2 J' J2) : FT I I2 J J2 := ⟨fun a k ha => (h2.1 a k ha).trans (h.1 a k ha), fun a k ha => (h2.2 a k ha).trans (h.2 a k ha)⟩
theorem FT.x {I I' : MI} {J J' : MJ} {T : TX} {n : Nat} (h : FT I I' J J') (hx : TXR I T n) : TXR I' T n := ⟨(h.1 373 5 (by omega)).trans hx.1, fun i hi => by
  rw [h.1 375 i (by omega)]
  exact hx.2 i hi⟩
theorem kd_376 : kd 375 = 10 := by decide +kernel
theorem ln_376 : ln 375 = 2000 := by decide +kernel
theorem shl8 : Int32.toInt64 (iI 8) &&& 63 = (8 : Int64) := by decide +kernel
/-- a byte more -/
theorem word_s {a : Nat} {b : Int} (hb : 0 ≤ b ∧ b < 256) : (Int64.ofNat a <<< (8 : Int64)) ||| Int32.toInt64 (iI b) = Int64.ofNat (a * 256 + b.toNat) := by
  have e1 : Int32.toInt64 (iI b) = Int64.ofNat b.toNat := by
    apply Int64.toInt.inj
    rw [Int32.toInt_toInt64, iI_toInt ⟨by omega, by omega⟩, Int64.toInt_ofNat_of_lt (by omega)]
    omega
  rw [e1]
  apply Int64.toBitVec.inj
  rw [Int64.toBitVec_or, Int64.toBitVec_shiftLeft]
  apply BitVec.eq_of_toNat_eq
  rw [BitVec.toNat_or]
  have e2 : (Int64.ofNat a).toBitVec <<< ((8 : Int64).toBitVec.smod 64) = (Int64.ofNat a).toBitVec <<< 8 := rfl
  rw [e2, BitVec.toNat_shiftLeft]
  have e3 : (Int64.ofNat a).toBitVec.toNat = a % 2 ^ 64 := rfl
  have e4 : (Int64.ofNat b.toNat).toBitVec.toNat = b.toNat % 2 ^ 64 := rfl
  have e5 : (Int64.ofNat (a * 256 + b.toNat)).toBitVec.toNat = (a * 256 + b.toNat) % 2 ^ 64 := rfl
  rw [e3, e4, e5, Nat.mod_eq_of_lt (show b.toNat < 2 ^ 64 by omega), Nat.shiftLeft_eq]
  have e6 : a % 2 ^ 64 * 2 ^ 8 % 2 ^ 64 = (a % 2 ^ 56) <<< 8 := by
    rw [Nat.shiftLeft_eq]
    omega
  rw [e6, ← Nat.shiftLeft_add_eq_or_of_lt (show b.toNat < 2 ^ 8 by omega), Nat.shiftLeft_eq]
  omega
section LXQ
variable {I : MI} {J : MJ} {R : MR} {α γ : Type} {Q : γ → Prop} {T : TX} {n i p s : Nat} {c : Int} {S : St}
theorem w_pJ {K : St → Option γ} {a k c : Nat} {x : Int64} (h1 : a < 381) (h2 : kd a = c) (h : En Q (K (381, I, upJ J a k x, R))) : En Q (pJ_ (381, I, J, R) a c k x K) := by
  have : pJ_ (381, I, J, R) a c k x K = K (381, I, upJ J a k x, R) := if_pos ⟨h1, h2⟩
  rw [this]
  exact h
theorem see_Q (hR : RQ R) (hx : TXR I T n) (ht : Tok T n) (hp : I 373 4 = iI (p : Nat)) (hp4 : p ≤ n + 1) : f_X9_see (381, I, J, R) 373 = some (iI (if p < n then T p else -1)) := by
  have k374 := kd_374
  have k376 := kd_376
  have l376 := ln_376
  have r2 := hR.2.1
  have e5 := hx.1
  have hn := ht.1
  refine en_eq ?_
  rw [u_X9_see]
  by_cases h : p < n
  · have e2 := hx.2 p h
    rw [if_pos h]
    repeat ((first | (with_reducible first | refine w_ltA ?_ | refine w_ltS ?_ | refine w_ltM ?_ | refine w_ltN ?_ | refine w_lt ?_ | refine w_jn ?_ | refine w_ck (by omega) (by assumption) ?_ | refine w_gI (by omega) (by assumption) ?_ | refine w_gR (by omega) (by assumption) (by assumption) ?_ | refine w_al (by omega) (by assumption) (by assumption) ?_ | refine w_pI (by omega) (by assumption) ?_ | refine w_set (by omega) (by assumption) (by omega) (by omega) ?_ | refine w_at (by omega) (by assumption) (by omega) (by omega) ?_ | refine w_sI (by omega) (by assumption) (by omega) (by omega) ?_ | refine w_aI (by omega) (by assumption) (by omega) (by omega) ?_ | refine w_sZ (by omega) (by assumption) (by omega) (by omega) (by decide) ?_ | refine w_pZ (by omega) (by assumption) (by decide) ?_ | refine w_dv (by omega) (by omega) (by omega) (by omega) ?_ | refine w_rm (by omega) (by omega) (by omega) (by omega) ?_) | ((with_reducible refine w_pos ?_ ?_); focus (first | assumption | trivial | exact (ile (by omega) (by omega) (by omega) (by omega)).2 (by omega) | exact (ilt (by omega) (by omega) (by omega) (by omega)).2 (by omega) | exact (ieq (by omega) (by omega) (by omega) (by omega)).2 (by omega))) | ((with_reducible refine w_neg ?_ ?_); focus (first | assumption | exact not_false | trivial | exact mt (ile (by omega) (by omega) (by omega) (by omega)).1 (by omega) | exact mt (ilt (by omega) (by omega) (by omega) (by omega)).1 (by omega) | exact mt (ieq (by omega) (by omega) (by omega) (by omega)).1 (by omega)))); try simp (disch := omega) only [hp, e5])
    rw [Int.toNat_natCast, e2]
    exact w_rt rfl
  · rw [if_neg h]
    repeat ((first | (with_reducible first | refine w_ltA ?_ | refine w_ltS ?_ | refine w_ltM ?_ | refine w_ltN ?_ | refine w_lt ?_ | refine w_jn ?_ | refine w_ck (by omega) (by assumption) ?_ | refine w_gI (by omega) (by assumption) ?_ | refine w_gR (by omega) (by assumption) (by assumption) ?_ | refine w_al (by omega) (by assumption) (by assumption) ?_ | refine w_pI (by omega) (by assumption) ?_ | refine w_set (by omega) (by assumption) (by omega) (by omega) ?_ | refine w_at (by omega) (by assumption) (by omega) (by omega) ?_ | refine w_sI (by omega) (by assumption) (by omega) (by omega) ?_ | refine w_aI (by omega) (by assumption) (by omega) (by omega) ?_ | refine w_sZ (by omega) (by assumption) (by omega) (by omega) (by decide) ?_ | refine w_pZ (by omega) (by assumption) (by decide) ?_ | refine w_dv (by omega) (by omega) (by omega) (by omega) ?_ | refine w_rm (by omega) (by omega) (by omega) (by omega) ?_) | ((with_reducible refine w_pos ?_ ?_); focus (first | assumption | trivial | exact (ile (by omega) (by omega) (by omega) (by omega)).2 (by omega) | exact (ilt (by omega) (by omega) (by omega) (by omega)).2 (by omega) | exact (ieq (by omega) (by omega) (by omega) (by omega)).2 (by omega))) | ((with_reducible refine w_neg ?_ ?_); focus (first | assumption | exact not_false | trivial | exact mt (ile (by omega) (by omega) (by omega) (by omega)).1 (by omega) | exact mt (ilt (by omega) (by omega) (by omega) (by omega)).1 (by omega) | exact mt (ieq (by omega) (by omega) (by omega) (by omega)).1 (by omega)))); try simp (disch := omega) only [hp, e5])
    exact w_rt rfl
set_option maxHeartbeats 8000000 in
theorem token_Q (hR : RQ R) (hx : TXR I T n) (ht : Tok T n) (hs : I 373 4 = iI (i : Nat)) (hin : i ≤ n) : En (fun y => ∃ I' J', y = (381, I', J', R) ∧ FT I I' J J' ∧ TkR I' J' T n i) (f_X9_token (381, I, J, R) 373) := by
  have k374 := kd_374
  have hn4 := ht.1
  have hsb := tS_b (T := T) hin
  rw [u_X9_token]
  refine w_lp (n - i) (fun j y => j ≤ n - i ∧ ∃ I', y = (381, I', J, R) ∧ FT I I' J J ∧ I' 373 4 = iI ((i + j : Nat) : Int) ∧ tS T n i = skp isB T (n - i - j) (i + j)) ⟨by omega, I, rfl, ft_r, hs, rfl⟩ (by rw [FU_eq]; omega) (fun i y h => h.1) ?_
  rintro j y self ⟨hj, I1, rfl, hF, e1, hk⟩ ih
  try dsimp only
  have hx1 := hF.x hx
  have hse := see_Q (J := J) (p := i + j) hR hx1 ht e1 (by omega)
  refine w_ck (by omega) k374 ?_
  refine w_cP hse ?_
  refine w_jnP (fun _ => i + j < n ∧ isB (T (i + j)) = true) ?_ ?_
  · rintro _ ⟨hlt, hB⟩
    obtain ⟨d, hd⟩ : ∃ d, n - i - j = d + 1 := ⟨n - i - j - 1, by omega⟩
    rw [hd, skp_s, if_pos hB] at hk
    repeat ((first | (with_reducible first | refine w_ltA ?_ | refine w_ltS ?_ | refine w_ltM ?_ | refine w_ltN ?_ | refine w_lt ?_ | refine w_jn ?_ | refine w_ck (by omega) (by assumption) ?_ | refine w_gI (by omega) (by assumption) ?_ | refine w_gR (by omega) (by assumption) (by assumption) ?_ | refine w_al (by omega) (by assumption) (by assumption) ?_ | refine w_pI (by omega) (by assumption) ?_ | refine w_set (by omega) (by assumption) (by omega) (by omega) ?_ | refine w_at (by omega) (by assumption) (by omega) (by omega) ?_ | refine w_sI (by omega) (by assumption) (by omega) (by omega) ?_ | refine w_aI (by omega) (by assumption) (by omega) (by omega) ?_ | refine w_sZ (by omega) (by assumption) (by omega) (by omega) (by decide) ?_ | refine w_pZ (by omega) (by assumption) (by decide) ?_ | refine w_dv (by omega) (by omega) (by omega) (by omega) ?_ | refine w_rm (by omega) (by omega) (by omega) (by omega) ?_) | ((with_reducible refine w_pos ?_ ?_); focus (first | assumption | trivial | exact (ile (by omega) (by omega) (by omega) (by omega)).2 (by omega) | exact (ilt (by omega) (by omega) (by omega) (by omega)).2 (by omega) | exact (ieq (by omega) (by omega) (by omega) (by omega)).2 (by omega))) | ((with_reducible refine w_neg ?_ ?_); focus (first | assumption | exact not_false | trivial | exact mt (ile (by omega) (by omega) (by omega) (by omega)).1 (by omega) | exact mt (ilt (by omega) (by omega) (by omega) (by omega)).1 (by omega) | exact mt (ieq (by omega) (by omega) (by omega) (by omega)).1 (by omega)))); try simp (disch := omega) only [e1])
    refine ih _ ⟨by omega, _, rfl, ft_u hF (by omega), ?_, ?_⟩
    · rw [up_eq, show ((i + j : Nat) : Int) + 1 = ((i + (j + 1) : Nat) : Int) by omega]
    · rw [hk, show n - i - (j + 1) = d by omega]
      rfl
  intro j3 hj3
  by_cases hlt : i + j < n
  · have hb := ht.2 _ hlt
    rw [if_pos hlt] at hse ⊢
    by_cases h10 : T (i + j) = 10
    · repeat ((first | (with_reducible first | refine w_ltA ?_ | refine w_ltS ?_ | refine w_ltM ?_ | refine w_ltN ?_ | refine w_lt ?_ | refine w_jn ?_ | refine w_ck (by omega) (by assumption) ?_ | refine w_gI (by omega) (by assumption) ?_ | refine w_gR (by omega) (by assumption) (by assumption) ?_ | refine w_al (by omega) (by assumption) (by assumption) ?_ | refine w_pI (by omega) (by assumption) ?_ | refine w_set (by omega) (by assumption) (by omega) (by omega) ?_ | refine w_at (by omega) (by assumption) (by omega) (by omega) ?_ | refine w_sI (by omega) (by assumption) (by omega) (by omega) ?_ | refine w_aI (by omega) (by assumption) (by omega) (by omega) ?_ | refine w_sZ (by omega) (by assumption) (by omega) (by omega) (by decide) ?_ | refine w_pZ (by omega) (by assumption) (by decide) ?_ | refine w_dv (by omega) (by omega) (by omega) (by omega) ?_ | refine w_rm (by omega) (by omega) (by omega) (by omega) ?_) | ((with_reducible refine w_pos ?_ ?_); focus (first | assumption | trivial | exact (ile (by omega) (by omega) (by omega) (by omega)).2 (by omega) | exact (ilt (by omega) (by omega) (by omega) (by omega)).2 (by omega) | exact (ieq (by omega) (by omega) (by omega) (by omega)).2 (by omega))) | ((with_reducible refine w_neg ?_ ?_); focus (first | assumption | exact not_false | trivial | exact mt (ile (by omega) (by omega) (by omega) (by omega)).1 (by omega) | exact mt (ilt (by omega) (by omega) (by omega) (by omega)).1 (by omega) | exact mt (ieq (by omega) (by omega) (by omega) (by omega)).1 (by omega)))); skip)
      exact hj3 _ ⟨hlt, decide_eq_true (Or.inr h10)⟩
    refine w_neg (mt (ieq (by omega) (by omega) (by omega) (by omega)).1 h10) ?_
    refine w_ck (by omega) k374 ?_
    refine w_cP hse ?_
    by_cases h32 : T (i + j) = 32
    · repeat ((first | (with_reducible first | refine w_ltA ?_ | refine w_ltS ?_ | refine w_ltM ?_ | refine w_ltN ?_ | refine w_lt ?_ | refine w_jn ?_ | refine w_ck (by omega) (by assumption) ?_ | refine w_gI (by omega) (by assumption) ?_ | refine w_gR (by omega) (by assumption) (by assumption) ?_ | refine w_al (by omega) (by assumption) (by assumption) ?_ | refine w_pI (by omega) (by assumption) ?_ | refine w_set (by omega) (by assumption) (by omega) (by omega) ?_ | refine w_at (by omega) (by assumption) (by omega) (by omega) ?_ | refine w_sI (by omega) (by assumption) (by omega) (by omega) ?_ | refine w_aI (by omega) (by assumption) (by omega) (by omega) ?_ | refine w_sZ (by omega) (by assumption) (by omega) (by omega) (by decide) ?_ | refine w_pZ (by omega) (by assumption) (by decide) ?_ | refine w_dv (by omega) (by omega) (by omega) (by omega) ?_ | refine w_rm (by omega) (by omega) (by omega) (by omega) ?_) | ((with_reducible refine w_pos ?_ ?_); focus (first | assumption | trivial | exact (ile (by omega) (by omega) (by omega) (by omega)).2 (by omega) | exact (ilt (by omega) (by omega) (by omega) (by omega)).2 (by omega) | exact (ieq (by omega) (by omega) (by omega) (by omega)).2 (by omega))) | ((with_reducible refine w_neg ?_ ?_); focus (first | assumption | exact not_false | trivial | exact mt (ile (by omega) (by omega) (by omega) (by omega)).1 (by omega) | exact mt (ilt (by omega) (by omega) (by omega) (by omega)).1 (by omega) | exact mt (ieq (by omega) (by omega) (by omega) (by omega)).1 (by omega)))); skip)
      exact hj3 _ ⟨hlt, decide_eq_true (Or.inl h32)⟩
    refine w_neg (mt (ieq (by omega) (by omega) (by omega) (by omega)).1 h32) ?_
    clear hj3 j3 ih self
    have hS : tS T n i = i + j := by
      obtain ⟨d, hd⟩ : ∃ d, n - i - j = d + 1 := ⟨n - i - j - 1, by omega⟩
      rw [hd, skp_s, if_neg (by rw [show isB (T (i + j)) = false from decide_eq_false (by omega)]; decide)] at hk
      exact hk
    have eE : tE T n i = if n ≤ tS T n i then tS T n i else if isL (T (tS T n i)) then skp isL T (n - tS T n i) (tS T n i) else if isD (T (tS T n i)) then skp isD T (n - tS T n i) (tS T n i) else tS T n i + 1 := rfl
    have eK : tK T n i = if n ≤ tS T n i then 0 else if isL (T (tS T n i)) then 1 else if isD (T (tS T n i)) then (if skp isD T (n - tS T n i) (tS T n i) - tS T n i ≤ 6 then 2 else 4) else if T (tS T n i) = 59 then 3 else 4 := rfl
    rw [← hS] at hse e1 hb hlt
    rw [show i + j = tS T n i from hS.symm] at *
    generalize hSS : tS T n i = s at *
    rw [if_neg (by omega)] at eE eK
    repeat ((first | (with_reducible first | refine w_ltA ?_ | refine w_ltS ?_ | refine w_ltM ?_ | refine w_ltN ?_ | refine w_lt ?_ | refine w_jn ?_ | refine w_ck (by omega) (by assumption) ?_ | refine w_gI (by omega) (by assumption) ?_ | refine w_gR (by omega) (by assumption) (by assumption) ?_ | refine w_al (by omega) (by assumption) (by assumption) ?_ | refine w_pI (by omega) (by assumption) ?_ | refine w_set (by omega) (by assumption) (by omega) (by omega) ?_ | refine w_at (by omega) (by assumption) (by omega) (by omega) ?_ | refine w_sI (by omega) (by assumption) (by omega) (by omega) ?_ | refine w_aI (by omega) (by assumption) (by omega) (by omega) ?_ | refine w_sZ (by omega) (by assumption) (by omega) (by omega) (by decide) ?_ | refine w_pZ (by omega) (by assumption) (by decide) ?_ | refine w_dv (by omega) (by omega) (by omega) (by omega) ?_ | refine w_rm (by omega) (by omega) (by omega) (by omega) ?_) | ((with_reducible refine w_pos ?_ ?_); focus (first | assumption | trivial | exact (ile (by omega) (by omega) (by omega) (by omega)).2 (by omega) | exact (ilt (by omega) (by omega) (by omega) (by omega)).2 (by omega) | exact (ieq (by omega) (by omega) (by omega) (by omega)).2 (by omega))) | ((with_reducible refine w_neg ?_ ?_); focus (first | assumption | exact not_false | trivial | exact mt (ile (by omega) (by omega) (by omega) (by omega)).1 (by omega) | exact mt (ilt (by omega) (by omega) (by omega) (by omega)).1 (by omega) | exact mt (ieq (by omega) (by omega) (by omega) (by omega)).1 (by omega)))); try simp (disch := omega) only [e1])
    have hse2 := see_Q (J := J) (I := up I1 373 6 (iI (s : Nat))) (p := s) hR ((ft_u hF (by omega) : FT I _ J J).x hx) ht (by rw [up_ne (by omega)]; exact e1) (by omega)
    rw [if_pos hlt] at hse2
    refine w_cP hse2 ?_
    refine w_pJ (by omega) k374 ?_
    have hF2 : FT I (up I1 373 6 (iI (s : Nat))) J (upJ J 373 9 0) := ft_j (ft_u hF (by omega))
    have g4 : up I1 373 6 (iI (s : Nat)) 373 4 = iI (s : Nat) := by
      rw [up_ne (by omega)]
      exact e1
    have g6 : up I1 373 6 (iI (s : Nat)) 373 6 = iI (s : Nat) := up_eq _ _ _ _
    have gJ : upJ J 373 9 0 373 9 = 0 := upJ_eq
    generalize up I1 373 6 (iI (s : Nat)) = I2 at *
    generalize upJ J 373 9 0 = J2 at *
    have hx2 := hF2.x hx
    refine w_jnP (fun x => ∃ I' J', x = (381, I', J', R) ∧ FT I I' J J' ∧ TkR I' J' T n i) ?_ ?_
    · intro x h
      exact w_rt h
    intro j12 hj12
    refine w_pos ((ile (by omega) (by omega) (by omega) (by omega)).2 hb.1) ?_
    refine w_in (by omega) (by omega) (by omega) (fun hL => ?_) (fun hL => ?_)
    · have hl : isL (T s) = true := decide_eq_true hL
      rw [if_pos hl] at eE eK
      refine w_neg (by decide) ?_
      refine w_lp (n - s) (fun m y => m ≤ n - s ∧ ∃ I' J', y = (iI (m : Int), (381, I', J', R)) ∧ FT I I' J J' ∧ I' 373 4 = iI ((s + m : Nat) : Int) ∧ I' 373 6 = iI (s : Nat) ∧ skp isL T (n - s) s = skp isL T (n - s - m) (s + m) ∧ (m ≤ 8 → J' 373 9 = Int64.ofNat (wcd T s m))) ⟨by omega, I2, J2, rfl, hF2, g4, g6, rfl, fun _ => gJ⟩ (by rw [FU_eq]; omega) (fun i y h => h.1) ?_
      rintro m y self ⟨hm, I3, J3, rfl, hF3, f4, f6, hk3, hJ⟩ ih
      try dsimp only
      have hx3 := hF3.x hx
      have hse3 := see_Q (J := J3) (p := s + m) hR hx3 ht f4 (by omega)
      refine w_ck (by omega) k374 ?_
      refine w_cP hse3 ?_
      have hlast : skp isL T (n - s) s = s + m → En (fun y => ∃ I' J', y = (381, I', J', R) ∧ FT I I' J J' ∧ TkR I' J' T n i) (jn_ (fun (x41 : Int64) => pJ_ (381, I3, J3, R) 373 9 9 x41 fun S42 => pI_ S42 373 9 7 (iI 2) fun S43 => j12 (S43)) fun j41 => if iI (m : Int) ≤ iI 8 then gJ_ (381, I3, J3, R) 373 9 9 fun v44 => j41 (v44) else j41 (0)) := fun h => by
        have hm4 : m ≤ 400 := by omega
        by_cases h8 : m ≤ 8
        · repeat ((first | (with_reducible first | refine w_gJ (by omega) (by assumption) ?_ | refine w_pJ (by omega) (by assumption) ?_ | refine w_ltA ?_ | refine w_ltS ?_ | refine w_ltM ?_ | refine w_ltN ?_ | refine w_lt ?_ | refine w_jn ?_ | refine w_ck (by omega) (by assumption) ?_ | refine w_gI (by omega) (by assumption) ?_ | refine w_gR (by omega) (by assumption) (by assumption) ?_ | refine w_al (by omega) (by assumption) (by assumption) ?_ | refine w_pI (by omega) (by assumption) ?_ | refine w_set (by omega) (by assumption) (by omega) (by omega) ?_ | refine w_at (by omega) (by assumption) (by omega) (by omega) ?_ | refine w_sI (by omega) (by assumption) (by omega) (by omega) ?_ | refine w_aI (by omega) (by assumption) (by omega) (by omega) ?_ | refine w_sZ (by omega) (by assumption) (by omega) (by omega) (by decide) ?_ | refine w_pZ (by omega) (by assumption) (by decide) ?_ | refine w_dv (by omega) (by omega) (by omega) (by omega) ?_ | refine w_rm (by omega) (by omega) (by omega) (by omega) ?_) | ((with_reducible refine w_pos ?_ ?_); focus (first | assumption | trivial | exact (ile (by omega) (by omega) (by omega) (by omega)).2 (by omega) | exact (ilt (by omega) (by omega) (by omega) (by omega)).2 (by omega) | exact (ieq (by omega) (by omega) (by omega) (by omega)).2 (by omega))) | ((with_reducible refine w_neg ?_ ?_); focus (first | assumption | exact not_false | trivial | exact mt (ile (by omega) (by omega) (by omega) (by omega)).1 (by omega) | exact mt (ilt (by omega) (by omega) (by omega) (by omega)).1 (by omega) | exact mt (ieq (by omega) (by omega) (by omega) (by omega)).1 (by omega)))); skip)
          refine hj12 _ ⟨_, _, rfl, ft_u (ft_j hF3) (by omega), by rw [up_ne (by omega), f4, eE, h], by rw [up_ne (by omega), f6, hSS], by rw [up_eq, eK]; rfl, fun h => by rw [eK] at h; omega, fun _ => ?_⟩
          rw [upJ_eq, hSS, eE, h, if_pos (by omega), show s + m - s = m by omega]
          exact hJ h8
        · repeat ((first | (with_reducible first | refine w_gJ (by omega) (by assumption) ?_ | refine w_pJ (by omega) (by assumption) ?_ | refine w_ltA ?_ | refine w_ltS ?_ | refine w_ltM ?_ | refine w_ltN ?_ | refine w_lt ?_ | refine w_jn ?_ | refine w_ck (by omega) (by assumption) ?_ | refine w_gI (by omega) (by assumption) ?_ | refine w_gR (by omega) (by assumption) (by assumption) ?_ | refine w_al (by omega) (by assumption) (by assumption) ?_ | refine w_pI (by omega) (by assumption) ?_ | refine w_set (by omega) (by assumption) (by omega) (by omega) ?_ | refine w_at (by omega) (by assumption) (by omega) (by omega) ?_ | refine w_sI (by omega) (by assumption) (by omega) (by omega) ?_ | refine w_aI (by omega) (by assumption) (by omega) (by omega) ?_ | refine w_sZ (by omega) (by assumption) (by omega) (by omega) (by decide) ?_ | refine w_pZ (by omega) (by assumption) (by decide) ?_ | refine w_dv (by omega) (by omega) (by omega) (by omega) ?_ | refine w_rm (by omega) (by omega) (by omega) (by omega) ?_) | ((with_reducible refine w_pos ?_ ?_); focus (first | assumption | trivial | exact (ile (by omega) (by omega) (by omega) (by omega)).2 (by omega) | exact (ilt (by omega) (by omega) (by omega) (by omega)).2 (by omega) | exact (ieq (by omega) (by omega) (by omega) (by omega)).2 (by omega))) | ((with_reducible refine w_neg ?_ ?_); focus (first | assumption | exact not_false | trivial | exact mt (ile (by omega) (by omega) (by omega) (by omega)).1 (by omega) | exact mt (ilt (by omega) (by omega) (by omega) (by omega)).1 (by omega) | exact mt (ieq (by omega) (by omega) (by omega) (by omega)).1 (by omega)))); skip)
          refine hj12 _ ⟨_, _, rfl, ft_u (ft_j hF3) (by omega), by rw [up_ne (by omega), f4, eE, h], by rw [up_ne (by omega), f6, hSS], by rw [up_eq, eK]; rfl, fun h => by rw [eK] at h; omega, fun _ => ?_⟩
          rw [upJ_eq, hSS, eE, h, if_neg (by omega)]
      by_cases hlm : s + m < n
      · have hb3 := ht.2 _ hlm
        obtain ⟨d, hd⟩ : ∃ d, n - s - m = d + 1 := ⟨n - s - m - 1, by omega⟩
        rw [hd, skp_s] at hk3
        rw [if_pos hlm] at hse3 ⊢
        refine w_in (by omega) (by omega) (by omega) (fun hL2 => ?_) (fun hL2 => ?_)
        · rw [if_pos (show isL (T (s + m)) = true from decide_eq_true hL2)] at hk3
          refine w_neg (by decide) ?_
          refine w_gJ (by omega) k374 ?_
          refine w_lt ?_
          refine w_ck (by omega) k374 ?_
          refine w_cP hse3 ?_
          refine w_lt ?_
          refine w_lt ?_
          refine w_pJ (by omega) k374 ?_
          repeat ((first | (with_reducible first | refine w_ltA ?_ | refine w_ltS ?_ | refine w_ltM ?_ | refine w_ltN ?_ | refine w_lt ?_ | refine w_jn ?_ | refine w_ck (by omega) (by assumption) ?_ | refine w_gI (by omega) (by assumption) ?_ | refine w_gR (by omega) (by assumption) (by assumption) ?_ | refine w_al (by omega) (by assumption) (by assumption) ?_ | refine w_pI (by omega) (by assumption) ?_ | refine w_set (by omega) (by assumption) (by omega) (by omega) ?_ | refine w_at (by omega) (by assumption) (by omega) (by omega) ?_ | refine w_sI (by omega) (by assumption) (by omega) (by omega) ?_ | refine w_aI (by omega) (by assumption) (by omega) (by omega) ?_ | refine w_sZ (by omega) (by assumption) (by omega) (by omega) (by decide) ?_ | refine w_pZ (by omega) (by assumption) (by decide) ?_ | refine w_dv (by omega) (by omega) (by omega) (by omega) ?_ | refine w_rm (by omega) (by omega) (by omega) (by omega) ?_) | ((with_reducible refine w_pos ?_ ?_); focus (first | assumption | trivial | exact (ile (by omega) (by omega) (by omega) (by omega)).2 (by omega) | exact (ilt (by omega) (by omega) (by omega) (by omega)).2 (by omega) | exact (ieq (by omega) (by omega) (by omega) (by omega)).2 (by omega))) | ((with_reducible refine w_neg ?_ ?_); focus (first | assumption | exact not_false | trivial | exact mt (ile (by omega) (by omega) (by omega) (by omega)).1 (by omega) | exact mt (ilt (by omega) (by omega) (by omega) (by omega)).1 (by omega) | exact mt (ieq (by omega) (by omega) (by omega) (by omega)).1 (by omega)))); try simp (disch := omega) only [f4])
          refine ih _ ⟨by omega, _, _, rfl, ft_u (ft_j hF3) (by omega), ?_, ?_, ?_, fun h8 => ?_⟩
          · rw [up_eq, show ((s + m : Nat) : Int) + 1 = ((s + (m + 1) : Nat) : Int) by omega]
          · rw [up_ne (by omega)]
            exact f6
          · rw [hk3, show n - s - (m + 1) = d by omega]
            rfl
          · rw [upJ_eq, hJ (by omega), shl8, word_s (by omega)]
            rfl
        · rw [if_neg (show ¬ isL (T (s + m)) = true by rw [show isL (T (s + m)) = false from decide_eq_false hL2]; decide)] at hk3
          refine w_pos rfl ?_
          exact hlast hk3
      · rw [if_neg hlm]
        rw [show n - s - m = 0 by omega] at hk3
        refine w_in (by omega) (by omega) (by omega) (fun hL2 => by omega) (fun hL2 => ?_)
        refine w_pos rfl ?_
        exact hlast hk3
    have hl : ¬ isL (T s) = true := by
      rw [show isL (T s) = false from decide_eq_false hL]
      decide
    rw [if_neg hl] at eE eK
    refine w_pos rfl ?_
    refine w_in (by omega) (by omega) (by omega) (fun hD => ?_) (fun hD => ?_)
    · have hd : isD (T s) = true := decide_eq_true hD
      rw [if_pos hd] at eE eK
      refine w_neg (by decide) ?_
      refine w_pI (by omega) k374 ?_
      refine w_lp (n - s) (fun m y => m ≤ n - s ∧ ∃ I', y = (iI (m : Int), (381, I', J2, R)) ∧ FT I I' J J2 ∧ I' 373 4 = iI ((s + m : Nat) : Int) ∧ I' 373 6 = iI (s : Nat) ∧ skp isD T (n - s) s = skp isD T (n - s - m) (s + m) ∧ (m ≤ 6 → I' 373 8 = iI (dgV T s m))) ⟨by omega, _, rfl, ft_u hF2 (by omega), by rw [up_ne (by omega)]; exact g4, by rw [up_ne (by omega)]; exact g6, rfl, fun _ => up_eq _ _ _ _⟩ (by rw [FU_eq]; omega) (fun i y h => h.1) ?_
      rintro m y self ⟨hm, I3, rfl, hF3, f4, f6, hk3, hV⟩ ih
      try dsimp only
      have hx3 := hF3.x hx
      have hse3 := see_Q (J := J2) (p := s + m) hR hx3 ht f4 (by omega)
      refine w_ck (by omega) k374 ?_
      refine w_cP hse3 ?_
      have hlast : skp isD T (n - s) s = s + m → En (fun y => ∃ I' J', y = (381, I', J', R) ∧ FT I I' J J' ∧ TkR I' J' T n i) (jn_ (fun (x24 : Int32) => pI_ (381, I3, J2, R) 373 9 7 x24 fun S25 => j12 (S25)) fun j24 => if iI (m : Int) ≤ iI 6 then j24 ((iI 3)) else j24 ((iI 1))) := fun h => by
        have hm4 : m ≤ 400 := by omega
        rw [h, show s + m - s = m by omega] at eK
        by_cases h6 : m ≤ 6
        · rw [if_pos h6] at eK
          repeat ((first | (with_reducible first | refine w_ltA ?_ | refine w_ltS ?_ | refine w_ltM ?_ | refine w_ltN ?_ | refine w_lt ?_ | refine w_jn ?_ | refine w_ck (by omega) (by assumption) ?_ | refine w_gI (by omega) (by assumption) ?_ | refine w_gR (by omega) (by assumption) (by assumption) ?_ | refine w_al (by omega) (by assumption) (by assumption) ?_ | refine w_pI (by omega) (by assumption) ?_ | refine w_set (by omega) (by assumption) (by omega) (by omega) ?_ | refine w_at (by omega) (by assumption) (by omega) (by omega) ?_ | refine w_sI (by omega) (by assumption) (by omega) (by omega) ?_ | refine w_aI (by omega) (by assumption) (by omega) (by omega) ?_ | refine w_sZ (by omega) (by assumption) (by omega) (by omega) (by decide) ?_ | refine w_pZ (by omega) (by assumption) (by decide) ?_ | refine w_dv (by omega) (by omega) (by omega) (by omega) ?_ | refine w_rm (by omega) (by omega) (by omega) (by omega) ?_) | ((with_reducible refine w_pos ?_ ?_); focus (first | assumption | trivial | exact (ile (by omega) (by omega) (by omega) (by omega)).2 (by omega) | exact (ilt (by omega) (by omega) (by omega) (by omega)).2 (by omega) | exact (ieq (by omega) (by omega) (by omega) (by omega)).2 (by omega))) | ((with_reducible refine w_neg ?_ ?_); focus (first | assumption | exact not_false | trivial | exact mt (ile (by omega) (by omega) (by omega) (by omega)).1 (by omega) | exact mt (ilt (by omega) (by omega) (by omega) (by omega)).1 (by omega) | exact mt (ieq (by omega) (by omega) (by omega) (by omega)).1 (by omega)))); skip)
          refine hj12 _ ⟨_, _, rfl, ft_u hF3 (by omega), by rw [up_ne (by omega), f4, eE, h], by rw [up_ne (by omega), f6, hSS], by rw [up_eq, eK]; rfl, fun _ => ?_, fun h => by rw [eK] at h; omega⟩
          unfold tN
          rw [up_ne (by omega), hSS, eE, h, show s + m - s = m by omega]
          exact hV h6
        · rw [if_neg h6] at eK
          repeat ((first | (with_reducible first | refine w_ltA ?_ | refine w_ltS ?_ | refine w_ltM ?_ | refine w_ltN ?_ | refine w_lt ?_ | refine w_jn ?_ | refine w_ck (by omega) (by assumption) ?_ | refine w_gI (by omega) (by assumption) ?_ | refine w_gR (by omega) (by assumption) (by assumption) ?_ | refine w_al (by omega) (by assumption) (by assumption) ?_ | refine w_pI (by omega) (by assumption) ?_ | refine w_set (by omega) (by assumption) (by omega) (by omega) ?_ | refine w_at (by omega) (by assumption) (by omega) (by omega) ?_ | refine w_sI (by omega) (by assumption) (by omega) (by omega) ?_ | refine w_aI (by omega) (by assumption) (by omega) (by omega) ?_ | refine w_sZ (by omega) (by assumption) (by omega) (by omega) (by decide) ?_ | refine w_pZ (by omega) (by assumption) (by decide) ?_ | refine w_dv (by omega) (by omega) (by omega) (by omega) ?_ | refine w_rm (by omega) (by omega) (by omega) (by omega) ?_) | ((with_reducible refine w_pos ?_ ?_); focus (first | assumption | trivial | exact (ile (by omega) (by omega) (by omega) (by omega)).2 (by omega) | exact (ilt (by omega) (by omega) (by omega) (by omega)).2 (by omega) | exact (ieq (by omega) (by omega) (by omega) (by omega)).2 (by omega))) | ((with_reducible refine w_neg ?_ ?_); focus (first | assumption | exact not_false | trivial | exact mt (ile (by omega) (by omega) (by omega) (by omega)).1 (by omega) | exact mt (ilt (by omega) (by omega) (by omega) (by omega)).1 (by omega) | exact mt (ieq (by omega) (by omega) (by omega) (by omega)).1 (by omega)))); skip)
          refine hj12 _ ⟨_, _, rfl, ft_u hF3 (by omega), by rw [up_ne (by omega), f4, eE, h], by rw [up_ne (by omega), f6, hSS], by rw [up_eq, eK]; rfl, fun h => by rw [eK] at h; omega, fun h => by rw [eK] at h; omega⟩
      by_cases hlm : s + m < n
      · have hb3 := ht.2 _ hlm
        obtain ⟨d, hd⟩ : ∃ d, n - s - m = d + 1 := ⟨n - s - m - 1, by omega⟩
        rw [hd, skp_s] at hk3
        rw [if_pos hlm] at hse3 ⊢
        refine w_in (by omega) (by omega) (by omega) (fun hL2 => ?_) (fun hL2 => ?_)
        · rw [if_pos (show isD (T (s + m)) = true from decide_eq_true hL2)] at hk3
          refine w_neg (by decide) ?_
          refine w_jnP (fun x => m + 1 ≤ 6 → x = iI (dgV T s (m + 1))) ?_ ?_
          · intro x hxv
            repeat ((first | (with_reducible first | refine w_ltA ?_ | refine w_ltS ?_ | refine w_ltM ?_ | refine w_ltN ?_ | refine w_lt ?_ | refine w_jn ?_ | refine w_ck (by omega) (by assumption) ?_ | refine w_gI (by omega) (by assumption) ?_ | refine w_gR (by omega) (by assumption) (by assumption) ?_ | refine w_al (by omega) (by assumption) (by assumption) ?_ | refine w_pI (by omega) (by assumption) ?_ | refine w_set (by omega) (by assumption) (by omega) (by omega) ?_ | refine w_at (by omega) (by assumption) (by omega) (by omega) ?_ | refine w_sI (by omega) (by assumption) (by omega) (by omega) ?_ | refine w_aI (by omega) (by assumption) (by omega) (by omega) ?_ | refine w_sZ (by omega) (by assumption) (by omega) (by omega) (by decide) ?_ | refine w_pZ (by omega) (by assumption) (by decide) ?_ | refine w_dv (by omega) (by omega) (by omega) (by omega) ?_ | refine w_rm (by omega) (by omega) (by omega) (by omega) ?_) | ((with_reducible refine w_pos ?_ ?_); focus (first | assumption | trivial | exact (ile (by omega) (by omega) (by omega) (by omega)).2 (by omega) | exact (ilt (by omega) (by omega) (by omega) (by omega)).2 (by omega) | exact (ieq (by omega) (by omega) (by omega) (by omega)).2 (by omega))) | ((with_reducible refine w_neg ?_ ?_); focus (first | assumption | exact not_false | trivial | exact mt (ile (by omega) (by omega) (by omega) (by omega)).1 (by omega) | exact mt (ilt (by omega) (by omega) (by omega) (by omega)).1 (by omega) | exact mt (ieq (by omega) (by omega) (by omega) (by omega)).1 (by omega)))); try simp (disch := omega) only [up_ne, f4])
            refine ih _ ⟨by omega, _, rfl, ft_u (ft_u hF3 (by omega)) (by omega), ?_, ?_, ?_, fun h6 => ?_⟩
            · rw [up_eq, show ((s + m : Nat) : Int) + 1 = ((s + (m + 1) : Nat) : Int) by omega]
            · rw [up_ne (by omega), up_ne (by omega)]
              exact f6
            · rw [hk3, show n - s - (m + 1) = d by omega]
              rfl
            · rw [up_ne (by omega), up_eq]
              exact hxv h6
          · intro j26 hj26
            by_cases h6 : 6 ≤ m
            · skip
              repeat ((first | (with_reducible first | refine w_ltA ?_ | refine w_ltS ?_ | refine w_ltM ?_ | refine w_ltN ?_ | refine w_lt ?_ | refine w_jn ?_ | refine w_ck (by omega) (by assumption) ?_ | refine w_gI (by omega) (by assumption) ?_ | refine w_gR (by omega) (by assumption) (by assumption) ?_ | refine w_al (by omega) (by assumption) (by assumption) ?_ | refine w_pI (by omega) (by assumption) ?_ | refine w_set (by omega) (by assumption) (by omega) (by omega) ?_ | refine w_at (by omega) (by assumption) (by omega) (by omega) ?_ | refine w_sI (by omega) (by assumption) (by omega) (by omega) ?_ | refine w_aI (by omega) (by assumption) (by omega) (by omega) ?_ | refine w_sZ (by omega) (by assumption) (by omega) (by omega) (by decide) ?_ | refine w_pZ (by omega) (by assumption) (by decide) ?_ | refine w_dv (by omega) (by omega) (by omega) (by omega) ?_ | refine w_rm (by omega) (by omega) (by omega) (by omega) ?_) | ((with_reducible refine w_pos ?_ ?_); focus (first | assumption | trivial | exact (ile (by omega) (by omega) (by omega) (by omega)).2 (by omega) | exact (ilt (by omega) (by omega) (by omega) (by omega)).2 (by omega) | exact (ieq (by omega) (by omega) (by omega) (by omega)).2 (by omega))) | ((with_reducible refine w_neg ?_ ?_); focus (first | assumption | exact not_false | trivial | exact mt (ile (by omega) (by omega) (by omega) (by omega)).1 (by omega) | exact mt (ilt (by omega) (by omega) (by omega) (by omega)).1 (by omega) | exact mt (ieq (by omega) (by omega) (by omega) (by omega)).1 (by omega)))); skip)
              exact hj26 _ (fun h => by omega)
            · have hV6 := hV (by omega)
              repeat ((first | (with_reducible first | refine w_ltA ?_ | refine w_ltS ?_ | refine w_ltM ?_ | refine w_ltN ?_ | refine w_lt ?_ | refine w_jn ?_ | refine w_ck (by omega) (by assumption) ?_ | refine w_gI (by omega) (by assumption) ?_ | refine w_gR (by omega) (by assumption) (by assumption) ?_ | refine w_al (by omega) (by assumption) (by assumption) ?_ | refine w_pI (by omega) (by assumption) ?_ | refine w_set (by omega) (by assumption) (by omega) (by omega) ?_ | refine w_at (by omega) (by assumption) (by omega) (by omega) ?_ | refine w_sI (by omega) (by assumption) (by omega) (by omega) ?_ | refine w_aI (by omega) (by assumption) (by omega) (by omega) ?_ | refine w_sZ (by omega) (by assumption) (by omega) (by omega) (by decide) ?_ | refine w_pZ (by omega) (by assumption) (by decide) ?_ | refine w_dv (by omega) (by omega) (by omega) (by omega) ?_ | refine w_rm (by omega) (by omega) (by omega) (by omega) ?_) | ((with_reducible refine w_pos ?_ ?_); focus (first | assumption | trivial | exact (ile (by omega) (by omega) (by omega) (by omega)).2 (by omega) | exact (ilt (by omega) (by omega) (by omega) (by omega)).2 (by omega) | exact (ieq (by omega) (by omega) (by omega) (by omega)).2 (by omega))) | ((with_reducible refine w_neg ?_ ?_); focus (first | assumption | exact not_false | trivial | exact mt (ile (by omega) (by omega) (by omega) (by omega)).1 (by omega) | exact mt (ilt (by omega) (by omega) (by omega) (by omega)).1 (by omega) | exact mt (ieq (by omega) (by omega) (by omega) (by omega)).1 (by omega)))); try simp (disch := omega) only [hV6])
              refine w_cP hse3 ?_
              repeat ((first | (with_reducible first | refine w_ltA ?_ | refine w_ltS ?_ | refine w_ltM ?_ | refine w_ltN ?_ | refine w_lt ?_ | refine w_jn ?_ | refine w_ck (by omega) (by assumption) ?_ | refine w_gI (by omega) (by assumption) ?_ | refine w_gR (by omega) (by assumption) (by assumption) ?_ | refine w_al (by omega) (by assumption) (by assumption) ?_ | refine w_pI (by omega) (by assumption) ?_ | refine w_set (by omega) (by assumption) (by omega) (by omega) ?_ | refine w_at (by omega) (by assumption) (by omega) (by omega) ?_ | refine w_sI (by omega) (by assumption) (by omega) (by omega) ?_ | refine w_aI (by omega) (by assumption) (by omega) (by omega) ?_ | refine w_sZ (by omega) (by assumption) (by omega) (by omega) (by decide) ?_ | refine w_pZ (by omega) (by assumption) (by decide) ?_ | refine w_dv (by omega) (by omega) (by omega) (by omega) ?_ | refine w_rm (by omega) (by omega) (by omega) (by omega) ?_) | ((with_reducible refine w_pos ?_ ?_); focus (first | assumption | trivial | exact (ile (by omega) (by omega) (by omega) (by omega)).2 (by omega) | exact (ilt (by omega) (by omega) (by omega) (by omega)).2 (by omega) | exact (ieq (by omega) (by omega) (by omega) (by omega)).2 (by omega))) | ((with_reducible refine w_neg ?_ ?_); focus (first | assumption | exact not_false | trivial | exact mt (ile (by omega) (by omega) (by omega) (by omega)).1 (by omega) | exact mt (ilt (by omega) (by omega) (by omega) (by omega)).1 (by omega) | exact mt (ieq (by omega) (by omega) (by omega) (by omega)).1 (by omega)))); try simp (disch := omega) only [hV6])
              exact hj26 _ (fun _ => rfl)
        · rw [if_neg (show ¬ isD (T (s + m)) = true by rw [show isD (T (s + m)) = false from decide_eq_false hL2]; decide)] at hk3
          refine w_pos rfl ?_
          exact hlast hk3
      · rw [if_neg hlm]
        rw [show n - s - m = 0 by omega] at hk3
        refine w_in (by omega) (by omega) (by omega) (fun hL2 => by omega) (fun hL2 => ?_)
        refine w_pos rfl ?_
        exact hlast hk3
    have hd : ¬ isD (T s) = true := by
      rw [show isD (T s) = false from decide_eq_false hD]
      decide
    rw [if_neg hd] at eE eK
    refine w_pos rfl ?_
    by_cases h59 : T s = 59
    · rw [if_pos h59] at eK
      repeat ((first | (with_reducible first | refine w_ltA ?_ | refine w_ltS ?_ | refine w_ltM ?_ | refine w_ltN ?_ | refine w_lt ?_ | refine w_jn ?_ | refine w_ck (by omega) (by assumption) ?_ | refine w_gI (by omega) (by assumption) ?_ | refine w_gR (by omega) (by assumption) (by assumption) ?_ | refine w_al (by omega) (by assumption) (by assumption) ?_ | refine w_pI (by omega) (by assumption) ?_ | refine w_set (by omega) (by assumption) (by omega) (by omega) ?_ | refine w_at (by omega) (by assumption) (by omega) (by omega) ?_ | refine w_sI (by omega) (by assumption) (by omega) (by omega) ?_ | refine w_aI (by omega) (by assumption) (by omega) (by omega) ?_ | refine w_sZ (by omega) (by assumption) (by omega) (by omega) (by decide) ?_ | refine w_pZ (by omega) (by assumption) (by decide) ?_ | refine w_dv (by omega) (by omega) (by omega) (by omega) ?_ | refine w_rm (by omega) (by omega) (by omega) (by omega) ?_) | ((with_reducible refine w_pos ?_ ?_); focus (first | assumption | trivial | exact (ile (by omega) (by omega) (by omega) (by omega)).2 (by omega) | exact (ilt (by omega) (by omega) (by omega) (by omega)).2 (by omega) | exact (ieq (by omega) (by omega) (by omega) (by omega)).2 (by omega))) | ((with_reducible refine w_neg ?_ ?_); focus (first | assumption | exact not_false | trivial | exact mt (ile (by omega) (by omega) (by omega) (by omega)).1 (by omega) | exact mt (ilt (by omega) (by omega) (by omega) (by omega)).1 (by omega) | exact mt (ieq (by omega) (by omega) (by omega) (by omega)).1 (by omega)))); try simp (disch := omega) only [up_ne, g4])
      refine hj12 _ ⟨_, _, rfl, ft_u (ft_u hF2 (by omega)) (by omega), by rw [up_ne (by omega), up_eq, eE]; congr 1, by rw [up_ne (by omega), up_ne (by omega), g6, hSS], by rw [up_eq, eK]; rfl, fun h => by rw [eK] at h; omega, fun h => by rw [eK] at h; omega⟩
    · rw [if_neg h59] at eK
      repeat ((first | (with_reducible first | refine w_ltA ?_ | refine w_ltS ?_ | refine w_ltM ?_ | refine w_ltN ?_ | refine w_lt ?_ | refine w_jn ?_ | refine w_ck (by omega) (by assumption) ?_ | refine w_gI (by omega) (by assumption) ?_ | refine w_gR (by omega) (by assumption) (by assumption) ?_ | refine w_al (by omega) (by assumption) (by assumption) ?_ | refine w_pI (by omega) (by assumption) ?_ | refine w_set (by omega) (by assumption) (by omega) (by omega) ?_ | refine w_at (by omega) (by assumption) (by omega) (by omega) ?_ | refine w_sI (by omega) (by assumption) (by omega) (by omega) ?_ | refine w_aI (by omega) (by assumption) (by omega) (by omega) ?_ | refine w_sZ (by omega) (by assumption) (by omega) (by omega) (by decide) ?_ | refine w_pZ (by omega) (by assumption) (by decide) ?_ | refine w_dv (by omega) (by omega) (by omega) (by omega) ?_ | refine w_rm (by omega) (by omega) (by omega) (by omega) ?_) | ((with_reducible refine w_pos ?_ ?_); focus (first | assumption | trivial | exact (ile (by omega) (by omega) (by omega) (by omega)).2 (by omega) | exact (ilt (by omega) (by omega) (by omega) (by omega)).2 (by omega) | exact (ieq (by omega) (by omega) (by omega) (by omega)).2 (by omega))) | ((with_reducible refine w_neg ?_ ?_); focus (first | assumption | exact not_false | trivial | exact mt (ile (by omega) (by omega) (by omega) (by omega)).1 (by omega) | exact mt (ilt (by omega) (by omega) (by omega) (by omega)).1 (by omega) | exact mt (ieq (by omega) (by omega) (by omega) (by omega)).1 (by omega)))); try simp (disch := omega) only [up_ne, g4])
      refine hj12 _ ⟨_, _, rfl, ft_u (ft_u hF2 (by omega)) (by omega), by rw [up_ne (by omega), up_eq, eE]; congr 1, by rw [up_ne (by omega), up_ne (by omega), g6, hSS], by rw [up_eq, eK]; rfl, fun h => by rw [eK] at h; omega, fun h => by rw [eK] at h; omega⟩
  · have hS : tS T n i = i + j := by
      rw [show n - i - j = 0 by omega] at hk
      exact hk
    have eE : tE T n i = tS T n i := if_pos (by omega)
    have eK : tK T n i = 0 := if_pos (by omega)
    rw [if_neg hlt] at hse ⊢
    refine w_neg (by decide) ?_
    refine w_ck (by omega) k374 ?_
    refine w_cP hse ?_
    refine w_neg (by decide) ?_
    repeat ((first | (with_reducible first | refine w_ltA ?_ | refine w_ltS ?_ | refine w_ltM ?_ | refine w_ltN ?_ | refine w_lt ?_ | refine w_jn ?_ | refine w_ck (by omega) (by assumption) ?_ | refine w_gI (by omega) (by assumption) ?_ | refine w_gR (by omega) (by assumption) (by assumption) ?_ | refine w_al (by omega) (by assumption) (by assumption) ?_ | refine w_pI (by omega) (by assumption) ?_ | refine w_set (by omega) (by assumption) (by omega) (by omega) ?_ | refine w_at (by omega) (by assumption) (by omega) (by omega) ?_ | refine w_sI (by omega) (by assumption) (by omega) (by omega) ?_ | refine w_aI (by omega) (by assumption) (by omega) (by omega) ?_ | refine w_sZ (by omega) (by assumption) (by omega) (by omega) (by decide) ?_ | refine w_pZ (by omega) (by assumption) (by decide) ?_ | refine w_dv (by omega) (by omega) (by omega) (by omega) ?_ | refine w_rm (by omega) (by omega) (by omega) (by omega) ?_) | ((with_reducible refine w_pos ?_ ?_); focus (first | assumption | trivial | exact (ile (by omega) (by omega) (by omega) (by omega)).2 (by omega) | exact (ilt (by omega) (by omega) (by omega) (by omega)).2 (by omega) | exact (ieq (by omega) (by omega) (by omega) (by omega)).2 (by omega))) | ((with_reducible refine w_neg ?_ ?_); focus (first | assumption | exact not_false | trivial | exact mt (ile (by omega) (by omega) (by omega) (by omega)).1 (by omega) | exact mt (ilt (by omega) (by omega) (by omega) (by omega)).1 (by omega) | exact mt (ieq (by omega) (by omega) (by omega) (by omega)).1 (by omega)))); try simp (disch := omega) only [e1])
    have hse2 := see_Q (J := J) (I := up I1 373 6 (iI ((i + j : Nat) : Int))) (p := i + j) hR ((ft_u hF (by omega) : FT I _ J J).x hx) ht (by rw [up_ne (by omega)]; exact e1) (by omega)
    rw [if_neg hlt] at hse2
    refine w_cP hse2 ?_
    refine w_pJ (by omega) k374 ?_
    repeat ((first | (with_reducible first | refine w_ltA ?_ | refine w_ltS ?_ | refine w_ltM ?_ | refine w_ltN ?_ | refine w_lt ?_ | refine w_jn ?_ | refine w_ck (by omega) (by assumption) ?_ | refine w_gI (by omega) (by assumption) ?_ | refine w_gR (by omega) (by assumption) (by assumption) ?_ | refine w_al (by omega) (by assumption) (by assumption) ?_ | refine w_pI (by omega) (by assumption) ?_ | refine w_set (by omega) (by assumption) (by omega) (by omega) ?_ | refine w_at (by omega) (by assumption) (by omega) (by omega) ?_ | refine w_sI (by omega) (by assumption) (by omega) (by omega) ?_ | refine w_aI (by omega) (by assumption) (by omega) (by omega) ?_ | refine w_sZ (by omega) (by assumption) (by omega) (by omega) (by decide) ?_ | refine w_pZ (by omega) (by assumption) (by decide) ?_ | refine w_dv (by omega) (by omega) (by omega) (by omega) ?_ | refine w_rm (by omega) (by omega) (by omega) (by omega) ?_) | ((with_reducible refine w_pos ?_ ?_); focus (first | assumption | trivial | exact (ile (by omega) (by omega) (by omega) (by omega)).2 (by omega) | exact (ilt (by omega) (by omega) (by omega) (by omega)).2 (by omega) | exact (ieq (by omega) (by omega) (by omega) (by omega)).2 (by omega))) | ((with_reducible refine w_neg ?_ ?_); focus (first | assumption | exact not_false | trivial | exact mt (ile (by omega) (by omega) (by omega) (by omega)).1 (by omega) | exact mt (ilt (by omega) (by omega) (by omega) (by omega)).1 (by omega) | exact mt (ieq (by omega) (by omega) (by omega) (by omega)).1 (by omega)))); skip)
    refine w_rt ⟨_, _, rfl, ft_u (ft_j (ft_u hF (by omega))) (by omega), by rw [up_ne (by omega), up_ne (by omega), e1, eE, hS], by rw [up_ne (by omega), up_eq, hS], by rw [up_eq, eK]; rfl, fun h => by rw [eK] at h; omega, fun h => by rw [eK] at h; omega⟩
end LXQ
