/-! TEXTS: bytes told -/
def btN (q : Int64) (k : Nat) : Nat := q.toBitVec.toNat / 2 ^ (56 - 8 * k) % 256
def bt (q : Int64) (k : Nat) : Int := (btN q k : Nat)
theorem bt_b {q : Int64} {k : Nat} : 0 ≤ bt q k ∧ bt q k ≤ 255 := by
  unfold bt btN
  omega
theorem bv_255 {w : Nat} (x : BitVec w) (hw : 8 ≤ w) : (x &&& BitVec.ofNat w 255).toNat = x.toNat % 256 := by
  have h : 2 ^ 8 ≤ 2 ^ w := Nat.pow_le_pow_right (by omega) hw
  rw [BitVec.toNat_and, BitVec.toNat_ofNat, Nat.mod_eq_of_lt (by omega)]
  exact Nat.and_two_pow_sub_one_eq_mod x.toNat 8
theorem sh_c : ∀ k : Nat, k < 8 → ((Int32.toInt64 (iI (56 - 8 * (k : Int)))).toUInt64 &&& Int64.toUInt64 63) = UInt64.ofNat (56 - 8 * k) := by decide +kernel
theorem sh_q : ∀ k : Nat, k < 8 → (Int32.toInt64 (iI (56 - 8 * (k : Int))) &&& 63) = Int64.ofNat (56 - 8 * k) := by decide +kernel
theorem sh_m : ∀ k : Nat, k < 8 → ((Int64.ofNat (56 - 8 * k)).toBitVec.smod 64).toNat = 56 - 8 * k := by decide +kernel
theorem b255_64 : ∀ i, i < 64 → (BitVec.ofNat 64 255).getLsbD i = decide (i < 8) := by decide +kernel
theorem b255_32 : ∀ i, i < 32 → (BitVec.ofNat 32 255).getLsbD i = decide (i < 8) := by decide +kernel
theorem sar_and (x : BitVec 64) {s : Nat} (hs : s ≤ 56) : (x.sshiftRight s &&& BitVec.ofNat 64 255) = (x >>> s) &&& BitVec.ofNat 64 255 := by
  apply BitVec.eq_of_getLsbD_eq
  intro i hi
  rw [BitVec.getLsbD_and, BitVec.getLsbD_and, b255_64 i hi]
  by_cases h8 : i < 8
  · rw [BitVec.getLsbD_sshiftRight, BitVec.getLsbD_ushiftRight, if_pos (by omega)]
    have : decide (64 ≤ i) = false := decide_eq_false (by omega)
    rw [this]
    simp
  · rw [decide_eq_false h8, Bool.and_false, Bool.and_false]
theorem sar_mod (x : BitVec 64) {s : Nat} (hs : s ≤ 56) : (x.sshiftRight s).toNat % 256 = x.toNat / 2 ^ s % 256 := by
  have h := congrArg BitVec.toNat (sar_and x hs)
  rw [bv_255 _ (by omega), bv_255 _ (by omega), BitVec.toNat_ushiftRight, Nat.shiftRight_eq_div_pow] at h
  exact h
theorem nar_and (z : Int32) : (vp_nar .byte z) &&& iI 255 = z &&& iI 255 := by
  have e : vp_nar .byte z = z.toInt8.toInt32 := rfl
  rw [e]
  apply Int32.toBitVec.inj
  rw [Int32.toBitVec_and, Int32.toBitVec_and, Int8.toBitVec_toInt32, Int32.toBitVec_toInt8]
  have e2 : (iI 255).toBitVec = BitVec.ofNat 32 255 := rfl
  rw [e2]
  apply BitVec.eq_of_getLsbD_eq
  intro i hi
  rw [BitVec.getLsbD_and, BitVec.getLsbD_and, b255_32 i hi]
  by_cases h8 : i < 8
  · rw [BitVec.getLsbD_signExtend, BitVec.getLsbD_signExtend, if_pos h8, if_pos (by omega)]
    have h1 : decide (i < 32) = true := decide_eq_true hi
    have h2 : decide (i < 8) = true := decide_eq_true h8
    rw [h1, h2, Bool.true_and, Bool.true_and]
  · rw [decide_eq_false h8, Bool.and_false, Bool.and_false]
theorem i32_nat {x : Int32} {n : Nat} (hn : n < 4294967296) (h : x.toBitVec.toNat = n) : x = iI (n : Nat) := by
  rw [← iI_nI']
  apply Int32.toBitVec.inj
  apply BitVec.eq_of_toNat_eq
  have : (Int32.ofNat n).toBitVec.toNat = n % 2 ^ 32 := rfl
  rw [this, h]
  omega
theorem to32 (z : Int64) : (Int64.toInt32 z).toBitVec.toNat = z.toBitVec.toNat % 2 ^ 32 := by
  rw [Int64.toBitVec_toInt32, BitVec.signExtend_eq_setWidth_of_le _ (by omega), BitVec.toNat_setWidth]
theorem and64 (z : Int64) : (z &&& 255).toBitVec.toNat = z.toBitVec.toNat % 256 := by
  rw [Int64.toBitVec_and]
  exact bv_255 _ (by omega)
theorem byt_C (q : Int64) {k : Nat} (hk : k < 8) : Int64.toInt32 ((q.toUInt64 >>> ((Int32.toInt64 (iI (56 - 8 * (k : Int)))).toUInt64 &&& Int64.toUInt64 63)).toInt64 &&& 255) = iI (bt q k) := by
  rw [sh_c k hk]
  refine i32_nat (by unfold btN; omega) ?_
  rw [to32, and64]
  have e : (q.toUInt64 >>> UInt64.ofNat (56 - 8 * k)).toInt64.toBitVec.toNat = q.toBitVec.toNat / 2 ^ (56 - 8 * k) := by
    have e1 : (q.toUInt64 >>> UInt64.ofNat (56 - 8 * k)).toInt64.toBitVec.toNat = (q.toUInt64 >>> UInt64.ofNat (56 - 8 * k)).toNat := rfl
    rw [e1, UInt64.toNat_shiftRight, UInt64.toNat_ofNat', Nat.shiftRight_eq_div_pow]
    have e2 : q.toUInt64.toNat = q.toBitVec.toNat := rfl
    rw [e2, Nat.mod_eq_of_lt (show 56 - 8 * k < 2 ^ 64 by omega), Nat.mod_eq_of_lt (show 56 - 8 * k < 64 by omega)]
  rw [e]
  unfold btN
  omega
theorem sar_q (q : Int64) {k : Nat} (hk : k < 8) : (q >>> (Int32.toInt64 (iI (56 - 8 * (k : Int))) &&& 63)).toBitVec.toNat % 256 = btN q k := by
  rw [sh_q k hk, Int64.toBitVec_shiftRight]
  have e : q.toBitVec.sshiftRight' ((Int64.ofNat (56 - 8 * k)).toBitVec.smod 64) = q.toBitVec.sshiftRight (56 - 8 * k) := by
    unfold BitVec.sshiftRight'
    rw [sh_m k hk]
  rw [e]
  exact sar_mod _ (by omega)
theorem byt_0 (q : Int64) {k : Nat} (hk : k < 8) : (lg_cmp ((q >>> (Int32.toInt64 (iI (56 - 8 * (k : Int))) &&& 63)) &&& 255) 0 = iI 0) ↔ bt q k = 0 := by
  rw [lg_0]
  have h := and64 (q >>> (Int32.toInt64 (iI (56 - 8 * (k : Int))) &&& 63))
  rw [sar_q q hk] at h
  have e : bt q k = (btN q k : Nat) := rfl
  constructor
  · intro h0
    rw [h0] at h
    have : (0 : Int64).toBitVec.toNat = 0 := rfl
    omega
  · intro h0
    apply Int64.toBitVec.inj
    apply BitVec.eq_of_toNat_eq
    rw [h]
    have : (0 : Int64).toBitVec.toNat = 0 := rfl
    omega
theorem byt_Q (q : Int64) {k : Nat} (hk : k < 8) : vp_nar .byte ((Int32.toInt8 (Int64.toInt32 (q >>> (Int32.toInt64 (iI (56 - 8 * (k : Int))) &&& 63)))).toInt32) &&& iI 255 = iI (bt q k) := by
  rw [nar_and]
  have e : (Int32.toInt8 (Int64.toInt32 (q >>> (Int32.toInt64 (iI (56 - 8 * (k : Int))) &&& 63)))).toInt32 = vp_nar .byte (Int64.toInt32 (q >>> (Int32.toInt64 (iI (56 - 8 * (k : Int))) &&& 63))) := rfl
  rw [e, nar_and]
  refine i32_nat (by unfold btN; omega) ?_
  rw [Int32.toBitVec_and]
  have e2 : (iI 255).toBitVec = BitVec.ofNat 32 255 := rfl
  rw [e2, bv_255 _ (by omega), to32]
  have h := sar_q q hk
  omega
/-- how many bytes come -/
def tlF (q : Int64) : Nat → Nat → Nat
  | 0, k => k
  | d + 1, k => if bt q k = 0 then k else tlF q d (k + 1)
def tlN (q : Int64) : Nat := tlF q 8 0
theorem tlF_b {q : Int64} : ∀ (d k : Nat), k ≤ tlF q d k ∧ tlF q d k ≤ k + d
  | 0, k => ⟨Nat.le_refl _, Nat.le_refl _⟩
  | d + 1, k => by
    have := tlF_b (q := q) d (k + 1)
    unfold tlF
    split <;> omega
def telT (T : TX) (n : Nat) (q : Int64) : TX := fun i => if i < n then T i else bt q (i - n)
def telA (n : Nat) (q : Int64) : Int := if tlN q ≤ 400 - n then ((n + tlN q : Nat) : Int) else -1
def telN (n : Nat) (q : Int64) : Nat := if tlN q ≤ 400 - n then n + tlN q else n
theorem tel_ok {T : TX} {n : Nat} {q : Int64} (ht : Tok T n) : Tok (telT T n q) (telN n q) := by
  unfold telN
  by_cases h : tlN q ≤ 400 - n
  · rw [if_pos h]
    have := ht.1
    refine ⟨by omega, fun i hi => ?_⟩
    unfold telT
    by_cases c : i < n
    · rw [if_pos c]
      exact ht.2 i c
    · rw [if_neg c]
      exact bt_b
  · rw [if_neg h]
    refine ⟨ht.1, fun i hi => ?_⟩
    unfold telT
    rw [if_pos hi]
    exact ht.2 i hi
section TEL
variable {I : MI} {J : MJ} {R : MR} {α γ : Type} {Q : γ → Prop} {T : TX} {n : Nat} {q : Int64} {S : St}
theorem byteOf_C {k : Nat} (hk : k < 8) : f_X6_byteOf S 143 q (iI (k : Nat)) = some (iI (bt q k)) := by
  refine en_eq ?_
  rw [u_X6_byteOf]
  repeat ((first | (with_reducible first | refine w_ltA ?_ | refine w_ltS ?_ | refine w_ltM ?_ | refine w_ltN ?_ | refine w_lt ?_ | refine w_jn ?_ | refine w_ck (by omega) (by assumption) ?_ | refine w_gI (by omega) (by assumption) ?_ | refine w_gR (by omega) (by assumption) (by assumption) ?_ | refine w_al (by omega) (by assumption) (by assumption) ?_ | refine w_pI (by omega) (by assumption) ?_ | refine w_set (by omega) (by assumption) (by omega) (by omega) ?_ | refine w_at (by omega) (by assumption) (by omega) (by omega) ?_ | refine w_sI (by omega) (by assumption) (by omega) (by omega) ?_ | refine w_aI (by omega) (by assumption) (by omega) (by omega) ?_ | refine w_sZ (by omega) (by assumption) (by omega) (by omega) (by decide) ?_ | refine w_pZ (by omega) (by assumption) (by decide) ?_ | refine w_dv (by omega) (by omega) (by omega) (by omega) ?_ | refine w_rm (by omega) (by omega) (by omega) (by omega) ?_) | ((with_reducible refine w_pos ?_ ?_); focus (first | assumption | trivial | exact (ile (by omega) (by omega) (by omega) (by omega)).2 (by omega) | exact (ilt (by omega) (by omega) (by omega) (by omega)).2 (by omega) | exact (ieq (by omega) (by omega) (by omega) (by omega)).2 (by omega))) | ((with_reducible refine w_neg ?_ ?_); focus (first | assumption | exact not_false | trivial | exact mt (ile (by omega) (by omega) (by omega) (by omega)).1 (by omega) | exact mt (ilt (by omega) (by omega) (by omega) (by omega)).1 (by omega) | exact mt (ieq (by omega) (by omega) (by omega) (by omega)).1 (by omega)))); skip)
  refine w_rt ?_
  exact byt_C q hk
theorem tell_X (hRC : RC R) (hx : TXC I T n) (ht : Tok T n) : En (fun y => y.1 = iI (telA n q) ∧ ∃ I', y.2 = (381, I', J, R) ∧ (∀ a k, a ≠ 144 → ¬ (a = 143 ∧ k = 1) → I' a k = I a k) ∧ TXC I' (telT T n q) (telN n q)) (f_X8_tell (381, I, J, R) 0 q) := by
  have k0 := kd_0
  have k143 := kd_143
  have k144 := kd_144
  have l144 := ln_144
  obtain ⟨-, -, r2, -, -, -, r143, -⟩ := id hRC
  have hn4 := ht.1
  have e1 := hx.1
  have htl := tlF_b (q := q) 8 0
  have htl : 0 ≤ tlN q ∧ tlN q ≤ 0 + 8 := htl
  rw [u_X8_tell]
  repeat ((first | (with_reducible first | refine w_ltA ?_ | refine w_ltS ?_ | refine w_ltM ?_ | refine w_ltN ?_ | refine w_lt ?_ | refine w_jn ?_ | refine w_ck (by omega) (by assumption) ?_ | refine w_gI (by omega) (by assumption) ?_ | refine w_gR (by omega) (by assumption) (by assumption) ?_ | refine w_al (by omega) (by assumption) (by assumption) ?_ | refine w_pI (by omega) (by assumption) ?_ | refine w_set (by omega) (by assumption) (by omega) (by omega) ?_ | refine w_at (by omega) (by assumption) (by omega) (by omega) ?_ | refine w_sI (by omega) (by assumption) (by omega) (by omega) ?_ | refine w_aI (by omega) (by assumption) (by omega) (by omega) ?_ | refine w_sZ (by omega) (by assumption) (by omega) (by omega) (by decide) ?_ | refine w_pZ (by omega) (by assumption) (by decide) ?_ | refine w_dv (by omega) (by omega) (by omega) (by omega) ?_ | refine w_rm (by omega) (by omega) (by omega) (by omega) ?_) | ((with_reducible refine w_pos ?_ ?_); focus (first | assumption | trivial | exact (ile (by omega) (by omega) (by omega) (by omega)).2 (by omega) | exact (ilt (by omega) (by omega) (by omega) (by omega)).2 (by omega) | exact (ieq (by omega) (by omega) (by omega) (by omega)).2 (by omega))) | ((with_reducible refine w_neg ?_ ?_); focus (first | assumption | exact not_false | trivial | exact mt (ile (by omega) (by omega) (by omega) (by omega)).1 (by omega) | exact mt (ilt (by omega) (by omega) (by omega) (by omega)).1 (by omega) | exact mt (ieq (by omega) (by omega) (by omega) (by omega)).1 (by omega)))); skip)
  refine w_cI (Q' := fun y => y.1 = iI (telA n q) ∧ ∃ I', y.2 = (381, I', J, R) ∧ (∀ a k, a ≠ 144 → ¬ (a = 143 ∧ k = 1) → I' a k = I a k) ∧ TXC I' (telT T n q) (telN n q)) ?_ ?_
  · rw [u_X6_append]
    refine w_lp 8 (fun j y => j ≤ 8 ∧ y = iI (j : Int) ∧ tlN q = tlF q (8 - j) j) ⟨by omega, rfl, rfl⟩ (by rw [FU_eq]; omega) (fun i y h => h.1) ?_
    rintro j y self ⟨hj, rfl, hk⟩ ih
    try dsimp only
    refine w_jnP (fun _ => tlN q = j) ?_ ?_
    · intro _ hm
      refine w_gI (by omega) k143 ?_
      rw [e1]
      by_cases hfit : tlN q ≤ 400 - n
      · have eA : telA n q = ((n + tlN q : Nat) : Int) := if_pos hfit
        have eN : telN n q = n + tlN q := if_pos hfit
        rw [eA, eN]
        repeat ((first | (with_reducible first | refine w_ltA ?_ | refine w_ltS ?_ | refine w_ltM ?_ | refine w_ltN ?_ | refine w_lt ?_ | refine w_jn ?_ | refine w_ck (by omega) (by assumption) ?_ | refine w_gI (by omega) (by assumption) ?_ | refine w_gR (by omega) (by assumption) (by assumption) ?_ | refine w_al (by omega) (by assumption) (by assumption) ?_ | refine w_pI (by omega) (by assumption) ?_ | refine w_set (by omega) (by assumption) (by omega) (by omega) ?_ | refine w_at (by omega) (by assumption) (by omega) (by omega) ?_ | refine w_sI (by omega) (by assumption) (by omega) (by omega) ?_ | refine w_aI (by omega) (by assumption) (by omega) (by omega) ?_ | refine w_sZ (by omega) (by assumption) (by omega) (by omega) (by decide) ?_ | refine w_pZ (by omega) (by assumption) (by decide) ?_ | refine w_dv (by omega) (by omega) (by omega) (by omega) ?_ | refine w_rm (by omega) (by omega) (by omega) (by omega) ?_) | ((with_reducible refine w_pos ?_ ?_); focus (first | assumption | trivial | exact (ile (by omega) (by omega) (by omega) (by omega)).2 (by omega) | exact (ilt (by omega) (by omega) (by omega) (by omega)).2 (by omega) | exact (ieq (by omega) (by omega) (by omega) (by omega)).2 (by omega))) | ((with_reducible refine w_neg ?_ ?_); focus (first | assumption | exact not_false | trivial | exact mt (ile (by omega) (by omega) (by omega) (by omega)).1 (by omega) | exact mt (ilt (by omega) (by omega) (by omega) (by omega)).1 (by omega) | exact mt (ieq (by omega) (by omega) (by omega) (by omega)).1 (by omega)))); skip)
        refine w_lp j (fun i y => i ≤ j ∧ ∃ I', y = (iI (i : Int), (381, I', J, R)) ∧ (∀ a k, a ≠ 144 → I' a k = I a k) ∧ (∀ k, k < n → I' 144 k = I 144 k) ∧ ∀ k, k < i → I' 144 (n + k) = iI (bt q k)) ⟨by omega, I, rfl, fun _ _ _ => rfl, fun _ _ => rfl, fun k hk => by omega⟩ (by rw [FU_eq]; omega) (fun i y h => h.1) ?_
        rintro i y self2 ⟨hi, I1, rfl, f1, f2, f3⟩ ih2
        try dsimp only
        have g1 : I1 143 1 = iI (n : Nat) := (f1 _ _ (by omega)).trans e1
        by_cases hlt : i < j
        · skip
          repeat ((first | (with_reducible first | refine w_ltA ?_ | refine w_ltS ?_ | refine w_ltM ?_ | refine w_ltN ?_ | refine w_lt ?_ | refine w_jn ?_ | refine w_ck (by omega) (by assumption) ?_ | refine w_gI (by omega) (by assumption) ?_ | refine w_gR (by omega) (by assumption) (by assumption) ?_ | refine w_al (by omega) (by assumption) (by assumption) ?_ | refine w_pI (by omega) (by assumption) ?_ | refine w_set (by omega) (by assumption) (by omega) (by omega) ?_ | refine w_at (by omega) (by assumption) (by omega) (by omega) ?_ | refine w_sI (by omega) (by assumption) (by omega) (by omega) ?_ | refine w_aI (by omega) (by assumption) (by omega) (by omega) ?_ | refine w_sZ (by omega) (by assumption) (by omega) (by omega) (by decide) ?_ | refine w_pZ (by omega) (by assumption) (by decide) ?_ | refine w_dv (by omega) (by omega) (by omega) (by omega) ?_ | refine w_rm (by omega) (by omega) (by omega) (by omega) ?_) | ((with_reducible refine w_pos ?_ ?_); focus (first | assumption | trivial | exact (ile (by omega) (by omega) (by omega) (by omega)).2 (by omega) | exact (ilt (by omega) (by omega) (by omega) (by omega)).2 (by omega) | exact (ieq (by omega) (by omega) (by omega) (by omega)).2 (by omega))) | ((with_reducible refine w_neg ?_ ?_); focus (first | assumption | exact not_false | trivial | exact mt (ile (by omega) (by omega) (by omega) (by omega)).1 (by omega) | exact mt (ilt (by omega) (by omega) (by omega) (by omega)).1 (by omega) | exact mt (ieq (by omega) (by omega) (by omega) (by omega)).1 (by omega)))); try simp (disch := omega) only [g1])
          refine w_cP (byteOf_C (q := q) (k := i) (by omega)) ?_
          repeat ((first | (with_reducible first | refine w_ltA ?_ | refine w_ltS ?_ | refine w_ltM ?_ | refine w_ltN ?_ | refine w_lt ?_ | refine w_jn ?_ | refine w_ck (by omega) (by assumption) ?_ | refine w_gI (by omega) (by assumption) ?_ | refine w_gR (by omega) (by assumption) (by assumption) ?_ | refine w_al (by omega) (by assumption) (by assumption) ?_ | refine w_pI (by omega) (by assumption) ?_ | refine w_set (by omega) (by assumption) (by omega) (by omega) ?_ | refine w_at (by omega) (by assumption) (by omega) (by omega) ?_ | refine w_sI (by omega) (by assumption) (by omega) (by omega) ?_ | refine w_aI (by omega) (by assumption) (by omega) (by omega) ?_ | refine w_sZ (by omega) (by assumption) (by omega) (by omega) (by decide) ?_ | refine w_pZ (by omega) (by assumption) (by decide) ?_ | refine w_dv (by omega) (by omega) (by omega) (by omega) ?_ | refine w_rm (by omega) (by omega) (by omega) (by omega) ?_) | ((with_reducible refine w_pos ?_ ?_); focus (first | assumption | trivial | exact (ile (by omega) (by omega) (by omega) (by omega)).2 (by omega) | exact (ilt (by omega) (by omega) (by omega) (by omega)).2 (by omega) | exact (ieq (by omega) (by omega) (by omega) (by omega)).2 (by omega))) | ((with_reducible refine w_neg ?_ ?_); focus (first | assumption | exact not_false | trivial | exact mt (ile (by omega) (by omega) (by omega) (by omega)).1 (by omega) | exact mt (ilt (by omega) (by omega) (by omega) (by omega)).1 (by omega) | exact mt (ieq (by omega) (by omega) (by omega) (by omega)).1 (by omega)))); try simp (disch := omega) only [g1])
          rw [show ((n : Int) + i).toNat = n + i by omega, show (i : Int) + 1 = ((i + 1 : Nat) : Int) by omega]
          refine ih2 _ ⟨by omega, _, rfl, fun a k ha => ?_, fun k hk => ?_, fun k hk => ?_⟩
          · rw [up_ne (by omega)]
            exact f1 a k ha
          · rw [up_ne (by omega)]
            exact f2 k hk
          · by_cases c : k = i
            · rw [c, up_eq]
            · rw [up_ne (by omega)]
              exact f3 k (by omega)
        · skip
          repeat ((first | (with_reducible first | refine w_ltA ?_ | refine w_ltS ?_ | refine w_ltM ?_ | refine w_ltN ?_ | refine w_lt ?_ | refine w_jn ?_ | refine w_ck (by omega) (by assumption) ?_ | refine w_gI (by omega) (by assumption) ?_ | refine w_gR (by omega) (by assumption) (by assumption) ?_ | refine w_al (by omega) (by assumption) (by assumption) ?_ | refine w_pI (by omega) (by assumption) ?_ | refine w_set (by omega) (by assumption) (by omega) (by omega) ?_ | refine w_at (by omega) (by assumption) (by omega) (by omega) ?_ | refine w_sI (by omega) (by assumption) (by omega) (by omega) ?_ | refine w_aI (by omega) (by assumption) (by omega) (by omega) ?_ | refine w_sZ (by omega) (by assumption) (by omega) (by omega) (by decide) ?_ | refine w_pZ (by omega) (by assumption) (by decide) ?_ | refine w_dv (by omega) (by omega) (by omega) (by omega) ?_ | refine w_rm (by omega) (by omega) (by omega) (by omega) ?_) | ((with_reducible refine w_pos ?_ ?_); focus (first | assumption | trivial | exact (ile (by omega) (by omega) (by omega) (by omega)).2 (by omega) | exact (ilt (by omega) (by omega) (by omega) (by omega)).2 (by omega) | exact (ieq (by omega) (by omega) (by omega) (by omega)).2 (by omega))) | ((with_reducible refine w_neg ?_ ?_); focus (first | assumption | exact not_false | trivial | exact mt (ile (by omega) (by omega) (by omega) (by omega)).1 (by omega) | exact mt (ilt (by omega) (by omega) (by omega) (by omega)).1 (by omega) | exact mt (ieq (by omega) (by omega) (by omega) (by omega)).1 (by omega)))); try simp (disch := omega) only [g1, up_eq])
          rw [show (n : Int) + j = ((n + tlN q : Nat) : Int) by omega]
          refine w_rt ⟨rfl, _, rfl, fun a k a1 a2 => ?_, up_eq _ _ _ _, fun i hi => ?_⟩
          · rw [up_ne (by omega)]
            exact f1 a k a1
          · rw [up_ne (by omega)]
            unfold telT
            by_cases c : i < n
            · rw [if_pos c, f2 i c]
              exact hx.2 i c
            · have := f3 (i - n) (by omega)
              rw [show n + (i - n) = i by omega] at this
              rw [if_neg c]
              exact this
      · have eA : telA n q = -1 := if_neg hfit
        have eN : telN n q = n := if_neg hfit
        rw [eA, eN]
        repeat ((first | (with_reducible first | refine w_ltA ?_ | refine w_ltS ?_ | refine w_ltM ?_ | refine w_ltN ?_ | refine w_lt ?_ | refine w_jn ?_ | refine w_ck (by omega) (by assumption) ?_ | refine w_gI (by omega) (by assumption) ?_ | refine w_gR (by omega) (by assumption) (by assumption) ?_ | refine w_al (by omega) (by assumption) (by assumption) ?_ | refine w_pI (by omega) (by assumption) ?_ | refine w_set (by omega) (by assumption) (by omega) (by omega) ?_ | refine w_at (by omega) (by assumption) (by omega) (by omega) ?_ | refine w_sI (by omega) (by assumption) (by omega) (by omega) ?_ | refine w_aI (by omega) (by assumption) (by omega) (by omega) ?_ | refine w_sZ (by omega) (by assumption) (by omega) (by omega) (by decide) ?_ | refine w_pZ (by omega) (by assumption) (by decide) ?_ | refine w_dv (by omega) (by omega) (by omega) (by omega) ?_ | refine w_rm (by omega) (by omega) (by omega) (by omega) ?_) | ((with_reducible refine w_pos ?_ ?_); focus (first | assumption | trivial | exact (ile (by omega) (by omega) (by omega) (by omega)).2 (by omega) | exact (ilt (by omega) (by omega) (by omega) (by omega)).2 (by omega) | exact (ieq (by omega) (by omega) (by omega) (by omega)).2 (by omega))) | ((with_reducible refine w_neg ?_ ?_); focus (first | assumption | exact not_false | trivial | exact mt (ile (by omega) (by omega) (by omega) (by omega)).1 (by omega) | exact mt (ilt (by omega) (by omega) (by omega) (by omega)).1 (by omega) | exact mt (ieq (by omega) (by omega) (by omega) (by omega)).1 (by omega)))); try simp (disch := omega) only [g1, up_eq])
        refine w_rt ⟨rfl, I, rfl, fun _ _ _ _ => rfl, e1, fun i hi => ?_⟩
        unfold telT
        rw [if_pos hi]
        exact hx.2 i hi
    · intro j2 hj2
      by_cases h8 : j < 8
      · obtain ⟨d, hd⟩ : ∃ d, 8 - j = d + 1 := ⟨7 - j, by omega⟩
        have e : tlF q (d + 1) j = if bt q j = 0 then j else tlF q d (j + 1) := rfl
        have hbb := bt_b (q := q) (k := j)
        rw [hd, e] at hk
        repeat ((first | (with_reducible first | refine w_ltA ?_ | refine w_ltS ?_ | refine w_ltM ?_ | refine w_ltN ?_ | refine w_lt ?_ | refine w_jn ?_ | refine w_ck (by omega) (by assumption) ?_ | refine w_gI (by omega) (by assumption) ?_ | refine w_gR (by omega) (by assumption) (by assumption) ?_ | refine w_al (by omega) (by assumption) (by assumption) ?_ | refine w_pI (by omega) (by assumption) ?_ | refine w_set (by omega) (by assumption) (by omega) (by omega) ?_ | refine w_at (by omega) (by assumption) (by omega) (by omega) ?_ | refine w_sI (by omega) (by assumption) (by omega) (by omega) ?_ | refine w_aI (by omega) (by assumption) (by omega) (by omega) ?_ | refine w_sZ (by omega) (by assumption) (by omega) (by omega) (by decide) ?_ | refine w_pZ (by omega) (by assumption) (by decide) ?_ | refine w_dv (by omega) (by omega) (by omega) (by omega) ?_ | refine w_rm (by omega) (by omega) (by omega) (by omega) ?_) | ((with_reducible refine w_pos ?_ ?_); focus (first | assumption | trivial | exact (ile (by omega) (by omega) (by omega) (by omega)).2 (by omega) | exact (ilt (by omega) (by omega) (by omega) (by omega)).2 (by omega) | exact (ieq (by omega) (by omega) (by omega) (by omega)).2 (by omega))) | ((with_reducible refine w_neg ?_ ?_); focus (first | assumption | exact not_false | trivial | exact mt (ile (by omega) (by omega) (by omega) (by omega)).1 (by omega) | exact mt (ilt (by omega) (by omega) (by omega) (by omega)).1 (by omega) | exact mt (ieq (by omega) (by omega) (by omega) (by omega)).1 (by omega)))); skip)
        refine w_cP (byteOf_C (q := q) (k := j) h8) ?_
        by_cases hz : bt q j = 0
        · rw [if_pos hz] at hk
          repeat ((first | (with_reducible first | refine w_ltA ?_ | refine w_ltS ?_ | refine w_ltM ?_ | refine w_ltN ?_ | refine w_lt ?_ | refine w_jn ?_ | refine w_ck (by omega) (by assumption) ?_ | refine w_gI (by omega) (by assumption) ?_ | refine w_gR (by omega) (by assumption) (by assumption) ?_ | refine w_al (by omega) (by assumption) (by assumption) ?_ | refine w_pI (by omega) (by assumption) ?_ | refine w_set (by omega) (by assumption) (by omega) (by omega) ?_ | refine w_at (by omega) (by assumption) (by omega) (by omega) ?_ | refine w_sI (by omega) (by assumption) (by omega) (by omega) ?_ | refine w_aI (by omega) (by assumption) (by omega) (by omega) ?_ | refine w_sZ (by omega) (by assumption) (by omega) (by omega) (by decide) ?_ | refine w_pZ (by omega) (by assumption) (by decide) ?_ | refine w_dv (by omega) (by omega) (by omega) (by omega) ?_ | refine w_rm (by omega) (by omega) (by omega) (by omega) ?_) | ((with_reducible refine w_pos ?_ ?_); focus (first | assumption | trivial | exact (ile (by omega) (by omega) (by omega) (by omega)).2 (by omega) | exact (ilt (by omega) (by omega) (by omega) (by omega)).2 (by omega) | exact (ieq (by omega) (by omega) (by omega) (by omega)).2 (by omega))) | ((with_reducible refine w_neg ?_ ?_); focus (first | assumption | exact not_false | trivial | exact mt (ile (by omega) (by omega) (by omega) (by omega)).1 (by omega) | exact mt (ilt (by omega) (by omega) (by omega) (by omega)).1 (by omega) | exact mt (ieq (by omega) (by omega) (by omega) (by omega)).1 (by omega)))); skip)
          exact hj2 _ hk
        · rw [if_neg hz] at hk
          repeat ((first | (with_reducible first | refine w_ltA ?_ | refine w_ltS ?_ | refine w_ltM ?_ | refine w_ltN ?_ | refine w_lt ?_ | refine w_jn ?_ | refine w_ck (by omega) (by assumption) ?_ | refine w_gI (by omega) (by assumption) ?_ | refine w_gR (by omega) (by assumption) (by assumption) ?_ | refine w_al (by omega) (by assumption) (by assumption) ?_ | refine w_pI (by omega) (by assumption) ?_ | refine w_set (by omega) (by assumption) (by omega) (by omega) ?_ | refine w_at (by omega) (by assumption) (by omega) (by omega) ?_ | refine w_sI (by omega) (by assumption) (by omega) (by omega) ?_ | refine w_aI (by omega) (by assumption) (by omega) (by omega) ?_ | refine w_sZ (by omega) (by assumption) (by omega) (by omega) (by decide) ?_ | refine w_pZ (by omega) (by assumption) (by decide) ?_ | refine w_dv (by omega) (by omega) (by omega) (by omega) ?_ | refine w_rm (by omega) (by omega) (by omega) (by omega) ?_) | ((with_reducible refine w_pos ?_ ?_); focus (first | assumption | trivial | exact (ile (by omega) (by omega) (by omega) (by omega)).2 (by omega) | exact (ilt (by omega) (by omega) (by omega) (by omega)).2 (by omega) | exact (ieq (by omega) (by omega) (by omega) (by omega)).2 (by omega))) | ((with_reducible refine w_neg ?_ ?_); focus (first | assumption | exact not_false | trivial | exact mt (ile (by omega) (by omega) (by omega) (by omega)).1 (by omega) | exact mt (ilt (by omega) (by omega) (by omega) (by omega)).1 (by omega) | exact mt (ieq (by omega) (by omega) (by omega) (by omega)).1 (by omega)))); skip)
          rw [show (j : Int) + 1 = ((j + 1 : Nat) : Int) by omega]
          exact ih _ ⟨by omega, rfl, by rw [hk, show 8 - (j + 1) = d by omega]⟩
      · rw [show 8 - j = 0 by omega] at hk
        repeat ((first | (with_reducible first | refine w_ltA ?_ | refine w_ltS ?_ | refine w_ltM ?_ | refine w_ltN ?_ | refine w_lt ?_ | refine w_jn ?_ | refine w_ck (by omega) (by assumption) ?_ | refine w_gI (by omega) (by assumption) ?_ | refine w_gR (by omega) (by assumption) (by assumption) ?_ | refine w_al (by omega) (by assumption) (by assumption) ?_ | refine w_pI (by omega) (by assumption) ?_ | refine w_set (by omega) (by assumption) (by omega) (by omega) ?_ | refine w_at (by omega) (by assumption) (by omega) (by omega) ?_ | refine w_sI (by omega) (by assumption) (by omega) (by omega) ?_ | refine w_aI (by omega) (by assumption) (by omega) (by omega) ?_ | refine w_sZ (by omega) (by assumption) (by omega) (by omega) (by decide) ?_ | refine w_pZ (by omega) (by assumption) (by decide) ?_ | refine w_dv (by omega) (by omega) (by omega) (by omega) ?_ | refine w_rm (by omega) (by omega) (by omega) (by omega) ?_) | ((with_reducible refine w_pos ?_ ?_); focus (first | assumption | trivial | exact (ile (by omega) (by omega) (by omega) (by omega)).2 (by omega) | exact (ilt (by omega) (by omega) (by omega) (by omega)).2 (by omega) | exact (ieq (by omega) (by omega) (by omega) (by omega)).2 (by omega))) | ((with_reducible refine w_neg ?_ ?_); focus (first | assumption | exact not_false | trivial | exact mt (ile (by omega) (by omega) (by omega) (by omega)).1 (by omega) | exact mt (ilt (by omega) (by omega) (by omega) (by omega)).1 (by omega) | exact mt (ieq (by omega) (by omega) (by omega) (by omega)).1 (by omega)))); skip)
        exact hj2 _ hk
  · rintro v S h
    exact w_rt h
theorem w_sB {K : St → Option γ} {e : Nat} {y : Int32} {i : Int} (h1 : e < 381) (h2 : kd e = 10) (h3 : 0 ≤ i) (h4 : i < ln e) (h : En Q (K (381, up I e i.toNat (vp_nar .byte y), J, R))) : En Q (sB_ (381, I, J, R) e (iI i) y K) := by
  have := ln_big e
  have e1 : sB_ (381, I, J, R) e (iI i) y K = K (381, up I e i.toNat (vp_nar .byte y), J, R) := by
    unfold sB_
    rw [if_pos ⟨⟨h1, h2⟩, ix_ok h3 h4 this⟩, iI_nat ⟨by omega, by omega⟩]
    rfl
  rw [e1]
  exact h
set_option maxHeartbeats 8000000 in
theorem tell_Y (hR : RQ R) (hx : I 374 985 = iI (n : Nat) ∧ ∀ i, i < n → I 375 i &&& iI 255 = iI (T i)) (ht : Tok T n) : En (fun y => y.1 = iI (telA n q) ∧ ∃ I', y.2 = (381, I', J, R) ∧ (∀ a k, a ≠ 373 → ¬ (a = 375 ∧ k < 400) → ¬ (a = 374 ∧ k = 985) → I' a k = I a k) ∧ I' 374 985 = iI (telN n q : Nat) ∧ ∀ i, i < telN n q → I' 375 i &&& iI 255 = iI (telT T n q i)) (f_X9_tell (381, I, J, R) 373 q) := by
  have k374 := kd_374
  have k375 := kd_375
  have l375 := ln_375
  have k376 := kd_376
  have l376 := ln_376
  obtain ⟨rq1, rq2, -⟩ := id hR
  have hn4 := ht.1
  obtain ⟨e1, e2⟩ := hx
  have htl := tlF_b (q := q) 8 0
  have htl : 0 ≤ tlN q ∧ tlN q ≤ 0 + 8 := htl
  have hF0 : F374 I (up I 373 0 (iI 0)) := f374_u f374_r
  rw [u_X9_tell]
  refine w_pI (by omega) k374 ?_
  generalize up I 373 0 (iI 0) = I0 at *
  have g985 : I0 374 (Int.toNat 985) = iI (n : Nat) := (hF0 374 985 (by omega)).trans e1
  refine w_lp 8 (fun j y => j ≤ 8 ∧ y = iI (j : Int) ∧ tlN q = tlF q (8 - j) j) ⟨by omega, rfl, rfl⟩ (by rw [FU_eq]; omega) (fun i y h => h.1) ?_
  rintro j y self ⟨hj, rfl, hk⟩ ih
  try dsimp only
  refine w_jnP (fun _ => tlN q = j) ?_ ?_
  · intro _ hm
    by_cases hfit : tlN q ≤ 400 - n
    · have eA : telA n q = ((n + tlN q : Nat) : Int) := if_pos hfit
      have eN : telN n q = n + tlN q := if_pos hfit
      rw [eA, eN]
      repeat ((first | (with_reducible first | refine w_ltA ?_ | refine w_ltS ?_ | refine w_ltM ?_ | refine w_ltN ?_ | refine w_lt ?_ | refine w_jn ?_ | refine w_ck (by omega) (by assumption) ?_ | refine w_gI (by omega) (by assumption) ?_ | refine w_gR (by omega) (by assumption) (by assumption) ?_ | refine w_al (by omega) (by assumption) (by assumption) ?_ | refine w_pI (by omega) (by assumption) ?_ | refine w_set (by omega) (by assumption) (by omega) (by omega) ?_ | refine w_at (by omega) (by assumption) (by omega) (by omega) ?_ | refine w_sI (by omega) (by assumption) (by omega) (by omega) ?_ | refine w_aI (by omega) (by assumption) (by omega) (by omega) ?_ | refine w_sZ (by omega) (by assumption) (by omega) (by omega) (by decide) ?_ | refine w_pZ (by omega) (by assumption) (by decide) ?_ | refine w_dv (by omega) (by omega) (by omega) (by omega) ?_ | refine w_rm (by omega) (by omega) (by omega) (by omega) ?_) | ((with_reducible refine w_pos ?_ ?_); focus (first | assumption | trivial | exact (ile (by omega) (by omega) (by omega) (by omega)).2 (by omega) | exact (ilt (by omega) (by omega) (by omega) (by omega)).2 (by omega) | exact (ieq (by omega) (by omega) (by omega) (by omega)).2 (by omega))) | ((with_reducible refine w_neg ?_ ?_); focus (first | assumption | exact not_false | trivial | exact mt (ile (by omega) (by omega) (by omega) (by omega)).1 (by omega) | exact mt (ilt (by omega) (by omega) (by omega) (by omega)).1 (by omega) | exact mt (ieq (by omega) (by omega) (by omega) (by omega)).1 (by omega)))); try simp (disch := omega) only [g985])
      refine w_lp j (fun i y => i ≤ j ∧ ∃ I', y = (iI (i : Int), (381, I', J, R)) ∧ (∀ a k, a ≠ 373 → ¬ (a = 375 ∧ k < 400) → ¬ (a = 374 ∧ k = 985) → I' a k = I a k) ∧ I' 374 985 = iI ((n + i : Nat) : Int) ∧ (∀ k, k < n → I' 375 k = I 375 k) ∧ ∀ k, k < i → I' 375 (n + k) &&& iI 255 = iI (bt q k)) ⟨by omega, I0, rfl, fun a k h1 _ _ => hF0 a k h1, g985, fun k _ => hF0 375 k (by omega), fun k hk => by omega⟩ (by rw [FU_eq]; omega) (fun i y h => h.1) ?_
      rintro i y self2 ⟨hi, I1, rfl, f1, f0, f2, f3⟩ ih2
      try dsimp only
      have f0' : I1 374 (Int.toNat 985) = iI ((n + i : Nat) : Int) := f0
      by_cases hlt : i < j
      · repeat ((first | (with_reducible first | refine w_sB (by omega) (by assumption) (by omega) (by omega) ?_ | refine w_ltA ?_ | refine w_ltS ?_ | refine w_ltM ?_ | refine w_ltN ?_ | refine w_lt ?_ | refine w_jn ?_ | refine w_ck (by omega) (by assumption) ?_ | refine w_gI (by omega) (by assumption) ?_ | refine w_gR (by omega) (by assumption) (by assumption) ?_ | refine w_al (by omega) (by assumption) (by assumption) ?_ | refine w_pI (by omega) (by assumption) ?_ | refine w_set (by omega) (by assumption) (by omega) (by omega) ?_ | refine w_at (by omega) (by assumption) (by omega) (by omega) ?_ | refine w_sI (by omega) (by assumption) (by omega) (by omega) ?_ | refine w_aI (by omega) (by assumption) (by omega) (by omega) ?_ | refine w_sZ (by omega) (by assumption) (by omega) (by omega) (by decide) ?_ | refine w_pZ (by omega) (by assumption) (by decide) ?_ | refine w_dv (by omega) (by omega) (by omega) (by omega) ?_ | refine w_rm (by omega) (by omega) (by omega) (by omega) ?_) | ((with_reducible refine w_pos ?_ ?_); focus (first | assumption | trivial | exact (ile (by omega) (by omega) (by omega) (by omega)).2 (by omega) | exact (ilt (by omega) (by omega) (by omega) (by omega)).2 (by omega) | exact (ieq (by omega) (by omega) (by omega) (by omega)).2 (by omega))) | ((with_reducible refine w_neg ?_ ?_); focus (first | assumption | exact not_false | trivial | exact mt (ile (by omega) (by omega) (by omega) (by omega)).1 (by omega) | exact mt (ilt (by omega) (by omega) (by omega) (by omega)).1 (by omega) | exact mt (ieq (by omega) (by omega) (by omega) (by omega)).1 (by omega)))); try simp (disch := omega) only [f0', up_ne])
        rw [show (((n + i : Nat) : Int)).toNat = n + i from rfl, show (i : Int) + 1 = ((i + 1 : Nat) : Int) by omega]
        refine ih2 _ ⟨by omega, _, rfl, fun a k a1 a2 a3 => ?_, ?_, fun k hk => ?_, fun k hk => ?_⟩
        · rw [up_ne (show ¬ (a = 374 ∧ k = Int.toNat 985) from a3), up_ne (by omega)]
          exact f1 a k a1 a2 a3
        · show up _ 374 985 _ 374 985 = _
          rw [up_eq, show ((n + i : Nat) : Int) + 1 = ((n + (i + 1) : Nat) : Int) by omega]
        · rw [up_ne (by omega), up_ne (by omega)]
          exact f2 k hk
        · rw [up_ne (by omega)]
          by_cases c : k = i
          · rw [c, up_eq]
            exact byt_Q q (by omega)
          · rw [up_ne (by omega)]
            exact f3 k (by omega)
      · have hij : i = j := by omega
        repeat ((first | (with_reducible first | refine w_ltA ?_ | refine w_ltS ?_ | refine w_ltM ?_ | refine w_ltN ?_ | refine w_lt ?_ | refine w_jn ?_ | refine w_ck (by omega) (by assumption) ?_ | refine w_gI (by omega) (by assumption) ?_ | refine w_gR (by omega) (by assumption) (by assumption) ?_ | refine w_al (by omega) (by assumption) (by assumption) ?_ | refine w_pI (by omega) (by assumption) ?_ | refine w_set (by omega) (by assumption) (by omega) (by omega) ?_ | refine w_at (by omega) (by assumption) (by omega) (by omega) ?_ | refine w_sI (by omega) (by assumption) (by omega) (by omega) ?_ | refine w_aI (by omega) (by assumption) (by omega) (by omega) ?_ | refine w_sZ (by omega) (by assumption) (by omega) (by omega) (by decide) ?_ | refine w_pZ (by omega) (by assumption) (by decide) ?_ | refine w_dv (by omega) (by omega) (by omega) (by omega) ?_ | refine w_rm (by omega) (by omega) (by omega) (by omega) ?_) | ((with_reducible refine w_pos ?_ ?_); focus (first | assumption | trivial | exact (ile (by omega) (by omega) (by omega) (by omega)).2 (by omega) | exact (ilt (by omega) (by omega) (by omega) (by omega)).2 (by omega) | exact (ieq (by omega) (by omega) (by omega) (by omega)).2 (by omega))) | ((with_reducible refine w_neg ?_ ?_); focus (first | assumption | exact not_false | trivial | exact mt (ile (by omega) (by omega) (by omega) (by omega)).1 (by omega) | exact mt (ilt (by omega) (by omega) (by omega) (by omega)).1 (by omega) | exact mt (ieq (by omega) (by omega) (by omega) (by omega)).1 (by omega)))); try simp (disch := omega) only [f0'])
        rw [hij, ← hm]
        refine w_rt ⟨rfl, I1, rfl, f1, by rw [f0, hij, ← hm], fun i hi => ?_⟩
        unfold telT
        by_cases c : i < n
        · rw [if_pos c, f2 i c]
          exact e2 i c
        · have := f3 (i - n) (by omega)
          rw [show n + (i - n) = i by omega] at this
          rw [if_neg c]
          exact this
    · have eA : telA n q = -1 := if_neg hfit
      have eN : telN n q = n := if_neg hfit
      rw [eA, eN]
      repeat ((first | (with_reducible first | refine w_ltA ?_ | refine w_ltS ?_ | refine w_ltM ?_ | refine w_ltN ?_ | refine w_lt ?_ | refine w_jn ?_ | refine w_ck (by omega) (by assumption) ?_ | refine w_gI (by omega) (by assumption) ?_ | refine w_gR (by omega) (by assumption) (by assumption) ?_ | refine w_al (by omega) (by assumption) (by assumption) ?_ | refine w_pI (by omega) (by assumption) ?_ | refine w_set (by omega) (by assumption) (by omega) (by omega) ?_ | refine w_at (by omega) (by assumption) (by omega) (by omega) ?_ | refine w_sI (by omega) (by assumption) (by omega) (by omega) ?_ | refine w_aI (by omega) (by assumption) (by omega) (by omega) ?_ | refine w_sZ (by omega) (by assumption) (by omega) (by omega) (by decide) ?_ | refine w_pZ (by omega) (by assumption) (by decide) ?_ | refine w_dv (by omega) (by omega) (by omega) (by omega) ?_ | refine w_rm (by omega) (by omega) (by omega) (by omega) ?_) | ((with_reducible refine w_pos ?_ ?_); focus (first | assumption | trivial | exact (ile (by omega) (by omega) (by omega) (by omega)).2 (by omega) | exact (ilt (by omega) (by omega) (by omega) (by omega)).2 (by omega) | exact (ieq (by omega) (by omega) (by omega) (by omega)).2 (by omega))) | ((with_reducible refine w_neg ?_ ?_); focus (first | assumption | exact not_false | trivial | exact mt (ile (by omega) (by omega) (by omega) (by omega)).1 (by omega) | exact mt (ilt (by omega) (by omega) (by omega) (by omega)).1 (by omega) | exact mt (ieq (by omega) (by omega) (by omega) (by omega)).1 (by omega)))); try simp (disch := omega) only [g985])
      refine w_rt ⟨rfl, I0, rfl, fun a k h1 _ _ => hF0 a k h1, g985, fun i hi => ?_⟩
      unfold telT
      rw [if_pos hi, hF0 375 i (by omega)]
      exact e2 i hi
  · intro j3 hj3
    by_cases h8 : j < 8
    · obtain ⟨d, hd⟩ : ∃ d, 8 - j = d + 1 := ⟨7 - j, by omega⟩
      have e : tlF q (d + 1) j = if bt q j = 0 then j else tlF q d (j + 1) := rfl
      rw [hd, e] at hk
      have hb0 := byt_0 q h8
      by_cases hz : bt q j = 0
      · rw [if_pos hz] at hk
        have hc := hb0.2 hz
        repeat ((first | (with_reducible first | refine w_ltA ?_ | refine w_ltS ?_ | refine w_ltM ?_ | refine w_ltN ?_ | refine w_lt ?_ | refine w_jn ?_ | refine w_ck (by omega) (by assumption) ?_ | refine w_gI (by omega) (by assumption) ?_ | refine w_gR (by omega) (by assumption) (by assumption) ?_ | refine w_al (by omega) (by assumption) (by assumption) ?_ | refine w_pI (by omega) (by assumption) ?_ | refine w_set (by omega) (by assumption) (by omega) (by omega) ?_ | refine w_at (by omega) (by assumption) (by omega) (by omega) ?_ | refine w_sI (by omega) (by assumption) (by omega) (by omega) ?_ | refine w_aI (by omega) (by assumption) (by omega) (by omega) ?_ | refine w_sZ (by omega) (by assumption) (by omega) (by omega) (by decide) ?_ | refine w_pZ (by omega) (by assumption) (by decide) ?_ | refine w_dv (by omega) (by omega) (by omega) (by omega) ?_ | refine w_rm (by omega) (by omega) (by omega) (by omega) ?_) | ((with_reducible refine w_pos ?_ ?_); focus (first | assumption | trivial | exact (ile (by omega) (by omega) (by omega) (by omega)).2 (by omega) | exact (ilt (by omega) (by omega) (by omega) (by omega)).2 (by omega) | exact (ieq (by omega) (by omega) (by omega) (by omega)).2 (by omega))) | ((with_reducible refine w_neg ?_ ?_); focus (first | assumption | exact not_false | trivial | exact mt (ile (by omega) (by omega) (by omega) (by omega)).1 (by omega) | exact mt (ilt (by omega) (by omega) (by omega) (by omega)).1 (by omega) | exact mt (ieq (by omega) (by omega) (by omega) (by omega)).1 (by omega)))); skip)
        exact hj3 _ hk
      · rw [if_neg hz] at hk
        have hc := mt hb0.1 hz
        repeat ((first | (with_reducible first | refine w_ltA ?_ | refine w_ltS ?_ | refine w_ltM ?_ | refine w_ltN ?_ | refine w_lt ?_ | refine w_jn ?_ | refine w_ck (by omega) (by assumption) ?_ | refine w_gI (by omega) (by assumption) ?_ | refine w_gR (by omega) (by assumption) (by assumption) ?_ | refine w_al (by omega) (by assumption) (by assumption) ?_ | refine w_pI (by omega) (by assumption) ?_ | refine w_set (by omega) (by assumption) (by omega) (by omega) ?_ | refine w_at (by omega) (by assumption) (by omega) (by omega) ?_ | refine w_sI (by omega) (by assumption) (by omega) (by omega) ?_ | refine w_aI (by omega) (by assumption) (by omega) (by omega) ?_ | refine w_sZ (by omega) (by assumption) (by omega) (by omega) (by decide) ?_ | refine w_pZ (by omega) (by assumption) (by decide) ?_ | refine w_dv (by omega) (by omega) (by omega) (by omega) ?_ | refine w_rm (by omega) (by omega) (by omega) (by omega) ?_) | ((with_reducible refine w_pos ?_ ?_); focus (first | assumption | trivial | exact (ile (by omega) (by omega) (by omega) (by omega)).2 (by omega) | exact (ilt (by omega) (by omega) (by omega) (by omega)).2 (by omega) | exact (ieq (by omega) (by omega) (by omega) (by omega)).2 (by omega))) | ((with_reducible refine w_neg ?_ ?_); focus (first | assumption | exact not_false | trivial | exact mt (ile (by omega) (by omega) (by omega) (by omega)).1 (by omega) | exact mt (ilt (by omega) (by omega) (by omega) (by omega)).1 (by omega) | exact mt (ieq (by omega) (by omega) (by omega) (by omega)).1 (by omega)))); skip)
        rw [show (j : Int) + 1 = ((j + 1 : Nat) : Int) by omega]
        exact ih _ ⟨by omega, rfl, by rw [hk, show 8 - (j + 1) = d by omega]⟩
    · rw [show 8 - j = 0 by omega] at hk
      repeat ((first | (with_reducible first | refine w_ltA ?_ | refine w_ltS ?_ | refine w_ltM ?_ | refine w_ltN ?_ | refine w_lt ?_ | refine w_jn ?_ | refine w_ck (by omega) (by assumption) ?_ | refine w_gI (by omega) (by assumption) ?_ | refine w_gR (by omega) (by assumption) (by assumption) ?_ | refine w_al (by omega) (by assumption) (by assumption) ?_ | refine w_pI (by omega) (by assumption) ?_ | refine w_set (by omega) (by assumption) (by omega) (by omega) ?_ | refine w_at (by omega) (by assumption) (by omega) (by omega) ?_ | refine w_sI (by omega) (by assumption) (by omega) (by omega) ?_ | refine w_aI (by omega) (by assumption) (by omega) (by omega) ?_ | refine w_sZ (by omega) (by assumption) (by omega) (by omega) (by decide) ?_ | refine w_pZ (by omega) (by assumption) (by decide) ?_ | refine w_dv (by omega) (by omega) (by omega) (by omega) ?_ | refine w_rm (by omega) (by omega) (by omega) (by omega) ?_) | ((with_reducible refine w_pos ?_ ?_); focus (first | assumption | trivial | exact (ile (by omega) (by omega) (by omega) (by omega)).2 (by omega) | exact (ilt (by omega) (by omega) (by omega) (by omega)).2 (by omega) | exact (ieq (by omega) (by omega) (by omega) (by omega)).2 (by omega))) | ((with_reducible refine w_neg ?_ ?_); focus (first | assumption | exact not_false | trivial | exact mt (ile (by omega) (by omega) (by omega) (by omega)).1 (by omega) | exact mt (ilt (by omega) (by omega) (by omega) (by omega)).1 (by omega) | exact mt (ieq (by omega) (by omega) (by omega) (by omega)).1 (by omega)))); skip)
      exact hj3 _ hk
theorem fault_X {fl pl o : Int} (hRC : RC R) (h2 : I 143 2 = iI fl) (h3 : I 143 3 = iI pl) (ho : o = 0 ∨ o = 1) : f_X8_fault (381, I, J, R) 0 (iI o) = some (iI (if o = 0 then fl else pl)) := by
  have k0 := kd_0
  have k143 := kd_143
  obtain ⟨-, -, r2, -⟩ := id hRC
  refine en_eq ?_
  rw [u_X8_fault]
  by_cases h : o = 0
  · rw [if_pos h]
    repeat ((first | (with_reducible first | refine w_ltA ?_ | refine w_ltS ?_ | refine w_ltM ?_ | refine w_ltN ?_ | refine w_lt ?_ | refine w_jn ?_ | refine w_ck (by omega) (by assumption) ?_ | refine w_gI (by omega) (by assumption) ?_ | refine w_gR (by omega) (by assumption) (by assumption) ?_ | refine w_al (by omega) (by assumption) (by assumption) ?_ | refine w_pI (by omega) (by assumption) ?_ | refine w_set (by omega) (by assumption) (by omega) (by omega) ?_ | refine w_at (by omega) (by assumption) (by omega) (by omega) ?_ | refine w_sI (by omega) (by assumption) (by omega) (by omega) ?_ | refine w_aI (by omega) (by assumption) (by omega) (by omega) ?_ | refine w_sZ (by omega) (by assumption) (by omega) (by omega) (by decide) ?_ | refine w_pZ (by omega) (by assumption) (by decide) ?_ | refine w_dv (by omega) (by omega) (by omega) (by omega) ?_ | refine w_rm (by omega) (by omega) (by omega) (by omega) ?_) | ((with_reducible refine w_pos ?_ ?_); focus (first | assumption | trivial | exact (ile (by omega) (by omega) (by omega) (by omega)).2 (by omega) | exact (ilt (by omega) (by omega) (by omega) (by omega)).2 (by omega) | exact (ieq (by omega) (by omega) (by omega) (by omega)).2 (by omega))) | ((with_reducible refine w_neg ?_ ?_); focus (first | assumption | exact not_false | trivial | exact mt (ile (by omega) (by omega) (by omega) (by omega)).1 (by omega) | exact mt (ilt (by omega) (by omega) (by omega) (by omega)).1 (by omega) | exact mt (ieq (by omega) (by omega) (by omega) (by omega)).1 (by omega)))); try simp (disch := omega) only [h2, h3])
    exact w_rt rfl
  · rw [if_neg h]
    repeat ((first | (with_reducible first | refine w_ltA ?_ | refine w_ltS ?_ | refine w_ltM ?_ | refine w_ltN ?_ | refine w_lt ?_ | refine w_jn ?_ | refine w_ck (by omega) (by assumption) ?_ | refine w_gI (by omega) (by assumption) ?_ | refine w_gR (by omega) (by assumption) (by assumption) ?_ | refine w_al (by omega) (by assumption) (by assumption) ?_ | refine w_pI (by omega) (by assumption) ?_ | refine w_set (by omega) (by assumption) (by omega) (by omega) ?_ | refine w_at (by omega) (by assumption) (by omega) (by omega) ?_ | refine w_sI (by omega) (by assumption) (by omega) (by omega) ?_ | refine w_aI (by omega) (by assumption) (by omega) (by omega) ?_ | refine w_sZ (by omega) (by assumption) (by omega) (by omega) (by decide) ?_ | refine w_pZ (by omega) (by assumption) (by decide) ?_ | refine w_dv (by omega) (by omega) (by omega) (by omega) ?_ | refine w_rm (by omega) (by omega) (by omega) (by omega) ?_) | ((with_reducible refine w_pos ?_ ?_); focus (first | assumption | trivial | exact (ile (by omega) (by omega) (by omega) (by omega)).2 (by omega) | exact (ilt (by omega) (by omega) (by omega) (by omega)).2 (by omega) | exact (ieq (by omega) (by omega) (by omega) (by omega)).2 (by omega))) | ((with_reducible refine w_neg ?_ ?_); focus (first | assumption | exact not_false | trivial | exact mt (ile (by omega) (by omega) (by omega) (by omega)).1 (by omega) | exact mt (ilt (by omega) (by omega) (by omega) (by omega)).1 (by omega) | exact mt (ieq (by omega) (by omega) (by omega) (by omega)).1 (by omega)))); try simp (disch := omega) only [h2, h3])
    exact w_rt rfl
theorem fault_Y {fl pl o : Int} (hR : RQ R) (h2 : I 374 986 = iI fl) (h3 : I 374 987 = iI pl) (ho : o = 0 ∨ o = 1) : f_X9_fault (381, I, J, R) 373 (iI o) = some (iI (if o = 0 then fl else pl), (381, up I 373 0 (iI 0), J, R)) := by
  have k374 := kd_374
  have k375 := kd_375
  have l375 := ln_375
  obtain ⟨rq1, -⟩ := id hR
  have g2 : up I 373 0 (iI 0) 374 (Int.toNat 986) = iI fl := by
    rw [up_ne (by omega)]
    exact h2
  have g3 : up I 373 0 (iI 0) 374 (Int.toNat 987) = iI pl := by
    rw [up_ne (by omega)]
    exact h3
  refine en_eq ?_
  rw [u_X9_fault]
  refine w_pI (by omega) k374 ?_
  generalize up I 373 0 (iI 0) = I0 at *
  by_cases h : o = 0
  · rw [if_pos h]
    repeat ((first | (with_reducible first | refine w_ltA ?_ | refine w_ltS ?_ | refine w_ltM ?_ | refine w_ltN ?_ | refine w_lt ?_ | refine w_jn ?_ | refine w_ck (by omega) (by assumption) ?_ | refine w_gI (by omega) (by assumption) ?_ | refine w_gR (by omega) (by assumption) (by assumption) ?_ | refine w_al (by omega) (by assumption) (by assumption) ?_ | refine w_pI (by omega) (by assumption) ?_ | refine w_set (by omega) (by assumption) (by omega) (by omega) ?_ | refine w_at (by omega) (by assumption) (by omega) (by omega) ?_ | refine w_sI (by omega) (by assumption) (by omega) (by omega) ?_ | refine w_aI (by omega) (by assumption) (by omega) (by omega) ?_ | refine w_sZ (by omega) (by assumption) (by omega) (by omega) (by decide) ?_ | refine w_pZ (by omega) (by assumption) (by decide) ?_ | refine w_dv (by omega) (by omega) (by omega) (by omega) ?_ | refine w_rm (by omega) (by omega) (by omega) (by omega) ?_) | ((with_reducible refine w_pos ?_ ?_); focus (first | assumption | trivial | exact (ile (by omega) (by omega) (by omega) (by omega)).2 (by omega) | exact (ilt (by omega) (by omega) (by omega) (by omega)).2 (by omega) | exact (ieq (by omega) (by omega) (by omega) (by omega)).2 (by omega))) | ((with_reducible refine w_neg ?_ ?_); focus (first | assumption | exact not_false | trivial | exact mt (ile (by omega) (by omega) (by omega) (by omega)).1 (by omega) | exact mt (ilt (by omega) (by omega) (by omega) (by omega)).1 (by omega) | exact mt (ieq (by omega) (by omega) (by omega) (by omega)).1 (by omega)))); try simp (disch := omega) only [g2, g3])
    exact w_rt rfl
  · rw [if_neg h]
    repeat ((first | (with_reducible first | refine w_ltA ?_ | refine w_ltS ?_ | refine w_ltM ?_ | refine w_ltN ?_ | refine w_lt ?_ | refine w_jn ?_ | refine w_ck (by omega) (by assumption) ?_ | refine w_gI (by omega) (by assumption) ?_ | refine w_gR (by omega) (by assumption) (by assumption) ?_ | refine w_al (by omega) (by assumption) (by assumption) ?_ | refine w_pI (by omega) (by assumption) ?_ | refine w_set (by omega) (by assumption) (by omega) (by omega) ?_ | refine w_at (by omega) (by assumption) (by omega) (by omega) ?_ | refine w_sI (by omega) (by assumption) (by omega) (by omega) ?_ | refine w_aI (by omega) (by assumption) (by omega) (by omega) ?_ | refine w_sZ (by omega) (by assumption) (by omega) (by omega) (by decide) ?_ | refine w_pZ (by omega) (by assumption) (by decide) ?_ | refine w_dv (by omega) (by omega) (by omega) (by omega) ?_ | refine w_rm (by omega) (by omega) (by omega) (by omega) ?_) | ((with_reducible refine w_pos ?_ ?_); focus (first | assumption | trivial | exact (ile (by omega) (by omega) (by omega) (by omega)).2 (by omega) | exact (ilt (by omega) (by omega) (by omega) (by omega)).2 (by omega) | exact (ieq (by omega) (by omega) (by omega) (by omega)).2 (by omega))) | ((with_reducible refine w_neg ?_ ?_); focus (first | assumption | exact not_false | trivial | exact mt (ile (by omega) (by omega) (by omega) (by omega)).1 (by omega) | exact mt (ilt (by omega) (by omega) (by omega) (by omega)).1 (by omega) | exact mt (ieq (by omega) (by omega) (by omega) (by omega)).1 (by omega)))); try simp (disch := omega) only [g2, g3])
    exact w_rt rfl
end TEL
