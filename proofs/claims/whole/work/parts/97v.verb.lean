/-! TEXTS: words -/
def sLn (v : Nat) : Nat := strL.getD v 0
def sBt (v k : Nat) : Int := ((strB.getD v []).getD k 0).toInt
def vB (T : TX) (n i v : Nat) : Bool := decide (tK T n i = 1 ∧ tE T n i - tS T n i = sLn v ∧ ∀ k, k < sLn v → T (tS T n i + k) = sBt v k)
def vbH (T : TX) (n i lo : Nat) : Nat → Int
  | 0 => -1
  | d + 1 => if vB T n i lo then (lo : Nat) else vbH T n i (lo + 1) d
def Wd (v : Nat) : Int64 := ([482670503283, 426903366771, 1870030194, 125779836236645, 1953063787, 1952541541, 7370100, 6647396, 1685221232, 1937203568, 439956431717, 1919246692, 1835103083, 125780053555813] : List Int64).getD v 0
def wOf (T : TX) (n i : Nat) : Int64 := if tK T n i = 1 ∧ tE T n i - tS T n i ≤ 8 then Int64.ofNat (wcd T (tS T n i) (tE T n i - tS T n i)) else 0
theorem sBt_b : ∀ v, v < 14 → ∀ k, k < sLn v → 97 ≤ sBt v k ∧ sBt v k ≤ 122 := by decide +kernel
theorem sLn_b : ∀ v, v < 14 → 3 ≤ sLn v ∧ sLn v ≤ 6 := by decide +kernel
theorem sB_ne : ∀ v, v < 14 → ∀ v', v' < 14 → v ≠ v' → sLn v ≠ sLn v' ∨ ∃ k, k < sLn v ∧ sBt v k ≠ sBt v' k := by decide +kernel
theorem Wd_is : ∀ v, v < 14 → Int64.ofNat (wcd (sBt v) 0 (sLn v)) = Wd v := by decide +kernel
theorem Wd_ne : ∀ v, v < 14 → Wd v ≠ 0 := by decide +kernel
theorem wIx_is : ∀ v : Nat, v < 14 → wIx (iI v) = v := by decide +kernel
theorem strC_is {v k : Nat} (hk : k < 400) : strC v (iI k) = iI (sBt v k) := by
  unfold strC sBt
  rw [iI_nat ⟨by omega, by omega⟩]
  exact (Int32.ofInt_toInt _).symm
theorem lg_0 {x y : Int64} : lg_cmp x y = iI 0 ↔ x = y := by
  unfold lg_cmp
  by_cases h : x > y
  · rw [if_pos h]
    constructor
    · intro e
      exact absurd e (by decide)
    · intro e
      subst e
      exact absurd h Int64.lt_irrefl
  · rw [if_neg h]
    by_cases h2 : x = y
    · rw [if_pos h2]
      exact ⟨fun _ => h2, fun _ => rfl⟩
    · rw [if_neg h2]
      constructor
      · intro e
        exact absurd e (by decide)
      · intro e
        exact absurd e h2
theorem wcd_lt {T : TX} {s : Nat} : ∀ {m : Nat}, (∀ k, k < m → 0 ≤ T (s + k) ∧ T (s + k) ≤ 255) → wcd T s m < 256 ^ m
  | 0, _ => Nat.one_pos
  | m + 1, h => by
    have ih := wcd_lt (T := T) (s := s) (m := m) fun k hk => h k (by omega)
    have := h m (by omega)
    show wcd T s m * 256 + (T (s + m)).toNat < _
    rw [Nat.pow_succ]
    omega
theorem wcd_pos {T : TX} {s m : Nat} (h : 1 ≤ T (s + m)) : 1 ≤ wcd T s (m + 1) := by
  show 1 ≤ wcd T s m * 256 + (T (s + m)).toNat
  omega
theorem wcd_inj {T T' : TX} {s s' : Nat} : ∀ {m m' : Nat}, (∀ k, k < m → 1 ≤ T (s + k) ∧ T (s + k) ≤ 255) → (∀ k, k < m' → 1 ≤ T' (s' + k) ∧ T' (s' + k) ≤ 255) → wcd T s m = wcd T' s' m' → m = m' ∧ ∀ k, k < m → T (s + k) = T' (s' + k)
  | 0, 0, _, _, _ => ⟨rfl, fun k hk => by omega⟩
  | 0, m' + 1, _, h', e => by
    have h1 := wcd_pos (T := T') (s := s') (m := m') (h' m' (by omega)).1
    rw [← e] at h1
    exact absurd (show 1 ≤ 0 from h1) (by decide)
  | m + 1, 0, h, _, e => by
    have h1 := wcd_pos (T := T) (s := s) (m := m) (h m (by omega)).1
    rw [e] at h1
    exact absurd (show 1 ≤ 0 from h1) (by decide)
  | m + 1, m' + 1, h, h', e => by
    have h1 := h m (by omega)
    have h2 := h' m' (by omega)
    have e : wcd T s m * 256 + (T (s + m)).toNat = wcd T' s' m' * 256 + (T' (s' + m')).toNat := e
    obtain ⟨rfl, ih⟩ := wcd_inj (m := m) (m' := m') (fun k hk => h k (by omega)) (fun k hk => h' k (by omega)) (by omega)
    refine ⟨rfl, fun k hk => ?_⟩
    rcases (show k < m ∨ k = m by omega) with hk | hk
    · exact ih k hk
    · subst hk
      omega
theorem vB_iff {T : TX} {n i v : Nat} : vB T n i v = true ↔ tK T n i = 1 ∧ tE T n i - tS T n i = sLn v ∧ ∀ k, k < sLn v → T (tS T n i + k) = sBt v k := by
  unfold vB
  rw [decide_eq_true_iff]
theorem vB_one {T : TX} {n i v v' : Nat} (hv : v < 14) (hv' : v' < 14) (h : vB T n i v = true) (h' : vB T n i v' = true) : v = v' := by
  rw [vB_iff] at h h'
  by_cases e : v = v'
  · exact e
  · rcases sB_ne v hv v' hv' e with h1 | ⟨k, hk, hne⟩
    · omega
    · exact absurd ((h.2.2 k hk).symm.trans (h'.2.2 k (by omega))) hne
/-- a word's letters -/
theorem word_l {T : TX} {n i k : Nat} (h : tK T n i = 1) (hk : k < tE T n i - tS T n i) : 97 ≤ T (tS T n i + k) ∧ T (tS T n i + k) ≤ 122 := by
  have eE : tE T n i = if n ≤ tS T n i then tS T n i else if isL (T (tS T n i)) then skp isL T (n - tS T n i) (tS T n i) else if isD (T (tS T n i)) then skp isD T (n - tS T n i) (tS T n i) else tS T n i + 1 := rfl
  have eK : tK T n i = if n ≤ tS T n i then 0 else if isL (T (tS T n i)) then 1 else if isD (T (tS T n i)) then (if skp isD T (n - tS T n i) (tS T n i) - tS T n i ≤ 6 then 2 else 4) else if T (tS T n i) = 59 then 3 else 4 := rfl
  by_cases c1 : n ≤ tS T n i
  · rw [if_pos c1] at eK
    omega
  rw [if_neg c1] at eK eE
  by_cases c2 : isL (T (tS T n i)) = true
  · rw [if_pos c2] at eE
    exact of_decide_eq_true (skp_q (q := isL) (T := T) (n - tS T n i) (tS T n i) (tS T n i + k) (by omega) (by omega))
  · rw [if_neg c2] at eK
    split at eK
    · split at eK <;> omega
    · split at eK <;> omega
theorem wOf_iff {T : TX} {n i v : Nat} (hv : v < 14) : wOf T n i = Wd v ↔ vB T n i v = true := by
  have hsb := sBt_b v hv
  have hsl := sLn_b v hv
  have hWi := Wd_is v hv
  have hlt2 : wcd (sBt v) 0 (sLn v) < 256 ^ (sLn v) := wcd_lt fun k hk => by
    have := hsb k hk
    rw [Nat.zero_add]
    omega
  have hp6 : 256 ^ (sLn v) ≤ 256 ^ 8 := Nat.pow_le_pow_right (by omega) (by omega)
  rw [vB_iff]
  unfold wOf
  constructor
  · intro h
    by_cases hc : tK T n i = 1 ∧ tE T n i - tS T n i ≤ 8
    · rw [if_pos hc, ← hWi] at h
      have hl := fun k hk => word_l (T := T) (n := n) (i := i) (k := k) hc.1 hk
      have hlt1 : wcd T (tS T n i) (tE T n i - tS T n i) < 256 ^ (tE T n i - tS T n i) := wcd_lt fun k hk => by
        have := hl k hk
        omega
      have hp1 : 256 ^ (tE T n i - tS T n i) ≤ 256 ^ 8 := Nat.pow_le_pow_right (by omega) hc.2
      have e : wcd T (tS T n i) (tE T n i - tS T n i) = wcd (sBt v) 0 (sLn v) := by
        have h2 := congrArg (fun x : Int64 => x.toBitVec.toNat) h
        have e3 : ∀ a : Nat, (Int64.ofNat a).toBitVec.toNat = a % 2 ^ 64 := fun a => rfl
        simp only [e3] at h2
        rw [Nat.mod_eq_of_lt (by omega), Nat.mod_eq_of_lt (by omega)] at h2
        exact h2
      obtain ⟨h1, h2⟩ := wcd_inj (fun k hk => by have := hl k hk; omega) (fun k hk => by have := hsb k hk; rw [Nat.zero_add]; omega) e
      refine ⟨hc.1, h1, fun k hk => ?_⟩
      have := h2 k (by omega)
      rw [Nat.zero_add] at this
      exact this
    · rw [if_neg hc] at h
      exact absurd h.symm (Wd_ne v hv)
  · rintro ⟨h1, h2, h3⟩
    rw [if_pos ⟨h1, by omega⟩, h2, ← hWi]
    have : ∀ m, m ≤ sLn v → wcd T (tS T n i) m = wcd (sBt v) 0 m := by
      intro m
      induction m with
      | zero => intro _; rfl
      | succ m ih =>
        intro hm
        show wcd T (tS T n i) m * 256 + (T (tS T n i + m)).toNat = wcd (sBt v) 0 m * 256 + (sBt v (0 + m)).toNat
        rw [ih (by omega), h3 m (by omega), Nat.zero_add]
    rw [this _ (Nat.le_refl _)]
theorem vbH_no {T : TX} {n i : Nat} : ∀ (d lo : Nat), vbH T n i lo d = -1 → ∀ v, lo ≤ v → v < lo + d → vB T n i v = false
  | 0, lo, _, v, h1, h2 => by omega
  | d + 1, lo, h, v, h1, h2 => by
    have h : (if vB T n i lo then ((lo : Nat) : Int) else vbH T n i (lo + 1) d) = -1 := h
    by_cases hv : vB T n i lo = true
    · rw [if_pos hv] at h
      omega
    · rw [if_neg hv] at h
      by_cases e : v = lo
      · rw [e]
        simpa using hv
      · exact vbH_no d (lo + 1) h v (by omega) (by omega)
theorem vbH_is {T : TX} {n i : Nat} : ∀ (d lo : Nat), vbH T n i lo d ≠ -1 → ∃ v : Nat, vbH T n i lo d = v ∧ lo ≤ v ∧ v < lo + d ∧ vB T n i v = true
  | 0, lo, h => absurd rfl h
  | d + 1, lo, h => by
    have e : vbH T n i lo (d + 1) = (if vB T n i lo then ((lo : Nat) : Int) else vbH T n i (lo + 1) d) := rfl
    by_cases hv : vB T n i lo = true
    · rw [if_pos hv] at e
      exact ⟨lo, e, Nat.le_refl _, by omega, hv⟩
    · rw [if_neg hv] at e
      rw [e] at h
      obtain ⟨v, h1, h2, h3, h4⟩ := vbH_is d (lo + 1) h
      exact ⟨v, e.trans h1, by omega, by omega, h4⟩
theorem kd_145 : kd 145 = 2 := by decide +kernel
section VBC
variable {I : MI} {J : MJ} {R : MR} {α γ : Type} {Q : γ → Prop} {T : TX} {n i p s v lo hi : Nat} {c : Int} {S : St}
theorem w_ci {K : Int32 → Option γ} {k : Nat} (hk : k < sLn v) (hk4 : k < 400) (h : En Q (K (iI (sBt v k)))) : En Q (ci_ v (iI (k : Nat)) K) := by
  have hs : strL.getD v 0 < 2147483648 := by
    rcases Nat.lt_or_ge v 14 with h1 | h1
    · have := str_len v h1
      omega
    · have hx : strL.getD v 0 = 0 := by
        rw [List.getD_eq_getElem?_getD, List.getElem?_eq_none (show strL.length ≤ v from h1)]
        rfl
      omega
  have hk2 : k < strL.getD v 0 := hk
  unfold ci_
  rw [if_pos (ix_ok (i := k) (n := strL.getD v 0) (by omega) (by omega) hs), strC_is hk4]
  exact h
theorem thisWord_C (hRC : RC R) (hx : TXC I T n) (ht : Tok T n) (hk : TkC I T n i) (hin : i ≤ n) (hv : v < 14) : f_X6_isThisWord (381, I, J, R) 143 v = some (if vB T n i v then iI 1 else iI 0) := by
  have k143 := kd_143
  have hn4 := ht.1
  have hsl := sLn_b v hv
  have hsb := sBt_b v hv
  have hS := tS_b (T := T) hin
  have hE := tE_b (T := T) hin
  have hKb := tK_b (T := T) (n := n) (i := i)
  obtain ⟨q1, q2, q3, q4⟩ := hk
  refine en_eq ?_
  unfold f_X6_isThisWord
  simp only [iI_nI', L0, L1]
  rw [show strL.getD v 0 = sLn v from rfl]
  have no : vB T n i v = false → En (fun y => y = (if vB T n i v = true then iI 1 else iI 0)) (rzP_ (iI 0)) := fun h => w_rzP0 (by rw [h]; rfl)
  by_cases hK : tK T n i = 1
  · by_cases hL : tE T n i - tS T n i = sLn v
    · repeat ((first | (with_reducible first | refine w_ltA ?_ | refine w_ltS ?_ | refine w_ltM ?_ | refine w_ltN ?_ | refine w_lt ?_ | refine w_jn ?_ | refine w_ck (by omega) (by assumption) ?_ | refine w_gI (by omega) (by assumption) ?_ | refine w_gR (by omega) (by assumption) (by assumption) ?_ | refine w_al (by omega) (by assumption) (by assumption) ?_ | refine w_pI (by omega) (by assumption) ?_ | refine w_set (by omega) (by assumption) (by omega) (by omega) ?_ | refine w_at (by omega) (by assumption) (by omega) (by omega) ?_ | refine w_sI (by omega) (by assumption) (by omega) (by omega) ?_ | refine w_aI (by omega) (by assumption) (by omega) (by omega) ?_ | refine w_sZ (by omega) (by assumption) (by omega) (by omega) (by decide) ?_ | refine w_pZ (by omega) (by assumption) (by decide) ?_ | refine w_dv (by omega) (by omega) (by omega) (by omega) ?_ | refine w_rm (by omega) (by omega) (by omega) (by omega) ?_) | ((with_reducible refine w_pos ?_ ?_); focus (first | assumption | trivial | exact (ile (by omega) (by omega) (by omega) (by omega)).2 (by omega) | exact (ilt (by omega) (by omega) (by omega) (by omega)).2 (by omega) | exact (ieq (by omega) (by omega) (by omega) (by omega)).2 (by omega))) | ((with_reducible refine w_neg ?_ ?_); focus (first | assumption | exact not_false | trivial | exact mt (ile (by omega) (by omega) (by omega) (by omega)).1 (by omega) | exact mt (ilt (by omega) (by omega) (by omega) (by omega)).1 (by omega) | exact mt (ieq (by omega) (by omega) (by omega) (by omega)).1 (by omega)))); try simp (disch := omega) only [q1, q2, q3])
      refine w_lp (sLn v) (fun j y => j ≤ sLn v ∧ y = iI (j : Int) ∧ ∀ k, k < j → T (tS T n i + k) = sBt v k) ⟨by omega, rfl, fun k hk => by omega⟩ (by rw [FU_eq]; omega) (fun i y h => h.1) ?_
      rintro j y self ⟨hj, rfl, hall⟩ ih
      try dsimp only
      by_cases hlt : j < sLn v
      · have hbb := byteAt_C (J := J) (p := tS T n i + j) hRC hx hn4 (by omega)
        have hb := ht.2 (tS T n i + j) (by omega)
        have hb2 := hsb j hlt
        rw [if_pos (by omega)] at hbb
        repeat ((first | (with_reducible first | refine w_ltA ?_ | refine w_ltS ?_ | refine w_ltM ?_ | refine w_ltN ?_ | refine w_lt ?_ | refine w_jn ?_ | refine w_ck (by omega) (by assumption) ?_ | refine w_gI (by omega) (by assumption) ?_ | refine w_gR (by omega) (by assumption) (by assumption) ?_ | refine w_al (by omega) (by assumption) (by assumption) ?_ | refine w_pI (by omega) (by assumption) ?_ | refine w_set (by omega) (by assumption) (by omega) (by omega) ?_ | refine w_at (by omega) (by assumption) (by omega) (by omega) ?_ | refine w_sI (by omega) (by assumption) (by omega) (by omega) ?_ | refine w_aI (by omega) (by assumption) (by omega) (by omega) ?_ | refine w_sZ (by omega) (by assumption) (by omega) (by omega) (by decide) ?_ | refine w_pZ (by omega) (by assumption) (by decide) ?_ | refine w_dv (by omega) (by omega) (by omega) (by omega) ?_ | refine w_rm (by omega) (by omega) (by omega) (by omega) ?_) | ((with_reducible refine w_pos ?_ ?_); focus (first | assumption | trivial | exact (ile (by omega) (by omega) (by omega) (by omega)).2 (by omega) | exact (ilt (by omega) (by omega) (by omega) (by omega)).2 (by omega) | exact (ieq (by omega) (by omega) (by omega) (by omega)).2 (by omega))) | ((with_reducible refine w_neg ?_ ?_); focus (first | assumption | exact not_false | trivial | exact mt (ile (by omega) (by omega) (by omega) (by omega)).1 (by omega) | exact mt (ilt (by omega) (by omega) (by omega) (by omega)).1 (by omega) | exact mt (ieq (by omega) (by omega) (by omega) (by omega)).1 (by omega)))); try simp (disch := omega) only [q1, q2, q3])
        refine w_cP hbb ?_
        refine w_ci hlt (by omega) ?_
        by_cases he : T (tS T n i + j) = sBt v j
        · repeat ((first | (with_reducible first | refine w_ltA ?_ | refine w_ltS ?_ | refine w_ltM ?_ | refine w_ltN ?_ | refine w_lt ?_ | refine w_jn ?_ | refine w_ck (by omega) (by assumption) ?_ | refine w_gI (by omega) (by assumption) ?_ | refine w_gR (by omega) (by assumption) (by assumption) ?_ | refine w_al (by omega) (by assumption) (by assumption) ?_ | refine w_pI (by omega) (by assumption) ?_ | refine w_set (by omega) (by assumption) (by omega) (by omega) ?_ | refine w_at (by omega) (by assumption) (by omega) (by omega) ?_ | refine w_sI (by omega) (by assumption) (by omega) (by omega) ?_ | refine w_aI (by omega) (by assumption) (by omega) (by omega) ?_ | refine w_sZ (by omega) (by assumption) (by omega) (by omega) (by decide) ?_ | refine w_pZ (by omega) (by assumption) (by decide) ?_ | refine w_dv (by omega) (by omega) (by omega) (by omega) ?_ | refine w_rm (by omega) (by omega) (by omega) (by omega) ?_) | ((with_reducible refine w_pos ?_ ?_); focus (first | assumption | trivial | exact (ile (by omega) (by omega) (by omega) (by omega)).2 (by omega) | exact (ilt (by omega) (by omega) (by omega) (by omega)).2 (by omega) | exact (ieq (by omega) (by omega) (by omega) (by omega)).2 (by omega))) | ((with_reducible refine w_neg ?_ ?_); focus (first | assumption | exact not_false | trivial | exact mt (ile (by omega) (by omega) (by omega) (by omega)).1 (by omega) | exact mt (ilt (by omega) (by omega) (by omega) (by omega)).1 (by omega) | exact mt (ieq (by omega) (by omega) (by omega) (by omega)).1 (by omega)))); try simp (disch := omega) only [q1, q2, q3])
          rw [show (j : Int) + 1 = ((j + 1 : Nat) : Int) by omega]
          refine ih _ ⟨by omega, rfl, fun k hk => ?_⟩
          rcases (show k < j ∨ k = j by omega) with h | h
          · exact hall k h
          · rw [h]
            exact he
        · repeat ((first | (with_reducible first | refine w_ltA ?_ | refine w_ltS ?_ | refine w_ltM ?_ | refine w_ltN ?_ | refine w_lt ?_ | refine w_jn ?_ | refine w_ck (by omega) (by assumption) ?_ | refine w_gI (by omega) (by assumption) ?_ | refine w_gR (by omega) (by assumption) (by assumption) ?_ | refine w_al (by omega) (by assumption) (by assumption) ?_ | refine w_pI (by omega) (by assumption) ?_ | refine w_set (by omega) (by assumption) (by omega) (by omega) ?_ | refine w_at (by omega) (by assumption) (by omega) (by omega) ?_ | refine w_sI (by omega) (by assumption) (by omega) (by omega) ?_ | refine w_aI (by omega) (by assumption) (by omega) (by omega) ?_ | refine w_sZ (by omega) (by assumption) (by omega) (by omega) (by decide) ?_ | refine w_pZ (by omega) (by assumption) (by decide) ?_ | refine w_dv (by omega) (by omega) (by omega) (by omega) ?_ | refine w_rm (by omega) (by omega) (by omega) (by omega) ?_) | ((with_reducible refine w_pos ?_ ?_); focus (first | assumption | trivial | exact (ile (by omega) (by omega) (by omega) (by omega)).2 (by omega) | exact (ilt (by omega) (by omega) (by omega) (by omega)).2 (by omega) | exact (ieq (by omega) (by omega) (by omega) (by omega)).2 (by omega))) | ((with_reducible refine w_neg ?_ ?_); focus (first | assumption | exact not_false | trivial | exact mt (ile (by omega) (by omega) (by omega) (by omega)).1 (by omega) | exact mt (ilt (by omega) (by omega) (by omega) (by omega)).1 (by omega) | exact mt (ieq (by omega) (by omega) (by omega) (by omega)).1 (by omega)))); try simp (disch := omega) only [q1, q2, q3])
          refine no ?_
          cases hx : vB T n i v
          · rfl
          · exact absurd ((vB_iff.1 hx).2.2 j hlt) he
      · repeat ((first | (with_reducible first | refine w_ltA ?_ | refine w_ltS ?_ | refine w_ltM ?_ | refine w_ltN ?_ | refine w_lt ?_ | refine w_jn ?_ | refine w_ck (by omega) (by assumption) ?_ | refine w_gI (by omega) (by assumption) ?_ | refine w_gR (by omega) (by assumption) (by assumption) ?_ | refine w_al (by omega) (by assumption) (by assumption) ?_ | refine w_pI (by omega) (by assumption) ?_ | refine w_set (by omega) (by assumption) (by omega) (by omega) ?_ | refine w_at (by omega) (by assumption) (by omega) (by omega) ?_ | refine w_sI (by omega) (by assumption) (by omega) (by omega) ?_ | refine w_aI (by omega) (by assumption) (by omega) (by omega) ?_ | refine w_sZ (by omega) (by assumption) (by omega) (by omega) (by decide) ?_ | refine w_pZ (by omega) (by assumption) (by decide) ?_ | refine w_dv (by omega) (by omega) (by omega) (by omega) ?_ | refine w_rm (by omega) (by omega) (by omega) (by omega) ?_) | ((with_reducible refine w_pos ?_ ?_); focus (first | assumption | trivial | exact (ile (by omega) (by omega) (by omega) (by omega)).2 (by omega) | exact (ilt (by omega) (by omega) (by omega) (by omega)).2 (by omega) | exact (ieq (by omega) (by omega) (by omega) (by omega)).2 (by omega))) | ((with_reducible refine w_neg ?_ ?_); focus (first | assumption | exact not_false | trivial | exact mt (ile (by omega) (by omega) (by omega) (by omega)).1 (by omega) | exact mt (ilt (by omega) (by omega) (by omega) (by omega)).1 (by omega) | exact mt (ieq (by omega) (by omega) (by omega) (by omega)).1 (by omega)))); try simp (disch := omega) only [q1, q2, q3])
        refine w_rzP1 ?_
        rw [vB_iff.2 ⟨hK, hL, fun k hk => hall k (by omega)⟩]
        rfl
    · repeat ((first | (with_reducible first | refine w_ltA ?_ | refine w_ltS ?_ | refine w_ltM ?_ | refine w_ltN ?_ | refine w_lt ?_ | refine w_jn ?_ | refine w_ck (by omega) (by assumption) ?_ | refine w_gI (by omega) (by assumption) ?_ | refine w_gR (by omega) (by assumption) (by assumption) ?_ | refine w_al (by omega) (by assumption) (by assumption) ?_ | refine w_pI (by omega) (by assumption) ?_ | refine w_set (by omega) (by assumption) (by omega) (by omega) ?_ | refine w_at (by omega) (by assumption) (by omega) (by omega) ?_ | refine w_sI (by omega) (by assumption) (by omega) (by omega) ?_ | refine w_aI (by omega) (by assumption) (by omega) (by omega) ?_ | refine w_sZ (by omega) (by assumption) (by omega) (by omega) (by decide) ?_ | refine w_pZ (by omega) (by assumption) (by decide) ?_ | refine w_dv (by omega) (by omega) (by omega) (by omega) ?_ | refine w_rm (by omega) (by omega) (by omega) (by omega) ?_) | ((with_reducible refine w_pos ?_ ?_); focus (first | assumption | trivial | exact (ile (by omega) (by omega) (by omega) (by omega)).2 (by omega) | exact (ilt (by omega) (by omega) (by omega) (by omega)).2 (by omega) | exact (ieq (by omega) (by omega) (by omega) (by omega)).2 (by omega))) | ((with_reducible refine w_neg ?_ ?_); focus (first | assumption | exact not_false | trivial | exact mt (ile (by omega) (by omega) (by omega) (by omega)).1 (by omega) | exact mt (ilt (by omega) (by omega) (by omega) (by omega)).1 (by omega) | exact mt (ieq (by omega) (by omega) (by omega) (by omega)).1 (by omega)))); try simp (disch := omega) only [q1, q2, q3])
      refine no ?_
      cases hx : vB T n i v
      · rfl
      · exact absurd (vB_iff.1 hx).2.1 hL
  · repeat ((first | (with_reducible first | refine w_ltA ?_ | refine w_ltS ?_ | refine w_ltM ?_ | refine w_ltN ?_ | refine w_lt ?_ | refine w_jn ?_ | refine w_ck (by omega) (by assumption) ?_ | refine w_gI (by omega) (by assumption) ?_ | refine w_gR (by omega) (by assumption) (by assumption) ?_ | refine w_al (by omega) (by assumption) (by assumption) ?_ | refine w_pI (by omega) (by assumption) ?_ | refine w_set (by omega) (by assumption) (by omega) (by omega) ?_ | refine w_at (by omega) (by assumption) (by omega) (by omega) ?_ | refine w_sI (by omega) (by assumption) (by omega) (by omega) ?_ | refine w_aI (by omega) (by assumption) (by omega) (by omega) ?_ | refine w_sZ (by omega) (by assumption) (by omega) (by omega) (by decide) ?_ | refine w_pZ (by omega) (by assumption) (by decide) ?_ | refine w_dv (by omega) (by omega) (by omega) (by omega) ?_ | refine w_rm (by omega) (by omega) (by omega) (by omega) ?_) | ((with_reducible refine w_pos ?_ ?_); focus (first | assumption | trivial | exact (ile (by omega) (by omega) (by omega) (by omega)).2 (by omega) | exact (ilt (by omega) (by omega) (by omega) (by omega)).2 (by omega) | exact (ieq (by omega) (by omega) (by omega) (by omega)).2 (by omega))) | ((with_reducible refine w_neg ?_ ?_); focus (first | assumption | exact not_false | trivial | exact mt (ile (by omega) (by omega) (by omega) (by omega)).1 (by omega) | exact mt (ilt (by omega) (by omega) (by omega) (by omega)).1 (by omega) | exact mt (ieq (by omega) (by omega) (by omega) (by omega)).1 (by omega)))); try simp (disch := omega) only [q1, q2, q3])
    refine no ?_
    cases hx : vB T n i v
    · rfl
    · exact absurd (vB_iff.1 hx).1 hK
theorem verbHere_C (hRC : RC R) (hx : TXC I T n) (ht : Tok T n) (hk : TkC I T n i) (hin : i ≤ n) (hlo : lo ≤ hi) (hhi : hi < 14) : f_X2_verbHere (381, I, J, R) 145 143 (iI (lo : Nat)) (iI (hi : Nat)) = some (iI (vbH T n i lo (hi + 1 - lo))) := by
  have k145 := kd_145
  have k143 := kd_143
  refine en_eq ?_
  unfold f_X2_verbHere
  simp only [L0, L1]
  refine w_lp (hi + 1 - lo) (fun j y => j ≤ hi + 1 - lo ∧ y = iI ((lo + j : Nat) : Int) ∧ vbH T n i lo (hi + 1 - lo) = vbH T n i (lo + j) (hi + 1 - lo - j)) ⟨by omega, rfl, rfl⟩ (by rw [FU_eq]; omega) (fun i y h => h.1) ?_
  rintro j y self ⟨hj, rfl, hv⟩ ih
  try dsimp only
  by_cases hlt : lo + j ≤ hi
  · obtain ⟨d, hd⟩ : ∃ d, hi + 1 - lo - j = d + 1 := ⟨hi + 1 - lo - j - 1, by omega⟩
    have htw := thisWord_C (J := J) (v := lo + j) hRC hx ht hk hin (by omega)
    have e : vbH T n i (lo + j) (d + 1) = (if vB T n i (lo + j) then ((lo + j : Nat) : Int) else vbH T n i (lo + j + 1) d) := rfl
    rw [hd, e] at hv
    repeat ((first | (with_reducible first | refine w_ltA ?_ | refine w_ltS ?_ | refine w_ltM ?_ | refine w_ltN ?_ | refine w_lt ?_ | refine w_jn ?_ | refine w_ck (by omega) (by assumption) ?_ | refine w_gI (by omega) (by assumption) ?_ | refine w_gR (by omega) (by assumption) (by assumption) ?_ | refine w_al (by omega) (by assumption) (by assumption) ?_ | refine w_pI (by omega) (by assumption) ?_ | refine w_set (by omega) (by assumption) (by omega) (by omega) ?_ | refine w_at (by omega) (by assumption) (by omega) (by omega) ?_ | refine w_sI (by omega) (by assumption) (by omega) (by omega) ?_ | refine w_aI (by omega) (by assumption) (by omega) (by omega) ?_ | refine w_sZ (by omega) (by assumption) (by omega) (by omega) (by decide) ?_ | refine w_pZ (by omega) (by assumption) (by decide) ?_ | refine w_dv (by omega) (by omega) (by omega) (by omega) ?_ | refine w_rm (by omega) (by omega) (by omega) (by omega) ?_) | ((with_reducible refine w_pos ?_ ?_); focus (first | assumption | trivial | exact (ile (by omega) (by omega) (by omega) (by omega)).2 (by omega) | exact (ilt (by omega) (by omega) (by omega) (by omega)).2 (by omega) | exact (ieq (by omega) (by omega) (by omega) (by omega)).2 (by omega))) | ((with_reducible refine w_neg ?_ ?_); focus (first | assumption | exact not_false | trivial | exact mt (ile (by omega) (by omega) (by omega) (by omega)).1 (by omega) | exact mt (ilt (by omega) (by omega) (by omega) (by omega)).1 (by omega) | exact mt (ieq (by omega) (by omega) (by omega) (by omega)).1 (by omega)))); skip)
    rw [wIx_is _ (by omega)]
    refine w_cP htw ?_
    by_cases hb : vB T n i (lo + j) = true
    · rw [if_pos hb] at hv ⊢
      rw [hv]
      repeat ((first | (with_reducible first | refine w_ltA ?_ | refine w_ltS ?_ | refine w_ltM ?_ | refine w_ltN ?_ | refine w_lt ?_ | refine w_jn ?_ | refine w_ck (by omega) (by assumption) ?_ | refine w_gI (by omega) (by assumption) ?_ | refine w_gR (by omega) (by assumption) (by assumption) ?_ | refine w_al (by omega) (by assumption) (by assumption) ?_ | refine w_pI (by omega) (by assumption) ?_ | refine w_set (by omega) (by assumption) (by omega) (by omega) ?_ | refine w_at (by omega) (by assumption) (by omega) (by omega) ?_ | refine w_sI (by omega) (by assumption) (by omega) (by omega) ?_ | refine w_aI (by omega) (by assumption) (by omega) (by omega) ?_ | refine w_sZ (by omega) (by assumption) (by omega) (by omega) (by decide) ?_ | refine w_pZ (by omega) (by assumption) (by decide) ?_ | refine w_dv (by omega) (by omega) (by omega) (by omega) ?_ | refine w_rm (by omega) (by omega) (by omega) (by omega) ?_) | ((with_reducible refine w_pos ?_ ?_); focus (first | assumption | trivial | exact (ile (by omega) (by omega) (by omega) (by omega)).2 (by omega) | exact (ilt (by omega) (by omega) (by omega) (by omega)).2 (by omega) | exact (ieq (by omega) (by omega) (by omega) (by omega)).2 (by omega))) | ((with_reducible refine w_neg ?_ ?_); focus (first | assumption | exact not_false | trivial | exact mt (ile (by omega) (by omega) (by omega) (by omega)).1 (by omega) | exact mt (ilt (by omega) (by omega) (by omega) (by omega)).1 (by omega) | exact mt (ieq (by omega) (by omega) (by omega) (by omega)).1 (by omega)))); skip)
      exact w_rt rfl
    · rw [if_neg hb] at hv ⊢
      refine w_pos rfl ?_
      repeat ((first | (with_reducible first | refine w_ltA ?_ | refine w_ltS ?_ | refine w_ltM ?_ | refine w_ltN ?_ | refine w_lt ?_ | refine w_jn ?_ | refine w_ck (by omega) (by assumption) ?_ | refine w_gI (by omega) (by assumption) ?_ | refine w_gR (by omega) (by assumption) (by assumption) ?_ | refine w_al (by omega) (by assumption) (by assumption) ?_ | refine w_pI (by omega) (by assumption) ?_ | refine w_set (by omega) (by assumption) (by omega) (by omega) ?_ | refine w_at (by omega) (by assumption) (by omega) (by omega) ?_ | refine w_sI (by omega) (by assumption) (by omega) (by omega) ?_ | refine w_aI (by omega) (by assumption) (by omega) (by omega) ?_ | refine w_sZ (by omega) (by assumption) (by omega) (by omega) (by decide) ?_ | refine w_pZ (by omega) (by assumption) (by decide) ?_ | refine w_dv (by omega) (by omega) (by omega) (by omega) ?_ | refine w_rm (by omega) (by omega) (by omega) (by omega) ?_) | ((with_reducible refine w_pos ?_ ?_); focus (first | assumption | trivial | exact (ile (by omega) (by omega) (by omega) (by omega)).2 (by omega) | exact (ilt (by omega) (by omega) (by omega) (by omega)).2 (by omega) | exact (ieq (by omega) (by omega) (by omega) (by omega)).2 (by omega))) | ((with_reducible refine w_neg ?_ ?_); focus (first | assumption | exact not_false | trivial | exact mt (ile (by omega) (by omega) (by omega) (by omega)).1 (by omega) | exact mt (ilt (by omega) (by omega) (by omega) (by omega)).1 (by omega) | exact mt (ieq (by omega) (by omega) (by omega) (by omega)).1 (by omega)))); skip)
      rw [show ((lo + j : Nat) : Int) + 1 = ((lo + (j + 1) : Nat) : Int) by omega]
      exact ih _ ⟨by omega, rfl, by rw [hv, show hi + 1 - lo - (j + 1) = d by omega]; rfl⟩
  · rw [show hi + 1 - lo - j = 0 by omega] at hv
    rw [hv]
    repeat ((first | (with_reducible first | refine w_ltA ?_ | refine w_ltS ?_ | refine w_ltM ?_ | refine w_ltN ?_ | refine w_lt ?_ | refine w_jn ?_ | refine w_ck (by omega) (by assumption) ?_ | refine w_gI (by omega) (by assumption) ?_ | refine w_gR (by omega) (by assumption) (by assumption) ?_ | refine w_al (by omega) (by assumption) (by assumption) ?_ | refine w_pI (by omega) (by assumption) ?_ | refine w_set (by omega) (by assumption) (by omega) (by omega) ?_ | refine w_at (by omega) (by assumption) (by omega) (by omega) ?_ | refine w_sI (by omega) (by assumption) (by omega) (by omega) ?_ | refine w_aI (by omega) (by assumption) (by omega) (by omega) ?_ | refine w_sZ (by omega) (by assumption) (by omega) (by omega) (by decide) ?_ | refine w_pZ (by omega) (by assumption) (by decide) ?_ | refine w_dv (by omega) (by omega) (by omega) (by omega) ?_ | refine w_rm (by omega) (by omega) (by omega) (by omega) ?_) | ((with_reducible refine w_pos ?_ ?_); focus (first | assumption | trivial | exact (ile (by omega) (by omega) (by omega) (by omega)).2 (by omega) | exact (ilt (by omega) (by omega) (by omega) (by omega)).2 (by omega) | exact (ieq (by omega) (by omega) (by omega) (by omega)).2 (by omega))) | ((with_reducible refine w_neg ?_ ?_); focus (first | assumption | exact not_false | trivial | exact mt (ile (by omega) (by omega) (by omega) (by omega)).1 (by omega) | exact mt (ilt (by omega) (by omega) (by omega) (by omega)).1 (by omega) | exact mt (ieq (by omega) (by omega) (by omega) (by omega)).1 (by omega)))); skip)
    exact w_rt rfl
end VBC
