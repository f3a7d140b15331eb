/-! RINGS: the class's swap and read -/
def upR (R : MR) (a k : Nat) (x : Option Nat) : MR := fun b j => if b = a ∧ j = k then x else R b j
theorem upR_eq {R : MR} {a k : Nat} {x : Option Nat} : upR R a k x a k = x := if_pos ⟨rfl, rfl⟩
theorem upR_ne {R : MR} {a k b j : Nat} {x : Option Nat} (h : ¬ (b = a ∧ j = k)) : upR R a k x b j = R b j := if_neg h
section SRP
variable {α β : Type} {Q : β → Prop} {I : MI} {J : MJ} {R : MR} {a b c k n cb : Nat} {i : Int}
theorem w_pR {x : Option Nat} {K : St → Option β} (h1 : a < 381) (h2 : kd a = c) (h : En Q (K (381, I, J, upR R a k x))) : En Q (pR_ (381, I, J, R) a c k x K) := by
  have e : pR_ (381, I, J, R) a c k x K = K (381, I, J, upR R a k x) := if_pos ⟨h1, h2⟩
  rw [e]
  exact h
theorem w_sR {K : St → Option β} (h1 : a < 381) (h2 : kd a = c) (h3 : 0 ≤ i) (h4 : i < ln a) (h5 : b < 381) (h6 : kd b = cb) (h : En Q (K (381, I, J, upR R a i.toNat (some b)))) : En Q (sR_ (381, I, J, R) a c (iI i) b cb K) := by
  have hb := ln_big a
  have e : sR_ (381, I, J, R) a c (iI i) b cb K = K (381, I, J, upR R a i.toNat (some b)) := by
    have hn : (iI i).toNatClampNeg = i.toNat := by rw [inat (by omega) (by omega)]
    unfold sR_
    rw [hn, if_pos ⟨⟨⟨h1, h2⟩, by rw [L0, ilt (by omega) (by omega) (by omega) (by omega)]; omega⟩, h5, h6⟩]
    rfl
  rw [e]
  exact h
end SRP
abbrev hadV (V : RV) (f : Int) : Prop := (V.2 0 13 ≤ 1 ∧ f ≠ 0 ∧ 0 < V.1 (V.2 0 12).toNat 0 9 ∧ V.2 0 15 = 0) ∨ (¬ V.2 0 13 ≤ 1 ∧ opIn V (V.2 0 12) = false)
def recF (P : PV) (s : Nat) : Int := cnt (isR P) (P 0 8).toNat - cnt (isR P) s
theorem recF_0 {P : PV} : recF P 0 = recs P := Int.sub_zero _
def xchV (V : RV) (hd : Nat) (A B : PV) : RV := (fun p => if p = hd then A else if p = 6 then B else V.1 p, V.2)
def swp1 (V : RV) : RV := upG (upG V 5 10 (V.2 5 10 + recF (V.1 6) (V.2 0 7).toNat)) 5 14 (V.2 5 14 + 1)
def swp2 (V : RV) : RV := upG (xchV (swp1 V) (V.2 0 12).toNat (clP (V.1 6)) (V.1 (V.2 0 12).toNat)) 0 7 0
def swp3 (V : RV) : RV := if V.2 0 13 ≤ 1 then swp2 V else upG (upG (swp2 V) 0 12 (plc V 1)) 0 13 (V.2 0 13 - 1)
def swpV (V : RV) (f : Int) : Int × RV := if hadV V f then (recs (V.1 (V.2 0 12).toNat), swp3 V) else (-1, V)
theorem swp2_g {V : RV} {g k : Nat} (h : ¬ (g = 5 ∧ k = 10)) (h1 : ¬ (g = 5 ∧ k = 14)) (h2 : ¬ (g = 0 ∧ k = 7)) : (swp2 V).2 g k = V.2 g k := by
  show (if g = 0 ∧ k = 7 then _ else if g = 5 ∧ k = 14 then _ else if g = 5 ∧ k = 10 then _ else V.2 g k) = _
  rw [if_neg h2, if_neg h1, if_neg h]
theorem swp2_7 {V : RV} : (swp2 V).2 0 7 = 0 := upG_eq
theorem swp2_p {V : RV} {p : Nat} : (swp2 V).1 p = if p = (V.2 0 12).toNat then clP (V.1 6) else if p = 6 then V.1 (V.2 0 12).toNat else V.1 p := rfl
theorem wr_swp2 {V : RV} (hw : WR V) (hno : ∀ k : Nat, (k : Int) < V.2 0 15 → V.2 2 k ≠ V.2 0 12) : WR (swp2 V) := by
  obtain ⟨a1, a2, a3, a4, a5⟩ := hw
  have hb := a1
  unfold WB at hb
  have hl : ∀ p, liveAt (swp2 V) p ↔ liveAt V p := fun p => liveAt_congr (swp2_g (by omega) (by omega) (by omega)) (swp2_g (by omega) (by omega) (by omega)) (swp2_g (by omega) (by omega) (by omega))
  have hh := (a2 (V.2 0 12).toNat (by omega)).1
  refine ⟨?_, fun p hp => ?_, fun p hp hd => ?_, fun k hk => ?_, fun k k' hk hk' => ?_⟩
  · unfold WB
    rw [swp2_7, swp2_p, if_neg (by omega), if_pos rfl]
    simp (disch := omega) only [swp2_g]
    omega
  · rw [swp2_p, swp2_g (by omega) (by omega) (by omega), swp2_g (by omega) (by omega) (by omega)]
    split
    · exact wp_cl (a2 6 (by omega)) (by omega)
    split
    · exact a2 _ (by omega)
    · exact a2 p hp
  · rw [swp2_p]
    split
    · exact ep_cl
    rw [if_neg (by omega)]
    exact a3 p hp fun h => hd ((hl _).2 h)
  · rw [swp2_g (by omega) (by omega) (by omega)] at hk
    have h := a4 k hk
    have hn := hno k hk
    unfold WO at *
    have hlv := h.2.1
    unfold liveAt at hlv
    rw [hl, swp2_g (g := 2) (by omega) (by omega) (by omega), swp2_g (g := 3) (by omega) (by omega) (by omega), swp2_g (g := 4) (by omega) (by omega) (by omega), swp2_p, if_neg (by omega), if_neg (by omega)]
    exact h
  · rw [swp2_g (by omega) (by omega) (by omega)] at hk'
    rw [swp2_g (g := 2) (by omega) (by omega) (by omega), swp2_g (g := 3) (by omega) (by omega) (by omega), swp2_g (g := 2) (by omega) (by omega) (by omega), swp2_g (g := 3) (by omega) (by omega) (by omega)]
    exact a5 k k' hk hk'
/-- the head, empty, leaves -/
theorem wr_adv {V : RV} (hw : WR V) (hl : 2 ≤ V.2 0 13) (he : EP (V.1 (V.2 0 12).toNat)) (hno : ∀ k : Nat, (k : Int) < V.2 0 15 → V.2 2 k ≠ V.2 0 12) : WR (upG (upG V 0 12 (plc V 1)) 0 13 (V.2 0 13 - 1)) := by
  obtain ⟨a1, a2, a3, a4, a5⟩ := hw
  have hb := a1
  unfold WB at hb
  generalize hU : upG (upG V 0 12 (plc V 1)) 0 13 (V.2 0 13 - 1) = U
  have e12 : U.2 0 12 = plc V 1 := by
    rw [← hU, upG_ne (by omega), upG_eq]
  have e13 : U.2 0 13 = V.2 0 13 - 1 := by
    rw [← hU, upG_eq]
  have e1 : U.1 = V.1 := by
    rw [← hU]
    rfl
  have e : ∀ g k, ¬ (g = 0 ∧ (k = 12 ∨ k = 13)) → U.2 g k = V.2 g k := fun g k h => by
    rw [← hU, upG_ne (by omega), upG_ne (by omega)]
  have hlv : ∀ p, p ≠ V.2 0 12 → 0 ≤ p → (liveAt U p ↔ liveAt V p) := fun p hp hp0 => by
    unfold liveAt
    rw [e12, e13, e _ _ (by omega)]
    unfold plc
    split <;> omega
  refine ⟨?_, fun p hp => ?_, fun p hp hd => ?_, fun k hk => ?_, fun k k' hk hk' => ?_⟩
  · unfold WB
    rw [e12, e13, e1]
    simp (disch := omega) only [e]
    unfold plc
    split <;> omega
  · rw [e1, e _ _ (by omega), e _ _ (by omega)]
    exact a2 p hp
  · rw [e1]
    by_cases h : (p : Int) = V.2 0 12
    · have : p = (V.2 0 12).toNat := by omega
      rw [this]
      exact he
    · exact a3 p hp fun hh => hd ((hlv p h (by omega)).2 hh)
  · rw [e _ _ (by omega)] at hk
    have h := a4 k hk
    have hn := hno k hk
    unfold WO at *
    rw [e 2 _ (by omega), e 3 _ (by omega), e 4 _ (by omega), e1]
    exact ⟨h.1, (hlv _ hn h.1).2 h.2.1, h.2.2⟩
  · rw [e _ _ (by omega)] at hk'
    rw [e 2 _ (by omega), e 3 _ (by omega), e 2 _ (by omega), e 3 _ (by omega)]
    exact a5 k k' hk hk'
theorem had_no {V : RV} {f : Int} (hw : WR V) (h : hadV V f) : ∀ k : Nat, (k : Int) < V.2 0 15 → V.2 2 k ≠ V.2 0 12 := by
  intro k hk he
  have hb := hw.1
  unfold WB at hb
  rcases h with h | h
  · omega
  · have : opIn V (V.2 0 12) = true := opIn_iff.2 ⟨k, hk, he⟩
    rw [h.2] at this
    cases this
theorem wr_swp3 {V : RV} {f : Int} (hw : WR V) (h : hadV V f) : WR (swp3 V) := by
  have hb := hw.1
  unfold WB at hb
  have hno := had_no hw h
  have h2 := wr_swp2 hw hno
  unfold swp3
  split
  · exact h2
  · next hl =>
    have ep : plc (swp2 V) 1 = plc V 1 := by
      unfold plc
      rw [swp2_g (by omega) (by omega) (by omega), swp2_g (by omega) (by omega) (by omega)]
    have e13 : (swp2 V).2 0 13 = V.2 0 13 := swp2_g (by omega) (by omega) (by omega)
    have e12 : (swp2 V).2 0 12 = V.2 0 12 := swp2_g (by omega) (by omega) (by omega)
    rw [← ep, ← e13]
    refine wr_adv h2 (by omega) ?_ (fun k hk => ?_)
    · rw [e12, swp2_p, if_pos rfl]
      exact ep_cl
    · rw [swp2_g (by omega) (by omega) (by omega)] at hk
      rw [e12, swp2_g (by omega) (by omega) (by omega)]
      exact hno k hk
theorem wr_swp {V : RV} {f : Int} (hw : WR V) : WR (swpV V f).2 := by
  unfold swpV
  split
  · next h => exact wr_swp3 hw h
  · exact hw
theorem cto_xch {r : Nat} {σ : Nat → Nat} {I0 I : MI} {R0 R : MR} {V : RV} (hrg : isRg r) (h : CTo r σ I0 R0 I R V) {hd : Nat} (hh : hd < 6) : CTo r (fun p => if p = hd then σ 6 else if p = 6 then σ hd else σ p) I0 R0 I (upR (upR R (r + 1) hd (some (pa r (σ 6)))) r 6 (some (pa r (σ hd)))) (xchV V hd (V.1 6) (V.1 hd)) := by
  obtain ⟨⟨⟨e0, e1, e2, e3, e4, e5, e6, e7, ep, ed, hσ, hσi⟩, hpp, hgg⟩, h4, h5⟩ := h
  refine ⟨⟨⟨?_, ?_, ?_, ?_, ?_, ?_, ?_, ?_, fun p hp => ?_, fun j hj => ?_, fun p hp => ?_, fun p p' hp hp' he => ?_⟩, fun p hp => ?_, hgg⟩, h4, fun a k ha => ?_⟩
  · rw [upR_ne (by omega), upR_ne (by omega)]
    exact e0
  · rw [upR_ne (by omega), upR_ne (by omega)]
    exact e1
  · rw [upR_ne (by omega), upR_ne (by omega)]
    exact e2
  · rw [upR_ne (by omega), upR_ne (by omega)]
    exact e3
  · rw [upR_ne (by omega), upR_ne (by omega)]
    exact e4
  · rw [upR_ne (by omega), upR_ne (by omega)]
    exact e5
  · dsimp only
    rw [upR_eq, if_neg (by omega), if_pos rfl]
  · rw [upR_ne (by omega), upR_ne (by omega)]
    exact e7
  · rw [upR_ne (by omega)]
    dsimp only
    by_cases he : p = hd
    · subst he
      rw [upR_eq, if_pos rfl]
    · rw [upR_ne (by omega), if_neg he, if_neg (by omega)]
      exact ep p hp
  · have := pa_in (r := r) hj
    have hx := ed j hj
    unfold RfP at *
    simp (disch := omega) only [upR_ne]
    exact hx
  · have := hσ 6 (by omega)
    have := hσ hd (by omega)
    have := hσ p hp
    dsimp only
    repeat' split
    all_goals assumption
  · dsimp only at he
    have h6 := fun q hq => hσi q 6 hq (by omega)
    have h6' := fun q hq => hσi 6 q (by omega) hq
    have hD := fun q hq => hσi q hd hq (by omega)
    have hD' := fun q hq => hσi hd q (by omega) hq
    have := hσi p p' hp hp'
    by_cases c1 : p = hd
    · rw [if_pos c1] at he
      by_cases c2 : p' = hd
      · omega
      · rw [if_neg c2] at he
        by_cases c3 : p' = 6
        · rw [if_pos c3] at he
          have := hD' 6 (by omega) he.symm
          omega
        · rw [if_neg c3] at he
          have := h6' p' hp' he
          omega
    · rw [if_neg c1] at he
      by_cases c2 : p = 6
      · rw [if_pos c2] at he
        by_cases c3 : p' = hd
        · rw [if_pos c3] at he
          have := hD' 6 (by omega) he
          omega
        · rw [if_neg c3] at he
          by_cases c4 : p' = 6
          · omega
          · rw [if_neg c4] at he
            have := hD' p' hp' he
            omega
      · rw [if_neg c2] at he
        by_cases c3 : p' = hd
        · rw [if_pos c3] at he
          have := h6 p hp he
          omega
        · rw [if_neg c3] at he
          by_cases c4 : p' = 6
          · rw [if_pos c4] at he
            have := hD p hp he
            omega
          · rw [if_neg c4] at he
            exact this he
  · show CP I (pa r (if p = hd then σ 6 else if p = 6 then σ hd else σ p)) (if p = hd then V.1 6 else if p = 6 then V.1 hd else V.1 p)
    by_cases c1 : p = hd
    · rw [if_pos c1, if_pos c1]
      exact hpp 6 (by omega)
    · rw [if_neg c1, if_neg c1]
      by_cases c2 : p = 6
      · rw [if_pos c2, if_pos c2]
        exact hpp hd (by omega)
      · rw [if_neg c2, if_neg c2]
        exact hpp p hp
  · rw [upR_ne (by omega), upR_ne (by omega)]
    exact h5 a k ha
section RGH
variable {I I0 : MI} {J : MJ} {R R0 : MR} {r : Nat} {σ : Nat → Nat} {γ : Type} {Q : γ → Prop} {x : Int32} {i t l n m f : Int} {V : RV}
theorem had_C (hrg : isRg r) (hc : CR I R r σ V) (hw : WR V) (hf : f = 0 ∨ f = 1) : f_X4_canHeadBeHad (381, I, J, R) r (iI f) = some (if hadV V f then iI 1 else iI 0) := by
  have hb := hw.1
  unfold WB at hb
  have ho := isOpenIn_C (J := J) (p := V.2 0 12) hrg hc hw (by omega) (by omega)
  have hpa := pageAt_C (J := J) (p := V.2 0 12) hrg hc (by omega) (by omega)
  have hwp := hw.2.1 (V.2 0 12).toNat (by omega)
  have hc0 := hc
  obtain ⟨hq, kr0, kr1, kr2, kr3, kr4, kr5, kr6, kr7, lr1, lr2, lr3, lr4, lr5, lr7, hpg⟩ := hrg
  have hsc := cr_s hc
  obtain ⟨⟨e0, e1, e2, e3, e4, e5, e6, e7, ep, ed, hσ, hσi⟩, hpp, hgg⟩ := hc
  have s7 := hsc 7 (by decide)
  have s8 := hsc 8 (by decide)
  have s9 := hsc 9 (by decide)
  have s10 := hsc 10 (by decide)
  have s11 := hsc 11 (by decide)
  have s12 := hsc 12 (by decide)
  have s13 := hsc 13 (by decide)
  have s14 := hsc 14 (by decide)
  have s15 := hsc 15 (by decide)
  have hP := hpp (V.2 0 12).toNat (by omega)
  have c9 := hP.old.1.2.1
  have hpg1 := hpg _ (hσ (V.2 0 12).toNat (by omega))
  have hkq := hpg1.2.1
  have hq9 := hpg1.1
  have w9 := hwp.2.2.1
  have w8 := hwp.1
  refine en_eq ?_
  rw [u_X4_canHeadBeHad]
  by_cases h : V.2 0 13 ≤ 1
  · by_cases h1 : f = 0
    · rw [if_neg (by rintro (hh | hh); exact hh.2.1 h1; exact hh.1 h)]
      repeat ((first | (with_reducible first | refine w_ltA ?_ | refine w_ltS ?_ | refine w_ltM ?_ | refine w_ltN ?_ | refine w_lt ?_ | refine w_jn ?_ | refine w_ck (by omega) (by assumption) ?_ | refine w_gI (by omega) (by assumption) ?_ | refine w_gR (by omega) (by assumption) (by assumption) ?_ | refine w_al (by omega) (by assumption) (by assumption) ?_ | refine w_pI (by omega) (by assumption) ?_ | refine w_set (by omega) (by assumption) (by omega) (by omega) ?_ | refine w_at (by omega) (by assumption) (by omega) (by omega) ?_ | refine w_sI (by omega) (by assumption) (by omega) (by omega) ?_ | refine w_aI (by omega) (by assumption) (by omega) (by omega) ?_ | refine w_sZ (by omega) (by assumption) (by omega) (by omega) (by decide) ?_ | refine w_pZ (by omega) (by assumption) (by decide) ?_ | refine w_dv (by omega) (by omega) (by omega) (by omega) ?_ | refine w_rm (by omega) (by omega) (by omega) (by omega) ?_) | ((with_reducible refine w_pos ?_ ?_); focus (first | assumption | trivial | exact (ile (by omega) (by omega) (by omega) (by omega)).2 (by omega) | exact (ilt (by omega) (by omega) (by omega) (by omega)).2 (by omega) | exact (ieq (by omega) (by omega) (by omega) (by omega)).2 (by omega))) | ((with_reducible refine w_neg ?_ ?_); focus (first | assumption | exact not_false | trivial | exact mt (ile (by omega) (by omega) (by omega) (by omega)).1 (by omega) | exact mt (ilt (by omega) (by omega) (by omega) (by omega)).1 (by omega) | exact mt (ieq (by omega) (by omega) (by omega) (by omega)).1 (by omega)))); try simp (disch := omega) only [s12, s13, s15, c9])
      rw [rzP0]
      exact w_some rfl
    by_cases h2 : V.1 (V.2 0 12).toNat 0 9 ≤ 0
    · rw [if_neg (by rintro (hh | hh); omega; exact hh.1 h)]
      repeat ((first | (with_reducible first | refine w_ltA ?_ | refine w_ltS ?_ | refine w_ltM ?_ | refine w_ltN ?_ | refine w_lt ?_ | refine w_jn ?_ | refine w_ck (by omega) (by assumption) ?_ | refine w_gI (by omega) (by assumption) ?_ | refine w_gR (by omega) (by assumption) (by assumption) ?_ | refine w_al (by omega) (by assumption) (by assumption) ?_ | refine w_pI (by omega) (by assumption) ?_ | refine w_set (by omega) (by assumption) (by omega) (by omega) ?_ | refine w_at (by omega) (by assumption) (by omega) (by omega) ?_ | refine w_sI (by omega) (by assumption) (by omega) (by omega) ?_ | refine w_aI (by omega) (by assumption) (by omega) (by omega) ?_ | refine w_sZ (by omega) (by assumption) (by omega) (by omega) (by decide) ?_ | refine w_pZ (by omega) (by assumption) (by decide) ?_ | refine w_dv (by omega) (by omega) (by omega) (by omega) ?_ | refine w_rm (by omega) (by omega) (by omega) (by omega) ?_) | ((with_reducible refine w_pos ?_ ?_); focus (first | assumption | trivial | exact (ile (by omega) (by omega) (by omega) (by omega)).2 (by omega) | exact (ilt (by omega) (by omega) (by omega) (by omega)).2 (by omega) | exact (ieq (by omega) (by omega) (by omega) (by omega)).2 (by omega))) | ((with_reducible refine w_neg ?_ ?_); focus (first | assumption | exact not_false | trivial | exact mt (ile (by omega) (by omega) (by omega) (by omega)).1 (by omega) | exact mt (ilt (by omega) (by omega) (by omega) (by omega)).1 (by omega) | exact mt (ieq (by omega) (by omega) (by omega) (by omega)).1 (by omega)))); try simp (disch := omega) only [s12, s13, s15, c9])
      refine w_cP hpa ?_
      repeat ((first | (with_reducible first | refine w_ltA ?_ | refine w_ltS ?_ | refine w_ltM ?_ | refine w_ltN ?_ | refine w_lt ?_ | refine w_jn ?_ | refine w_ck (by omega) (by assumption) ?_ | refine w_gI (by omega) (by assumption) ?_ | refine w_gR (by omega) (by assumption) (by assumption) ?_ | refine w_al (by omega) (by assumption) (by assumption) ?_ | refine w_pI (by omega) (by assumption) ?_ | refine w_set (by omega) (by assumption) (by omega) (by omega) ?_ | refine w_at (by omega) (by assumption) (by omega) (by omega) ?_ | refine w_sI (by omega) (by assumption) (by omega) (by omega) ?_ | refine w_aI (by omega) (by assumption) (by omega) (by omega) ?_ | refine w_sZ (by omega) (by assumption) (by omega) (by omega) (by decide) ?_ | refine w_pZ (by omega) (by assumption) (by decide) ?_ | refine w_dv (by omega) (by omega) (by omega) (by omega) ?_ | refine w_rm (by omega) (by omega) (by omega) (by omega) ?_) | ((with_reducible refine w_pos ?_ ?_); focus (first | assumption | trivial | exact (ile (by omega) (by omega) (by omega) (by omega)).2 (by omega) | exact (ilt (by omega) (by omega) (by omega) (by omega)).2 (by omega) | exact (ieq (by omega) (by omega) (by omega) (by omega)).2 (by omega))) | ((with_reducible refine w_neg ?_ ?_); focus (first | assumption | exact not_false | trivial | exact mt (ile (by omega) (by omega) (by omega) (by omega)).1 (by omega) | exact mt (ilt (by omega) (by omega) (by omega) (by omega)).1 (by omega) | exact mt (ieq (by omega) (by omega) (by omega) (by omega)).1 (by omega)))); try simp (disch := omega) only [s12, s13, s15, c9])
      rw [rzP0]
      exact w_some rfl
    by_cases h3 : V.2 0 15 = 0
    · rw [if_pos (Or.inl ⟨h, h1, by omega, h3⟩)]
      repeat ((first | (with_reducible first | refine w_ltA ?_ | refine w_ltS ?_ | refine w_ltM ?_ | refine w_ltN ?_ | refine w_lt ?_ | refine w_jn ?_ | refine w_ck (by omega) (by assumption) ?_ | refine w_gI (by omega) (by assumption) ?_ | refine w_gR (by omega) (by assumption) (by assumption) ?_ | refine w_al (by omega) (by assumption) (by assumption) ?_ | refine w_pI (by omega) (by assumption) ?_ | refine w_set (by omega) (by assumption) (by omega) (by omega) ?_ | refine w_at (by omega) (by assumption) (by omega) (by omega) ?_ | refine w_sI (by omega) (by assumption) (by omega) (by omega) ?_ | refine w_aI (by omega) (by assumption) (by omega) (by omega) ?_ | refine w_sZ (by omega) (by assumption) (by omega) (by omega) (by decide) ?_ | refine w_pZ (by omega) (by assumption) (by decide) ?_ | refine w_dv (by omega) (by omega) (by omega) (by omega) ?_ | refine w_rm (by omega) (by omega) (by omega) (by omega) ?_) | ((with_reducible refine w_pos ?_ ?_); focus (first | assumption | trivial | exact (ile (by omega) (by omega) (by omega) (by omega)).2 (by omega) | exact (ilt (by omega) (by omega) (by omega) (by omega)).2 (by omega) | exact (ieq (by omega) (by omega) (by omega) (by omega)).2 (by omega))) | ((with_reducible refine w_neg ?_ ?_); focus (first | assumption | exact not_false | trivial | exact mt (ile (by omega) (by omega) (by omega) (by omega)).1 (by omega) | exact mt (ilt (by omega) (by omega) (by omega) (by omega)).1 (by omega) | exact mt (ieq (by omega) (by omega) (by omega) (by omega)).1 (by omega)))); try simp (disch := omega) only [s12, s13, s15, c9])
      refine w_cP hpa ?_
      repeat ((first | (with_reducible first | refine w_ltA ?_ | refine w_ltS ?_ | refine w_ltM ?_ | refine w_ltN ?_ | refine w_lt ?_ | refine w_jn ?_ | refine w_ck (by omega) (by assumption) ?_ | refine w_gI (by omega) (by assumption) ?_ | refine w_gR (by omega) (by assumption) (by assumption) ?_ | refine w_al (by omega) (by assumption) (by assumption) ?_ | refine w_pI (by omega) (by assumption) ?_ | refine w_set (by omega) (by assumption) (by omega) (by omega) ?_ | refine w_at (by omega) (by assumption) (by omega) (by omega) ?_ | refine w_sI (by omega) (by assumption) (by omega) (by omega) ?_ | refine w_aI (by omega) (by assumption) (by omega) (by omega) ?_ | refine w_sZ (by omega) (by assumption) (by omega) (by omega) (by decide) ?_ | refine w_pZ (by omega) (by assumption) (by decide) ?_ | refine w_dv (by omega) (by omega) (by omega) (by omega) ?_ | refine w_rm (by omega) (by omega) (by omega) (by omega) ?_) | ((with_reducible refine w_pos ?_ ?_); focus (first | assumption | trivial | exact (ile (by omega) (by omega) (by omega) (by omega)).2 (by omega) | exact (ilt (by omega) (by omega) (by omega) (by omega)).2 (by omega) | exact (ieq (by omega) (by omega) (by omega) (by omega)).2 (by omega))) | ((with_reducible refine w_neg ?_ ?_); focus (first | assumption | exact not_false | trivial | exact mt (ile (by omega) (by omega) (by omega) (by omega)).1 (by omega) | exact mt (ilt (by omega) (by omega) (by omega) (by omega)).1 (by omega) | exact mt (ieq (by omega) (by omega) (by omega) (by omega)).1 (by omega)))); try simp (disch := omega) only [s12, s13, s15, c9])
      rw [rzP1]
      exact w_some rfl
    · rw [if_neg (by rintro (hh | hh); omega; exact hh.1 h)]
      repeat ((first | (with_reducible first | refine w_ltA ?_ | refine w_ltS ?_ | refine w_ltM ?_ | refine w_ltN ?_ | refine w_lt ?_ | refine w_jn ?_ | refine w_ck (by omega) (by assumption) ?_ | refine w_gI (by omega) (by assumption) ?_ | refine w_gR (by omega) (by assumption) (by assumption) ?_ | refine w_al (by omega) (by assumption) (by assumption) ?_ | refine w_pI (by omega) (by assumption) ?_ | refine w_set (by omega) (by assumption) (by omega) (by omega) ?_ | refine w_at (by omega) (by assumption) (by omega) (by omega) ?_ | refine w_sI (by omega) (by assumption) (by omega) (by omega) ?_ | refine w_aI (by omega) (by assumption) (by omega) (by omega) ?_ | refine w_sZ (by omega) (by assumption) (by omega) (by omega) (by decide) ?_ | refine w_pZ (by omega) (by assumption) (by decide) ?_ | refine w_dv (by omega) (by omega) (by omega) (by omega) ?_ | refine w_rm (by omega) (by omega) (by omega) (by omega) ?_) | ((with_reducible refine w_pos ?_ ?_); focus (first | assumption | trivial | exact (ile (by omega) (by omega) (by omega) (by omega)).2 (by omega) | exact (ilt (by omega) (by omega) (by omega) (by omega)).2 (by omega) | exact (ieq (by omega) (by omega) (by omega) (by omega)).2 (by omega))) | ((with_reducible refine w_neg ?_ ?_); focus (first | assumption | exact not_false | trivial | exact mt (ile (by omega) (by omega) (by omega) (by omega)).1 (by omega) | exact mt (ilt (by omega) (by omega) (by omega) (by omega)).1 (by omega) | exact mt (ieq (by omega) (by omega) (by omega) (by omega)).1 (by omega)))); try simp (disch := omega) only [s12, s13, s15, c9])
      refine w_cP hpa ?_
      repeat ((first | (with_reducible first | refine w_ltA ?_ | refine w_ltS ?_ | refine w_ltM ?_ | refine w_ltN ?_ | refine w_lt ?_ | refine w_jn ?_ | refine w_ck (by omega) (by assumption) ?_ | refine w_gI (by omega) (by assumption) ?_ | refine w_gR (by omega) (by assumption) (by assumption) ?_ | refine w_al (by omega) (by assumption) (by assumption) ?_ | refine w_pI (by omega) (by assumption) ?_ | refine w_set (by omega) (by assumption) (by omega) (by omega) ?_ | refine w_at (by omega) (by assumption) (by omega) (by omega) ?_ | refine w_sI (by omega) (by assumption) (by omega) (by omega) ?_ | refine w_aI (by omega) (by assumption) (by omega) (by omega) ?_ | refine w_sZ (by omega) (by assumption) (by omega) (by omega) (by decide) ?_ | refine w_pZ (by omega) (by assumption) (by decide) ?_ | refine w_dv (by omega) (by omega) (by omega) (by omega) ?_ | refine w_rm (by omega) (by omega) (by omega) (by omega) ?_) | ((with_reducible refine w_pos ?_ ?_); focus (first | assumption | trivial | exact (ile (by omega) (by omega) (by omega) (by omega)).2 (by omega) | exact (ilt (by omega) (by omega) (by omega) (by omega)).2 (by omega) | exact (ieq (by omega) (by omega) (by omega) (by omega)).2 (by omega))) | ((with_reducible refine w_neg ?_ ?_); focus (first | assumption | exact not_false | trivial | exact mt (ile (by omega) (by omega) (by omega) (by omega)).1 (by omega) | exact mt (ilt (by omega) (by omega) (by omega) (by omega)).1 (by omega) | exact mt (ieq (by omega) (by omega) (by omega) (by omega)).1 (by omega)))); try simp (disch := omega) only [s12, s13, s15, c9])
      rw [rzP0]
      exact w_some rfl
  · repeat ((first | (with_reducible first | refine w_ltA ?_ | refine w_ltS ?_ | refine w_ltM ?_ | refine w_ltN ?_ | refine w_lt ?_ | refine w_jn ?_ | refine w_ck (by omega) (by assumption) ?_ | refine w_gI (by omega) (by assumption) ?_ | refine w_gR (by omega) (by assumption) (by assumption) ?_ | refine w_al (by omega) (by assumption) (by assumption) ?_ | refine w_pI (by omega) (by assumption) ?_ | refine w_set (by omega) (by assumption) (by omega) (by omega) ?_ | refine w_at (by omega) (by assumption) (by omega) (by omega) ?_ | refine w_sI (by omega) (by assumption) (by omega) (by omega) ?_ | refine w_aI (by omega) (by assumption) (by omega) (by omega) ?_ | refine w_sZ (by omega) (by assumption) (by omega) (by omega) (by decide) ?_ | refine w_pZ (by omega) (by assumption) (by decide) ?_ | refine w_dv (by omega) (by omega) (by omega) (by omega) ?_ | refine w_rm (by omega) (by omega) (by omega) (by omega) ?_) | ((with_reducible refine w_pos ?_ ?_); focus (first | assumption | trivial | exact (ile (by omega) (by omega) (by omega) (by omega)).2 (by omega) | exact (ilt (by omega) (by omega) (by omega) (by omega)).2 (by omega) | exact (ieq (by omega) (by omega) (by omega) (by omega)).2 (by omega))) | ((with_reducible refine w_neg ?_ ?_); focus (first | assumption | exact not_false | trivial | exact mt (ile (by omega) (by omega) (by omega) (by omega)).1 (by omega) | exact mt (ilt (by omega) (by omega) (by omega) (by omega)).1 (by omega) | exact mt (ieq (by omega) (by omega) (by omega) (by omega)).1 (by omega)))); try simp (disch := omega) only [s12, s13, s15, c9])
    refine w_cP ho ?_
    by_cases h4 : opIn V (V.2 0 12) = true
    · rw [if_pos h4, if_neg (by rintro (hh | hh); exact h hh.1; rw [h4] at hh; cases hh.2)]
      repeat ((first | (with_reducible first | refine w_ltA ?_ | refine w_ltS ?_ | refine w_ltM ?_ | refine w_ltN ?_ | refine w_lt ?_ | refine w_jn ?_ | refine w_ck (by omega) (by assumption) ?_ | refine w_gI (by omega) (by assumption) ?_ | refine w_gR (by omega) (by assumption) (by assumption) ?_ | refine w_al (by omega) (by assumption) (by assumption) ?_ | refine w_pI (by omega) (by assumption) ?_ | refine w_set (by omega) (by assumption) (by omega) (by omega) ?_ | refine w_at (by omega) (by assumption) (by omega) (by omega) ?_ | refine w_sI (by omega) (by assumption) (by omega) (by omega) ?_ | refine w_aI (by omega) (by assumption) (by omega) (by omega) ?_ | refine w_sZ (by omega) (by assumption) (by omega) (by omega) (by decide) ?_ | refine w_pZ (by omega) (by assumption) (by decide) ?_ | refine w_dv (by omega) (by omega) (by omega) (by omega) ?_ | refine w_rm (by omega) (by omega) (by omega) (by omega) ?_) | ((with_reducible refine w_pos ?_ ?_); focus (first | assumption | trivial | exact (ile (by omega) (by omega) (by omega) (by omega)).2 (by omega) | exact (ilt (by omega) (by omega) (by omega) (by omega)).2 (by omega) | exact (ieq (by omega) (by omega) (by omega) (by omega)).2 (by omega))) | ((with_reducible refine w_neg ?_ ?_); focus (first | assumption | exact not_false | trivial | exact mt (ile (by omega) (by omega) (by omega) (by omega)).1 (by omega) | exact mt (ilt (by omega) (by omega) (by omega) (by omega)).1 (by omega) | exact mt (ieq (by omega) (by omega) (by omega) (by omega)).1 (by omega)))); try simp (disch := omega) only [s12, s13, s15, c9])
      rw [rzP0]
      exact w_some rfl
    · have h5 : opIn V (V.2 0 12) = false := by
        cases hx : opIn V (V.2 0 12)
        · rfl
        · exact absurd hx h4
      rw [if_neg h4, if_pos (Or.inr ⟨h, h5⟩)]
      repeat ((first | (with_reducible first | refine w_ltA ?_ | refine w_ltS ?_ | refine w_ltM ?_ | refine w_ltN ?_ | refine w_lt ?_ | refine w_jn ?_ | refine w_ck (by omega) (by assumption) ?_ | refine w_gI (by omega) (by assumption) ?_ | refine w_gR (by omega) (by assumption) (by assumption) ?_ | refine w_al (by omega) (by assumption) (by assumption) ?_ | refine w_pI (by omega) (by assumption) ?_ | refine w_set (by omega) (by assumption) (by omega) (by omega) ?_ | refine w_at (by omega) (by assumption) (by omega) (by omega) ?_ | refine w_sI (by omega) (by assumption) (by omega) (by omega) ?_ | refine w_aI (by omega) (by assumption) (by omega) (by omega) ?_ | refine w_sZ (by omega) (by assumption) (by omega) (by omega) (by decide) ?_ | refine w_pZ (by omega) (by assumption) (by decide) ?_ | refine w_dv (by omega) (by omega) (by omega) (by omega) ?_ | refine w_rm (by omega) (by omega) (by omega) (by omega) ?_) | ((with_reducible refine w_pos ?_ ?_); focus (first | assumption | trivial | exact (ile (by omega) (by omega) (by omega) (by omega)).2 (by omega) | exact (ilt (by omega) (by omega) (by omega) (by omega)).2 (by omega) | exact (ieq (by omega) (by omega) (by omega) (by omega)).2 (by omega))) | ((with_reducible refine w_neg ?_ ?_); focus (first | assumption | exact not_false | trivial | exact mt (ile (by omega) (by omega) (by omega) (by omega)).1 (by omega) | exact mt (ilt (by omega) (by omega) (by omega) (by omega)).1 (by omega) | exact mt (ieq (by omega) (by omega) (by omega) (by omega)).1 (by omega)))); try simp (disch := omega) only [s12, s13, s15, c9])
      rw [rzP1]
      exact w_some rfl
theorem swap_C (hrg : isRg r) (h : CTo r σ I0 R0 I R V) (hw : WR V) (hf : f = 0 ∨ f = 1) : En (fun y => y.1 = iI (swpV V f).1 ∧ RS r J I0 R0 y.2 (swpV V f).2) (f_X4_swapHead (381, I, J, R) r (iI f)) := by
  have hc := h.1
  have hb := hw.1
  unfold WB at hb
  have hhad := had_C (J := J) hrg hc hw hf
  have hc1 := hc
  have hrg1 := hrg
  have hc0 := hc
  obtain ⟨hq, kr0, kr1, kr2, kr3, kr4, kr5, kr6, kr7, lr1, lr2, lr3, lr4, lr5, lr7, hpg⟩ := hrg
  have hsc := cr_s hc
  obtain ⟨⟨e0, e1, e2, e3, e4, e5, e6, e7, ep, ed, hσ, hσi⟩, hpp, hgg⟩ := hc
  have s7 := hsc 7 (by decide)
  have s8 := hsc 8 (by decide)
  have s9 := hsc 9 (by decide)
  have s10 := hsc 10 (by decide)
  have s11 := hsc 11 (by decide)
  have s12 := hsc 12 (by decide)
  have s13 := hsc 13 (by decide)
  have s14 := hsc 14 (by decide)
  have s15 := hsc 15 (by decide)
  rw [u_X4_swapHead]
  unfold swpV
  by_cases h3 : hadV V f
  · rw [if_pos h3] at hhad ⊢
    have hno := had_no hw h3
    have hw2 := wr_swp2 hw hno
    have hw3 := wr_swp3 hw h3
    have hP6 := hpp 6 (by omega)
    have hpg6 := hpg _ (hσ 6 (by omega))
    have hr6 := ed _ (hσ 6 (by omega))
    have hw6 := hw.2.1 6 (by omega)
    have hpgh := hpg _ (hσ (V.2 0 12).toNat (by omega))
    have hkh := hpgh.2.1
    have hqh := hpgh.1
    have hk6 := hpg6.2.1
    have hq6 := hpg6.1
    have hrec := recordsFrom_C (J := J) (s := (V.2 0 7).toNat) hpg6 hr6 hP6 hw6 (by omega)
    rw [show (((V.2 0 7).toNat : Nat) : Int) = V.2 0 7 by omega] at hrec
    repeat ((first | (with_reducible first | refine w_ltA ?_ | refine w_ltS ?_ | refine w_ltM ?_ | refine w_ltN ?_ | refine w_lt ?_ | refine w_jn ?_ | refine w_ck (by omega) (by assumption) ?_ | refine w_gI (by omega) (by assumption) ?_ | refine w_gR (by omega) (by assumption) (by assumption) ?_ | refine w_al (by omega) (by assumption) (by assumption) ?_ | refine w_pI (by omega) (by assumption) ?_ | refine w_set (by omega) (by assumption) (by omega) (by omega) ?_ | refine w_at (by omega) (by assumption) (by omega) (by omega) ?_ | refine w_sI (by omega) (by assumption) (by omega) (by omega) ?_ | refine w_aI (by omega) (by assumption) (by omega) (by omega) ?_ | refine w_sZ (by omega) (by assumption) (by omega) (by omega) (by decide) ?_ | refine w_pZ (by omega) (by assumption) (by decide) ?_ | refine w_dv (by omega) (by omega) (by omega) (by omega) ?_ | refine w_rm (by omega) (by omega) (by omega) (by omega) ?_) | ((with_reducible refine w_pos ?_ ?_); focus (first | assumption | trivial | exact (ile (by omega) (by omega) (by omega) (by omega)).2 (by omega) | exact (ilt (by omega) (by omega) (by omega) (by omega)).2 (by omega) | exact (ieq (by omega) (by omega) (by omega) (by omega)).2 (by omega))) | ((with_reducible refine w_neg ?_ ?_); focus (first | assumption | exact not_false | trivial | exact mt (ile (by omega) (by omega) (by omega) (by omega)).1 (by omega) | exact mt (ilt (by omega) (by omega) (by omega) (by omega)).1 (by omega) | exact mt (ieq (by omega) (by omega) (by omega) (by omega)).1 (by omega)))); try simp (disch := omega) only [s12, s7])
    refine w_cP hhad ?_
    repeat ((first | (with_reducible first | refine w_ltA ?_ | refine w_ltS ?_ | refine w_ltM ?_ | refine w_ltN ?_ | refine w_lt ?_ | refine w_jn ?_ | refine w_ck (by omega) (by assumption) ?_ | refine w_gI (by omega) (by assumption) ?_ | refine w_gR (by omega) (by assumption) (by assumption) ?_ | refine w_al (by omega) (by assumption) (by assumption) ?_ | refine w_pI (by omega) (by assumption) ?_ | refine w_set (by omega) (by assumption) (by omega) (by omega) ?_ | refine w_at (by omega) (by assumption) (by omega) (by omega) ?_ | refine w_sI (by omega) (by assumption) (by omega) (by omega) ?_ | refine w_aI (by omega) (by assumption) (by omega) (by omega) ?_ | refine w_sZ (by omega) (by assumption) (by omega) (by omega) (by decide) ?_ | refine w_pZ (by omega) (by assumption) (by decide) ?_ | refine w_dv (by omega) (by omega) (by omega) (by omega) ?_ | refine w_rm (by omega) (by omega) (by omega) (by omega) ?_) | ((with_reducible refine w_pos ?_ ?_); focus (first | assumption | trivial | exact (ile (by omega) (by omega) (by omega) (by omega)).2 (by omega) | exact (ilt (by omega) (by omega) (by omega) (by omega)).2 (by omega) | exact (ieq (by omega) (by omega) (by omega) (by omega)).2 (by omega))) | ((with_reducible refine w_neg ?_ ?_); focus (first | assumption | exact not_false | trivial | exact mt (ile (by omega) (by omega) (by omega) (by omega)).1 (by omega) | exact mt (ilt (by omega) (by omega) (by omega) (by omega)).1 (by omega) | exact mt (ieq (by omega) (by omega) (by omega) (by omega)).1 (by omega)))); try simp (disch := omega) only [s12, s7])
    refine w_cP hrec ?_
    repeat ((first | (with_reducible first | refine w_ltA ?_ | refine w_ltS ?_ | refine w_ltM ?_ | refine w_ltN ?_ | refine w_lt ?_ | refine w_jn ?_ | refine w_ck (by omega) (by assumption) ?_ | refine w_gI (by omega) (by assumption) ?_ | refine w_gR (by omega) (by assumption) (by assumption) ?_ | refine w_al (by omega) (by assumption) (by assumption) ?_ | refine w_pI (by omega) (by assumption) ?_ | refine w_set (by omega) (by assumption) (by omega) (by omega) ?_ | refine w_at (by omega) (by assumption) (by omega) (by omega) ?_ | refine w_sI (by omega) (by assumption) (by omega) (by omega) ?_ | refine w_aI (by omega) (by assumption) (by omega) (by omega) ?_ | refine w_sZ (by omega) (by assumption) (by omega) (by omega) (by decide) ?_ | refine w_pZ (by omega) (by assumption) (by decide) ?_ | refine w_dv (by omega) (by omega) (by omega) (by omega) ?_ | refine w_rm (by omega) (by omega) (by omega) (by omega) ?_) | ((with_reducible refine w_pos ?_ ?_); focus (first | assumption | trivial | exact (ile (by omega) (by omega) (by omega) (by omega)).2 (by omega) | exact (ilt (by omega) (by omega) (by omega) (by omega)).2 (by omega) | exact (ieq (by omega) (by omega) (by omega) (by omega)).2 (by omega))) | ((with_reducible refine w_neg ?_ ?_); focus (first | assumption | exact not_false | trivial | exact mt (ile (by omega) (by omega) (by omega) (by omega)).1 (by omega) | exact mt (ilt (by omega) (by omega) (by omega) (by omega)).1 (by omega) | exact mt (ieq (by omega) (by omega) (by omega) (by omega)).1 (by omega)))); try simp (disch := omega) only [s12, s7])
    refine w_raise hrg1 h (by omega) (by omega) fun I2 g2 => ?_
    repeat ((first | (with_reducible first | refine w_ltA ?_ | refine w_ltS ?_ | refine w_ltM ?_ | refine w_ltN ?_ | refine w_lt ?_ | refine w_jn ?_ | refine w_ck (by omega) (by assumption) ?_ | refine w_gI (by omega) (by assumption) ?_ | refine w_gR (by omega) (by assumption) (by assumption) ?_ | refine w_al (by omega) (by assumption) (by assumption) ?_ | refine w_pI (by omega) (by assumption) ?_ | refine w_set (by omega) (by assumption) (by omega) (by omega) ?_ | refine w_at (by omega) (by assumption) (by omega) (by omega) ?_ | refine w_sI (by omega) (by assumption) (by omega) (by omega) ?_ | refine w_aI (by omega) (by assumption) (by omega) (by omega) ?_ | refine w_sZ (by omega) (by assumption) (by omega) (by omega) (by decide) ?_ | refine w_pZ (by omega) (by assumption) (by decide) ?_ | refine w_dv (by omega) (by omega) (by omega) (by omega) ?_ | refine w_rm (by omega) (by omega) (by omega) (by omega) ?_) | ((with_reducible refine w_pos ?_ ?_); focus (first | assumption | trivial | exact (ile (by omega) (by omega) (by omega) (by omega)).2 (by omega) | exact (ilt (by omega) (by omega) (by omega) (by omega)).2 (by omega) | exact (ieq (by omega) (by omega) (by omega) (by omega)).2 (by omega))) | ((with_reducible refine w_neg ?_ ?_); focus (first | assumption | exact not_false | trivial | exact mt (ile (by omega) (by omega) (by omega) (by omega)).1 (by omega) | exact mt (ilt (by omega) (by omega) (by omega) (by omega)).1 (by omega) | exact mt (ieq (by omega) (by omega) (by omega) (by omega)).1 (by omega)))); try simp (disch := omega) only [s12, s7])
    refine w_raise hrg1 g2 (by omega) (by omega) fun I3 g3 => ?_
    have g3 : CTo r σ I0 R0 I3 R (swp1 V) := by
      refine cto_congr g3 (fun _ _ _ _ _ => rfl) (fun g k _ => ?_)
      rfl
    have t12 : I3 r 12 = iI (V.2 0 12) := cr_s g3.1 12 (by decide)
    have hpa := pageAt_C (J := J) (p := V.2 0 12) hrg1 g3.1 (by omega) (by omega)
    repeat ((first | (with_reducible first | refine w_ltA ?_ | refine w_ltS ?_ | refine w_ltM ?_ | refine w_ltN ?_ | refine w_lt ?_ | refine w_jn ?_ | refine w_ck (by omega) (by assumption) ?_ | refine w_gI (by omega) (by assumption) ?_ | refine w_gR (by omega) (by assumption) (by assumption) ?_ | refine w_al (by omega) (by assumption) (by assumption) ?_ | refine w_pI (by omega) (by assumption) ?_ | refine w_set (by omega) (by assumption) (by omega) (by omega) ?_ | refine w_at (by omega) (by assumption) (by omega) (by omega) ?_ | refine w_sI (by omega) (by assumption) (by omega) (by omega) ?_ | refine w_aI (by omega) (by assumption) (by omega) (by omega) ?_ | refine w_sZ (by omega) (by assumption) (by omega) (by omega) (by decide) ?_ | refine w_pZ (by omega) (by assumption) (by decide) ?_ | refine w_dv (by omega) (by omega) (by omega) (by omega) ?_ | refine w_rm (by omega) (by omega) (by omega) (by omega) ?_) | ((with_reducible refine w_pos ?_ ?_); focus (first | assumption | trivial | exact (ile (by omega) (by omega) (by omega) (by omega)).2 (by omega) | exact (ilt (by omega) (by omega) (by omega) (by omega)).2 (by omega) | exact (ieq (by omega) (by omega) (by omega) (by omega)).2 (by omega))) | ((with_reducible refine w_neg ?_ ?_); focus (first | assumption | exact not_false | trivial | exact mt (ile (by omega) (by omega) (by omega) (by omega)).1 (by omega) | exact mt (ilt (by omega) (by omega) (by omega) (by omega)).1 (by omega) | exact mt (ieq (by omega) (by omega) (by omega) (by omega)).1 (by omega)))); try simp (disch := omega) only [t12])
    refine w_cP hpa ?_
    have hP6' : CP I3 _ (V.1 6) := g3.1.2.1 6 (by omega)
    repeat ((first | (with_reducible first | refine w_ltA ?_ | refine w_ltS ?_ | refine w_ltM ?_ | refine w_ltN ?_ | refine w_lt ?_ | refine w_jn ?_ | refine w_ck (by omega) (by assumption) ?_ | refine w_gI (by omega) (by assumption) ?_ | refine w_gR (by omega) (by assumption) (by assumption) ?_ | refine w_al (by omega) (by assumption) (by assumption) ?_ | refine w_pI (by omega) (by assumption) ?_ | refine w_set (by omega) (by assumption) (by omega) (by omega) ?_ | refine w_at (by omega) (by assumption) (by omega) (by omega) ?_ | refine w_sI (by omega) (by assumption) (by omega) (by omega) ?_ | refine w_aI (by omega) (by assumption) (by omega) (by omega) ?_ | refine w_sZ (by omega) (by assumption) (by omega) (by omega) (by decide) ?_ | refine w_pZ (by omega) (by assumption) (by decide) ?_ | refine w_dv (by omega) (by omega) (by omega) (by omega) ?_ | refine w_rm (by omega) (by omega) (by omega) (by omega) ?_) | ((with_reducible refine w_pos ?_ ?_); focus (first | assumption | trivial | exact (ile (by omega) (by omega) (by omega) (by omega)).2 (by omega) | exact (ilt (by omega) (by omega) (by omega) (by omega)).2 (by omega) | exact (ieq (by omega) (by omega) (by omega) (by omega)).2 (by omega))) | ((with_reducible refine w_neg ?_ ?_); focus (first | assumption | exact not_false | trivial | exact mt (ile (by omega) (by omega) (by omega) (by omega)).1 (by omega) | exact mt (ilt (by omega) (by omega) (by omega) (by omega)).1 (by omega) | exact mt (ieq (by omega) (by omega) (by omega) (by omega)).1 (by omega)))); try simp (disch := omega) only [t12])
    refine w_cV (pclear_C (J := J) hpg6 hr6 hP6') ?_
    rintro S ⟨I4, rfl, h4⟩
    have g4 := cto_pg g3 (by omega) h4
    have u12 : I4 r 12 = iI (V.2 0 12) := cr_s g4.1 12 (by decide)
    repeat ((first | (with_reducible first | refine w_ltA ?_ | refine w_ltS ?_ | refine w_ltM ?_ | refine w_ltN ?_ | refine w_lt ?_ | refine w_jn ?_ | refine w_ck (by omega) (by assumption) ?_ | refine w_gI (by omega) (by assumption) ?_ | refine w_gR (by omega) (by assumption) (by assumption) ?_ | refine w_al (by omega) (by assumption) (by assumption) ?_ | refine w_pI (by omega) (by assumption) ?_ | refine w_set (by omega) (by assumption) (by omega) (by omega) ?_ | refine w_at (by omega) (by assumption) (by omega) (by omega) ?_ | refine w_sI (by omega) (by assumption) (by omega) (by omega) ?_ | refine w_aI (by omega) (by assumption) (by omega) (by omega) ?_ | refine w_sZ (by omega) (by assumption) (by omega) (by omega) (by decide) ?_ | refine w_pZ (by omega) (by assumption) (by decide) ?_ | refine w_dv (by omega) (by omega) (by omega) (by omega) ?_ | refine w_rm (by omega) (by omega) (by omega) (by omega) ?_) | ((with_reducible refine w_pos ?_ ?_); focus (first | assumption | trivial | exact (ile (by omega) (by omega) (by omega) (by omega)).2 (by omega) | exact (ilt (by omega) (by omega) (by omega) (by omega)).2 (by omega) | exact (ieq (by omega) (by omega) (by omega) (by omega)).2 (by omega))) | ((with_reducible refine w_neg ?_ ?_); focus (first | assumption | exact not_false | trivial | exact mt (ile (by omega) (by omega) (by omega) (by omega)).1 (by omega) | exact mt (ilt (by omega) (by omega) (by omega) (by omega)).1 (by omega) | exact mt (ieq (by omega) (by omega) (by omega) (by omega)).1 (by omega)))); try simp (disch := omega) only [u12])
    refine w_sR (by omega) (by assumption) (by omega) (by omega) (by omega) (by assumption) ?_
    refine w_pR (by omega) (by assumption) ?_
    have g5 := cto_xch hrg1 g4 (hd := (V.2 0 12).toNat) (by omega)
    have g6 := cto_up0 g5 7 0
    have hsw : ∀ p f k, (swp2 V).1 p f k = (upG (xchV (upP (swp1 V) 6 (clP (V.1 6))) (V.2 0 12).toNat ((upP (swp1 V) 6 (clP (V.1 6))).1 6) ((upP (swp1 V) 6 (clP (V.1 6))).1 (V.2 0 12).toNat)) 0 7 0).1 p f k := fun p f k => by
      rw [swp2_p]
      show (if p = (V.2 0 12).toNat then clP (V.1 6) else if p = 6 then V.1 (V.2 0 12).toNat else V.1 p) f k = (if p = (V.2 0 12).toNat then (if 6 = 6 then clP (V.1 6) else V.1 6) else if p = 6 then (if (V.2 0 12).toNat = 6 then clP (V.1 6) else V.1 (V.2 0 12).toNat) else if p = 6 then clP (V.1 6) else V.1 p) f k
      by_cases c1 : p = (V.2 0 12).toNat
      · rw [if_pos c1, if_pos c1, if_pos rfl]
      · rw [if_neg c1, if_neg c1]
        by_cases c2 : p = 6
        · rw [if_pos c2, if_pos c2, if_neg (by omega)]
        · rw [if_neg c2, if_neg c2, if_neg c2]
    have g6 := cto_congr (V' := swp2 V) g6 (fun p _ f k _ => hsw p f k) (fun g k _ => rfl)
    have hsx : (fun p => if p = (V.2 0 12).toNat then σ 6 else if p = 6 then σ (V.2 0 12).toNat else σ p) 6 = σ (V.2 0 12).toNat := by
      dsimp only
      rw [if_neg (by omega), if_pos rfl]
    have v13 := cr_s g6.1 13 (by decide)
    rw [swp2_g (by omega) (by omega) (by omega)] at v13
    have e13 := cr_s g4.1 13 (by decide)
    have e13 : I4 r 13 = iI (V.2 0 13) := e13
    repeat (first | refine w_jnP (fun x23 => ∃ I7 R7 σ7, x23 = (381, I7, J, R7) ∧ CTo r σ7 I0 R0 I7 R7 (swp3 V) ∧ σ7 6 = σ (V.2 0 12).toNat) ?_ ?_ | ((first | (with_reducible first | refine w_ltA ?_ | refine w_ltS ?_ | refine w_ltM ?_ | refine w_ltN ?_ | refine w_lt ?_ | refine w_jn ?_ | refine w_ck (by omega) (by assumption) ?_ | refine w_gI (by omega) (by assumption) ?_ | refine w_gR (by omega) (by assumption) (by assumption) ?_ | refine w_al (by omega) (by assumption) (by assumption) ?_ | refine w_pI (by omega) (by assumption) ?_ | refine w_set (by omega) (by assumption) (by omega) (by omega) ?_ | refine w_at (by omega) (by assumption) (by omega) (by omega) ?_ | refine w_sI (by omega) (by assumption) (by omega) (by omega) ?_ | refine w_aI (by omega) (by assumption) (by omega) (by omega) ?_ | refine w_sZ (by omega) (by assumption) (by omega) (by omega) (by decide) ?_ | refine w_pZ (by omega) (by assumption) (by decide) ?_ | refine w_dv (by omega) (by omega) (by omega) (by omega) ?_ | refine w_rm (by omega) (by omega) (by omega) (by omega) ?_) | ((with_reducible refine w_pos ?_ ?_); focus (first | assumption | trivial | exact (ile (by omega) (by omega) (by omega) (by omega)).2 (by omega) | exact (ilt (by omega) (by omega) (by omega) (by omega)).2 (by omega) | exact (ieq (by omega) (by omega) (by omega) (by omega)).2 (by omega))) | ((with_reducible refine w_neg ?_ ?_); focus (first | assumption | exact not_false | trivial | exact mt (ile (by omega) (by omega) (by omega) (by omega)).1 (by omega) | exact mt (ilt (by omega) (by omega) (by omega) (by omega)).1 (by omega) | exact mt (ieq (by omega) (by omega) (by omega) (by omega)).1 (by omega)))); try simp (disch := omega) only [up_ne, e13, u12]))
    · rintro x23 ⟨I7, R7, σ7, rfl, g7, hs7⟩
      have e6' := g7.1.1.2.2.2.2.2.2.1
      have hP7 := g7.1.2.1 6 (by omega)
      have hr7 := g7.1.1.2.2.2.2.2.2.2.2.2.1 _ (g7.1.1.2.2.2.2.2.2.2.2.2.2.1 6 (by omega))
      have hp7 := hpg _ (g7.1.1.2.2.2.2.2.2.2.2.2.2.1 6 (by omega))
      have hk7 := hp7.2.1
      have hq7 := hp7.1
      have e1 : (swp3 V).1 6 = V.1 (V.2 0 12).toNat := by
        unfold swp3
        split
        · rw [swp2_p, if_neg (by omega), if_pos rfl]
        · rw [upG_1, upG_1, swp2_p, if_neg (by omega), if_pos rfl]
      have hw7 := hw3.2.1 6 (by omega)
      have hrec7 := recordsFrom_C (J := J) (s := 0) hp7 hr7 hP7 hw7 hw7.1.1
      rw [e1, show cnt (isR (V.1 (V.2 0 12).toNat)) 0 = 0 from rfl, Int.sub_zero, show ((0 : Nat) : Int) = 0 from rfl] at hrec7
      repeat ((first | (with_reducible first | refine w_ltA ?_ | refine w_ltS ?_ | refine w_ltM ?_ | refine w_ltN ?_ | refine w_lt ?_ | refine w_jn ?_ | refine w_ck (by omega) (by assumption) ?_ | refine w_gI (by omega) (by assumption) ?_ | refine w_gR (by omega) (by assumption) (by assumption) ?_ | refine w_al (by omega) (by assumption) (by assumption) ?_ | refine w_pI (by omega) (by assumption) ?_ | refine w_set (by omega) (by assumption) (by omega) (by omega) ?_ | refine w_at (by omega) (by assumption) (by omega) (by omega) ?_ | refine w_sI (by omega) (by assumption) (by omega) (by omega) ?_ | refine w_aI (by omega) (by assumption) (by omega) (by omega) ?_ | refine w_sZ (by omega) (by assumption) (by omega) (by omega) (by decide) ?_ | refine w_pZ (by omega) (by assumption) (by decide) ?_ | refine w_dv (by omega) (by omega) (by omega) (by omega) ?_ | refine w_rm (by omega) (by omega) (by omega) (by omega) ?_) | ((with_reducible refine w_pos ?_ ?_); focus (first | assumption | trivial | exact (ile (by omega) (by omega) (by omega) (by omega)).2 (by omega) | exact (ilt (by omega) (by omega) (by omega) (by omega)).2 (by omega) | exact (ieq (by omega) (by omega) (by omega) (by omega)).2 (by omega))) | ((with_reducible refine w_neg ?_ ?_); focus (first | assumption | exact not_false | trivial | exact mt (ile (by omega) (by omega) (by omega) (by omega)).1 (by omega) | exact mt (ilt (by omega) (by omega) (by omega) (by omega)).1 (by omega) | exact mt (ieq (by omega) (by omega) (by omega) (by omega)).1 (by omega)))); skip)
      refine w_cP hrec7 ?_
      exact w_rt ⟨rfl, g7.rs⟩
    · intro j hj
      by_cases hl : V.2 0 13 ≤ 1
      · repeat ((first | (with_reducible first | refine w_ltA ?_ | refine w_ltS ?_ | refine w_ltM ?_ | refine w_ltN ?_ | refine w_lt ?_ | refine w_jn ?_ | refine w_ck (by omega) (by assumption) ?_ | refine w_gI (by omega) (by assumption) ?_ | refine w_gR (by omega) (by assumption) (by assumption) ?_ | refine w_al (by omega) (by assumption) (by assumption) ?_ | refine w_pI (by omega) (by assumption) ?_ | refine w_set (by omega) (by assumption) (by omega) (by omega) ?_ | refine w_at (by omega) (by assumption) (by omega) (by omega) ?_ | refine w_sI (by omega) (by assumption) (by omega) (by omega) ?_ | refine w_aI (by omega) (by assumption) (by omega) (by omega) ?_ | refine w_sZ (by omega) (by assumption) (by omega) (by omega) (by decide) ?_ | refine w_pZ (by omega) (by assumption) (by decide) ?_ | refine w_dv (by omega) (by omega) (by omega) (by omega) ?_ | refine w_rm (by omega) (by omega) (by omega) (by omega) ?_) | ((with_reducible refine w_pos ?_ ?_); focus (first | assumption | trivial | exact (ile (by omega) (by omega) (by omega) (by omega)).2 (by omega) | exact (ilt (by omega) (by omega) (by omega) (by omega)).2 (by omega) | exact (ieq (by omega) (by omega) (by omega) (by omega)).2 (by omega))) | ((with_reducible refine w_neg ?_ ?_); focus (first | assumption | exact not_false | trivial | exact mt (ile (by omega) (by omega) (by omega) (by omega)).1 (by omega) | exact mt (ilt (by omega) (by omega) (by omega) (by omega)).1 (by omega) | exact mt (ieq (by omega) (by omega) (by omega) (by omega)).1 (by omega)))); try simp (disch := omega) only [up_ne, e13, u12])
        refine hj _ ⟨_, _, (fun p => if p = (V.2 0 12).toNat then σ 6 else if p = 6 then σ (V.2 0 12).toNat else σ p), rfl, ?_, hsx⟩
        rw [swp3, if_pos hl]
        exact g6
      · have hpl := placeOf_C (J := J) (k := 1) hrg1 g6.1 hw2.1 (by omega) (by omega)
        have ep' : plc (swp2 V) 1 = plc V 1 := by
          unfold plc
          rw [swp2_g (by omega) (by omega) (by omega), swp2_g (by omega) (by omega) (by omega)]
        rw [ep'] at hpl
        repeat ((first | (with_reducible first | refine w_ltA ?_ | refine w_ltS ?_ | refine w_ltM ?_ | refine w_ltN ?_ | refine w_lt ?_ | refine w_jn ?_ | refine w_ck (by omega) (by assumption) ?_ | refine w_gI (by omega) (by assumption) ?_ | refine w_gR (by omega) (by assumption) (by assumption) ?_ | refine w_al (by omega) (by assumption) (by assumption) ?_ | refine w_pI (by omega) (by assumption) ?_ | refine w_set (by omega) (by assumption) (by omega) (by omega) ?_ | refine w_at (by omega) (by assumption) (by omega) (by omega) ?_ | refine w_sI (by omega) (by assumption) (by omega) (by omega) ?_ | refine w_aI (by omega) (by assumption) (by omega) (by omega) ?_ | refine w_sZ (by omega) (by assumption) (by omega) (by omega) (by decide) ?_ | refine w_pZ (by omega) (by assumption) (by decide) ?_ | refine w_dv (by omega) (by omega) (by omega) (by omega) ?_ | refine w_rm (by omega) (by omega) (by omega) (by omega) ?_) | ((with_reducible refine w_pos ?_ ?_); focus (first | assumption | trivial | exact (ile (by omega) (by omega) (by omega) (by omega)).2 (by omega) | exact (ilt (by omega) (by omega) (by omega) (by omega)).2 (by omega) | exact (ieq (by omega) (by omega) (by omega) (by omega)).2 (by omega))) | ((with_reducible refine w_neg ?_ ?_); focus (first | assumption | exact not_false | trivial | exact mt (ile (by omega) (by omega) (by omega) (by omega)).1 (by omega) | exact mt (ilt (by omega) (by omega) (by omega) (by omega)).1 (by omega) | exact mt (ieq (by omega) (by omega) (by omega) (by omega)).1 (by omega)))); try simp (disch := omega) only [up_ne, e13, u12])
        refine w_cP hpl ?_
        repeat ((first | (with_reducible first | refine w_ltA ?_ | refine w_ltS ?_ | refine w_ltM ?_ | refine w_ltN ?_ | refine w_lt ?_ | refine w_jn ?_ | refine w_ck (by omega) (by assumption) ?_ | refine w_gI (by omega) (by assumption) ?_ | refine w_gR (by omega) (by assumption) (by assumption) ?_ | refine w_al (by omega) (by assumption) (by assumption) ?_ | refine w_pI (by omega) (by assumption) ?_ | refine w_set (by omega) (by assumption) (by omega) (by omega) ?_ | refine w_at (by omega) (by assumption) (by omega) (by omega) ?_ | refine w_sI (by omega) (by assumption) (by omega) (by omega) ?_ | refine w_aI (by omega) (by assumption) (by omega) (by omega) ?_ | refine w_sZ (by omega) (by assumption) (by omega) (by omega) (by decide) ?_ | refine w_pZ (by omega) (by assumption) (by decide) ?_ | refine w_dv (by omega) (by omega) (by omega) (by omega) ?_ | refine w_rm (by omega) (by omega) (by omega) (by omega) ?_) | ((with_reducible refine w_pos ?_ ?_); focus (first | assumption | trivial | exact (ile (by omega) (by omega) (by omega) (by omega)).2 (by omega) | exact (ilt (by omega) (by omega) (by omega) (by omega)).2 (by omega) | exact (ieq (by omega) (by omega) (by omega) (by omega)).2 (by omega))) | ((with_reducible refine w_neg ?_ ?_); focus (first | assumption | exact not_false | trivial | exact mt (ile (by omega) (by omega) (by omega) (by omega)).1 (by omega) | exact mt (ilt (by omega) (by omega) (by omega) (by omega)).1 (by omega) | exact mt (ieq (by omega) (by omega) (by omega) (by omega)).1 (by omega)))); try simp (disch := omega) only [up_ne, e13, u12])
        refine hj _ ⟨_, _, (fun p => if p = (V.2 0 12).toNat then σ 6 else if p = 6 then σ (V.2 0 12).toNat else σ p), rfl, ?_, hsx⟩
        rw [swp3, if_neg hl]
        exact cto_up0 (cto_up0 g6 12 _) 13 _
  · rw [if_neg h3] at hhad ⊢
    repeat ((first | (with_reducible first | refine w_ltA ?_ | refine w_ltS ?_ | refine w_ltM ?_ | refine w_ltN ?_ | refine w_lt ?_ | refine w_jn ?_ | refine w_ck (by omega) (by assumption) ?_ | refine w_gI (by omega) (by assumption) ?_ | refine w_gR (by omega) (by assumption) (by assumption) ?_ | refine w_al (by omega) (by assumption) (by assumption) ?_ | refine w_pI (by omega) (by assumption) ?_ | refine w_set (by omega) (by assumption) (by omega) (by omega) ?_ | refine w_at (by omega) (by assumption) (by omega) (by omega) ?_ | refine w_sI (by omega) (by assumption) (by omega) (by omega) ?_ | refine w_aI (by omega) (by assumption) (by omega) (by omega) ?_ | refine w_sZ (by omega) (by assumption) (by omega) (by omega) (by decide) ?_ | refine w_pZ (by omega) (by assumption) (by decide) ?_ | refine w_dv (by omega) (by omega) (by omega) (by omega) ?_ | refine w_rm (by omega) (by omega) (by omega) (by omega) ?_) | ((with_reducible refine w_pos ?_ ?_); focus (first | assumption | trivial | exact (ile (by omega) (by omega) (by omega) (by omega)).2 (by omega) | exact (ilt (by omega) (by omega) (by omega) (by omega)).2 (by omega) | exact (ieq (by omega) (by omega) (by omega) (by omega)).2 (by omega))) | ((with_reducible refine w_neg ?_ ?_); focus (first | assumption | exact not_false | trivial | exact mt (ile (by omega) (by omega) (by omega) (by omega)).1 (by omega) | exact mt (ilt (by omega) (by omega) (by omega) (by omega)).1 (by omega) | exact mt (ieq (by omega) (by omega) (by omega) (by omega)).1 (by omega)))); skip)
    refine w_cP hhad ?_
    repeat ((first | (with_reducible first | refine w_ltA ?_ | refine w_ltS ?_ | refine w_ltM ?_ | refine w_ltN ?_ | refine w_lt ?_ | refine w_jn ?_ | refine w_ck (by omega) (by assumption) ?_ | refine w_gI (by omega) (by assumption) ?_ | refine w_gR (by omega) (by assumption) (by assumption) ?_ | refine w_al (by omega) (by assumption) (by assumption) ?_ | refine w_pI (by omega) (by assumption) ?_ | refine w_set (by omega) (by assumption) (by omega) (by omega) ?_ | refine w_at (by omega) (by assumption) (by omega) (by omega) ?_ | refine w_sI (by omega) (by assumption) (by omega) (by omega) ?_ | refine w_aI (by omega) (by assumption) (by omega) (by omega) ?_ | refine w_sZ (by omega) (by assumption) (by omega) (by omega) (by decide) ?_ | refine w_pZ (by omega) (by assumption) (by decide) ?_ | refine w_dv (by omega) (by omega) (by omega) (by omega) ?_ | refine w_rm (by omega) (by omega) (by omega) (by omega) ?_) | ((with_reducible refine w_pos ?_ ?_); focus (first | assumption | trivial | exact (ile (by omega) (by omega) (by omega) (by omega)).2 (by omega) | exact (ilt (by omega) (by omega) (by omega) (by omega)).2 (by omega) | exact (ieq (by omega) (by omega) (by omega) (by omega)).2 (by omega))) | ((with_reducible refine w_neg ?_ ?_); focus (first | assumption | exact not_false | trivial | exact mt (ile (by omega) (by omega) (by omega) (by omega)).1 (by omega) | exact mt (ilt (by omega) (by omega) (by omega) (by omega)).1 (by omega) | exact mt (ieq (by omega) (by omega) (by omega) (by omega)).1 (by omega)))); skip)
    exact w_rt ⟨rfl, h.rs⟩
end RGH
