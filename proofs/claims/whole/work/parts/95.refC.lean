/-! THE REFERENCE: what changes it -/
def MTo (I0 I : MI) (π : Nat → Nat) (V : RV) : Prop := RMQ I π V ∧ (∀ a k, a ≠ 374 → a ≠ 380 → I a k = I0 a k) ∧ ∀ k, 985 ≤ k → I 374 k = I0 374 k
def MS (J : MJ) (R : MR) (I0 : MI) (S : St) (V : RV) : Prop := ∃ I π, S = (381, I, J, R) ∧ MTo I0 I π V
def PM0 (I : MI) (b : Nat) (P : PV) : Prop :=
  I 374 (b + 1) = iI (P 0 9) ∧ I 374 (b + 2) = iI (P 0 10) ∧ I 374 (b + 3) = iI (P 0 8) ∧ (∀ k, k < 32 → I 374 (b + 4 + k) = iI (P 1 k)) ∧ ∀ i f : Nat, (i : Int) < P 0 8 → i < 16 → f < 6 → I 374 (b + 36 + 6 * i + f) = iI (P (pf f) i)
/-- from I to I' the block at b alone changed; but for the stamp it holds P -/
def PBl (I : MI) (b : Nat) (I' : MI) (P : PV) : Prop := PM0 I' b P ∧ ∀ a k, ¬ (a = 374 ∧ b ≤ k ∧ k < b + 132) → I' a k = I a k
theorem mto_0 {I : MI} {π : Nat → Nat} {V : RV} (h : RMQ I π V) : MTo I I π V := ⟨h, fun _ _ _ _ => rfl, fun _ _ => rfl⟩
theorem MTo.rs {J : MJ} {R : MR} {I0 I : MI} {π : Nat → Nat} {V : RV} (h : MTo I0 I π V) : MS J R I0 (381, I, J, R) V := ⟨I, π, rfl, h⟩
theorem pf_inj0 : ∀ f, f < 6 → ∀ f', f' < 6 → pf f = pf f' → f = f' := by decide
theorem pf_inj (f f' : Nat) (h : f < 6) (h' : f' < 6) (e : pf f = pf f') : f = f' := pf_inj0 f h f' h' e
theorem pf_ge : ∀ f, f < 6 → 2 ≤ pf f ∧ pf f ≤ 8 := by decide
theorem sg_inj {j j' : Nat} (h : sj j) (h' : sj j') (he : sg j = sg j') : j = j' := by
  unfold sg at he
  repeat' split at he
  all_goals simp only [Prod.mk.injEq] at he
  all_goals omega
theorem sg_is {j : Nat} (h : sj j) : (sg j = (0, 8) → j = 0) ∧ (sg j = (0, 12) → j = 4) ∧ (sg j = (0, 15) → j = 6) ∧ (sg j = (6, 4) → j = 33) ∧ sg j ≠ (0, 13) ∧ ((sg j).1 = 0 ∨ (sg j).1 = 5 ∨ (sg j).1 = 6) := by
  refine ⟨fun he => ?_, fun he => ?_, fun he => ?_, fun he => ?_, fun he => ?_, ?_⟩
  all_goals first | (unfold sg at he; repeat' split at he) | skip
  all_goals first | (simp only [Prod.mk.injEq] at he; omega) | skip
  unfold sg
  repeat' split
  all_goals dsimp only
  all_goals omega
section PBS
variable {I I' : MI} {b : Nat} {P : PV} {c v : Int}
theorem pb_0 (h : PM I b P) : PBl I b I P := ⟨h.2, fun _ _ _ => rfl⟩
theorem pb_c (h : PBl I (61 + 132 * b) I' P) (h0 : 0 ≤ c) (hc : c < 32) : PBl I (61 + 132 * b) (up I' 374 (61 + 132 * (b : Int) + (4 + c)).toNat (iI v)) (upv P 1 c.toNat v) := by
  obtain ⟨⟨a1, a2, a3, a4, a5⟩, hf⟩ := h
  rw [show (61 + 132 * (b : Int) + (4 + c)).toNat = 61 + 132 * b + 4 + c.toNat by omega]
  refine ⟨⟨?_, ?_, ?_, fun k hk => ?_, fun i f hi h16 hf6 => ?_⟩, fun a k hn => ?_⟩
  · rw [up_ne (by omega), upv_ne (by omega)]
    exact a1
  · rw [up_ne (by omega), upv_ne (by omega)]
    exact a2
  · rw [up_ne (by omega), upv_ne (by omega)]
    exact a3
  · by_cases he : k = c.toNat
    · rw [he, up_eq, upv_eq]
    · rw [up_ne (by omega), upv_ne (by omega)]
      exact a4 k hk
  · have := pf_ge f hf6
    rw [upv_ne (by omega)] at hi
    rw [up_ne (by omega), upv_ne (by omega)]
    exact a5 i f hi h16 hf6
  · rw [up_ne (by omega)]
    exact hf a k hn
theorem pb_s (h : PBl I (61 + 132 * b) I' P) : PBl I (61 + 132 * b) (up I' 374 (61 + 132 * (b : Int) + 0).toNat (iI v)) P := by
  obtain ⟨⟨a1, a2, a3, a4, a5⟩, hf⟩ := h
  rw [show (61 + 132 * (b : Int) + 0).toNat = 61 + 132 * b by omega]
  refine ⟨⟨?_, ?_, ?_, fun k hk => ?_, fun i f hi h16 hf6 => ?_⟩, fun a k hn => ?_⟩
  · rw [up_ne (by omega)]
    exact a1
  · rw [up_ne (by omega)]
    exact a2
  · rw [up_ne (by omega)]
    exact a3
  · rw [up_ne (by omega)]
    exact a4 k hk
  · rw [up_ne (by omega)]
    exact a5 i f hi h16 hf6
  · rw [up_ne (by omega)]
    exact hf a k hn
theorem pb_u (h : PBl I (61 + 132 * b) I' P) : PBl I (61 + 132 * b) (up I' 374 (61 + 132 * (b : Int) + 1).toNat (iI v)) (upv P 0 9 v) := by
  obtain ⟨⟨a1, a2, a3, a4, a5⟩, hf⟩ := h
  rw [show (61 + 132 * (b : Int) + 1).toNat = 61 + 132 * b + 1 by omega]
  refine ⟨⟨?_, ?_, ?_, fun k hk => ?_, fun i f hi h16 hf6 => ?_⟩, fun a k hn => ?_⟩
  · rw [up_eq, upv_eq]
  · rw [up_ne (by omega), upv_ne (by omega)]
    exact a2
  · rw [up_ne (by omega), upv_ne (by omega)]
    exact a3
  · rw [up_ne (by omega), upv_ne (by omega)]
    exact a4 k hk
  · have := pf_ge f hf6
    rw [upv_ne (by omega)] at hi
    rw [up_ne (by omega), upv_ne (by omega)]
    exact a5 i f hi h16 hf6
  · rw [up_ne (by omega)]
    exact hf a k hn
theorem pb_r (h : PBl I (61 + 132 * b) I' P) : PBl I (61 + 132 * b) (up I' 374 (61 + 132 * (b : Int) + 2).toNat (iI v)) (upv P 0 10 v) := by
  obtain ⟨⟨a1, a2, a3, a4, a5⟩, hf⟩ := h
  rw [show (61 + 132 * (b : Int) + 2).toNat = 61 + 132 * b + 2 by omega]
  refine ⟨⟨?_, ?_, ?_, fun k hk => ?_, fun i f hi h16 hf6 => ?_⟩, fun a k hn => ?_⟩
  · rw [up_ne (by omega), upv_ne (by omega)]
    exact a1
  · rw [up_eq, upv_eq]
  · rw [up_ne (by omega), upv_ne (by omega)]
    exact a3
  · rw [up_ne (by omega), upv_ne (by omega)]
    exact a4 k hk
  · have := pf_ge f hf6
    rw [upv_ne (by omega)] at hi
    rw [up_ne (by omega), upv_ne (by omega)]
    exact a5 i f hi h16 hf6
  · rw [up_ne (by omega)]
    exact hf a k hn
/-- fewer items -/
theorem pb_n (h : PBl I (61 + 132 * b) I' P) (hv : v ≤ P 0 8) : PBl I (61 + 132 * b) (up I' 374 (61 + 132 * (b : Int) + 3).toNat (iI v)) (upv P 0 8 v) := by
  obtain ⟨⟨a1, a2, a3, a4, a5⟩, hf⟩ := h
  rw [show (61 + 132 * (b : Int) + 3).toNat = 61 + 132 * b + 3 by omega]
  refine ⟨⟨?_, ?_, ?_, fun k hk => ?_, fun i f hi h16 hf6 => ?_⟩, fun a k hn => ?_⟩
  · rw [up_ne (by omega), upv_ne (by omega)]
    exact a1
  · rw [up_ne (by omega), upv_ne (by omega)]
    exact a2
  · rw [up_eq, upv_eq]
  · rw [up_ne (by omega), upv_ne (by omega)]
    exact a4 k hk
  · have := pf_ge f hf6
    rw [upv_eq] at hi
    rw [up_ne (by omega), upv_ne (by omega)]
    exact a5 i f (by omega) h16 hf6
  · rw [up_ne (by omega)]
    exact hf a k hn
/-- an item's figure; of one that isn't there yet: nothing -/
theorem pb_i {f : Int} (h : PBl I (61 + 132 * b) I' P) (hc : 0 ≤ c ∧ c < 16) (h6 : 0 ≤ f ∧ f < 6) : PBl I (61 + 132 * b) (up I' 374 (61 + 132 * (b : Int) + (36 + 6 * c + f)).toNat (iI v)) (upv P (pf f.toNat) c.toNat v) := by
  obtain ⟨⟨a1, a2, a3, a4, a5⟩, hf⟩ := h
  have hpf := pf_ge f.toNat (by omega)
  rw [show (61 + 132 * (b : Int) + (36 + 6 * c + f)).toNat = 61 + 132 * b + 36 + 6 * c.toNat + f.toNat by omega]
  refine ⟨⟨?_, ?_, ?_, fun k hk => ?_, fun i f' hi h16 hf6 => ?_⟩, fun a k hn => ?_⟩
  · rw [up_ne (by omega), upv_ne (by omega)]
    exact a1
  · rw [up_ne (by omega), upv_ne (by omega)]
    exact a2
  · rw [up_ne (by omega), upv_ne (by omega)]
    exact a3
  · rw [up_ne (by omega), upv_ne (by omega)]
    exact a4 k hk
  · rw [upv_ne (by omega)] at hi
    by_cases he : i = c.toNat ∧ f' = f.toNat
    · rw [he.1, he.2, up_eq, upv_eq]
    · have hne : ¬ (pf f' = pf f.toNat ∧ i = c.toNat) := fun h => he ⟨h.2, pf_inj f' f.toNat hf6 (by omega) h.1⟩
      rw [up_ne (by omega), upv_ne hne]
      exact a5 i f' hi h16 hf6
  · rw [up_ne (by omega)]
    exact hf a k hn
theorem pb_x {f : Int} (h : PBl I (61 + 132 * b) I' P) (hc : P 0 8 ≤ c ∧ 0 ≤ c ∧ c < 16) (h6 : 0 ≤ f ∧ f < 6) : PBl I (61 + 132 * b) (up I' 374 (61 + 132 * (b : Int) + (36 + 6 * c + f)).toNat (iI v)) P := by
  obtain ⟨⟨a1, a2, a3, a4, a5⟩, hf⟩ := h
  rw [show (61 + 132 * (b : Int) + (36 + 6 * c + f)).toNat = 61 + 132 * b + 36 + 6 * c.toNat + f.toNat by omega]
  refine ⟨⟨?_, ?_, ?_, fun k hk => ?_, fun i f' hi h16 hf6 => ?_⟩, fun a k hn => ?_⟩
  · rw [up_ne (by omega)]
    exact a1
  · rw [up_ne (by omega)]
    exact a2
  · rw [up_ne (by omega)]
    exact a3
  · rw [up_ne (by omega)]
    exact a4 k hk
  · rw [up_ne (by omega)]
    exact a5 i f' hi h16 hf6
  · rw [up_ne (by omega)]
    exact hf a k hn
/-- one item more -/
theorem pb_a {P' : PV} (h : PBl I (61 + 132 * b) I' P) (hc : P 0 8 = c ∧ 0 ≤ c ∧ c < 16) (hf' : ∀ f, f < 6 → I' 374 (61 + 132 * b + 36 + 6 * c.toNat + f) = iI (P' (pf f) c.toNat)) (h8 : P' 0 8 = c + 1) (h9 : P' 0 9 = P 0 9) (h10 : P' 0 10 = P 0 10) (h1 : ∀ k, k < 32 → P' 1 k = P 1 k) (hr : ∀ f i : Nat, 2 ≤ f → i ≠ c.toNat → P' f i = P f i) : PBl I (61 + 132 * b) (up I' 374 (61 + 132 * (b : Int) + 3).toNat (iI (c + 1))) P' := by
  obtain ⟨⟨a1, a2, a3, a4, a5⟩, hf⟩ := h
  rw [show (61 + 132 * (b : Int) + 3).toNat = 61 + 132 * b + 3 by omega]
  refine ⟨⟨?_, ?_, ?_, fun k hk => ?_, fun i f' hi h16 hf6 => ?_⟩, fun a k hn => ?_⟩
  · rw [up_ne (by omega), h9]
    exact a1
  · rw [up_ne (by omega), h10]
    exact a2
  · rw [up_eq, h8]
  · rw [up_ne (by omega), h1 k hk]
    exact a4 k hk
  · rw [h8] at hi
    rw [up_ne (by omega)]
    by_cases he : i = c.toNat
    · rw [he]
      exact hf' f' hf6
    · have := pf_ge f' hf6
      rw [hr _ _ this.1 he]
      exact a5 i f' (by omega) h16 hf6
  · rw [up_ne (by omega)]
    exact hf a k hn
end PBS
section MTS
variable {I0 I I' : MI} {π : Nat → Nat} {V : RV}
theorem pm_congr {b : Nat} {P : PV} (h : PM I b P) (hf : ∀ k, b ≤ k → k < b + 132 → I' 374 k = I 374 k) : PM I' b P := by
  obtain ⟨a0, a1, a2, a3, a4, a5⟩ := h
  unfold PM
  rw [hf b (by omega) (by omega), hf (b + 1) (by omega) (by omega), hf (b + 2) (by omega) (by omega), hf (b + 3) (by omega) (by omega)]
  exact ⟨a0, a1, a2, a3, fun k hk => by rw [hf _ (by omega) (by omega)]; exact a4 k hk, fun i f hi h16 hf6 => by rw [hf _ (by omega) (by omega)]; exact a5 i f hi h16 hf6⟩
theorem mto_pg {p : Nat} {P : PV} (h : MTo I0 I π V) (hp : p < 7) (hb : PBl I (61 + 132 * π p) I' P) (hs : I' 374 (61 + 132 * π p) = iI (if P 0 8 = 0 then -1 else P 4 0)) : MTo I0 I' π (upP V p P) := by
  obtain ⟨⟨b1, b2, b3, b4, b5, b6, b7, b8, b9⟩, f1, f2⟩ := h
  obtain ⟨hb0, hf⟩ := hb
  have hpl := b1 p hp
  refine ⟨⟨b1, b2, fun j hj => ?_, ?_, ?_, fun d h1 h2 => ?_, fun k h1 h2 => ?_, fun q hq => ?_, fun q hq => ?_⟩, fun a k h1 h2 => ?_, fun k hk => ?_⟩
  · have := hj.1
    rw [hf _ _ (by omega)]
    exact b3 j hj
  · rw [hf _ _ (by omega)]
    exact b4
  · rw [hf _ _ (by omega)]
    exact b5
  · rw [hf _ _ (by omega)]
    exact b6 d h1 h2
  · rw [hf _ _ (by omega), hf _ _ (by omega), hf _ _ (by omega)]
    exact b7 k h1 h2
  · rw [hf _ _ (by omega)]
    exact b8 q hq
  · show PM I' _ (if q = p then P else V.1 q)
    by_cases he : q = p
    · rw [if_pos he, he]
      exact ⟨hs, hb0⟩
    · rw [if_neg he]
      have hne : π q ≠ π p := fun h => he (b2 q p hq hp h)
      exact pm_congr (b9 q hq) fun k h1 h2 => hf _ _ (by omega)
  · rw [hf _ _ (by omega)]
    exact f1 a k h1 h2
  · rw [hf _ _ (by omega)]
    exact f2 k hk
/-- a figure alone -/
theorem mto_s (h : MTo I0 I π V) (j : Nat) {g k : Nat} (e : sg j = (g, k)) (v : Int) (hj : sj j) (hn : j ≠ 0 ∧ j ≠ 4 ∧ j ≠ 6 ∧ j ≠ 33) : MTo I0 (up I 374 j (iI v)) π (upG V g k v) := by
  obtain ⟨⟨b1, b2, b3, b4, b5, b6, b7, b8, b9⟩, f1, f2⟩ := h
  have hi := sg_is hj
  rw [e] at hi
  obtain ⟨i1, i2, i3, i4, i5, i6⟩ := hi
  have hjj := hj.1
  have n8 : ¬ (0 = g ∧ 8 = k) := fun h => hn.1 (i1 (by rw [h.1, h.2]))
  have n12 : ¬ (0 = g ∧ 12 = k) := fun h => hn.2.1 (i2 (by rw [h.1, h.2]))
  have n15 : ¬ (0 = g ∧ 15 = k) := fun h => hn.2.2.1 (i3 (by rw [h.1, h.2]))
  have n64 : ¬ (6 = g ∧ 4 = k) := fun h => hn.2.2.2 (i4 (by rw [h.1, h.2]))
  have n13 : ¬ (0 = g ∧ 13 = k) := fun h => i5 (by rw [h.1, h.2])
  have hg : g = 0 ∨ g = 5 ∨ g = 6 := i6
  refine ⟨⟨b1, b2, fun j' hj' => ?_, ?_, ?_, fun d h1 h2 => ?_, fun k' h1 h2 => ?_, fun q hq => ?_, fun q hq => ?_⟩, fun a k' h1 h2 => ?_, fun k' hk => ?_⟩
  · by_cases he : j' = j
    · rw [he, up_eq, e, upG_eq]
    · have hne : ¬ ((sg j').1 = g ∧ (sg j').2 = k) := fun h => he (sg_inj hj' hj (by rw [e]; exact Prod.ext h.1 h.2))
      rw [up_ne (by omega), upG_ne hne]
      exact b3 j' hj'
  · have hp : plc (upG V g k v) ((upG V g k v).2 0 13 - 1) = plc V (V.2 0 13 - 1) := by
      unfold plc
      rw [upG_ne n8, upG_ne n12, upG_ne n13]
    rw [up_ne (by omega), hp]
    exact b4
  · rw [up_ne (by omega)]
    exact b5
  · rw [upG_ne n64] at h2
    rw [up_ne (by omega), upG_ne (by omega)]
    exact b6 d h1 h2
  · rw [upG_ne n15] at h2
    rw [up_ne (by omega), up_ne (by omega), up_ne (by omega), upG_ne (by omega), upG_ne (by omega), upG_ne (by omega)]
    exact b7 k' h1 h2
  · rw [up_ne (by omega)]
    exact b8 q hq
  · rw [upG_1]
    exact pm_congr (b9 q hq) fun k h1 h2 => up_ne (by omega)
  · rw [up_ne (by omega)]
    exact f1 a k' h1 h2
  · rw [up_ne (by omega)]
    exact f2 k' hk
theorem mto_same (h : MTo I0 I π V) {j : Nat} {x : Int32} (e : I 374 j = x) : MTo I0 (up I 374 j x) π V := by
  have : up I 374 j x = I := by
    funext a k
    unfold up
    split
    · next hx => rw [hx.1, hx.2, e]
    · rfl
  rw [this]
  exact h
/-- a place in the row of the open ones, above them -/
theorem mto_x (h : MTo I0 I π V) {j : Nat} {x : Int32} (hj : 43 + 3 * V.2 0 15 ≤ j ∧ j < 55 ∧ 43 ≤ j) : MTo I0 (up I 374 j x) π V := by
  obtain ⟨⟨b1, b2, b3, b4, b5, b6, b7, b8, b9⟩, f1, f2⟩ := h
  refine ⟨⟨b1, b2, fun j' hj' => ?_, ?_, ?_, fun d h1 h2 => ?_, fun k' h1 h2 => ?_, fun q hq => ?_, fun q hq => ?_⟩, fun a k' h1 h2 => ?_, fun k' hk => ?_⟩
  · have := hj'.1
    rw [up_ne (by omega)]
    exact b3 j' hj'
  · rw [up_ne (by omega)]
    exact b4
  · rw [up_ne (by omega)]
    exact b5
  · rw [up_ne (by omega)]
    exact b6 d h1 h2
  · rw [up_ne (by omega), up_ne (by omega), up_ne (by omega)]
    exact b7 k' h1 h2
  · rw [up_ne (by omega)]
    exact b8 q hq
  · exact pm_congr (b9 q hq) fun k h1 h2 => up_ne (by omega)
  · rw [up_ne (by omega)]
    exact f1 a k' h1 h2
  · rw [up_ne (by omega)]
    exact f2 k' hk
/-- one open one more -/
theorem mto_op (h : MTo I0 I π V) {k : Nat} {pl it pu : Int} (hk : V.2 0 15 = k) (h4 : k < 4) (e1 : I 374 (43 + 3 * k) = iI (π pl.toNat)) (e2 : I 374 (44 + 3 * k) = iI it) (e3 : I 374 (45 + 3 * k) = iI pu) : MTo I0 (up I 374 6 (iI (V.2 0 15 + 1))) π (upG (upG (upG (upG V 2 k pl) 3 k it) 4 k pu) 0 15 (V.2 0 15 + 1)) := by
  obtain ⟨⟨b1, b2, b3, b4, b5, b6, b7, b8, b9⟩, f1, f2⟩ := h
  generalize hU : upG (upG (upG (upG V 2 k pl) 3 k it) 4 k pu) 0 15 (V.2 0 15 + 1) = U
  have e15 : U.2 0 15 = V.2 0 15 + 1 := by
    rw [← hU, upG_eq]
  have eg : ∀ g j, ¬ (g = 0 ∧ j = 15) → g ≠ 2 → g ≠ 3 → g ≠ 4 → U.2 g j = V.2 g j := fun g j a1 a2 a3 a4 => by
    rw [← hU, upG_ne (by omega), upG_ne (by omega), upG_ne (by omega), upG_ne (by omega)]
  have el : ∀ g j, g = 2 ∨ g = 3 ∨ g = 4 → j ≠ k → U.2 g j = V.2 g j := fun g j a1 a2 => by
    rw [← hU, upG_ne (by omega), upG_ne (by omega), upG_ne (by omega), upG_ne (by omega)]
  have u2 : U.2 2 k = pl := by
    rw [← hU, upG_ne (by omega), upG_ne (by omega), upG_ne (by omega), upG_eq]
  have u3 : U.2 3 k = it := by
    rw [← hU, upG_ne (by omega), upG_ne (by omega), upG_eq]
  have u4 : U.2 4 k = pu := by
    rw [← hU, upG_ne (by omega), upG_eq]
  have up1 : U.1 = V.1 := by
    rw [← hU]
    rfl
  refine ⟨⟨b1, b2, fun j' hj' => ?_, ?_, ?_, fun d h1 h2 => ?_, fun k' h1 h2 => ?_, fun q hq => ?_, fun q hq => ?_⟩, fun a k' h1 h2 => ?_, fun k' hk => ?_⟩
  · by_cases he : j' = 6
    · rw [he, up_eq, ← e15]
      rfl
    · have hi := sg_is hj'
      have hne : ¬ ((sg j').1 = 0 ∧ (sg j').2 = 15) := fun h => he (hi.2.2.1 (Prod.ext h.1 h.2))
      rw [up_ne (by omega), eg _ _ hne (by omega) (by omega) (by omega)]
      exact b3 j' hj'
  · have hp : plc U (U.2 0 13 - 1) = plc V (V.2 0 13 - 1) := by
      unfold plc
      rw [eg 0 8 (by omega) (by omega) (by omega) (by omega), eg 0 12 (by omega) (by omega) (by omega) (by omega), eg 0 13 (by omega) (by omega) (by omega) (by omega)]
    rw [up_ne (by omega), hp]
    exact b4
  · rw [up_ne (by omega)]
    exact b5
  · rw [eg 6 4 (by omega) (by omega) (by omega) (by omega)] at h2
    rw [up_ne (by omega), eg 7 d (by omega) (by omega) (by omega) (by omega)]
    exact b6 d h1 h2
  · rw [e15] at h2
    rw [up_ne (by omega), up_ne (by omega), up_ne (by omega)]
    by_cases he : k' = k
    · subst he
      rw [u2, u3, u4]
      exact ⟨e1, e2, e3⟩
    · rw [el 2 _ (by omega) he, el 3 _ (by omega) he, el 4 _ (by omega) he]
      exact b7 k' h1 (by omega)
  · rw [up_ne (by omega)]
    exact b8 q hq
  · rw [up1]
    exact pm_congr (b9 q hq) fun k h1 h2 => up_ne (by omega)
  · rw [up_ne (by omega)]
    exact f1 a k' h1 h2
  · rw [up_ne (by omega)]
    exact f2 k' hk
/-- head and tail -/
theorem mto_ht (h : MTo I0 I π V) {hd lv tl : Int} (hI : ∀ j, j ≠ 4 → j ≠ 5 → I' 374 j = I 374 j) (hI2 : ∀ a k, a ≠ 374 → I' a k = I a k) (e4 : I' 374 4 = iI hd) (e5 : I' 374 5 = iI tl) (ht : plc (upG (upG V 0 12 hd) 0 13 lv) (lv - 1) = tl) : MTo I0 I' π (upG (upG V 0 12 hd) 0 13 lv) := by
  obtain ⟨⟨b1, b2, b3, b4, b5, b6, b7, b8, b9⟩, f1, f2⟩ := h
  generalize hU : upG (upG V 0 12 hd) 0 13 lv = U at *
  have e12 : U.2 0 12 = hd := by
    rw [← hU, upG_ne (by omega), upG_eq]
  have e13 : U.2 0 13 = lv := by
    rw [← hU, upG_eq]
  have eg : ∀ g j, ¬ (g = 0 ∧ (j = 12 ∨ j = 13)) → U.2 g j = V.2 g j := fun g j a1 => by
    rw [← hU, upG_ne (by omega), upG_ne (by omega)]
  have up1 : U.1 = V.1 := by
    rw [← hU]
    rfl
  refine ⟨⟨b1, b2, fun j' hj' => ?_, ?_, ?_, fun d h1 h2 => ?_, fun k' h1 h2 => ?_, fun q hq => ?_, fun q hq => ?_⟩, fun a k' h1 h2 => ?_, fun k' hk => ?_⟩
  · by_cases he : j' = 4
    · rw [he, e4, ← e12]
      rfl
    · have hi := sg_is hj'
      have hne : ¬ ((sg j').1 = 0 ∧ ((sg j').2 = 12 ∨ (sg j').2 = 13)) := fun h => by
        rcases h.2 with hx | hx
        · exact he (hi.2.1 (Prod.ext h.1 hx))
        · exact hi.2.2.2.2.1 (Prod.ext h.1 hx)
      rw [hI j' he hj'.2.1, eg _ _ hne]
      exact b3 j' hj'
  · rw [e5, e13, ht]
  · rw [hI 7 (by omega) (by omega)]
    exact b5
  · rw [eg 6 4 (by omega)] at h2
    rw [hI _ (by omega) (by omega), eg 7 d (by omega)]
    exact b6 d h1 h2
  · rw [eg 0 15 (by omega)] at h2
    rw [hI _ (by omega) (by omega), hI _ (by omega) (by omega), hI _ (by omega) (by omega), eg 2 _ (by omega), eg 3 _ (by omega), eg 4 _ (by omega)]
    exact b7 k' h1 h2
  · rw [hI _ (by omega) (by omega)]
    exact b8 q hq
  · rw [up1]
    exact pm_congr (b9 q hq) fun k h1 h2 => hI _ (by omega) (by omega)
  · rw [hI2 _ _ h1]
    exact f1 a k' h1 h2
  · rw [hI _ (by omega) (by omega)]
    exact f2 k' hk
end MTS
