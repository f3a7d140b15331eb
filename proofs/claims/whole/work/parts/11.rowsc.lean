/-! ROWS FOR WHAT ONLY READS, FOR JOINTS AND SWITCHES -/
def cP_ {α β : Type} (F : Option α) (K : α → Option β) : Option β := match F with
  | none => none
  | some x => K x
def rzP_ (r : Int32) : Option Int32 := if r = 0 ∨ r = 1 then some r else none
section ROWSC
variable {X : Cx} {G : Gx} {own : String} {cc : ByteArray} {nL n1 n2 : Nat} {ret : Option FieldType} {rm : Room} {Q : State → Prop} {pc : Nat} {lv lv' : List (Nat × Value)} {st st0 : List Value} {S : St} {β : Type} {o : β} {P : Prop}
theorem m_sub (ks : List Nat) (hl' : lv_pick lv ks = lv') (k : WM X G nL n1 n2 Q pc lv' st S) : WM X G nL n1 n2 Q pc lv st S := fun H locs ls hl hr hs => k H locs ls (lv_sub hl ks hl') hr hs
theorem m_cI {F : Option (Int32 × St)} {K : Int32 → St → Option β} (h : cI_ F K = some o) (hM : ∀ o', F = some o' → Runs X G nL n1 n2 0 0 pc lv st0 st S (qI G o')) (kk : ∀ r S', K r S' = some o → WM X G nL n1 n2 Q (pc + 3) lv (.int r :: st) S') : WM X G nL n1 n2 Q pc lv st0 S := by
  unfold cI_ at h
  split at h
  · cases h
  · next o' => exact m_afterI (mc := 0) (ms := 0) (hM o' rfl) (kk _ _ h)
theorem m_cV {F : Option St} {K : St → Option β} (h : cV_ F K = some o) (hM : ∀ o', F = some o' → Runs X G nL n1 n2 0 0 pc lv st0 st S (qV G o')) (kk : ∀ S', K S' = some o → WM X G nL n1 n2 Q (pc + 3) lv st S') : WM X G nL n1 n2 Q pc lv st0 S := by
  unfold cV_ at h
  split at h
  · cases h
  · next o' => exact m_afterV (mc := 0) (ms := 0) (hM o' rfl) (kk _ h)
theorem m_cP {F : Option Int32} {K : Int32 → Option β} (h : cP_ F K = some o) (hM : ∀ o', F = some o' → Runs X G nL n1 n2 0 0 pc lv st0 st S (qI G (o', S))) (kk : ∀ r, K r = some o → WM X G nL n1 n2 Q (pc + 3) lv (.int r :: st) S) : WM X G nL n1 n2 Q pc lv st0 S := by
  unfold cP_ at h
  split at h
  · cases h
  · next o' => exact m_afterI (mc := 0) (ms := 0) (hM o' rfl) (kk _ h)
theorem m_cO {F : Option (Option Nat)} {K : Option Nat → Option β} (h : cP_ F K = some o) (hM : ∀ o', F = some o' → Runs X G nL n1 n2 0 0 pc lv st0 st S (qR G (o', S))) (kk : ∀ r, K r = some o → WM X G nL n1 n2 Q (pc + 3) lv (rfB G.1 r :: st) S) : WM X G nL n1 n2 Q pc lv st0 S := by
  unfold cP_ at h
  split at h
  · cases h
  · next o' => exact m_afterR (mc := 0) (ms := 0) (hM o' rfl) (kk _ h)
theorem m_cN {F : Option Nat} {K : Nat → Option β} (h : cP_ F K = some o) (hM : ∀ o', F = some o' → Runs X G nL n1 n2 0 0 pc lv st0 st S (qR G (some o', S))) (kk : ∀ r, K r = some o → WM X G nL n1 n2 Q (pc + 3) lv (.ref (G.1 + r) :: st) S) : WM X G nL n1 n2 Q pc lv st0 S := by
  unfold cP_ at h
  split at h
  · cases h
  · next o' => exact m_afterR (mc := 0) (ms := 0) (hM o' rfl) (kk _ h)
theorem m_iretP {r o : Int32} (C : Cok X G own cc nL ret rm) (hret : ret = some .int) (hd : decode cc pc = .ok (.ireturn, 1)) (h : rt_ r = some o) : WM X G nL n1 n2 (wQ X G (qI G (o, S)) n1 n2) pc lv [.int r] S := by
  cases h
  exact m_iret C hret hd rfl
theorem m_zretP {r o : Int32} (C : Cok X G own cc nL ret rm) (hret : ret = some .boolean) (hd : decode cc pc = .ok (.ireturn, 1)) (h : rzP_ r = some o) : WM X G nL n1 n2 (wQ X G (qI G (o, S)) n1 n2) pc lv [.int r] S := by
  unfold rzP_ at h
  split at h
  · next hz =>
    cases h
    exact m_zret C hret hd (by unfold rz_; rw [if_pos hz])
  · cases h
theorem m_aretO {r o : Option Nat} {ty : FieldType} (C : Cok X G own cc nL ret rm) (hret : ret = some ty) (hty : (∃ n, ty = .object n) ∨ ∃ t, ty = .array t) (hd : decode cc pc = .ok (.areturn, 1)) (h : rt_ r = some o) : WM X G nL n1 n2 (wQ X G (qR G (o, S)) n1 n2) pc lv [rfB G.1 r] S := by
  cases h
  exact m_aret C hret hty hd rfl
theorem m_aretN {r o : Nat} {ty : FieldType} (C : Cok X G own cc nL ret rm) (hret : ret = some ty) (hty : (∃ n, ty = .object n) ∨ ∃ t, ty = .array t) (hd : decode cc pc = .ok (.areturn, 1)) (h : rt_ r = some o) : WM X G nL n1 n2 (wQ X G (qR G (some o, S)) n1 n2) pc lv [.ref (G.1 + r)] S := by
  cases h
  exact m_aret (r := some r) C hret hty hd rfl
/-! switches -/
theorem m_sw {x k : Int32} {A B : Option β} (h : (if x = k then A else B) = some o) (kt : x = k → A = some o → P) (kf : ¬ x = k → B = some o → P) : P := by
  by_cases e : x = k
  · rw [if_pos e] at h; exact kt e h
  · rw [if_neg e] at h; exact kf e h
theorem m_tin {dflt lo hi off : Int} {offs : Array Int} {len tgt : Nat} {x : Int32} (C : Cok X G own cc nL ret rm) (hd : decode cc pc = .ok (.tableswitch dflt lo hi offs, len)) (k : Int32) (hk : x = k) (h1 : ¬ k.toInt < lo) (h2 : ¬ hi < k.toInt) (ho : offs[(k.toInt - lo).toNat]? = some off) (ht : (pc : Int) + off = (tgt : Int)) (kk : WM X G nL n1 n2 Q tgt lv st S) : WM X G nL n1 n2 Q pc lv (.int x :: st) S := by
  subst hk
  intro H locs ls hl hr hs
  exact lv_tableIn C.hx C.hb hd h1 h2 ho ht (kk H locs ls hl hr hs)
theorem m_tout {dflt lo hi : Int} {offs : Array Int} {len tgt : Nat} {x : Int32} (C : Cok X G own cc nL ret rm) (hd : decode cc pc = .ok (.tableswitch dflt lo hi offs, len)) (hx : x.toInt < lo ∨ hi < x.toInt) (ht : (pc : Int) + dflt = (tgt : Int)) (kk : WM X G nL n1 n2 Q tgt lv st S) : WM X G nL n1 n2 Q pc lv (.int x :: st) S := by
  intro H locs ls hl hr hs
  exact lv_tableOut C.hx C.hb hd hx ht (kk H locs ls hl hr hs)
theorem m_lsw {dflt off : Int} {ps : Array (Int × Int)} {len tgt : Nat} {x : Int32} (C : Cok X G own cc nL ret rm) (hd : decode cc pc = .ok (.lookupswitch dflt ps, len)) (hp : (ps.toList.zip (ps.toList.drop 1)).all (fun (a, next) => a.1 < next.1) = true) (ho : Op.lookupswitch.offset ps.toList dflt x.toInt = off) (ht : (pc : Int) + off = (tgt : Int)) (kk : WM X G nL n1 n2 Q tgt lv st S) : WM X G nL n1 n2 Q pc lv (.int x :: st) S := by
  intro H locs ls hl hr hs
  exact lv_lookup C.hx C.hb hd hp ho ht (kk H locs ls hl hr hs)
theorem m_nn {x : Option Nat} {K : Nat → Option β} (h : nn_ x K = some o) (kk : ∀ a, x = some a → K a = some o → P) : P := by
  unfold nn_ at h
  split at h
  · cases h
  · next a => exact kk a rfl h
end ROWSC
theorem neT {x k : Int32} {a : Int} (h : ¬ x = k) (hk : k.toInt = a) : ¬ x.toInt = a := lv_neT h hk
def nfw : Nat := nativeFrameWords "java/lang/System" "arraycopy" 5
theorem nfw_le : nativeFrameWords "java/lang/System" "arraycopy" 5 + 11 ≤ 60 := by decide +kernel
