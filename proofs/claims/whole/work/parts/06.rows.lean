/-! the words of the picture's functions: what is computed is named, what is read is checked -/
def lt_ {α β : Type} (v : α) (K : α → β) : β := K v
def jn_ {α β : Type} (e : α) (b : α → β) : β := b e
def lp_ {α β : Type} (F : (α → Option β) → α → Option β) : Nat → α → Option β
  | 0, _ => none
  | n + 1, x => F (lp_ F n) x
def FU : Nat := 5000
def rt_ {α : Type} (r : α) : Option α := some r
def dv_ {β : Type} (x y : Int32) (K : Int32 → Option β) : Option β := if y = 0 then none else K (x / y)
def rm_ {β : Type} (x y : Int32) (K : Int32 → Option β) : Option β := if y = 0 then none else K (x - x / y * y)
def uI (S : St) (a k : Nat) (x : Int32) : St := (S.1, fun b j => if b = a ∧ j = k then x else S.2.1 b j, S.2.2.1, S.2.2.2)
def uJ (S : St) (a k : Nat) (x : Int64) : St := (S.1, S.2.1, fun b j => if b = a ∧ j = k then x else S.2.2.1 b j, S.2.2.2)
def uR (S : St) (a k : Nat) (x : Option Nat) : St := (S.1, S.2.1, S.2.2.1, fun b j => if b = a ∧ j = k then x else S.2.2.2 b j)
def ck_ {β : Type} (S : St) (a c : Nat) (K : Option β) : Option β := if a < S.1 ∧ kd a = c then K else none
def gI_ {β : Type} (S : St) (a c k : Nat) (K : Int32 → Option β) : Option β := if a < S.1 ∧ kd a = c then K (S.2.1 a k) else none
def gJ_ {β : Type} (S : St) (a c k : Nat) (K : Int64 → Option β) : Option β := if a < S.1 ∧ kd a = c then K (S.2.2.1 a k) else none
def nn_ {β : Type} (r : Option Nat) (K : Nat → Option β) : Option β := match r with
  | none => none
  | some a => K a
def gR_ {β : Type} (S : St) (a c k : Nat) (K : Nat → Option β) : Option β := if a < S.1 ∧ kd a = c then nn_ (S.2.2.2 a k) K else none
def pI_ {β : Type} (S : St) (a c k : Nat) (x : Int32) (K : St → Option β) : Option β := if a < S.1 ∧ kd a = c then K (uI S a k x) else none
def pZ_ {β : Type} (S : St) (a c k : Nat) (x : Int32) (K : St → Option β) : Option β := if (a < S.1 ∧ kd a = c) ∧ (x = 0 ∨ x = 1) then K (uI S a k x) else none
def pJ_ {β : Type} (S : St) (a c k : Nat) (x : Int64) (K : St → Option β) : Option β := if a < S.1 ∧ kd a = c then K (uJ S a k x) else none
def pR_ {β : Type} (S : St) (a c k : Nat) (x : Option Nat) (K : St → Option β) : Option β := if a < S.1 ∧ kd a = c then K (uR S a k x) else none
def aI_ {β : Type} (S : St) (a c : Nat) (i : Int32) (K : Int32 → Option β) : Option β := if (a < S.1 ∧ kd a = c) ∧ ¬ (i < 0 ∨ ln a ≤ i.toNatClampNeg) then K (S.2.1 a i.toNatClampNeg) else none
def aJ_ {β : Type} (S : St) (a : Nat) (i : Int32) (K : Int64 → Option β) : Option β := if (a < S.1 ∧ kd a = 12) ∧ ¬ (i < 0 ∨ ln a ≤ i.toNatClampNeg) then K (S.2.2.1 a i.toNatClampNeg) else none
def aR_ {β : Type} (S : St) (a c : Nat) (i : Int32) (K : Nat → Option β) : Option β := if (a < S.1 ∧ kd a = c) ∧ ¬ (i < 0 ∨ ln a ≤ i.toNatClampNeg) then nn_ (S.2.2.2 a i.toNatClampNeg) K else none
def sI_ {β : Type} (S : St) (a : Nat) (i : Int32) (x : Int32) (K : St → Option β) : Option β := if (a < S.1 ∧ kd a = 11) ∧ ¬ (i < 0 ∨ ln a ≤ i.toNatClampNeg) then K (uI S a i.toNatClampNeg x) else none
def sB_ {β : Type} (S : St) (a : Nat) (i : Int32) (x : Int32) (K : St → Option β) : Option β := if (a < S.1 ∧ kd a = 10) ∧ ¬ (i < 0 ∨ ln a ≤ i.toNatClampNeg) then K (uI S a i.toNatClampNeg (vp_nar .byte x)) else none
def sZ_ {β : Type} (S : St) (a : Nat) (i : Int32) (x : Int32) (K : St → Option β) : Option β := if (a < S.1 ∧ kd a = 13) ∧ ¬ (i < 0 ∨ ln a ≤ i.toNatClampNeg) then K (uI S a i.toNatClampNeg (vp_nar .boolean x)) else none
def sJ_ {β : Type} (S : St) (a : Nat) (i : Int32) (x : Int64) (K : St → Option β) : Option β := if (a < S.1 ∧ kd a = 12) ∧ ¬ (i < 0 ∨ ln a ≤ i.toNatClampNeg) then K (uJ S a i.toNatClampNeg x) else none
def sR_ {β : Type} (S : St) (a c : Nat) (i : Int32) (b cb : Nat) (K : St → Option β) : Option β := if ((a < S.1 ∧ kd a = c) ∧ ¬ (i < 0 ∨ ln a ≤ i.toNatClampNeg)) ∧ b < S.1 ∧ kd b = cb then K (uR S a i.toNatClampNeg (some b)) else none
def al_ {β : Type} (S : St) (a c : Nat) (K : Int32 → Option β) : Option β := if a < S.1 ∧ kd a = c then K (Int32.ofNat (ln a)) else none
def cI_ {α β : Type} (F : Option (α × St)) (K : α → St → Option β) : Option β := match F with
  | none => none
  | some x => K x.1 x.2
def cV_ {β : Type} (F : Option St) (K : St → Option β) : Option β := match F with
  | none => none
  | some S => K S
def io_ {β : Type} (r : Option Nat) (A : Option β) (K : Nat → Option β) : Option β := match r with
  | none => A
  | some a => K a

section ROWS
variable {X : Cx} {G : Gx} {own : String} {cc : ByteArray} {nL n1 n2 : Nat} {ret : Option FieldType} {rm : Room} {Q : State → Prop} {pc : Nat} {lv lv' : List (Nat × Value)} {st : List Value} {S : St} {β : Type} {o : β} {P : Prop}
theorem m_lt {α : Type} {e : α} {K : α → Option β} (h : lt_ e K = some o) (k : ∀ v, K v = some o → P) : P := k e h
theorem m_jn {α : Type} {e : α → Option β} {b : (α → Option β) → Option β} {J : α → Prop} (h : jn_ e b = some o) (h1 : ∀ x, e x = some o → J x) (h2 : ∀ j : α → Option β, (∀ x, j x = some o → J x) → b j = some o → P) : P := h2 e h1 h
theorem m_lp {α : Type} {F : (α → Option β) → α → Option β} {n : Nat} {x : α} {J : α → Prop} (h : lp_ F n x = some o) (hs : ∀ self : α → Option β, (∀ y, self y = some o → J y) → ∀ y, F self y = some o → J y) : J x := by
  induction n generalizing x with
  | zero => cases h
  | succ n ih => exact hs (lp_ F n) (fun y hy => ih hy) x h

theorem m_iconst (C : Cok X G own cc nL ret rm) {n : Int} {v : Int32} (hd : decode cc pc = .ok (.iconst n, 1)) (hv : Int32.ofInt n = v) (k : WM X G nL n1 n2 Q (pc + 1) lv (.int v :: st) S) : WM X G nL n1 n2 Q pc lv st S := by
  intro H locs ls hl hr hs
  exact lv_iconst C.hx C.hb hd hv (k H locs ls hl hr hs)
theorem m_bipush (C : Cok X G own cc nL ret rm) {n : Int} {v : Int32} (hd : decode cc pc = .ok (.bipush n, 2)) (hv : (Int8.ofInt n).toInt32 = v) (k : WM X G nL n1 n2 Q (pc + 2) lv (.int v :: st) S) : WM X G nL n1 n2 Q pc lv st S := by
  intro H locs ls hl hr hs
  exact lv_bipush C.hx C.hb hd hv (k H locs ls hl hr hs)
theorem m_sipush (C : Cok X G own cc nL ret rm) {n : Int} {v : Int32} (hd : decode cc pc = .ok (.sipush n, 3)) (hv : (Int16.ofInt n).toInt32 = v) (k : WM X G nL n1 n2 Q (pc + 3) lv (.int v :: st) S) : WM X G nL n1 n2 Q pc lv st S := by
  intro H locs ls hl hr hs
  exact lv_sipush C.hx C.hb hd hv (k H locs ls hl hr hs)
theorem m_lconst (C : Cok X G own cc nL ret rm) {n : Fin 2} {v : Int64} (hd : decode cc pc = .ok (.lconst n, 1)) (hv : Int64.ofNat (n : Nat) = v) (k : WM X G nL n1 n2 Q (pc + 1) lv (.long v :: st) S) : WM X G nL n1 n2 Q pc lv st S := by
  intro H locs ls hl hr hs
  exact lv_lconst C.hx C.hb hd hv (k H locs ls hl hr hs)
theorem m_null (C : Cok X G own cc nL ret rm) (hd : decode cc pc = .ok (.aconst_null, 1)) (k : WM X G nL n1 n2 Q (pc + 1) lv (.null :: st) S) : WM X G nL n1 n2 Q pc lv st S := by
  intro H locs ls hl hr hs
  exact lv_null C.hx C.hb hd (k H locs ls hl hr hs)
theorem m_ldc (C : Cok X G own cc nL ret rm) {index : Nat} {v : Int32} (hd : decode cc pc = .ok (.ldc index, 2)) (hw : Cond.constant own index v ∈ wAll) (k : WM X G nL n1 n2 Q (pc + 2) lv (.int v :: st) S) : WM X G nL n1 n2 Q pc lv st S := by
  intro H locs ls hl hr hs
  exact lv_ldc C.hx C.hb C.hown (C.hts _ hw) hd (k H locs ls hl hr hs)
theorem m_ldc2 (C : Cok X G own cc nL ret rm) {index : Nat} {v : Int64} (hd : decode cc pc = .ok (.ldc2_w index, 3)) (hw : Cond.constantLong own index v ∈ wAll) (k : WM X G nL n1 n2 Q (pc + 3) lv (.long v :: st) S) : WM X G nL n1 n2 Q pc lv st S := by
  intro H locs ls hl hr hs
  exact lv_ldc2 C.hx C.hb C.hown (C.hts _ hw) hd (k H locs ls hl hr hs)
theorem m_iload_n (C : Cok X G own cc nL ret rm) {q : Fin 4} {i : Nat} {x : Int32} (hd : decode cc pc = .ok (.iload_n q, 1)) (hi : (q : Nat) = i) (j : Nat) (hj : lv[j]? = some (i, .int x)) (k : WM X G nL n1 n2 Q (pc + 1) lv (.int x :: st) S) : WM X G nL n1 n2 Q pc lv st S := by
  intro H locs ls hl hr hs
  exact lv_iload_n C.hx C.hb hd hi (lv_at hl j hj) (k H locs ls hl hr hs)
theorem m_iload (C : Cok X G own cc nL ret rm) {i : Nat} {x : Int32} (hd : decode cc pc = .ok (.iload i, 2)) (j : Nat) (hj : lv[j]? = some (i, .int x)) (k : WM X G nL n1 n2 Q (pc + 2) lv (.int x :: st) S) : WM X G nL n1 n2 Q pc lv st S := by
  intro H locs ls hl hr hs
  exact lv_iload C.hx C.hb hd (lv_at hl j hj) (k H locs ls hl hr hs)
theorem m_lload_n (C : Cok X G own cc nL ret rm) {q : Fin 4} {i : Nat} {x : Int64} (hd : decode cc pc = .ok (.lload_n q, 1)) (hi : (q : Nat) = i) (j : Nat) (hj : lv[j]? = some (i, .long x)) (k : WM X G nL n1 n2 Q (pc + 1) lv (.long x :: st) S) : WM X G nL n1 n2 Q pc lv st S := by
  intro H locs ls hl hr hs
  exact lv_lload_n C.hx C.hb hd hi (lv_at hl j hj) (k H locs ls hl hr hs)
theorem m_lload (C : Cok X G own cc nL ret rm) {i : Nat} {x : Int64} (hd : decode cc pc = .ok (.lload i, 2)) (j : Nat) (hj : lv[j]? = some (i, .long x)) (k : WM X G nL n1 n2 Q (pc + 2) lv (.long x :: st) S) : WM X G nL n1 n2 Q pc lv st S := by
  intro H locs ls hl hr hs
  exact lv_lload C.hx C.hb hd (lv_at hl j hj) (k H locs ls hl hr hs)
theorem m_aload_n (C : Cok X G own cc nL ret rm) {q : Fin 4} {i : Nat} {x : Nat} (hd : decode cc pc = .ok (.aload_n q, 1)) (hi : (q : Nat) = i) (j : Nat) (hj : lv[j]? = some (i, .ref x)) (k : WM X G nL n1 n2 Q (pc + 1) lv (.ref x :: st) S) : WM X G nL n1 n2 Q pc lv st S := by
  intro H locs ls hl hr hs
  exact lv_aload_n C.hx C.hb hd hi (lv_at hl j hj) (k H locs ls hl hr hs)
theorem m_aload (C : Cok X G own cc nL ret rm) {i : Nat} {x : Nat} (hd : decode cc pc = .ok (.aload i, 2)) (j : Nat) (hj : lv[j]? = some (i, .ref x)) (k : WM X G nL n1 n2 Q (pc + 2) lv (.ref x :: st) S) : WM X G nL n1 n2 Q pc lv st S := by
  intro H locs ls hl hr hs
  exact lv_aload C.hx C.hb hd (lv_at hl j hj) (k H locs ls hl hr hs)
theorem m_aload_nO (C : Cok X G own cc nL ret rm) {q : Fin 4} {i : Nat} {B : Nat} {x : Option Nat} (hd : decode cc pc = .ok (.aload_n q, 1)) (hi : (q : Nat) = i) (j : Nat) (hj : lv[j]? = some (i, rfB B x)) (k : WM X G nL n1 n2 Q (pc + 1) lv (rfB B x :: st) S) : WM X G nL n1 n2 Q pc lv st S := by
  intro H locs ls hl hr hs
  exact by
    cases x with
    | none => exact lv_aload_nN C.hx C.hb hd hi (lv_at hl j hj) (k H locs ls hl hr hs)
    | some x => exact lv_aload_n C.hx C.hb hd hi (lv_at hl j hj) (k H locs ls hl hr hs)
theorem m_aloadO (C : Cok X G own cc nL ret rm) {i : Nat} {B : Nat} {x : Option Nat} (hd : decode cc pc = .ok (.aload i, 2)) (j : Nat) (hj : lv[j]? = some (i, rfB B x)) (k : WM X G nL n1 n2 Q (pc + 2) lv (rfB B x :: st) S) : WM X G nL n1 n2 Q pc lv st S := by
  intro H locs ls hl hr hs
  exact by
    cases x with
    | none => exact lv_aloadN C.hx C.hb hd (lv_at hl j hj) (k H locs ls hl hr hs)
    | some x => exact lv_aload C.hx C.hb hd (lv_at hl j hj) (k H locs ls hl hr hs)
theorem m_istore_n (C : Cok X G own cc nL ret rm) {q : Fin 4} {i : Nat} {x : Int32} (hd : decode cc pc = .ok (.istore_n q, 1)) (hi : (q : Nat) = i) (hn : i < nL) (hl' : (i, Value.int x) :: lv.filter (fun q => !(q.1 == i) && !(q.1 + 1 == i && q.2.category == 2)) = lv') (k : WM X G nL n1 n2 Q (pc + 1) lv' st S) : WM X G nL n1 n2 Q pc lv (Value.int x :: st) S := by
  intro H locs ls hl hr hs
  exact lv_istore_n C.hx C.hb hd hi hl hn hl' (fun ls' hl' => k H locs ls' hl' hr hs)
theorem m_istore (C : Cok X G own cc nL ret rm) {i : Nat} {x : Int32} (hd : decode cc pc = .ok (.istore i, 2)) (hn : i < nL) (hl' : (i, Value.int x) :: lv.filter (fun q => !(q.1 == i) && !(q.1 + 1 == i && q.2.category == 2)) = lv') (k : WM X G nL n1 n2 Q (pc + 2) lv' st S) : WM X G nL n1 n2 Q pc lv (Value.int x :: st) S := by
  intro H locs ls hl hr hs
  exact lv_istore C.hx C.hb hd hl hn hl' (fun ls' hl' => k H locs ls' hl' hr hs)
theorem m_lstore_n (C : Cok X G own cc nL ret rm) {q : Fin 4} {i : Nat} {x : Int64} (hd : decode cc pc = .ok (.lstore_n q, 1)) (hi : (q : Nat) = i) (hn : i + 1 < nL) (hl' : (i, Value.long x) :: lv.filter (fun q => !(q.1 == i) && (!(q.1 == i + 1) && !(q.1 + 1 == i && q.2.category == 2))) = lv') (k : WM X G nL n1 n2 Q (pc + 1) lv' st S) : WM X G nL n1 n2 Q pc lv (Value.long x :: st) S := by
  intro H locs ls hl hr hs
  exact lv_lstore_n C.hx C.hb hd hi hl hn hl' (fun ls' hl' => k H locs ls' hl' hr hs)
theorem m_lstore (C : Cok X G own cc nL ret rm) {i : Nat} {x : Int64} (hd : decode cc pc = .ok (.lstore i, 2)) (hn : i + 1 < nL) (hl' : (i, Value.long x) :: lv.filter (fun q => !(q.1 == i) && (!(q.1 == i + 1) && !(q.1 + 1 == i && q.2.category == 2))) = lv') (k : WM X G nL n1 n2 Q (pc + 2) lv' st S) : WM X G nL n1 n2 Q pc lv (Value.long x :: st) S := by
  intro H locs ls hl hr hs
  exact lv_lstore C.hx C.hb hd hl hn hl' (fun ls' hl' => k H locs ls' hl' hr hs)
theorem m_astore_n (C : Cok X G own cc nL ret rm) {q : Fin 4} {i : Nat} {x : Nat} (hd : decode cc pc = .ok (.astore_n q, 1)) (hi : (q : Nat) = i) (hn : i < nL) (hl' : (i, Value.ref x) :: lv.filter (fun q => !(q.1 == i) && !(q.1 + 1 == i && q.2.category == 2)) = lv') (k : WM X G nL n1 n2 Q (pc + 1) lv' st S) : WM X G nL n1 n2 Q pc lv (Value.ref x :: st) S := by
  intro H locs ls hl hr hs
  exact lv_astore_n C.hx C.hb hd hi hl hn hl' (fun ls' hl' => k H locs ls' hl' hr hs)
theorem m_astore (C : Cok X G own cc nL ret rm) {i : Nat} {x : Nat} (hd : decode cc pc = .ok (.astore i, 2)) (hn : i < nL) (hl' : (i, Value.ref x) :: lv.filter (fun q => !(q.1 == i) && !(q.1 + 1 == i && q.2.category == 2)) = lv') (k : WM X G nL n1 n2 Q (pc + 2) lv' st S) : WM X G nL n1 n2 Q pc lv (Value.ref x :: st) S := by
  intro H locs ls hl hr hs
  exact lv_astore C.hx C.hb hd hl hn hl' (fun ls' hl' => k H locs ls' hl' hr hs)
theorem m_astore_nO (C : Cok X G own cc nL ret rm) {q : Fin 4} {i B : Nat} {x : Option Nat} (hd : decode cc pc = .ok (.astore_n q, 1)) (hi : (q : Nat) = i) (hn : i < nL) (hl' : ∀ v, v = rfB B x → (i, v) :: lv.filter (fun q => !(q.1 == i) && !(q.1 + 1 == i && q.2.category == 2)) = (i, v) :: lv')  (k : WM X G nL n1 n2 Q (pc + 1) ((i, rfB B x) :: lv') st S) : WM X G nL n1 n2 Q pc lv (rfB B x :: st) S := by
  intro H locs ls hl hr hs
  exact (by
    cases x with
    | none => exact lv_astore_nN C.hx C.hb hd hi hl hn (hl' _ rfl) (fun ls' hl' => k H locs ls' hl' hr hs)
    | some x => exact lv_astore_n C.hx C.hb hd hi hl hn (hl' _ rfl) (fun ls' hl' => k H locs ls' hl' hr hs))
theorem m_astoreO (C : Cok X G own cc nL ret rm) {i B : Nat} {x : Option Nat} (hd : decode cc pc = .ok (.astore i, 2)) (hn : i < nL) (hl' : ∀ v, v = rfB B x → (i, v) :: lv.filter (fun q => !(q.1 == i) && !(q.1 + 1 == i && q.2.category == 2)) = (i, v) :: lv')  (k : WM X G nL n1 n2 Q (pc + 2) ((i, rfB B x) :: lv') st S) : WM X G nL n1 n2 Q pc lv (rfB B x :: st) S := by
  intro H locs ls hl hr hs
  exact (by
    cases x with
    | none => exact lv_astoreN C.hx C.hb hd hl hn (hl' _ rfl) (fun ls' hl' => k H locs ls' hl' hr hs)
    | some x => exact lv_astore C.hx C.hb hd hl hn (hl' _ rfl) (fun ls' hl' => k H locs ls' hl' hr hs))
theorem m_iinc (C : Cok X G own cc nL ret rm) {i : Nat} {n : Int} {x w : Int32} (hd : decode cc pc = .ok (.iinc i n, 3)) (hv : Int32.ofInt n = w) (j : Nat) (hj : lv[j]? = some (i, .int x)) (hn : i < nL) {K : Int32 → Option β} (h : lt_ (x + w) K = some o) (k : ∀ v : Int32, K v = some o → ∃ lv', (i, Value.int v) :: lv.filter (fun q => !(q.1 == i) && !(q.1 + 1 == i && q.2.category == 2)) = lv' ∧ WM X G nL n1 n2 Q (pc + 3) lv' st S) : WM X G nL n1 n2 Q pc lv st S := by
  intro H locs ls hl hr hs
  obtain ⟨lv', hl', k⟩ := k _ h
  exact lv_iinc C.hx C.hb hd hl hj (by rw [hv]) hn hl' (fun ls' hl' => k H locs ls' hl' hr hs)
theorem m_iadd (C : Cok X G own cc nL ret rm) {x : Int32} {y : Int32} (hd : decode cc pc = .ok (.iadd, 1)) {K : Int32 → Option β} (h : lt_ (x + y) K = some o) (k : ∀ v, K v = some o → WM X G nL n1 n2 Q (pc + 1) lv (.int v :: st) S) : WM X G nL n1 n2 Q pc lv (.int y :: .int x :: st) S := by
  intro H locs ls hl hr hs
  exact lv_iadd C.hx C.hb hd (k _ h H locs ls hl hr hs)
theorem m_isub (C : Cok X G own cc nL ret rm) {x : Int32} {y : Int32} (hd : decode cc pc = .ok (.isub, 1)) {K : Int32 → Option β} (h : lt_ (x - y) K = some o) (k : ∀ v, K v = some o → WM X G nL n1 n2 Q (pc + 1) lv (.int v :: st) S) : WM X G nL n1 n2 Q pc lv (.int y :: .int x :: st) S := by
  intro H locs ls hl hr hs
  exact lv_isub C.hx C.hb hd (k _ h H locs ls hl hr hs)
theorem m_imul (C : Cok X G own cc nL ret rm) {x : Int32} {y : Int32} (hd : decode cc pc = .ok (.imul, 1)) {K : Int32 → Option β} (h : lt_ (x * y) K = some o) (k : ∀ v, K v = some o → WM X G nL n1 n2 Q (pc + 1) lv (.int v :: st) S) : WM X G nL n1 n2 Q pc lv (.int y :: .int x :: st) S := by
  intro H locs ls hl hr hs
  exact lv_imul C.hx C.hb hd (k _ h H locs ls hl hr hs)
theorem m_iand (C : Cok X G own cc nL ret rm) {x : Int32} {y : Int32} (hd : decode cc pc = .ok (.iand, 1)) {K : Int32 → Option β} (h : lt_ (x &&& y) K = some o) (k : ∀ v, K v = some o → WM X G nL n1 n2 Q (pc + 1) lv (.int v :: st) S) : WM X G nL n1 n2 Q pc lv (.int y :: .int x :: st) S := by
  intro H locs ls hl hr hs
  exact lv_iand C.hx C.hb hd (k _ h H locs ls hl hr hs)
theorem m_ior (C : Cok X G own cc nL ret rm) {x : Int32} {y : Int32} (hd : decode cc pc = .ok (.ior, 1)) {K : Int32 → Option β} (h : lt_ (x ||| y) K = some o) (k : ∀ v, K v = some o → WM X G nL n1 n2 Q (pc + 1) lv (.int v :: st) S) : WM X G nL n1 n2 Q pc lv (.int y :: .int x :: st) S := by
  intro H locs ls hl hr hs
  exact lv_ior C.hx C.hb hd (k _ h H locs ls hl hr hs)
theorem m_ishl (C : Cok X G own cc nL ret rm) {x : Int32} {y : Int32} (hd : decode cc pc = .ok (.ishl, 1)) {K : Int32 → Option β} (h : lt_ (x <<< (y &&& 31)) K = some o) (k : ∀ v, K v = some o → WM X G nL n1 n2 Q (pc + 1) lv (.int v :: st) S) : WM X G nL n1 n2 Q pc lv (.int y :: .int x :: st) S := by
  intro H locs ls hl hr hs
  exact lv_ishl C.hx C.hb hd (k _ h H locs ls hl hr hs)
theorem m_ishr (C : Cok X G own cc nL ret rm) {x : Int32} {y : Int32} (hd : decode cc pc = .ok (.ishr, 1)) {K : Int32 → Option β} (h : lt_ (x >>> (y &&& 31)) K = some o) (k : ∀ v, K v = some o → WM X G nL n1 n2 Q (pc + 1) lv (.int v :: st) S) : WM X G nL n1 n2 Q pc lv (.int y :: .int x :: st) S := by
  intro H locs ls hl hr hs
  exact lv_ishr C.hx C.hb hd (k _ h H locs ls hl hr hs)
theorem m_iushr (C : Cok X G own cc nL ret rm) {x : Int32} {y : Int32} (hd : decode cc pc = .ok (.iushr, 1)) {K : Int32 → Option β} (h : lt_ ((x.toUInt32 >>> (y.toUInt32 &&& Int32.toUInt32 31)).toInt32) K = some o) (k : ∀ v, K v = some o → WM X G nL n1 n2 Q (pc + 1) lv (.int v :: st) S) : WM X G nL n1 n2 Q pc lv (.int y :: .int x :: st) S := by
  intro H locs ls hl hr hs
  exact lv_iushr C.hx C.hb hd rfl (k _ h H locs ls hl hr hs)
theorem m_land (C : Cok X G own cc nL ret rm) {x : Int64} {y : Int64} (hd : decode cc pc = .ok (.land, 1)) {K : Int64 → Option β} (h : lt_ (x &&& y) K = some o) (k : ∀ v, K v = some o → WM X G nL n1 n2 Q (pc + 1) lv (.long v :: st) S) : WM X G nL n1 n2 Q pc lv (.long y :: .long x :: st) S := by
  intro H locs ls hl hr hs
  exact lv_land C.hx C.hb hd (k _ h H locs ls hl hr hs)
theorem m_lor (C : Cok X G own cc nL ret rm) {x : Int64} {y : Int64} (hd : decode cc pc = .ok (.lor, 1)) {K : Int64 → Option β} (h : lt_ (x ||| y) K = some o) (k : ∀ v, K v = some o → WM X G nL n1 n2 Q (pc + 1) lv (.long v :: st) S) : WM X G nL n1 n2 Q pc lv (.long y :: .long x :: st) S := by
  intro H locs ls hl hr hs
  exact lv_lor C.hx C.hb hd (k _ h H locs ls hl hr hs)
theorem m_ladd (C : Cok X G own cc nL ret rm) {x : Int64} {y : Int64} (hd : decode cc pc = .ok (.ladd, 1)) {K : Int64 → Option β} (h : lt_ (x + y) K = some o) (k : ∀ v, K v = some o → WM X G nL n1 n2 Q (pc + 1) lv (.long v :: st) S) : WM X G nL n1 n2 Q pc lv (.long y :: .long x :: st) S := by
  intro H locs ls hl hr hs
  exact lv_ladd C.hx C.hb hd (k _ h H locs ls hl hr hs)
theorem m_lsub (C : Cok X G own cc nL ret rm) {x : Int64} {y : Int64} (hd : decode cc pc = .ok (.lsub, 1)) {K : Int64 → Option β} (h : lt_ (x - y) K = some o) (k : ∀ v, K v = some o → WM X G nL n1 n2 Q (pc + 1) lv (.long v :: st) S) : WM X G nL n1 n2 Q pc lv (.long y :: .long x :: st) S := by
  intro H locs ls hl hr hs
  exact lv_lsub C.hx C.hb hd (k _ h H locs ls hl hr hs)
theorem m_lshl (C : Cok X G own cc nL ret rm) {x : Int64} {y : Int32} (hd : decode cc pc = .ok (.lshl, 1)) {K : Int64 → Option β} (h : lt_ (x <<< (y.toInt64 &&& 63)) K = some o) (k : ∀ v, K v = some o → WM X G nL n1 n2 Q (pc + 1) lv (.long v :: st) S) : WM X G nL n1 n2 Q pc lv (.int y :: .long x :: st) S := by
  intro H locs ls hl hr hs
  exact lv_lshl C.hx C.hb hd rfl (k _ h H locs ls hl hr hs)
theorem m_lshr (C : Cok X G own cc nL ret rm) {x : Int64} {y : Int32} (hd : decode cc pc = .ok (.lshr, 1)) {K : Int64 → Option β} (h : lt_ (x >>> (y.toInt64 &&& 63)) K = some o) (k : ∀ v, K v = some o → WM X G nL n1 n2 Q (pc + 1) lv (.long v :: st) S) : WM X G nL n1 n2 Q pc lv (.int y :: .long x :: st) S := by
  intro H locs ls hl hr hs
  exact lv_lshr C.hx C.hb hd rfl (k _ h H locs ls hl hr hs)
theorem m_lushr (C : Cok X G own cc nL ret rm) {x : Int64} {y : Int32} (hd : decode cc pc = .ok (.lushr, 1)) {K : Int64 → Option β} (h : lt_ ((x.toUInt64 >>> (y.toInt64.toUInt64 &&& Int64.toUInt64 63)).toInt64) K = some o) (k : ∀ v, K v = some o → WM X G nL n1 n2 Q (pc + 1) lv (.long v :: st) S) : WM X G nL n1 n2 Q pc lv (.int y :: .long x :: st) S := by
  intro H locs ls hl hr hs
  exact lv_lushr C.hx C.hb hd rfl (k _ h H locs ls hl hr hs)
theorem m_lcmp (C : Cok X G own cc nL ret rm) {x : Int64} {y : Int64} (hd : decode cc pc = .ok (.lcmp, 1)) {K : Int32 → Option β} (h : lt_ (lg_cmp x y) K = some o) (k : ∀ v, K v = some o → WM X G nL n1 n2 Q (pc + 1) lv (.int v :: st) S) : WM X G nL n1 n2 Q pc lv (.long y :: .long x :: st) S := by
  intro H locs ls hl hr hs
  exact W.lcmp C.hx C.hb hd (k _ h H locs ls hl hr hs)
theorem m_idiv (C : Cok X G own cc nL ret rm) {x y : Int32} (hd : decode cc pc = .ok (.idiv, 1)) {K : Int32 → Option β} (h : dv_ x y K = some o) (k : ∀ v, K v = some o → WM X G nL n1 n2 Q (pc + 1) lv (.int v :: st) S) : WM X G nL n1 n2 Q pc lv (.int y :: .int x :: st) S := by
  intro H locs ls hl hr hs
  unfold dv_ at h
  split at h
  · cases h
  · next hne => exact lv_idiv C.hx C.hb hd hne (k _ h H locs ls hl hr hs)
theorem m_irem (C : Cok X G own cc nL ret rm) {x y : Int32} (hd : decode cc pc = .ok (.irem, 1)) {K : Int32 → Option β} (h : rm_ x y K = some o) (k : ∀ v, K v = some o → WM X G nL n1 n2 Q (pc + 1) lv (.int v :: st) S) : WM X G nL n1 n2 Q pc lv (.int y :: .int x :: st) S := by
  intro H locs ls hl hr hs
  unfold rm_ at h
  split at h
  · cases h
  · next hne => exact lv_irem C.hx C.hb hd hne (k _ h H locs ls hl hr hs)
theorem m_i2l (C : Cok X G own cc nL ret rm) {x : Int32} (hd : decode cc pc = .ok (.i2l, 1)) {K : Int64 → Option β} (h : lt_ (x.toInt64) K = some o) (k : ∀ v, K v = some o → WM X G nL n1 n2 Q (pc + 1) lv (.long v :: st) S) : WM X G nL n1 n2 Q pc lv (.int x :: st) S := by
  intro H locs ls hl hr hs
  exact lv_i2l C.hx C.hb hd rfl (k _ h H locs ls hl hr hs)
theorem m_l2i (C : Cok X G own cc nL ret rm) {x : Int64} (hd : decode cc pc = .ok (.l2i, 1)) {K : Int32 → Option β} (h : lt_ (x.toInt32) K = some o) (k : ∀ v, K v = some o → WM X G nL n1 n2 Q (pc + 1) lv (.int v :: st) S) : WM X G nL n1 n2 Q pc lv (.long x :: st) S := by
  intro H locs ls hl hr hs
  exact lv_l2i C.hx C.hb hd rfl (k _ h H locs ls hl hr hs)
theorem m_i2b (C : Cok X G own cc nL ret rm) {x : Int32} (hd : decode cc pc = .ok (.i2b, 1)) {K : Int32 → Option β} (h : lt_ (x.toInt8.toInt32) K = some o) (k : ∀ v, K v = some o → WM X G nL n1 n2 Q (pc + 1) lv (.int v :: st) S) : WM X G nL n1 n2 Q pc lv (.int x :: st) S := by
  intro H locs ls hl hr hs
  exact lv_i2b C.hx C.hb hd rfl (k _ h H locs ls hl hr hs)
theorem m_dup (C : Cok X G own cc nL ret rm) {va : Value} (hd : decode cc pc = .ok (.dup, 1)) (hva : va.category = 1) (k : WM X G nL n1 n2 Q (pc + 1) lv (va :: va :: st) S) : WM X G nL n1 n2 Q pc lv (va :: st) S := by
  intro H locs ls hl hr hs
  exact lv_dup C.hx C.hb hd hva (k H locs ls hl hr hs)
theorem m_pop (C : Cok X G own cc nL ret rm) {va : Value} (hd : decode cc pc = .ok (.pop, 1)) (hva : va.category = 1) (k : WM X G nL n1 n2 Q (pc + 1) lv st S) : WM X G nL n1 n2 Q pc lv (va :: st) S := by
  intro H locs ls hl hr hs
  exact lv_pop C.hx C.hb hd hva (k H locs ls hl hr hs)
theorem m_dup2 (C : Cok X G own cc nL ret rm) {va vb : Value} (hd : decode cc pc = .ok (.dup2, 1)) (hva : va.category = 1) (hvb : vb.category = 1) (k : WM X G nL n1 n2 Q (pc + 1) lv (va :: vb :: va :: vb :: st) S) : WM X G nL n1 n2 Q pc lv (va :: vb :: st) S := by
  intro H locs ls hl hr hs
  exact lv_dup2_11 C.hx C.hb hd hva hvb (k H locs ls hl hr hs)
theorem m_goto (C : Cok X G own cc nL ret rm) {off : Int} {tgt : Nat} (hd : decode cc pc = .ok (.goto off, 3)) (ht : (pc : Int) + off = (tgt : Int)) (k : WM X G nL n1 n2 Q tgt lv st S) : WM X G nL n1 n2 Q pc lv st S := by
  intro H locs ls hl hr hs
  exact lv_goto C.hx C.hb hd ht (k H locs ls hl hr hs)
theorem m_ifeq (C : Cok X G own cc nL ret rm) {x : Int32} {off : Int} {tgt : Nat} (hd : decode cc pc = .ok (.ifCond .eq off, 3)) (ht : (pc : Int) + off = (tgt : Int)) {A B : Option β} (h : (if x = 0 then A else B) = some o) (kj : A = some o → WM X G nL n1 n2 Q tgt lv st S) (kn : B = some o → WM X G nL n1 n2 Q (pc + 3) lv st S) : WM X G nL n1 n2 Q pc lv (.int x :: st) S := by
  intro H locs ls hl hr hs
  exact lv_if_eq C.hx C.hb hd ht (fun q => kj (by rw [if_pos q] at h; exact h) H locs ls hl hr hs) (fun q => kn (by rw [if_neg q] at h; exact h) H locs ls hl hr hs)
theorem m_icmpeq (C : Cok X G own cc nL ret rm) {x y : Int32} {off : Int} {tgt : Nat} (hd : decode cc pc = .ok (.if_icmp .eq off, 3)) (ht : (pc : Int) + off = (tgt : Int)) {A B : Option β} (h : (if x = y then A else B) = some o) (kj : A = some o → WM X G nL n1 n2 Q tgt lv st S) (kn : B = some o → WM X G nL n1 n2 Q (pc + 3) lv st S) : WM X G nL n1 n2 Q pc lv (.int y :: .int x :: st) S := by
  intro H locs ls hl hr hs
  exact lv_icmp_eq C.hx C.hb hd ht (fun q => kj (by rw [if_pos q] at h; exact h) H locs ls hl hr hs) (fun q => kn (by rw [if_neg q] at h; exact h) H locs ls hl hr hs)
theorem m_ifne (C : Cok X G own cc nL ret rm) {x : Int32} {off : Int} {tgt : Nat} (hd : decode cc pc = .ok (.ifCond .ne off, 3)) (ht : (pc : Int) + off = (tgt : Int)) {A B : Option β} (h : (if x = 0 then A else B) = some o) (kj : B = some o → WM X G nL n1 n2 Q tgt lv st S) (kn : A = some o → WM X G nL n1 n2 Q (pc + 3) lv st S) : WM X G nL n1 n2 Q pc lv (.int x :: st) S := by
  intro H locs ls hl hr hs
  exact lv_if_ne C.hx C.hb hd ht (fun q => kj (by rw [if_neg q] at h; exact h) H locs ls hl hr hs) (fun q => kn (by rw [if_pos q] at h; exact h) H locs ls hl hr hs)
theorem m_icmpne (C : Cok X G own cc nL ret rm) {x y : Int32} {off : Int} {tgt : Nat} (hd : decode cc pc = .ok (.if_icmp .ne off, 3)) (ht : (pc : Int) + off = (tgt : Int)) {A B : Option β} (h : (if x = y then A else B) = some o) (kj : B = some o → WM X G nL n1 n2 Q tgt lv st S) (kn : A = some o → WM X G nL n1 n2 Q (pc + 3) lv st S) : WM X G nL n1 n2 Q pc lv (.int y :: .int x :: st) S := by
  intro H locs ls hl hr hs
  exact lv_icmp_ne C.hx C.hb hd ht (fun q => kj (by rw [if_neg q] at h; exact h) H locs ls hl hr hs) (fun q => kn (by rw [if_pos q] at h; exact h) H locs ls hl hr hs)
theorem m_iflt (C : Cok X G own cc nL ret rm) {x : Int32} {off : Int} {tgt : Nat} (hd : decode cc pc = .ok (.ifCond .lt off, 3)) (ht : (pc : Int) + off = (tgt : Int)) {A B : Option β} (h : (if x < 0 then A else B) = some o) (kj : A = some o → WM X G nL n1 n2 Q tgt lv st S) (kn : B = some o → WM X G nL n1 n2 Q (pc + 3) lv st S) : WM X G nL n1 n2 Q pc lv (.int x :: st) S := by
  intro H locs ls hl hr hs
  exact lv_if_lt C.hx C.hb hd ht (fun q => kj (by rw [if_pos q] at h; exact h) H locs ls hl hr hs) (fun q => kn (by rw [if_neg q] at h; exact h) H locs ls hl hr hs)
theorem m_icmplt (C : Cok X G own cc nL ret rm) {x y : Int32} {off : Int} {tgt : Nat} (hd : decode cc pc = .ok (.if_icmp .lt off, 3)) (ht : (pc : Int) + off = (tgt : Int)) {A B : Option β} (h : (if x < y then A else B) = some o) (kj : A = some o → WM X G nL n1 n2 Q tgt lv st S) (kn : B = some o → WM X G nL n1 n2 Q (pc + 3) lv st S) : WM X G nL n1 n2 Q pc lv (.int y :: .int x :: st) S := by
  intro H locs ls hl hr hs
  exact lv_icmp_lt C.hx C.hb hd ht (fun q => kj (by rw [if_pos q] at h; exact h) H locs ls hl hr hs) (fun q => kn (by rw [if_neg q] at h; exact h) H locs ls hl hr hs)
theorem m_ifge (C : Cok X G own cc nL ret rm) {x : Int32} {off : Int} {tgt : Nat} (hd : decode cc pc = .ok (.ifCond .ge off, 3)) (ht : (pc : Int) + off = (tgt : Int)) {A B : Option β} (h : (if 0 ≤ x then A else B) = some o) (kj : A = some o → WM X G nL n1 n2 Q tgt lv st S) (kn : B = some o → WM X G nL n1 n2 Q (pc + 3) lv st S) : WM X G nL n1 n2 Q pc lv (.int x :: st) S := by
  intro H locs ls hl hr hs
  exact lv_if_ge C.hx C.hb hd ht (fun q => kj (by rw [if_pos q] at h; exact h) H locs ls hl hr hs) (fun q => kn (by rw [if_neg q] at h; exact h) H locs ls hl hr hs)
theorem m_icmpge (C : Cok X G own cc nL ret rm) {x y : Int32} {off : Int} {tgt : Nat} (hd : decode cc pc = .ok (.if_icmp .ge off, 3)) (ht : (pc : Int) + off = (tgt : Int)) {A B : Option β} (h : (if y ≤ x then A else B) = some o) (kj : A = some o → WM X G nL n1 n2 Q tgt lv st S) (kn : B = some o → WM X G nL n1 n2 Q (pc + 3) lv st S) : WM X G nL n1 n2 Q pc lv (.int y :: .int x :: st) S := by
  intro H locs ls hl hr hs
  exact lv_icmp_ge C.hx C.hb hd ht (fun q => kj (by rw [if_pos q] at h; exact h) H locs ls hl hr hs) (fun q => kn (by rw [if_neg q] at h; exact h) H locs ls hl hr hs)
theorem m_ifgt (C : Cok X G own cc nL ret rm) {x : Int32} {off : Int} {tgt : Nat} (hd : decode cc pc = .ok (.ifCond .gt off, 3)) (ht : (pc : Int) + off = (tgt : Int)) {A B : Option β} (h : (if 0 < x then A else B) = some o) (kj : A = some o → WM X G nL n1 n2 Q tgt lv st S) (kn : B = some o → WM X G nL n1 n2 Q (pc + 3) lv st S) : WM X G nL n1 n2 Q pc lv (.int x :: st) S := by
  intro H locs ls hl hr hs
  exact lv_if_gt C.hx C.hb hd ht (fun q => kj (by rw [if_pos q] at h; exact h) H locs ls hl hr hs) (fun q => kn (by rw [if_neg q] at h; exact h) H locs ls hl hr hs)
theorem m_icmpgt (C : Cok X G own cc nL ret rm) {x y : Int32} {off : Int} {tgt : Nat} (hd : decode cc pc = .ok (.if_icmp .gt off, 3)) (ht : (pc : Int) + off = (tgt : Int)) {A B : Option β} (h : (if y < x then A else B) = some o) (kj : A = some o → WM X G nL n1 n2 Q tgt lv st S) (kn : B = some o → WM X G nL n1 n2 Q (pc + 3) lv st S) : WM X G nL n1 n2 Q pc lv (.int y :: .int x :: st) S := by
  intro H locs ls hl hr hs
  exact lv_icmp_gt C.hx C.hb hd ht (fun q => kj (by rw [if_pos q] at h; exact h) H locs ls hl hr hs) (fun q => kn (by rw [if_neg q] at h; exact h) H locs ls hl hr hs)
theorem m_ifle (C : Cok X G own cc nL ret rm) {x : Int32} {off : Int} {tgt : Nat} (hd : decode cc pc = .ok (.ifCond .le off, 3)) (ht : (pc : Int) + off = (tgt : Int)) {A B : Option β} (h : (if x ≤ 0 then A else B) = some o) (kj : A = some o → WM X G nL n1 n2 Q tgt lv st S) (kn : B = some o → WM X G nL n1 n2 Q (pc + 3) lv st S) : WM X G nL n1 n2 Q pc lv (.int x :: st) S := by
  intro H locs ls hl hr hs
  exact lv_if_le C.hx C.hb hd ht (fun q => kj (by rw [if_pos q] at h; exact h) H locs ls hl hr hs) (fun q => kn (by rw [if_neg q] at h; exact h) H locs ls hl hr hs)
theorem m_icmple (C : Cok X G own cc nL ret rm) {x y : Int32} {off : Int} {tgt : Nat} (hd : decode cc pc = .ok (.if_icmp .le off, 3)) (ht : (pc : Int) + off = (tgt : Int)) {A B : Option β} (h : (if x ≤ y then A else B) = some o) (kj : A = some o → WM X G nL n1 n2 Q tgt lv st S) (kn : B = some o → WM X G nL n1 n2 Q (pc + 3) lv st S) : WM X G nL n1 n2 Q pc lv (.int y :: .int x :: st) S := by
  intro H locs ls hl hr hs
  exact lv_icmp_le C.hx C.hb hd ht (fun q => kj (by rw [if_pos q] at h; exact h) H locs ls hl hr hs) (fun q => kn (by rw [if_neg q] at h; exact h) H locs ls hl hr hs)
theorem m_ifnullR (C : Cok X G own cc nL ret rm) {x : Nat} {off : Int} (hd : decode cc pc = .ok (.ifnull off, 3)) (k : WM X G nL n1 n2 Q (pc + 3) lv st S) : WM X G nL n1 n2 Q pc lv (.ref x :: st) S := by
  intro H locs ls hl hr hs
  exact lv_ifnull C.hx C.hb hd (k H locs ls hl hr hs)
theorem m_ifnonnullR (C : Cok X G own cc nL ret rm) {x : Nat} {off : Int} {tgt : Nat} (hd : decode cc pc = .ok (.ifnonnull off, 3)) (ht : (pc : Int) + off = (tgt : Int)) (k : WM X G nL n1 n2 Q tgt lv st S) : WM X G nL n1 n2 Q pc lv (.ref x :: st) S := by
  intro H locs ls hl hr hs
  exact lv_ifnonnull C.hx C.hb hd ht (k H locs ls hl hr hs)
theorem m_ifnullO (C : Cok X G own cc nL ret rm) {x : Option Nat} {B : Nat} {off : Int} {tgt : Nat} (hd : decode cc pc = .ok (.ifnull off, 3)) (ht : (pc : Int) + off = (tgt : Int)) {A : Option β} {K : Nat → Option β} (h : io_ x A K = some o) (kj : x = none → A = some o → WM X G nL n1 n2 Q tgt lv st S) (kn : ∀ a, x = some a → K a = some o → WM X G nL n1 n2 Q (pc + 3) lv st S) : WM X G nL n1 n2 Q pc lv (rfB B x :: st) S := by
  intro H locs ls hl hr hs
  cases x with
  | none => exact lv_ifnullN C.hx C.hb hd ht (kj rfl h H locs ls hl hr hs)
  | some a => exact lv_ifnull C.hx C.hb hd (kn a rfl h H locs ls hl hr hs)
theorem m_ifnonnullO (C : Cok X G own cc nL ret rm) {x : Option Nat} {B : Nat} {off : Int} {tgt : Nat} (hd : decode cc pc = .ok (.ifnonnull off, 3)) (ht : (pc : Int) + off = (tgt : Int)) {A : Option β} {K : Nat → Option β} (h : io_ x A K = some o) (kn : x = none → A = some o → WM X G nL n1 n2 Q (pc + 3) lv st S) (kj : ∀ a, x = some a → K a = some o → WM X G nL n1 n2 Q tgt lv st S) : WM X G nL n1 n2 Q pc lv (rfB B x :: st) S := by
  intro H locs ls hl hr hs
  cases x with
  | none => exact lv_ifnonnullN C.hx C.hb hd (kn rfl h H locs ls hl hr hs)
  | some a => exact lv_ifnonnull C.hx C.hb hd ht (kj a rfl h H locs ls hl hr hs)
end ROWS
