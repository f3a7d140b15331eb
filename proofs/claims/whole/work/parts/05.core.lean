/-! THE PICTURE: one flat memory for the class and the reference together. A state: how many cells there are, the ints, the longs, the references, each by cell and slot; cells are counted from the first that the law makes. What kind a cell is, is fixed ahead (the makers run always alike). -/
abbrev St : Type := Nat × (Nat → Nat → Int32) × (Nat → Nat → Int64) × (Nat → Nat → Option Nat)
/-- a page's cells, a ring's, a text's, an image's -/
def KPage : List Nat := [3, 11, 11, 11, 11, 11, 11, 11, 13]
def KRing : List Nat := [4, 15, 11, 11, 11, 11, 1, 11] ++ (KPage ++ (KPage ++ (KPage ++ (KPage ++ (KPage ++ (KPage ++ KPage))))))
def KImage : List Nat := 0 :: (KRing ++ [6, 11])
def KD : List Nat := 8 :: (KRing ++ (KRing ++ ([6, 11, 2, 11, 11, 11, 5, 14] ++ (KImage ++ (KImage ++ (KImage ++ [9, 11, 10, 13, 11, 12, 11, 11]))))))
def LPage : List Nat := [0, 32, 16, 16, 16, 16, 16, 16, 16]
def LRing : List Nat := [0, 6, 4, 4, 4, 34, 0, 8] ++ (LPage ++ (LPage ++ (LPage ++ (LPage ++ (LPage ++ (LPage ++ LPage))))))
def LImage : List Nat := 0 :: (LRing ++ [0, 400])
def LD : List Nat := 0 :: (LRing ++ (LRing ++ ([0, 400, 0, 80, 80, 80, 0, 3] ++ (LImage ++ (LImage ++ (LImage ++ [0, 4940, 2000, 3, 3, 100, 200, 7]))))))
/-- the kind of a cell: 0 to 9 an object of that class, 10 to 15 a row of bytes, ints, longs, booleans, images, pages -/
def kd (a : Nat) : Nat := KD.getD a 99
/-- how long a row is -/
def ln (a : Nat) : Nat := LD.getD a 0
/-- where the first cell lies, the classes' and slots' numbers, the rows' classes -/
abbrev Gx : Type := Nat × va_G × (Nat → ClassId)
def vCl : List vw_C := (List.range 10).map (fun c => (CN c, CT c, nF c))
def rfB (B : Nat) (r : Option Nat) : Value := va_rf (r.map (fun b => B + b))
def slV (G : Gx) (S : St) (a k : Nat) : Value := if sk (kd a) k = 2 then rfB G.1 (S.2.2.2 a k) else if sk (kd a) k = 1 then .long (S.2.2.1 a k) else .int (S.2.1 a k)
def wE (G : Gx) (S : St) (a : Nat) : va_E :=
  if kd a < 10 then .inr (kd a, (List.range (nF (kd a))).map (slV G S a))
  else if kd a = 12 then .inl (G.2.2 (kd a), (ln a, .inr (.inl (S.2.2.1 a))))
  else if kd a = 14 ∨ kd a = 15 then .inl (G.2.2 (kd a), (ln a, .inr (.inr (.inr (.inr (fun k => (S.2.2.2 a k).map (fun b => G.1 + b)))))))
  else .inl (G.2.2 (kd a), (ln a, .inl (S.2.1 a)))
def aTy : Nat → FieldType := fun k => match k with
  | 10 => .byte
  | 11 => .int
  | 12 => .long
  | 13 => .boolean
  | 14 => .object "TraceRing$Image"
  | _ => .object "TraceRing$Page"
def tyL (G : Gx) : List (ClassId × FieldType) := (List.range 6).map (fun k => (G.2.2 (10 + k), aTy (10 + k)))
def wA (G : Gx) : Nat → Prop := fun q => G.1 ≤ q
def wRel (G : Gx) (S : St) (H : Heap) : Prop := H.size = G.1 + S.1 ∧ ∀ a, a < S.1 → va_at G.2.1 vCl (G.1 + a, wE G S a) H
def wK (G : Gx) (U : State) : Prop := va_K G.2.1 vCl (tyL G) U
def wN (U : State) : Prop := (∀ w ∈ lw_tbl, isNest w = true → va_Nw w U) ∧ va_AO "TraceRing$Page" U ∧ va_AO "TraceRing$Image" U
theorem wN.moved {s U : State} (hW : s.WarmedH U.vm) (h : wN s) : wN U := by
  refine ⟨fun w hw hn => ?_, va_AO.moved hW.alike h.2.1, va_AO.moved hW.alike h.2.2⟩
  have h1 := h.1 w hw hn
  cases w <;> first | exact va_Nw.warmM hW h1 | (simp [isNest] at hn)
theorem wN.same {s U : State} (hW : s.vm = U.vm) (h : wN s) : wN U := by
  have ha : s.vm.Alike U.vm := by rw [hW]; exact Vm.Alike.refl _
  refine ⟨fun w hw hn => ?_, va_AO.moved ha h.2.1, va_AO.moved ha h.2.2⟩
  have h1 := h.1 w hw hn
  cases w <;> first | exact va_Nw.same rfl hW h1 | (simp [isNest] at hn)
/-! the verbs' texts, and what the machine's own text methods read: all of it lies outside the picture -/
def strT (i : Nat) : String := (["pages", "cells", "over", "refuse", "tick", "take", "put", "end", "drop", "swap", "force", "read", "mask", "resize"] : List String).getD i ""
def strL : List Nat := [5, 5, 4, 6, 4, 4, 3, 3, 4, 4, 5, 4, 4, 6]
def strB : List (List Int32) := [[112, 97, 103, 101, 115], [99, 101, 108, 108, 115], [111, 118, 101, 114], [114, 101, 102, 117, 115, 101], [116, 105, 99, 107], [116, 97, 107, 101], [112, 117, 116], [101, 110, 100], [100, 114, 111, 112], [115, 119, 97, 112], [102, 111, 114, 99, 101], [114, 101, 97, 100], [109, 97, 115, 107], [114, 101, 115, 105, 122, 101]]
def wStrE (G : Gx) (adK adV : Nat → Nat) (U : State) : Prop :=
  (∀ i, i < 14 → vk_R RX2 (77 + 2 * i) (strT i) (adK i) U) ∧ vk_S 14 strL strB adK adV (wA G) U U.heap ∧ va_Z "java/lang/String" "COMPACT_STRINGS" "Z" (.int 1) (wA G) U U.heap ∧ va_Zq "jdk/internal/util/Preconditions" "SIOOBE_FORMATTER" "Ljava/util/function/BiFunction;" (wA G) U U.heap
def wStr (G : Gx) (U : State) : Prop := ∃ adK adV, wStrE G adK adV U
theorem wStrE.same {G : Gx} {adK adV : Nat → Nat} {s U : State} (hv : U.vm = s.vm) (hh : U.heap = s.heap) (h : wStrE G adK adV s) : wStrE G adK adV U := by
  obtain ⟨h1, h2, h3, h4⟩ := h
  have ha : s.vm.Alike U.vm := by rw [hv]; exact Vm.Alike.refl _
  refine ⟨fun i hi => vk_R.same hv (h1 i hi), ?_, ?_, ?_⟩
  · rw [hh]; exact h2.moved ha
  · rw [hh]; exact h3.moved ha
  · rw [hh]; exact h4.moved ha
theorem wStrE.moved {G : Gx} {adK adV : Nat → Nat} {s U : State} (hW : s.WarmedH U.vm) (hk : ∀ a : Nat, a < s.heap.size → ¬ wA G a → U.heap[a]? = s.heap[a]?) (h : wStrE G adK adV s) : wStrE G adK adV U := by
  obtain ⟨h1, h2, h3, h4⟩ := h
  exact ⟨fun i hi => vk_R.warm hW (h1 i hi), (h2.kept hk).moved hW.alike, (h3.kept hk).moved hW.alike, (h4.kept hk).moved hW.alike⟩
def wPre (G : Gx) (S : St) (U : State) : Prop := wRel G S U.heap ∧ wK G U ∧ wN U ∧ wStr G U
theorem wPre.blind {G : Gx} {S : St} {av : List Value} : FrameBlind (va_Pc av (wPre G S)) := by
  intro a U g mk q
  obtain ⟨q0, q1, q2, q3, adK, adV, q4⟩ := q
  exact ⟨q0, q1, va_K.moved (u := U) (U := U.calling g mk a) (Vm.Alike.refl U.vm) q2, wN.same (s := U) (U := U.calling g mk a) rfl q3, adK, adV, wStrE.same (s := U) (U := U.calling g mk a) rfl rfl q4⟩
/-! what a method answers -/
def qI (G : Gx) (o : Int32 × St) : Array Value → State → Outcome → State → Prop := va_Qi (fun r (_ : Unit) => r = o.1) (fun _ t => wRel G o.2 t.heap) (wA G)
def qV (G : Gx) (o : St) : Array Value → State → Outcome → State → Prop := va_Qv (fun (_ : Unit) => True) (fun _ t => wRel G o t.heap) (wA G)
def qR (G : Gx) (o : Option Nat × St) : Array Value → State → Outcome → State → Prop := va_Qq (fun r (_ : Unit) => r = o.1.map (fun b => G.1 + b)) (fun _ t => wRel G o.2 t.heap) (wA G)
/-! THE WALK: where a method stands -/
abbrev Cx : Type := Program × Launch × Env × Room × State × MethodId × Array Value × List Frame × Method × Code
abbrev xp (X : Cx) : Program := X.1
abbrev xl (X : Cx) : Launch := X.2.1
abbrev xe (X : Cx) : Env := X.2.2.1
abbrev xR (X : Cx) : Room := X.2.2.2.1
abbrev xs (X : Cx) : State := X.2.2.2.2.1
abbrev xm (X : Cx) : MethodId := X.2.2.2.2.2.1
abbrev xa (X : Cx) : Array Value := X.2.2.2.2.2.2.1
abbrev xb (X : Cx) : List Frame := X.2.2.2.2.2.2.2.1
abbrev xM (X : Cx) : Method := X.2.2.2.2.2.2.2.2.1
abbrev xc (X : Cx) : Code := X.2.2.2.2.2.2.2.2.2
def WM (X : Cx) (G : Gx) (nL n1 n2 : Nat) (Q : State → Prop) (pc : Nat) (lv : List (Nat × Value)) (st : List Value) (S : St) : Prop :=
  ∀ (H : Heap) (locs : List Loc) (ls : Array Slot), lv_has ls nL lv → wRel G S H → va_S (wA G) (xs X).heap H locs →
    W (xp X) (xl X) (xe X) (xR X) (xs X) (xm X) (xa X) (xb X) (xM X) (xc X) H locs n1 n2 Q (F0 (xm X) pc ls st)
/-- what stays fixed in a walk -/
def Cok (X : Cx) (G : Gx) (own : String) (cc : ByteArray) (nL : Nat) (ret : Option FieldType) (rm : Room) : Prop :=
  (xp X).tables.exec = Jvm.exec ∧ (xc X).code = cc ∧ (xc X).maxLocals = nL ∧ (xs X).vm.findClass own = some (xm X).cls ∧ (∀ w ∈ wAll, w.before (xa X) (xs X) = true) ∧ wK G (xs X) ∧ wN (xs X) ∧ (xM X).sig.returnType = ret ∧ (xM X).locks = false ∧ xR X = rm ∧ (∀ q, (xs X).heap.size ≤ q → wA G q) ∧ wStr G (xs X)
section COK
variable {X : Cx} {G : Gx} {own : String} {cc : ByteArray} {nL : Nat} {ret : Option FieldType} {rm : Room}
theorem Cok.hx (C : Cok X G own cc nL ret rm) : (xp X).tables.exec = Jvm.exec := C.1
theorem Cok.hb (C : Cok X G own cc nL ret rm) : (xc X).code = cc := C.2.1
theorem Cok.hml (C : Cok X G own cc nL ret rm) : (xc X).maxLocals = nL := C.2.2.1
theorem Cok.hown (C : Cok X G own cc nL ret rm) : (xs X).vm.findClass own = some (xm X).cls := C.2.2.2.1
theorem Cok.hts (C : Cok X G own cc nL ret rm) : ∀ w ∈ wAll, w.before (xa X) (xs X) = true := C.2.2.2.2.1
theorem Cok.hK (C : Cok X G own cc nL ret rm) : wK G (xs X) := C.2.2.2.2.2.1
theorem Cok.hN (C : Cok X G own cc nL ret rm) : wN (xs X) := C.2.2.2.2.2.2.1
theorem Cok.hret (C : Cok X G own cc nL ret rm) : (xM X).sig.returnType = ret := C.2.2.2.2.2.2.2.1
theorem Cok.hlk (C : Cok X G own cc nL ret rm) : (xM X).locks = false := C.2.2.2.2.2.2.2.2.1
theorem Cok.hR (C : Cok X G own cc nL ret rm) : xR X = rm := C.2.2.2.2.2.2.2.2.2.1
theorem Cok.hA (C : Cok X G own cc nL ret rm) : ∀ q, (xs X).heap.size ≤ q → wA G q := C.2.2.2.2.2.2.2.2.2.2.1
theorem Cok.hS (C : Cok X G own cc nL ret rm) : wStr G (xs X) := C.2.2.2.2.2.2.2.2.2.2.2
end COK
/-- the end that a walk comes to -/
def wQ (X : Cx) (G : Gx) (Qc : Array Value → State → Outcome → State → Prop) (n1 n2 : Nat) : State → Prop := MQ (xb X) Qc (xa X) (xs X) n1 n2 (wA G)
/-- a method's contract, by its walk -/
theorem m_start {l : Launch} {G : Gx} {y : MethodName} {cc : ByteArray} {maxL : Nat} {ret : Option FieldType} {rm : Room} {Qc : Array Value → State → Outcome → State → Prop} {mc ms : Nat} {av : List Value} {S : St}
    (hy : plainName y.cls = true) (hlen : (lg_sl av).length ≤ maxL)
    (body : ∀ X : Cx, Cok X G y.cls cc maxL ret rm → WM X G maxL 0 0 (wQ X G Qc mc ms) 0 (lv_args 0 av) [] S) :
    Met l y (Cond.code y cc maxL ret :: wAll) rm (va_Pc av (wPre G S)) Qc mc ms (wA G) := by
  refine Met.ofW (cc := cc) (maxL := maxL) (ret := ret) hy rfl ?_
  intro p e s m args below meth c s₁ B hml hv
  obtain ⟨rfl, hR, hK, hN, hS⟩ := hv
  have hts := atoms_spec (ws := Cond.code y cc maxL ret :: wAll) B.pre
  rw [lg_entry_eq]
  exact body (p, l, e, rm, s, m, av.toArray, below, meth, c) ⟨B.exec, B.bytes, hml, findClass_of_methodNamed B.named, fun w hw => hts w (List.mem_cons_of_mem _ hw), hK, hN, B.returns, B.notSynchronized, rfl, fun q h => by
    have h1 : s.heap.size = G.1 + S.1 := hR.1
    have h2 : s.heap.size ≤ q := h
    show G.1 ≤ q
    omega, hS⟩ s.heap [] _ (lv_entry av hlen) hR va_S.rf
