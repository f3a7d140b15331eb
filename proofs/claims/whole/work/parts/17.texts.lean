/-! THE METHODS OVER TEXTS: a text is its number among the fourteen; the machine's own methods read its bytes -/
def wPreE (G : Gx) (adK adV : Nat → Nat) (S : St) (U : State) : Prop := wRel G S U.heap ∧ wK G U ∧ wN U ∧ wStrE G adK adV U
theorem wPreE.blind {G : Gx} {adK adV : Nat → Nat} {S : St} {av : List Value} : FrameBlind (va_Pc av (wPreE G adK adV S)) := by
  intro a U g mk q
  obtain ⟨q0, q1, q2, q3, q4⟩ := q
  exact ⟨q0, q1, va_K.moved (u := U) (U := U.calling g mk a) (Vm.Alike.refl U.vm) q2, wN.same (s := U) (U := U.calling g mk a) rfl q3, wStrE.same (s := U) (U := U.calling g mk a) rfl rfl q4⟩
theorem m_startE {l : Launch} {G : Gx} {adK adV : Nat → Nat} {y : MethodName} {cc : ByteArray} {maxL : Nat} {ret : Option FieldType} {rm : Room} {Qc : Array Value → State → Outcome → State → Prop} {mc ms : Nat} {av : List Value} {S : St}
    (hy : plainName y.cls = true) (hlen : (lg_sl av).length ≤ maxL)
    (body : ∀ X : Cx, Cok X G y.cls cc maxL ret rm → wStrE G adK adV (xs X) → WM X G maxL 0 0 (wQ X G Qc mc ms) 0 (lv_args 0 av) [] S) :
    Met l y (Cond.code y cc maxL ret :: wAll) rm (va_Pc av (wPreE G adK adV S)) Qc mc ms (wA G) := by
  refine Met.ofW (cc := cc) (maxL := maxL) (ret := ret) hy rfl ?_
  intro p e s m args below meth c s₁ B hml hv
  obtain ⟨rfl, hR, hK, hN, hS⟩ := hv
  have hts := atoms_spec (ws := Cond.code y cc maxL ret :: wAll) B.pre
  rw [lg_entry_eq]
  exact body (p, l, e, rm, s, m, av.toArray, below, meth, c) ⟨B.exec, B.bytes, hml, findClass_of_methodNamed B.named, fun w hw => hts w (List.mem_cons_of_mem _ hw), hK, hN, B.returns, B.notSynchronized, rfl, fun q h => by
    have h1 : s.heap.size = G.1 + S.1 := hR.1
    have h2 : s.heap.size ≤ q := h
    show G.1 ≤ q
    omega, adK, adV, hS⟩ hS s.heap [] _ (lv_entry av hlen) hR va_S.rf
section TEXTS
variable {X : Cx} {G : Gx} {adK adV : Nat → Nat} {own : String} {cc : ByteArray} {nL n1 n2 : Nat} {ret : Option FieldType} {rm : Room} {Q : State → Prop} {pc : Nat} {lv lv' : List (Nat × Value)} {st st0 : List Value} {S : St} {β : Type} {o : β}
variable {y : MethodName} {bytes : ByteArray} {maxL n idx mc ms : Nat} {rt : Option FieldType} {rm' : Room} {As : List Value} {Qc : Array Value → State → Outcome → State → Prop} {Pc : State → Prop}
theorem pre_ofE {H : Heap} {locs : List Loc} {av : List Value} (C : Cok X G own cc nL ret rm) (hE : wStrE G adK adV (xs X)) (hr : wRel G S H) (hs : va_S (wA G) (xs X).heap H locs) : PreS (xs X) H (va_Pc av (wPreE G adK adV S)) av :=
  ⟨wPreE.blind, fun U hU hW => ⟨rfl, by rw [hU]; exact hr, va_K.moved hW.alike C.hK, wN.moved hW C.hN, hE.moved hW (by rw [hU]; exact hs.2.1)⟩⟩
/-- an object's method, the object of any kind -/
theorem m_runVg {b : Addr} {H : Heap} {locs : List Loc} {ls : Array Slot} (C : Cok X G own cc nL ret rm) (hd : decode cc pc = .ok (.invokevirtual idx, 3)) (wl : Cond.methodLink own idx y ∈ wAll) (wm : mOk y bytes maxL rt n) (hR : rm'.frames + 1 ≤ rm.frames ∧ 8 + (maxL + 11) + rm'.locals ≤ rm.locals) (hc' : rm'.cells = mc ∧ rm'.slots = ms)
    (hM : Met (xl X) y (Cond.code y bytes maxL rt :: wAll) rm' (va_Pc (.ref b :: As) Pc) Qc mc ms (wA G)) (pr : PreS (xs X) H (va_Pc (.ref b :: As) Pc) (.ref b :: As)) (rc : ∃ cellB : Cell, H[b]? = some cellB ∧ cellB.vm.isStatics = false ∧ (xs X).vm.findClass y.cls = some cellB.cls) (hst : st0 = As.reverse ++ .ref b :: st) (hn : As.length = n) (hcat : (st.map fun v => v.category).sum ≤ 8) (hf : n1 + mc ≤ rm.cells ∧ n2 + ms ≤ rm.slots)
    (hl : lv_has ls nL lv) : va_Run (xp X) (xl X) (xe X) (xR X) (xs X) (xm X) (xa X) (xb X) (xM X) (xc X) H locs n1 n2 mc ms (F0 (xm X) pc ls st0) st (Qc (Value.ref b :: As).toArray) (wA G) := by
  have cw : CallW (xR X) (xs X) (xa X) own y.cls idx y bytes maxL rt (Cond.code y bytes maxL rt :: wAll) rm' mc ms n := by
    refine cwV n C.hts (gi_all (fun w hw => ?_)) rfl hc'.1 hc'.2 ⟨rfl, wm.2.2.2.2⟩ (by rw [C.hR]; exact hR)
    unfold wsV at hw
    rcases List.mem_append.mp hw with h | h
    · simp only [List.mem_cons, List.not_mem_nil, or_false] at h
      rcases h with rfl | rfl | rfl | rfl
      · exact wl
      · exact wm.2.1
      · exact wm.2.2.1
      · exact wm.2.2.2.1
    · exact (code_all wm.1 w h).1
  exact va_runV (As := As) (rest := st) ⟨C.hx, C.hb, C.hml, C.hown, C.hts⟩ hM cw ⟨pr.1, rc, pr.2⟩ rfl hn hl.1 hst (lv_room hcat) hd (by rw [C.hR]; exact hf)
/-- a class's method, of any class -/
theorem m_runSg {H : Heap} {locs : List Loc} {ls : Array Slot} (C : Cok X G own cc nL ret rm) (hd : decode cc pc = .ok (.invokestatic idx, 3)) (wl : Cond.methodLink own idx y ∈ wAll) (wm : sOk y bytes maxL rt n) (hR : rm'.frames + 1 ≤ rm.frames ∧ 8 + (maxL + 11) + rm'.locals ≤ rm.locals) (hc' : rm'.cells = mc ∧ rm'.slots = ms)
    (hM : Met (xl X) y (Cond.code y bytes maxL rt :: wAll) rm' (va_Pc As Pc) Qc mc ms (wA G)) (pr : PreS (xs X) H (va_Pc As Pc) As) (hst : st0 = As.reverse ++ st) (hn : As.length = n) (hcat : (st.map fun v => v.category).sum ≤ 8) (hf : n1 + mc ≤ rm.cells ∧ n2 + ms ≤ rm.slots)
    (hl : lv_has ls nL lv) : va_Run (xp X) (xl X) (xe X) (xR X) (xs X) (xm X) (xa X) (xb X) (xM X) (xc X) H locs n1 n2 mc ms (F0 (xm X) pc ls st0) st (Qc As.toArray) (wA G) := by
  have cw : CallB (xR X) (xs X) (xa X) own idx y bytes maxL rt (Cond.code y bytes maxL rt :: wAll) rm' mc ms n :=
    callB_of n C.hts (code_all wm.1) rfl hc'.1 hc'.2 (C.hts _ wm.2.2.1) (C.hts _ wl) wm.2.2.2 (by rw [C.hR]; exact hR)
  exact va_runS (As := As) (rest := st) ⟨C.hx, C.hb, C.hml, C.hown, C.hts⟩ hM ⟨cw, C.hts _ wm.2.1⟩ pr rfl hn hl.1 hst (lv_room hcat) hd (by rw [C.hR]; exact hf)
theorem m_nret {r : Int32} {ty : FieldType} {o : Int32 × St} (C : Cok X G own cc nL ret rm) (hret : ret = some ty) (hn : narrow ty (.int r) = .int r) (hd : decode cc pc = .ok (.ireturn, 1)) (ho : o = (r, S)) : WM X G nL n1 n2 (wQ X G (qI G o) n1 n2) pc lv [.int r] S := by
  subst ho
  intro H locs ls hl hr hs
  exact W.zret C.hx C.hb (C.hret.trans hret) hn (fun t ht hW => ⟨⟨r, (), rfl, rfl, (show wRel G S t.heap from ht ▸ hr)⟩, hs.F ht⟩) hs.2.2 hd C.hlk
theorem m_gets {Cn nm d : String} {v : Value} (C : Cok X G own cc nL ret rm) (hd : decode cc pc = .ok (.getstatic idx, 3)) (hZ : va_Z Cn nm d v (wA G) (xs X) (xs X).heap) (wl : Cond.fieldLink own idx Cn nm d ∈ wAll) (k : WM X G nL n1 n2 Q (pc + 3) lv (v :: st) S) : WM X G nL n1 n2 Q pc lv st S := by
  intro H locs ls hl hr hs
  exact va_gets C.hx C.hb hZ hs C.hown (C.hts _ wl) (fun _ h => h) hd (k H locs ls hl hr hs)
theorem m_sget {nm d : String} {v : Value} {q : Nat} (C : Cok X G own cc nL ret rm) (hd : decode cc pc = .ok (.getfield idx, 3)) (hE : va_OF "java/lang/String" nm d v q (wA G) (xs X) (xs X).heap) (wl : Cond.fieldLink own idx "java/lang/String" nm d ∈ wAll) (k : WM X G nL n1 n2 Q (pc + 3) lv (v :: st) S) : WM X G nL n1 n2 Q pc lv (.ref q :: st) S := by
  intro H locs ls hl hr hs
  exact vk_getf C.hx C.hb hE hs C.hown (C.hts _ wl) (fun _ h => h) hd (k H locs ls hl hr hs)
theorem m_tlen {t N : Nat} {f : Nat → Value} {v : Int32} (C : Cok X G own cc nL ret rm) (hd : decode cc pc = .ok (.arraylength, 1)) (hT : va_T .byte t N f (wA G) (xs X) (xs X).heap) (hv : Int32.ofNat N = v) (k : WM X G nL n1 n2 Q (pc + 1) lv (.int v :: st) S) : WM X G nL n1 n2 Q pc lv (.ref t :: st) S := by
  intro H locs ls hl hr hs
  exact va_tlen C.hx C.hb hT hs hv hd (k H locs ls hl hr hs)
theorem m_tb {t N : Nat} {f : Nat → Value} {i : Int32} {v : Value} (C : Cok X G own cc nL ret rm) (hd : decode cc pc = .ok (.baload, 1)) (hT : va_T .byte t N f (wA G) (xs X) (xs X).heap) (hin : vp_in i N) (hv : f i.toNatClampNeg = v) (k : WM X G nL n1 n2 Q (pc + 1) lv (v :: st) S) : WM X G nL n1 n2 Q pc lv (.int i :: .ref t :: st) S := by
  intro H locs ls hl hr hs
  exact va_tb C.hx C.hb hT hs hin hv hd (k H locs ls hl hr hs)
theorem m_runs {H0 : Nat} (h : ∀ (H : Heap) (locs : List Loc) (ls : Array Slot), lv_has ls nL lv → wRel G S H → va_S (wA G) (xs X).heap H locs → ∃ av, va_Run (xp X) (xl X) (xe X) (xR X) (xs X) (xm X) (xa X) (xb X) (xM X) (xc X) H locs n1 n2 mc ms (F0 (xm X) pc ls st0) st (Qc av) (wA G)) : Runs X G nL n1 n2 mc ms pc lv st0 st S Qc := h
theorem m_i2c {x v : Int32} (C : Cok X G own cc nL ret rm) (hd : decode cc pc = .ok (.i2c, 1)) (hv : (x.toUInt32 % 65536).toInt32 = v) (k : WM X G nL n1 n2 Q (pc + 1) lv (.int v :: st) S) : WM X G nL n1 n2 Q pc lv (.int x :: st) S := by
  intro H locs ls hl hr hs
  exact lv_i2c C.hx C.hb hd hv (k H locs ls hl hr hs)
end TEXTS
