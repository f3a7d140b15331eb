/-! CALLS, RETURNS, the machine's own methods -/
section CALLS
variable {X : Cx} {G : Gx} {own : String} {cc : ByteArray} {nL n1 n2 : Nat} {ret : Option FieldType} {rm : Room} {Q : State → Prop} {pc : Nat} {lv lv' : List (Nat × Value)} {st st0 : List Value} {S : St} {β : Type} {o : β}
variable {y : MethodName} {bytes : ByteArray} {maxL n idx mc ms : Nat} {rt : Option FieldType} {rm' : Room} {As : List Value} {Qc : Array Value → State → Outcome → State → Prop}
theorem code_all (h : Cond.code y bytes maxL rt ∈ wAll) : GoodIn wAll (Cond.code y bytes maxL rt :: wAll) := gi_all (fun w hw => (List.mem_cons.mp hw).elim (fun e => e ▸ h) id)
theorem pre_of {H : Heap} {locs : List Loc} {av : List Value} (C : Cok X G own cc nL ret rm) (hr : wRel G S H) (hs : va_S (wA G) (xs X).heap H locs) : PreS (xs X) H (va_Pc av (wPre G S)) av :=
  ⟨wPre.blind, fun U hU hW => ⟨rfl, by rw [hU]; exact hr, va_K.moved hW.alike C.hK, wN.moved hW C.hN, by
    obtain ⟨adK, adV, h⟩ := C.hS
    exact ⟨adK, adV, h.moved hW (by rw [hU]; exact hs.2.1)⟩⟩⟩
theorem obj_at {a c : Nat} {H : Heap} (hr : wRel G S H) (ha : a < S.1) (hk : kd a = c) (hc : c < 10) : va_P G.2.1 vCl [(G.1 + a, .inr (c, (List.range (nF c)).map (slV G S a)))] H := by
  have h := hr.2 a ha
  rw [wE_obj hk hc] at h
  exact one_P h
/-- an object's method is called: what runs -/
theorem m_runV {a c : Nat} {H : Heap} {locs : List Loc} {ls : Array Slot} (C : Cok X G own cc nL ret rm) (hd : decode cc pc = .ok (.invokevirtual idx, 3)) (wl : Cond.methodLink own idx y ∈ wAll) (wm : mOk y bytes maxL rt n) (hR : rm'.frames + 1 ≤ rm.frames ∧ 8 + (maxL + 11) + rm'.locals ≤ rm.locals) (hc' : rm'.cells = mc ∧ rm'.slots = ms)
    (hM : Met (xl X) y (Cond.code y bytes maxL rt :: wAll) rm' (va_Pc (.ref (G.1 + a) :: As) (wPre G S)) Qc mc ms (wA G)) (ha : a < S.1) (hk : kd a = c) (hc : c < 10) (hy : y.cls = CN c) (hst : st0 = As.reverse ++ .ref (G.1 + a) :: st) (hn : As.length = n) (hcat : (st.map fun v => v.category).sum ≤ 8) (hf : n1 + mc ≤ rm.cells ∧ n2 + ms ≤ rm.slots)
    (hl : lv_has ls nL lv) (hr : wRel G S H) (hs : va_S (wA G) (xs X).heap H locs) : va_Run (xp X) (xl X) (xe X) (xR X) (xs X) (xm X) (xa X) (xb X) (xM X) (xc X) H locs n1 n2 mc ms (F0 (xm X) pc ls st0) st (Qc (Value.ref (G.1 + a) :: As).toArray) (wA G) := by
  have cw : CallW (xR X) (xs X) (xa X) own y.cls idx y bytes maxL rt (Cond.code y bytes maxL rt :: wAll) rm' mc ms n := by
    refine cwV n C.hts (gi_all (fun w hw => ?_)) rfl hc'.1 hc'.2 ⟨rfl, wm.2.2.2.2⟩ (by rw [C.hR]; exact hR)
    unfold wsV at hw
    rcases List.mem_append.mp hw with h | h
    · simp only [List.mem_cons, List.not_mem_nil, or_false] at h
      rcases h with rfl | rfl | rfl | rfl
      · exact wl
      · exact wm.2.1
      · exact wm.2.2.1
      · exact wm.2.2.2.1
    · exact (code_all wm.1 w h).1
  have pr := pre_of (av := .ref (G.1 + a) :: As) C hr hs
  have rc : ∃ cellB : Cell, H[G.1 + a]? = some cellB ∧ cellB.vm.isStatics = false ∧ (xs X).vm.findClass y.cls = some cellB.cls := by
    rw [hy]
    exact va_recv C.hK (obj_at hr ha hk hc) (ci := c) (q0 := 0) (cl_get hc) rfl
  exact va_runV (As := As) (rest := st) ⟨C.hx, C.hb, C.hml, C.hown, C.hts⟩ hM cw ⟨pr.1, rc, pr.2⟩ rfl hn hl.1 hst (lv_room hcat) hd (by rw [C.hR]; exact hf)
/-- a class's method of the same class -/
theorem m_runS {H : Heap} {locs : List Loc} {ls : Array Slot} (C : Cok X G own cc nL ret rm) (hd : decode cc pc = .ok (.invokestatic idx, 3)) (wl : Cond.methodLink own idx y ∈ wAll) (wm : sOk y bytes maxL rt n) (hy : y.cls = own) (hR : rm'.frames + 1 ≤ rm.frames ∧ 8 + (maxL + 11) + rm'.locals ≤ rm.locals) (hc' : rm'.cells = mc ∧ rm'.slots = ms)
    (hM : Met (xl X) y (Cond.code y bytes maxL rt :: wAll) rm' (va_Pc As (wPre G S)) Qc mc ms (wA G)) (hst : st0 = As.reverse ++ st) (hn : As.length = n) (hcat : (st.map fun v => v.category).sum ≤ 8) (hf : n1 + mc ≤ rm.cells ∧ n2 + ms ≤ rm.slots)
    (hl : lv_has ls nL lv) (hr : wRel G S H) (hs : va_S (wA G) (xs X).heap H locs) : va_Run (xp X) (xl X) (xe X) (xR X) (xs X) (xm X) (xa X) (xb X) (xM X) (xc X) H locs n1 n2 mc ms (F0 (xm X) pc ls st0) st (Qc As.toArray) (wA G) := by
  have cw : CallB (xR X) (xs X) (xa X) own idx y bytes maxL rt (Cond.code y bytes maxL rt :: wAll) rm' mc ms n ∧ (Cond.static y).before (xa X) (xs X) = true := by
    refine cwS n C.hts (gi_all (fun w hw => ?_)) rfl hc'.1 hc'.2 ⟨hy, wm.2.2.2⟩ (by rw [C.hR]; exact hR)
    unfold wsS at hw
    rcases List.mem_append.mp hw with h | h
    · simp only [List.mem_cons, List.not_mem_nil, or_false] at h
      rcases h with rfl | rfl | rfl
      · exact wl
      · exact wm.2.1
      · rw [← hy]; exact wm.2.2.1
    · exact (code_all wm.1 w h).1
  exact va_runS (As := As) (rest := st) ⟨C.hx, C.hb, C.hml, C.hown, C.hts⟩ hM cw (pre_of C hr hs) rfl hn hl.1 hst (lv_room hcat) hd (by rw [C.hR]; exact hf)
/-- a nest mate's private method -/
theorem m_runSN {host : String} {H : Heap} {locs : List Loc} {ls : Array Slot} (C : Cok X G own cc nL ret rm) (hd : decode cc pc = .ok (.invokestatic idx, 3)) (wl : Cond.methodLinkNest own idx y host ∈ lw_tbl ∧ isNest (.methodLinkNest own idx y host) = true) (wm : sOk y bytes maxL rt n) (hR : rm'.frames + 1 ≤ rm.frames ∧ 8 + (maxL + 11) + rm'.locals ≤ rm.locals) (hc' : rm'.cells = mc ∧ rm'.slots = ms)
    (hM : Met (xl X) y (Cond.code y bytes maxL rt :: wAll) rm' (va_Pc As (wPre G S)) Qc mc ms (wA G)) (hst : st0 = As.reverse ++ st) (hn : As.length = n) (hcat : (st.map fun v => v.category).sum ≤ 8) (hf : n1 + mc ≤ rm.cells ∧ n2 + ms ≤ rm.slots)
    (hl : lv_has ls nL lv) (hr : wRel G S H) (hs : va_S (wA G) (xs X).heap H locs) : va_Run (xp X) (xl X) (xe X) (xR X) (xs X) (xm X) (xa X) (xb X) (xM X) (xc X) H locs n1 n2 mc ms (F0 (xm X) pc ls st0) st (Qc As.toArray) (wA G) := by
  have cw : va_CN (xR X) (xs X) (xa X) own idx y host bytes maxL rt (Cond.code y bytes maxL rt :: wAll) rm' mc ms n :=
    va_cnB n C.hts (code_all wm.1) rfl hc'.1 hc'.2 (C.hN.1 _ wl.1 wl.2) (C.hts _ wm.2.2.1) wm.2.2.2 (by rw [C.hR]; exact hR)
  exact va_runSN (As := As) (rest := st) ⟨C.hx, C.hb, C.hml, C.hown, C.hts⟩ hM ⟨cw, C.hts _ wm.2.1, trivial⟩ (pre_of C hr hs) rfl hn hl.1 hst (lv_room hcat) hd (by rw [C.hR]; exact hf)
/-- a maker -/
theorem m_runI {b : Nat} {H : Heap} {locs : List Loc} {ls : Array Slot} (C : Cok X G own cc nL ret rm) (hd : decode cc pc = .ok (.invokespecial idx, 3)) (wl : Cond.methodLink own idx y ∈ wAll) (wm : iOk y bytes maxL n) (hR : rm'.frames + 1 ≤ rm.frames ∧ 8 + (maxL + 11) + rm'.locals ≤ rm.locals) (hc' : rm'.cells = mc ∧ rm'.slots = ms)
    (hM : Met (xl X) y (Cond.code y bytes maxL none :: wAll) rm' (va_Pc (.ref (G.1 + b) :: As) (wPre G S)) Qc mc ms (wA G)) (hst : st0 = As.reverse ++ .ref (G.1 + b) :: st) (hn : As.length = n) (hcat : (st.map fun v => v.category).sum ≤ 8) (hf : n1 + mc ≤ rm.cells ∧ n2 + ms ≤ rm.slots)
    (hl : lv_has ls nL lv) (hr : wRel G S H) (hs : va_S (wA G) (xs X).heap H locs) : va_Run (xp X) (xl X) (xe X) (xR X) (xs X) (xm X) (xa X) (xb X) (xM X) (xc X) H locs n1 n2 mc ms (F0 (xm X) pc ls st0) st (Qc (Value.ref (G.1 + b) :: As).toArray) (wA G) := by
  have cw := cwI (own := own) (index := idx) (mc := mc) (ms := ms) (rm := rm') (R := xR X) n C.hts (code_all wm.1) rfl hc'.1 hc'.2 (C.hts _ wm.2.2.1) (C.hts _ wl) (C.hts _ wm.2.1) wm.2.2.2.1 wm.2.2.2.2 (by rw [C.hR]; exact hR)
  exact va_runI (As := As) (rest := st) ⟨C.hx, C.hb, C.hml, C.hown, C.hts⟩ hM cw (pre_of C hr hs) rfl hn hl.1 hst (lv_room hcat) hd (by rw [C.hR]; exact hf)
theorem m_runIN {b : Nat} {host : String} {H : Heap} {locs : List Loc} {ls : Array Slot} (C : Cok X G own cc nL ret rm) (hd : decode cc pc = .ok (.invokespecial idx, 3)) (wl : Cond.methodLinkNest own idx y host ∈ lw_tbl ∧ isNest (.methodLinkNest own idx y host) = true) (wm : iOk y bytes maxL n) (hR : rm'.frames + 1 ≤ rm.frames ∧ 8 + (maxL + 11) + rm'.locals ≤ rm.locals) (hc' : rm'.cells = mc ∧ rm'.slots = ms)
    (hM : Met (xl X) y (Cond.code y bytes maxL none :: wAll) rm' (va_Pc (.ref (G.1 + b) :: As) (wPre G S)) Qc mc ms (wA G)) (hst : st0 = As.reverse ++ .ref (G.1 + b) :: st) (hn : As.length = n) (hcat : (st.map fun v => v.category).sum ≤ 8) (hf : n1 + mc ≤ rm.cells ∧ n2 + ms ≤ rm.slots)
    (hl : lv_has ls nL lv) (hr : wRel G S H) (hs : va_S (wA G) (xs X).heap H locs) : va_Run (xp X) (xl X) (xe X) (xR X) (xs X) (xm X) (xa X) (xb X) (xM X) (xc X) H locs n1 n2 mc ms (F0 (xm X) pc ls st0) st (Qc (Value.ref (G.1 + b) :: As).toArray) (wA G) := by
  have cw : va_CN (xR X) (xs X) (xa X) own idx y host bytes maxL none (Cond.code y bytes maxL none :: wAll) rm' mc ms n :=
    va_cnB n C.hts (code_all wm.1) rfl hc'.1 hc'.2 (C.hN.1 _ wl.1 wl.2) (C.hts _ wm.2.2.1) wm.2.2.2.2 (by rw [C.hR]; exact hR)
  exact va_runIN (As := As) (rest := st) ⟨C.hx, C.hb, C.hml, C.hown, C.hts⟩ hM ⟨cw, wm.2.2.2.1, C.hts _ wm.2.1⟩ (pre_of C hr hs) rfl hn hl.1 hst (lv_room hcat) hd (by rw [C.hR]; exact hf)
/-- what runs, then what comes: any kind of call -/
def Runs (X : Cx) (G : Gx) (nL n1 n2 mc ms pc : Nat) (lv : List (Nat × Value)) (st0 st : List Value) (S : St) (Qc : Array Value → State → Outcome → State → Prop) : Prop :=
  ∀ (H : Heap) (locs : List Loc) (ls : Array Slot), lv_has ls nL lv → wRel G S H → va_S (wA G) (xs X).heap H locs → ∃ av, va_Run (xp X) (xl X) (xe X) (xR X) (xs X) (xm X) (xa X) (xb X) (xM X) (xc X) H locs n1 n2 mc ms (F0 (xm X) pc ls st0) st (Qc av) (wA G)
theorem m_afterI {o' : Int32 × St} (hM : Runs X G nL n1 n2 mc ms pc lv st0 st S (qI G o')) (kk : WM X G nL (n1 + mc) (n2 + ms) Q (pc + 3) lv (.int o'.1 :: st) o'.2) : WM X G nL n1 n2 Q pc lv st0 S := by
  intro H locs ls hl hr hs
  obtain ⟨av, hrun⟩ := hM H locs ls hl hr hs
  refine va_calli hrun hs (fun _ _ q => q) (fun _ q => q) (fun r u t H1 locs1 ht hvm hw hB hz hk1 hs1 => ?_)
  rw [ht] at hB
  subst hw
  exact kk H1 locs1 ls hl hB hs1
theorem m_afterV {o' : St} (hM : Runs X G nL n1 n2 mc ms pc lv st0 st S (qV G o')) (kk : WM X G nL (n1 + mc) (n2 + ms) Q (pc + 3) lv st o') : WM X G nL n1 n2 Q pc lv st0 S := by
  intro H locs ls hl hr hs
  obtain ⟨av, hrun⟩ := hM H locs ls hl hr hs
  refine va_callv hrun hs (fun _ _ q => q) (fun _ q => q) (fun u t H1 locs1 ht hvm hw hB hz hk1 hs1 => ?_)
  rw [ht] at hB
  exact kk H1 locs1 ls hl hB hs1
theorem m_afterR {o' : Option Nat × St} (hM : Runs X G nL n1 n2 mc ms pc lv st0 st S (qR G o')) (kk : WM X G nL (n1 + mc) (n2 + ms) Q (pc + 3) lv (rfB G.1 o'.1 :: st) o'.2) : WM X G nL n1 n2 Q pc lv st0 S := by
  intro H locs ls hl hr hs
  obtain ⟨av, hrun⟩ := hM H locs ls hl hr hs
  refine va_callq hrun hs (fun _ _ q => q) (fun _ q => q) (fun r u t H1 locs1 ht hvm hw hB hz hk1 hs1 => ?_)
  rw [ht] at hB
  subst hw
  exact kk H1 locs1 ls hl hB hs1
theorem ck_spec {a c : Nat} {K : Option β} (h : ck_ S a c K = some o) : (a < S.1 ∧ kd a = c) ∧ K = some o := by
  unfold ck_ at h
  split at h
  · next hc => exact ⟨hc, h⟩
  · cases h
/-! returns -/
theorem m_iret {r : Int32} {o : Int32 × St} (C : Cok X G own cc nL ret rm) (hret : ret = some .int) (hd : decode cc pc = .ok (.ireturn, 1)) (h : rt_ (r, S) = some o) : WM X G nL n1 n2 (wQ X G (qI G o) n1 n2) pc lv [.int r] S := by
  cases h
  intro H locs ls hl hr hs
  exact W.iret C.hx C.hb (C.hret.trans hret) (fun t ht hW => ⟨⟨r, (), rfl, rfl, (show wRel G S t.heap from ht ▸ hr)⟩, hs.F ht⟩) hs.2.2 hd C.hlk
theorem m_zret {r : Int32} {o : Int32 × St} (C : Cok X G own cc nL ret rm) (hret : ret = some .boolean) (hd : decode cc pc = .ok (.ireturn, 1)) (h : rz_ r S = some o) : WM X G nL n1 n2 (wQ X G (qI G o) n1 n2) pc lv [.int r] S := by
  unfold rz_ at h
  split at h
  · next hz =>
    cases h
    intro H locs ls hl hr hs
    exact W.zret C.hx C.hb (C.hret.trans hret) (by rcases hz with rfl | rfl <;> decide) (fun t ht hW => ⟨⟨r, (), rfl, rfl, (show wRel G S t.heap from ht ▸ hr)⟩, hs.F ht⟩) hs.2.2 hd C.hlk
  · cases h
theorem m_vret {o : St} (C : Cok X G own cc nL ret rm) (hret : ret = none) (hd : decode cc pc = .ok (.return_, 1)) (h : rt_ S = some o) : WM X G nL n1 n2 (wQ X G (qV G o) n1 n2) pc lv [] S := by
  cases h
  intro H locs ls hl hr hs
  exact W.vret C.hx C.hb (C.hret.trans hret) (fun t ht hW => ⟨⟨(), rfl, trivial, (show wRel G S t.heap from ht ▸ hr)⟩, hs.F ht⟩) hs.2.2 hd C.hlk
theorem m_aret {r : Option Nat} {ty : FieldType} {o : Option Nat × St} (C : Cok X G own cc nL ret rm) (hret : ret = some ty) (hty : (∃ n, ty = .object n) ∨ ∃ t, ty = .array t) (hd : decode cc pc = .ok (.areturn, 1)) (h : rt_ (r, S) = some o) : WM X G nL n1 n2 (wQ X G (qR G o) n1 n2) pc lv [rfB G.1 r] S := by
  cases h
  intro H locs ls hl hr hs
  exact W.aret C.hx C.hb (C.hret.trans hret) hty (va_rf_or _) (fun t ht hW => ⟨⟨r.map (fun b => G.1 + b), (), rfl, rfl, (show wRel G S t.heap from ht ▸ hr)⟩, hs.F ht⟩) hs.2.2 hd C.hlk
/-! the machine's own -/
theorem W_size {p : Program} {l : Launch} {e : Env} {R : Room} {s : State} {m : MethodId} {args : Array Value} {below : List Frame} {meth : Method} {c : Code} {H : Heap} {locs : List Loc} {cells slots : Nat} {Q : State → Prop} {g : JFrame} (k : H.size ≤ s.heap.size + cells → W p l e R s m args below meth c H locs cells slots Q g) : W p l e R s m args below meth c H locs cells slots Q g :=
  fun T hT X => k (hT ▸ X.heapSize) T hT X
theorem m_max {x z : Int32} (C : Cok X G own cc nL ret rm) (hd : decode cc pc = .ok (.invokestatic idx, 3)) (wl : Cond.methodLink own idx Lib.Math.max.name ∈ wAll) (wm : Cond.static Lib.Math.max.name ∈ wAll ∧ Cond.initialized "java/lang/Math" ∈ wAll ∧ Cond.code Lib.Math.max.name Lib.Math.max.code 2 (some .int) ∈ wAll) (hR : 1 ≤ rm.frames ∧ (st.map fun v => v.category).sum + 13 ≤ rm.locals) (hf : n1 ≤ rm.cells ∧ n2 ≤ rm.slots) {K : Int32 → Option β} (h : lt_ (if x < z then z else x) K = some o) (kk : ∀ v, K v = some o → WM X G nL n1 n2 Q (pc + 3) lv (.int v :: st) S) : WM X G nL n1 n2 Q pc lv (.int z :: .int x :: st) S := by
  intro H locs ls hl hr hs
  exact va_mmax C.hx C.hb (C.hml.trans hl.1.symm) C.hown (C.hts _ wl) (C.hts _ wm.1) (C.hts _ wm.2.1) (C.hts _ wm.2.2) (by rw [C.hR]; exact hR.1) (by rw [C.hR]; exact hR.2) (by rw [C.hR]; exact hf.1) (by rw [C.hR]; exact hf.2) hd (kk _ h H locs ls hl hr hs)
theorem m_min {x z : Int32} (C : Cok X G own cc nL ret rm) (hd : decode cc pc = .ok (.invokestatic idx, 3)) (wl : Cond.methodLink own idx Lib.Math.min.name ∈ wAll) (wm : Cond.static Lib.Math.min.name ∈ wAll ∧ Cond.initialized "java/lang/Math" ∈ wAll ∧ Cond.code Lib.Math.min.name Lib.Math.min.code 2 (some .int) ∈ wAll) (hR : 1 ≤ rm.frames ∧ (st.map fun v => v.category).sum + 13 ≤ rm.locals) (hf : n1 ≤ rm.cells ∧ n2 ≤ rm.slots) {K : Int32 → Option β} (h : lt_ (if z < x then z else x) K = some o) (kk : ∀ v, K v = some o → WM X G nL n1 n2 Q (pc + 3) lv (.int v :: st) S) : WM X G nL n1 n2 Q pc lv (.int z :: .int x :: st) S := by
  intro H locs ls hl hr hs
  exact va_mmin C.hx C.hb (C.hml.trans hl.1.symm) C.hown (C.hts _ wl) (C.hts _ wm.1) (C.hts _ wm.2.1) (C.hts _ wm.2.2) (by rw [C.hR]; exact hR.1) (by rw [C.hR]; exact hR.2) (by rw [C.hR]; exact hf.1) (by rw [C.hR]; exact hf.2) hd (kk _ h H locs ls hl hr hs)
/-- the whole picture as a list -/
def wL (G : Gx) (S : St) : va_W := (List.range S.1).map (fun a => (G.1 + a, wE G S a))
theorem wL_at {a : Nat} (h : a < S.1) : (wL G S)[a]? = some (G.1 + a, wE G S a) := by simp [wL, h]
theorem wL_P {H : Heap} (hr : wRel G S H) : va_P G.2.1 vCl (wL G S) H := by
  intro k q hk
  have hl : k < S.1 := by have := (List.getElem?_eq_some_iff.mp hk).1; simpa [wL] using this
  rw [wL_at hl] at hk
  cases hk
  exact hr.2 k hl
theorem wL_D : va_D (wA G) (wL G S) := by
  have key : ∀ (k : Nat) (q : Nat × va_E), (wL G S)[k]? = some q → q.1 = G.1 + k := by
    intro k q hk
    have hl : k < S.1 := by have := (List.getElem?_eq_some_iff.mp hk).1; simpa [wL] using this
    rw [wL_at hl] at hk
    cases hk
    rfl
  refine ⟨fun i j p q hi hj hpq => ?_, fun k q hk => ?_⟩
  · have h1 := key i p hi
    have h2 := key j q hj
    omega
  · rw [key k q hk]; exact Nat.le_add_right _ _
theorem wL_back {S' : St} {H : Heap} {a : Nat} (ha : a < S.1) (h1 : S'.1 = S.1) (hne : ∀ b, b ≠ a → wE G S' b = wE G S b) (hP : va_P G.2.1 vCl ((wL G S).set a (G.1 + a, wE G S' a)) H) (hz : H.size = G.1 + S.1) : wRel G S' H := by
  refine ⟨by rw [hz, h1], fun b hb => ?_⟩
  rw [h1] at hb
  refine hP b (G.1 + b, wE G S' b) ?_
  by_cases hba : b = a
  · subst hba
    rw [List.getElem?_set_self (by simpa [wL] using hb)]
  · rw [List.getElem?_set_ne (Ne.symm hba), wL_at hb, hne b hba]
theorem m_copy {a b sp dp : Nat} {n : Int32} {isp idp : Int32} (C : Cok X G own cc nL ret rm) (hd : decode cc pc = .ok (.invokestatic idx, 3)) (wl : Cond.methodLink own idx arraycopyName ∈ wAll) (wm : Cond.native arraycopyName ∈ wAll ∧ Cond.static arraycopyName ∈ wAll ∧ Cond.initialized "java/lang/System" ∈ wAll) (hR : 1 ≤ rm.frames ∧ (st.map fun v => v.category).sum + (nativeFrameWords "java/lang/System" "arraycopy" 5 + 11) ≤ rm.locals) (e1 : ¬ isp < 0 ∧ isp.toNatClampNeg = sp) (e2 : ¬ idp < 0 ∧ idp.toNatClampNeg = dp)
    {K : St → Option β} (h : cp_ S a sp b dp n K = some o) (kk : ∀ S' : St, K S' = some o → WM X G nL 0 n2 Q (pc + 3) lv st S') : WM X G nL 0 n2 Q pc lv (.int n :: .int idp :: .ref (G.1 + b) :: .int isp :: .ref (G.1 + a) :: st) S := by
  unfold cp_ at h
  split at h
  · next hc =>
    obtain ⟨⟨⟨ha, hka⟩, hb, hkb⟩, hn, hla, hlb⟩ := hc
    intro H locs ls hl hr hs
    refine W_size (fun hsz => ?_)
    have hb0 := C.hA _ (Nat.le_refl _)
    refine va_copyi C.hx C.hb (C.hml.trans hl.1.symm) C.hown (C.hts _ wl) (C.hts _ wm.1) (C.hts _ wm.2.1) (C.hts _ wm.2.2) C.hK (wL_P hr) wL_D hs a b 1 1 (by rw [wL_at ha, wE_arr hka (by decide)]) (by rw [wL_at hb, wE_arr hkb (by decide)]) (tyL_at (by decide)) (tyL_at (by decide)) rfl e1.1 e2.1 hn (by rw [e1.2]; exact hla) (by rw [e2.2]; exact hlb) (fun _ _ => rfl) (by rw [C.hR]; exact hR.1) (by rw [C.hR]; exact hR.2) hd (fun H1 locs1 hP1 hD1 hs1 => ?_)
    refine W_size (fun hsz1 => ?_)
    refine kk _ h H1 locs1 ls hl (wL_back hb rfl (fun c hcb => wE_congr (by funext j; simp [hcb]) rfl rfl) ?_ ?_) hs1
    · rw [wE_arr hkb (by decide)]
      rw [e1.2, e2.2] at hP1
      have e : (fun j => if b = b then va_cpy (S.2.1 a) (S.2.1 b) sp dp n.toNatClampNeg j else S.2.1 b j) = va_cpy (S.2.1 a) (S.2.1 b) sp dp n.toNatClampNeg := by funext j; simp
      show va_P _ _ ((wL G S).set b (G.1 + b, .inl (G.2.2 11, (ln b, .inl (fun j => if b = b then va_cpy (S.2.1 a) (S.2.1 b) sp dp n.toNatClampNeg j else S.2.1 b j))))) _
      rw [e]
      exact hP1
    · have h1 := hs.1
      have h2 := hs1.1
      have h3 := hr.1
      omega
  · cases h
end CALLS
