/-! MAKERS: new cells, final fields -/
theorem m_startI {l : Launch} {G : Gx} {y : MethodName} {cc : ByteArray} {maxL : Nat} {ret : Option FieldType} {rm : Room} {Qc : Array Value → State → Outcome → State → Prop} {mc ms : Nat} {av : List Value} {S : St}
    (hy : plainName y.cls = true) (hlen : (lg_sl av).length ≤ maxL)
    (body : ∀ X : Cx, Cok X G y.cls cc maxL ret rm → (xM X).name = y.name → WM X G maxL 0 0 (wQ X G Qc mc ms) 0 (lv_args 0 av) [] S) :
    Met l y (Cond.code y cc maxL ret :: wAll) rm (va_Pc av (wPre G S)) Qc mc ms (wA G) := by
  refine Met.ofW (cc := cc) (maxL := maxL) (ret := ret) hy rfl ?_
  intro p e s m args below meth c s₁ B hml hv
  obtain ⟨rfl, hR, hK, hN, hS⟩ := hv
  have hts := atoms_spec (ws := Cond.code y cc maxL ret :: wAll) B.pre
  rw [lg_entry_eq]
  exact body (p, l, e, rm, s, m, av.toArray, below, meth, c) ⟨B.exec, B.bytes, hml, findClass_of_methodNamed B.named, fun w hw => hts w (List.mem_cons_of_mem _ hw), hK, hN, B.returns, B.notSynchronized, rfl, fun q h => by
    have h1 : s.heap.size = G.1 + S.1 := hR.1
    have h2 : s.heap.size ≤ q := h
    show G.1 ≤ q
    omega, hS⟩ (name_of_methodNamed B.named B.method).1 s.heap [] _ (lv_entry av hlen) hR va_S.rf
/-- one more cell, all of it as it is made -/
def grow (S : St) : St := (S.1 + 1, fun b j => if b = S.1 then 0 else S.2.1 b j, fun b j => if b = S.1 then 0 else S.2.2.1 b j, fun b j => if b = S.1 then none else S.2.2.2 b j)
def nw_ {β : Type} (S : St) (c : Nat) (K : Nat → St → Option β) : Option β := if kd S.1 = c then K S.1 (grow S) else none
def na_ {β : Type} (S : St) (c n : Nat) (K : Nat → St → Option β) : Option β := if kd S.1 = c ∧ ln S.1 = n then K S.1 (grow S) else none
theorem cl_def : ∀ c, c < 10 → ∀ k, k < nF c → defaultValue (CY c k) = (if sk c k = 2 then .null else if sk c k = 1 then .long 0 else .int 0) := by decide +kernel
theorem wE_grow {G : Gx} {S : St} {b : Nat} (h : b ≠ S.1) : wE G (grow S) b = wE G S b := wE_congr (by funext j; simp [grow, h]) (by funext j; simp [grow, h]) (by funext j; simp [grow, h])
theorem wRel_grow {G : Gx} {S : St} {H H1 : Heap} (hr : wRel G S H) (hz : H1.size = H.size + 1) (ho : ∀ q, q < H.size → H1[q]? = H[q]?) (he : va_at G.2.1 vCl (G.1 + S.1, wE G (grow S) S.1) H1) : wRel G (grow S) H1 := by
  refine ⟨by rw [hz, hr.1]; rfl, fun b hb => ?_⟩
  have hb' : b < S.1 + 1 := hb
  by_cases hbs : b = S.1
  · subst hbs; exact he
  · rw [wE_grow hbs]
    exact (hr.2 b (by omega)).kept (ho _ (by have := hr.1; show G.1 + b < H.size; omega))
theorem vS_grow {A : Nat → Prop} {H0 H H1 : Heap} {locs : List Loc} (hs : va_S A H0 H locs) (hz : H1.size = H.size + 1) (ho : ∀ q, q < H.size → H1[q]? = H[q]?) : va_S A H0 H1 locs :=
  ⟨Nat.le_trans hs.1 (by omega), fun x h1 h2 => (ho x (Nat.lt_of_lt_of_le h1 hs.1)).trans (hs.2.1 x h1 h2), hs.2.2⟩
section MAKERS
variable {X : Cx} {G : Gx} {own : String} {cc : ByteArray} {nL n1 n2 : Nat} {ret : Option FieldType} {rm : Room} {Q : State → Prop} {pc : Nat} {lv lv' : List (Nat × Value)} {st st0 : List Value} {S : St} {β : Type} {o : β}
theorem m_objInit {a idx : Nat} (C : Cok X G own cc nL ret rm) (hd : decode cc pc = .ok (.invokespecial idx, 3)) (wl : Cond.methodLink own idx objectInit ∈ wAll) (wm : Cond.instanceMethod objectInit ∈ wAll ∧ Cond.code objectInit ⟨#[0xb1]⟩ 1 none ∈ wAll) (hR : 1 ≤ rm.frames ∧ (st.map fun v => v.category).sum + 12 ≤ rm.locals) (k : WM X G nL n1 n2 Q (pc + 3) lv st S) : WM X G nL n1 n2 Q pc lv (.ref (G.1 + a) :: st) S := by
  intro H locs ls hl hr hs
  exact W.objInit C.hx C.hb C.hown (C.hts _ wl) (C.hts _ wm.1) (C.hts _ wm.2) rfl (by rw [C.hml]; exact hl.1) rfl hd (by rw [C.hR]; exact hR.1) (by rw [C.hR]; show 2 * 0 + _ + 12 ≤ _; omega) (k H locs ls hl hr hs)
theorem m_new {c idx : Nat} (C : Cok X G own cc nL ret rm) (hd : decode cc pc = .ok (.new idx, 3)) (hc : c < 10) (wl : Cond.classLink own idx (CN c) ∈ wAll ∧ Cond.instantiable (CN c) (nF c) ∈ wAll ∧ Cond.initialized (CN c) ∈ wAll) (hf : n1 + 1 ≤ rm.cells ∧ n2 + nF c ≤ rm.slots) {K : Nat → St → Option β} (h : nw_ S c K = some o) (kk : ∀ (a : Nat) (S' : St), K a S' = some o → WM X G nL (n1 + 1) (n2 + nF c) Q (pc + 3) lv (.ref (G.1 + a) :: st) S') : WM X G nL n1 n2 Q pc lv st S := by
  unfold nw_ at h
  split at h
  · next hk =>
    intro H locs ls hl hr hs
    have hKn := C.hK.1 c _ (cl_get hc)
    refine W.newcK C.hx C.hb C.hown (C.hts _ wl.1) (C.hts _ wl.2.1) (C.hts _ wl.2.2) rfl hd (by rw [C.hR]; exact hf.1) (by rw [C.hR]; exact hf.2) hKn.2.1 hr.1 fun H1 kC hkC e1 z1 o1 => ?_
    refine kk S.1 (grow S) h H1 locs ls hl (wRel_grow hr (by rw [z1, hr.1]) (fun q hq => o1 q (hr.1 ▸ hq)) ?_) (vS_grow hs (by rw [z1, hr.1]) (fun q hq => o1 q (hr.1 ▸ hq)))
    rw [wE_obj hk hc]
    refine ⟨_, cl_get hc, (u_born (CY c) C.hts (cl_lay c hc) hKn hkC e1 (cl_ty c hc)).to (fun j hj => ?_)⟩
    rw [cl_def c hc j hj]
    simp only [vp_V, List.getD_eq_getElem?_getD, List.getElem?_map, List.getElem?_range hj, Option.map_some, Option.getD_some, slV, hk, grow, if_true]
    split
    · rfl
    · rfl
  · cases h
theorem m_newa {c n : Nat} {v : Int32} {at' : ArrayType} (C : Cok X G own cc nL ret rm) (hd : decode cc pc = .ok (.newarray at', 2)) (hc : (c = 10 ∨ c = 11 ∨ c = 13) ∧ newarray.typeOf at' = aTy c) (wl : Cond.arrayClass (aTy c) ∈ wAll) (hv : ¬ v < 0 ∧ v.toNatClampNeg = n ∧ n * componentBytes (aTy c) ≤ 536870912) (hf : n1 + 1 ≤ rm.cells ∧ n2 + n ≤ rm.slots) {K : Nat → St → Option β} (h : na_ S c n K = some o) (kk : ∀ (a : Nat) (S' : St), K a S' = some o → WM X G nL (n1 + 1) (n2 + n) Q (pc + 2) lv (.ref (G.1 + a) :: st) S') : WM X G nL n1 n2 Q pc lv (.int v :: st) S := by
  unfold na_ at h
  split at h
  · next hk =>
    intro H locs ls hl hr hs
    have ht : ∃ t0 : Nat, (tyL G)[t0]? = some (G.2.2 c, aTy c) := by
      rcases hc.1 with rfl | rfl | rfl
      · exact ⟨0, tyL_at (by decide)⟩
      · exact ⟨1, tyL_at (by decide)⟩
      · exact ⟨3, tyL_at (by decide)⟩
    obtain ⟨t0, ht0⟩ := ht
    have hRA := (C.hK.2 t0 _ ht0).2
    refine va_newaK C.hx C.hb (by rw [hc.2]; exact C.hts _ wl) rfl hd rfl hv.1 hv.2.1 (by rw [hc.2]; exact hv.2.2) (by rw [C.hR]; exact hf.1) (by rw [C.hR]; exact hf.2) hr.1 fun H1 cA e1 z1 o1 hAr hNm => ?_
    have hcA : cA = G.2.2 c := by
      rw [hc.2] at hNm
      rcases hc.1 with rfl | rfl | rfl <;> exact Option.some.inj (hNm.symm.trans hRA)
    subst hcA
    refine kk S.1 (grow S) h H1 locs ls hl (wRel_grow hr (by rw [z1, hr.1]) (fun q hq => o1 q (hr.1 ▸ hq)) ?_) (vS_grow hs (by rw [z1, hr.1]) (fun q hq => o1 q (hr.1 ▸ hq)))
    rw [wE_arr hk.1 hc.1]
    show H1[G.1 + S.1]? = some (vp_cell _ _)
    rw [e1, vp_cell_i, hk.2]
    congr 2
    funext q
    rw [hc.2]
    rcases hc.1 with rfl | rfl | rfl <;> simp [grow, aTy, defaultValue]
  · cases h
theorem m_newl {n : Nat} {v : Int32} (C : Cok X G own cc nL ret rm) (hd : decode cc pc = .ok (.newarray .long, 2)) (wl : Cond.arrayClass .long ∈ wAll) (hv : ¬ v < 0 ∧ v.toNatClampNeg = n ∧ n * componentBytes .long ≤ 536870912) (hf : n1 + 1 ≤ rm.cells ∧ n2 + n ≤ rm.slots) {K : Nat → St → Option β} (h : na_ S 12 n K = some o) (kk : ∀ (a : Nat) (S' : St), K a S' = some o → WM X G nL (n1 + 1) (n2 + n) Q (pc + 2) lv (.ref (G.1 + a) :: st) S') : WM X G nL n1 n2 Q pc lv (.int v :: st) S := by
  unfold na_ at h
  split at h
  · next hk =>
    intro H locs ls hl hr hs
    have hRA := (C.hK.2 2 _ (tyL_at (by decide))).2
    refine va_newaK C.hx C.hb (atype := .long) (C.hts _ wl) rfl hd rfl hv.1 hv.2.1 hv.2.2 (by rw [C.hR]; exact hf.1) (by rw [C.hR]; exact hf.2) hr.1 fun H1 cA e1 z1 o1 hAr hNm => ?_
    have hcA : cA = G.2.2 12 := Option.some.inj (hNm.symm.trans hRA)
    subst hcA
    refine kk S.1 (grow S) h H1 locs ls hl (wRel_grow hr (by rw [z1, hr.1]) (fun q hq => o1 q (hr.1 ▸ hq)) ?_) (vS_grow hs (by rw [z1, hr.1]) (fun q hq => o1 q (hr.1 ▸ hq)))
    rw [wE_lng hk.1]
    show H1[G.1 + S.1]? = some (vp_cell _ _)
    rw [e1, vp_cell_l, hk.2]
    congr 2
    funext q
    simp [grow, newarray.typeOf, defaultValue]
  · cases h
theorem m_anew {c n idx : Nat} {v : Int32} {E : String} (C : Cok X G own cc nL ret rm) (hd : decode cc pc = .ok (.anewarray idx, 3)) (hc : (c = 14 ∧ E = "TraceRing$Image") ∨ (c = 15 ∧ E = "TraceRing$Page")) (wl : Cond.classLink own idx E ∈ wAll) (hv : ¬ v < 0 ∧ v.toNatClampNeg = n ∧ n * 4 ≤ 536870912) (hf : n1 + 1 ≤ rm.cells ∧ n2 + n ≤ rm.slots) {K : Nat → St → Option β} (h : na_ S c n K = some o) (kk : ∀ (a : Nat) (S' : St), K a S' = some o → WM X G nL (n1 + 1) (n2 + n) Q (pc + 3) lv (.ref (G.1 + a) :: st) S') : WM X G nL n1 n2 Q pc lv (.int v :: st) S := by
  unfold na_ at h
  split at h
  · next hk =>
    intro H locs ls hl hr hs
    have hao : va_AO E (xs X) := by
      rcases hc with ⟨-, rfl⟩ | ⟨-, rfl⟩
      · exact C.hN.2.2
      · exact C.hN.2.1
    have ht : ∃ t0 : Nat, (tyL G)[t0]? = some (G.2.2 c, FieldType.object E) := by
      rcases hc with ⟨rfl, rfl⟩ | ⟨rfl, rfl⟩
      · exact ⟨4, tyL_at (by decide)⟩
      · exact ⟨5, tyL_at (by decide)⟩
    obtain ⟨t0, ht0⟩ := ht
    obtain ⟨kA', comp', k1, k2, k3, k4⟩ := (C.hK.2 t0 _ ht0).2
    obtain ⟨hv1, rfl, hv3⟩ := hv
    refine W.anew C.hx C.hb C.hown (C.hts _ wl) hao.use rfl hd rfl hv1 hv3 (by rw [C.hR]; exact hf.1) (by rw [C.hR]; exact hf.2) fun cA kA comp g1 g2 g3 g4 => ?_
    have hcA : cA = G.2.2 c := Option.some.inj (g1.symm.trans k4)
    subst hcA
    have z1 : (H.push ({ cls := G.2.2 c, slots := Array.replicate v.toNatClampNeg .null, vm := .none } : Cell)).size = H.size + 1 := by simp
    have o1 : ∀ q, q < H.size → (H.push ({ cls := G.2.2 c, slots := Array.replicate v.toNatClampNeg .null, vm := .none } : Cell))[q]? = H[q]? := fun q hq => by
      rw [Array.getElem?_push, if_neg (Nat.ne_of_lt hq)]
    have kk' := kk S.1 (grow S) h _ locs ls hl (wRel_grow hr z1 o1 ?_) (vS_grow hs z1 o1)
    · rw [← hr.1] at kk'
      exact kk'
    rw [wE_ref hk.1 (by rcases hc with ⟨rfl, -⟩ | ⟨rfl, -⟩ <;> simp)]
    show (H.push _)[G.1 + S.1]? = some (vp_cell _ _)
    rw [vp_cell_q, hk.2, ← hr.1, arrV_new]
    simp only [Array.getElem?_push, if_true]
    congr 2
    funext q
    simp [grow, va_rf]
  · cases h
theorem m_pRF {a c k idx b : Nat} (C : Cok X G own cc nL ret rm) (hin : (xM X).name = "<init>") (hd : decode cc pc = .ok (.putfield idx, 3)) (w : fOk own idx c k) (hs : sk c k = 2 ∧ (CT c k).2.2.2 = true) (hown' : CN c = own) {K : St → Option β} (h : pR_ S a c k (some b) K = some o) (kk : ∀ S' : St, K S' = some o → WM X G nL n1 n2 Q (pc + 3) lv st S') : WM X G nL n1 n2 Q pc lv (.ref (G.1 + b) :: .ref (G.1 + a) :: st) S := by
  unfold pR_ at h
  split at h
  · next hc =>
    obtain ⟨ha, hk⟩ := hc
    intro H locs ls hl hr hs'
    have hat := hr.2 a ha
    rw [wE_obj hk w.2.1] at hat
    have hap := va_apart (own := own) C.hts (cl_lay c w.2.1) (CY c) (cl_ty c w.2.1) (cl_nm c w.2.1) C.hK (cl_get w.2.1)
    obtain ⟨r, h2, cell, q1, q2, q3, q4⟩ := id hat
    have hrr : r = (CN c, CT c, nF c) := Option.some.inj (h2.symm.trans (cl_get w.2.1))
    subst hrr
    obtain ⟨hS, hfc, kC, hkC, hkind⟩ := C.hK.1 c _ (cl_get w.2.1)
    obtain ⟨cf, kf, fi, f, hi, hsl⟩ := hS k w.2.2
    have hlay := C.hts _ (cl_lay c w.2.1 _ (u_in_lay w.2.2))
    unfold u_lay at hlay
    rw [if_pos hs.2] at hlay
    have hst := (u_facts hfc hkC (u_lays C.hts (cl_lay c w.2.1) w.2.2) hi).1
    have hcf : (xm X).cls = cf := by
      obtain ⟨_, _, c', _, _, _, -, -, hf', -, -, -, hown2, -⟩ := Cond.laysFinal_spec hlay
      have e1 : c' = cf := by have := hi.symm.trans hf'; simp at this; exact this.1.symm
      rw [cl_own c w.2.1 k w.2.2, hown'] at hown2
      rw [← e1]; exact Option.some.inj (C.hown.symm.trans hown2)
    have hr2 := ref_nar (cl_ref c w.2.1 k w.2.2 hs.1) (G.1 + b)
    have h6 := u_fits hfc hkC hkind (Or.inr hlay) hi (cl_ty c w.2.1 k w.2.2) hr2.1 hr2.2
    have hsame : (xs X).fieldFound? (CN c) (CT c k).2.1 (CT c k).2.2.1 = some (cf, kf, fi, f) := by
      have := hi
      rw [cl_own c w.2.1 k w.2.2] at this
      exact this
    refine W.putFinK C.hx C.hb C.hown (C.hts _ w.1) hsame hst hcf hin (by rw [q2]; exact h6) q1 q3 (by rw [hsl]; exact k2_hasslot (q4 k w.2.2)) rfl rfl hd fun H' e1 e2 e3 => ?_
    rw [hsl] at e1 ⊢
    refine kk _ h H' _ ls hl (wRel_upd hr rfl (fun b hb => wE_uR hb) ?_ e2 e3) (hs'.put e2 e3 (Nat.le_add_right _ _))
    rw [wE_obj hk w.2.1, rng_set (f := slV G S a) (k := k) (v := .ref (G.1 + b)) (fun j => by
      by_cases hj : j = k
      · subst hj; simp [slV, hk, hs.1, uR, rfB, va_rf]
      · simp [slV, hj, uR])]
    exact ⟨_, cl_get w.2.1, t_OB.to (V := updV (vp_V ((List.range (nF c)).map (slV G S a))) k (.ref (G.1 + b))) ⟨_, e1, q2, q3, t_set q4 hap w.2.2 _⟩ (fun j _ => vp_updV_set (by simpa using w.2.2) _ j)⟩
  · cases h
theorem m_cC {F : Option St} {K : St → Option β} {mc ms : Nat} (h : cV_ F K = some o) (hM : ∀ o', F = some o' → Runs X G nL n1 n2 mc ms pc lv st0 st S (qV G o')) (kk : ∀ S', K S' = some o → WM X G nL (n1 + mc) (n2 + ms) Q (pc + 3) lv st S') : WM X G nL n1 n2 Q pc lv st0 S := by
  unfold cV_ at h
  split at h
  · cases h
  · next o' => exact m_afterV (hM o' rfl) (kk _ h)
theorem m_vretC {o : St} {mc ms : Nat} (C : Cok X G own cc nL ret rm) (hret : ret = none) (hm : n1 = mc ∧ n2 = ms) (hd : decode cc pc = .ok (.return_, 1)) (h : rt_ S = some o) : WM X G nL n1 n2 (wQ X G (qV G o) mc ms) pc lv [] S := by
  obtain ⟨rfl, rfl⟩ := hm
  exact m_vret C hret hd h
/-- a jump that is known -/
theorem m_icmpgeY {x y : Int32} {off : Int} {tgt : Nat} (C : Cok X G own cc nL ret rm) (hd : decode cc pc = .ok (.if_icmp .ge off, 3)) (ht : (pc : Int) + off = (tgt : Int)) (hc : y ≤ x) (k : WM X G nL n1 n2 Q tgt lv st S) : WM X G nL n1 n2 Q pc lv (.int y :: .int x :: st) S := m_icmpge (β := Unit) (A := some ()) (B := none) (o := ()) C hd ht (if_pos hc) (fun _ => k) (fun h => by cases h)
theorem m_icmpgeN {x y : Int32} {off : Int} {tgt : Nat} (C : Cok X G own cc nL ret rm) (hd : decode cc pc = .ok (.if_icmp .ge off, 3)) (ht : (pc : Int) + off = (tgt : Int)) (hc : ¬ y ≤ x) (k : WM X G nL n1 n2 Q (pc + 3) lv st S) : WM X G nL n1 n2 Q pc lv (.int y :: .int x :: st) S := m_icmpge (β := Unit) (A := none) (B := some ()) (o := ()) C hd ht (if_neg hc) (fun h => by cases h) (fun _ => k)
theorem m_iincC {i : Nat} {n : Int} {x w z : Int32} (hd : decode cc pc = .ok (.iinc i n, 3)) (C : Cok X G own cc nL ret rm) (hv : Int32.ofInt n = w) (j : Nat) (hj : lv[j]? = some (i, .int x)) (hn : i < nL) (hz : x + w = z) (hl' : (i, Value.int z) :: lv.filter (fun q => !(q.1 == i) && !(q.1 + 1 == i && q.2.category == 2)) = lv') (k : WM X G nL n1 n2 Q (pc + 3) lv' st S) : WM X G nL n1 n2 Q pc lv st S := by
  intro H locs ls hl hr hs
  exact lv_iinc C.hx C.hb hd hl hj (by rw [hv]; exact hz) hn hl' (fun ls' hl' => k H locs ls' hl' hr hs)
theorem ln_refs : ∀ a, a < 381 → (kd a = 14 → ln a = 3) ∧ (kd a = 15 → ln a = 6) := by decide +kernel
theorem kd_out : ∀ a, 381 ≤ a → kd a = 99 := by
  intro a h
  have : KD.length = 381 := by decide +kernel
  simp [kd, List.getD_eq_getElem?_getD, List.getElem?_eq_none (by omega : KD.length ≤ a)]
theorem m_alC {a c : Nat} {z : Int32} (C : Cok X G own cc nL ret rm) (hd : decode cc pc = .ok (.arraylength, 1)) (hc : a < S.1 ∧ kd a = c) (hz : (c = 14 ∧ z = 3) ∨ (c = 15 ∧ z = 6)) (k : WM X G nL n1 n2 Q (pc + 1) lv (.int z :: st) S) : WM X G nL n1 n2 Q pc lv (.ref (G.1 + a) :: st) S := by
  have ha : a < 381 := by
    rcases Nat.lt_or_ge a 381 with q | q
    · exact q
    · have := kd_out a q
      rcases hz with ⟨e, -⟩ | ⟨e, -⟩ <;> omega
  have hl : Int32.ofNat (ln a) = z := by
    rcases hz with ⟨rfl, rfl⟩ | ⟨rfl, rfl⟩
    · rw [(ln_refs a ha).1 hc.2]; rfl
    · rw [(ln_refs a ha).2 hc.2]; rfl
  refine m_al (c := c) (β := Unit) (o := ()) (K := fun v => if v = z then some () else none) C hd (by rcases hz with ⟨e, -⟩ | ⟨e, -⟩ <;> omega) (by unfold al_; rw [if_pos hc, hl]; simp) (fun v hv => ?_)
  by_cases e : v = z
  · subst e; exact k
  · rw [if_neg e] at hv; cases hv
end MAKERS
