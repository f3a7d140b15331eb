/-! ROWS THAT READ AND WRITE THE PICTURE -/
theorem cl_get {c : Nat} (h : c < 10) : vCl[c]? = some (CN c, CT c, nF c) := by simp [vCl, h]
theorem cl_ty : ∀ c, c < 10 → ∀ k, k < nF c → parseFieldDescriptor (CT c k).2.2.1 = some (CY c k) := by decide +kernel
theorem cl_nm : ∀ c, c < 10 → ∀ a, a < nF c → ∀ b, b < nF c → a ≠ b → (CT c a).2.1 ≠ (CT c b).2.1 := by decide +kernel
theorem cl_own : ∀ c, c < 10 → ∀ k, k < nF c → (CT c k).1 = CN c := by decide +kernel
theorem cl_int : ∀ c, c < 10 → ∀ k, k < nF c → sk c k = 0 → CY c k = .int := by decide +kernel
theorem cl_bool : ∀ c, c < 10 → ∀ k, k < nF c → sk c k = 3 → CY c k = .boolean := by decide +kernel
theorem cl_long : ∀ c, c < 10 → ∀ k, k < nF c → sk c k = 1 → CY c k = .long := by decide +kernel
theorem cl_ref : ∀ c, c < 10 → ∀ k, k < nF c → sk c k = 2 → (CY c k).isReference = true := by decide +kernel
theorem wE_congr {G : Gx} {S S' : St} {b : Nat} (h1 : S'.2.1 b = S.2.1 b) (h2 : S'.2.2.1 b = S.2.2.1 b) (h3 : S'.2.2.2 b = S.2.2.2 b) : wE G S' b = wE G S b := by
  have h : slV G S' b = slV G S b := by
    funext k
    simp only [slV, h1, h2, h3]
  simp only [wE, h, h1, h2, h3]
theorem wE_uI {G : Gx} {S : St} {a k b : Nat} {x : Int32} (h : b ≠ a) : wE G (uI S a k x) b = wE G S b := wE_congr (by funext j; simp [uI, h]) rfl rfl
theorem wE_uJ {G : Gx} {S : St} {a k b : Nat} {x : Int64} (h : b ≠ a) : wE G (uJ S a k x) b = wE G S b := wE_congr rfl (by funext j; simp [uJ, h]) rfl
theorem wE_uR {G : Gx} {S : St} {a k b : Nat} {x : Option Nat} (h : b ≠ a) : wE G (uR S a k x) b = wE G S b := wE_congr rfl rfl (by funext j; simp [uR, h])
theorem wE_obj {G : Gx} {S : St} {a c : Nat} (h : kd a = c) (hc : c < 10) : wE G S a = .inr (c, (List.range (nF c)).map (slV G S a)) := by
  subst h
  simp [wE, hc]
theorem wE_arr {G : Gx} {S : St} {a c : Nat} (h : kd a = c) (hc : c = 10 ∨ c = 11 ∨ c = 13) : wE G S a = .inl (G.2.2 c, (ln a, .inl (S.2.1 a))) := by
  subst h
  rcases hc with h | h | h <;> simp [wE, h]
theorem wE_lng {G : Gx} {S : St} {a : Nat} (h : kd a = 12) : wE G S a = .inl (G.2.2 12, (ln a, .inr (.inl (S.2.2.1 a)))) := by simp [wE, h]
theorem wE_ref {G : Gx} {S : St} {a c : Nat} (h : kd a = c) (hc : c = 14 ∨ c = 15) : wE G S a = .inl (G.2.2 c, (ln a, .inr (.inr (.inr (.inr (fun k => (S.2.2.2 a k).map (fun b => G.1 + b))))))) := by
  subst h
  rcases hc with h | h <;> simp [wE, h]
theorem rng_set {n k : Nat} {f g : Nat → Value} {v : Value} (h : ∀ j, g j = if j = k then v else f j) : (List.range n).map g = ((List.range n).map f).set k v := by
  apply List.ext_getElem
  · simp
  · intro i h1 h2
    simp only [List.getElem_map, List.getElem_range, List.getElem_set, h]
    by_cases hi : i = k
    · simp [hi]
    · simp [hi, Ne.symm hi]
theorem one_P {D : va_G} {cl : List vw_C} {q : Nat × va_E} {H : Heap} (h : va_at D cl q H) : va_P D cl [q] H := by
  intro j p hj
  cases j with
  | zero => cases hj; exact h
  | succ j => simp at hj
theorem wRel_upd {G : Gx} {S S' : St} {H H1 : Heap} {a : Nat} (hr : wRel G S H) (h1 : S'.1 = S.1) (hne : ∀ b, b ≠ a → wE G S' b = wE G S b) (he : va_at G.2.1 vCl (G.1 + a, wE G S' a) H1) (hz : H1.size = H.size) (ho : ∀ q, q ≠ G.1 + a → H1[q]? = H[q]?) : wRel G S' H1 := by
  refine ⟨by rw [hz, h1]; exact hr.1, fun b hb => ?_⟩
  by_cases hba : b = a
  · subst hba; exact he
  · rw [hne b hba]
    exact (hr.2 b (h1 ▸ hb)).kept (ho _ (by show G.1 + b ≠ G.1 + a; omega))
theorem tyL_at {G : Gx} {k : Nat} (h : k < 6) : (tyL G)[k]? = some (G.2.2 (10 + k), aTy (10 + k)) := by simp [tyL, h]
section HEAP
variable {X : Cx} {G : Gx} {own : String} {cc : ByteArray} {nL n1 n2 : Nat} {ret : Option FieldType} {rm : Room} {Q : State → Prop} {pc : Nat} {lv lv' : List (Nat × Value)} {st : List Value} {S : St} {β : Type} {o : β}
theorem m_get0 {a c k idx : Nat} {v : Value} (C : Cok X G own cc nL ret rm) (hd : decode cc pc = .ok (.getfield idx, 3)) (lay : ∀ c, c < 10 → ∀ w ∈ u_ws (CN c) (CT c) (nF c), w ∈ wAll) (w : fOk own idx c k) (ha : a < S.1) (hk : kd a = c) (hv : slV G S a k = v)
    (kk : WM X G nL n1 n2 Q (pc + 3) lv (v :: st) S) : WM X G nL n1 n2 Q pc lv (.ref (G.1 + a) :: st) S := by
  intro H locs ls hl hr hs
  have hat := hr.2 a ha
  rw [wE_obj hk w.2.1] at hat
  exact va_get C.hx C.hb C.hts (lay c w.2.1) C.hown C.hK (one_P hat) 0 rfl (cl_get w.2.1) k w.2.2 (C.hts _ w.1) (fun x hx => by rw [cl_own c w.2.1 k w.2.2] at hx; exact hx) (v := v) (by simp [w.2.2, hv]) hd (kk H locs ls hl hr hs)
theorem m_put0 {a c k idx : Nat} {v : Value} {S' : St} {ty : FieldType} (C : Cok X G own cc nL ret rm) (hd : decode cc pc = .ok (.putfield idx, 3)) (lay : ∀ c, c < 10 → ∀ w ∈ u_ws (CN c) (CT c) (nF c), w ∈ wAll) (w : fOk own idx c k) (hfin : (CT c k).2.2.2 = false) (ha : a < S.1) (hk : kd a = c)
    (hty : CY c k = ty) (hn : narrow ty v = v) (hfit : fits ty v = true) (h1 : S'.1 = S.1) (hne : ∀ b, b ≠ a → wE G S' b = wE G S b) (hse : ∀ j, slV G S' a j = if j = k then v else slV G S a j)
    (kk : WM X G nL n1 n2 Q (pc + 3) lv st S') : WM X G nL n1 n2 Q pc lv (v :: .ref (G.1 + a) :: st) S := by
  intro H locs ls hl hr hs
  have hat := hr.2 a ha
  rw [wE_obj hk w.2.1] at hat
  have hap := va_apart (own := own) C.hts (lay c w.2.1) (CY c) (cl_ty c w.2.1) (cl_nm c w.2.1) C.hK (cl_get w.2.1)
  obtain ⟨r, h2, cell, q1, q2, q3, q4⟩ := id hat
  have hrr : r = (CN c, CT c, nF c) := Option.some.inj (h2.symm.trans (cl_get w.2.1))
  subst hrr
  obtain ⟨hS, hfc, kC, hkC, hkind⟩ := C.hK.1 c _ (cl_get w.2.1)
  obtain ⟨cf, kf, fi, f, hi, hsl⟩ := hS k w.2.2
  have hlay := C.hts _ (lay c w.2.1 _ (u_in_lay w.2.2))
  unfold u_lay at hlay
  rw [if_neg (by rw [hfin]; decide)] at hlay
  have hst := (u_facts hfc hkC (u_lays C.hts (lay c w.2.1) w.2.2) hi).1
  have hdty : parseFieldDescriptor (CT c k).2.2.1 = some ty := by rw [cl_ty c w.2.1 k w.2.2, hty]
  have h6 := u_store hfc hkC hkind hlay hi hdty hn hfit
  have hsame : (xs X).fieldFound? (CN c) (CT c k).2.1 (CT c k).2.2.1 = some (cf, kf, fi, f) := by
    have := hi
    rw [cl_own c w.2.1 k w.2.2] at this
    exact this
  refine W.putK C.hx C.hb (f := f) ⟨C.hown, C.hts _ w.1, ⟨_, _, _, hsame⟩, hst⟩ (by rw [q2]; exact h6) q1 q3 (by rw [hsl]; exact k2_hasslot (q4 k w.2.2)) rfl rfl hd fun H' e1 e2 e3 => ?_
  rw [hsl] at e1 ⊢
  refine kk H' _ ls hl (wRel_upd hr h1 hne ?_ e2 e3) (hs.put e2 e3 (Nat.le_add_right _ _))
  rw [wE_obj hk w.2.1, rng_set hse]
  exact ⟨_, cl_get w.2.1, t_OB.to (V := updV (vp_V ((List.range (nF c)).map (slV G S a))) k v) ⟨_, e1, q2, q3, t_set q4 hap w.2.2 v⟩ (fun j _ => vp_updV_set (by simpa using w.2.2) v j)⟩
end HEAP
