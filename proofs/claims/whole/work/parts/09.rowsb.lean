/-! ROWS THAT READ AND WRITE, CALL AND RETURN -/
def rz_ (r : Int32) (S : St) : Option (Int32 × St) := if r = 0 ∨ r = 1 then some (r, S) else none
def cp_ {β : Type} (S : St) (a sp b dp : Nat) (n : Int32) (K : St → Option β) : Option β :=
  if ((a < S.1 ∧ kd a = 11) ∧ b < S.1 ∧ kd b = 11) ∧ ¬ n < 0 ∧ sp + n.toNatClampNeg ≤ ln a ∧ dp + n.toNatClampNeg ≤ ln b then K (S.1, fun c j => if c = b then va_cpy (S.2.1 a) (S.2.1 b) sp dp n.toNatClampNeg j else S.2.1 c j, S.2.2.1, S.2.2.2) else none
theorem narrow_int (x : Int32) : narrow .int (.int x) = .int x := rfl
theorem fits_int (x : Int32) : fits .int (.int x) = true := rfl
section ROWSB
variable {X : Cx} {G : Gx} {own : String} {cc : ByteArray} {nL n1 n2 : Nat} {ret : Option FieldType} {rm : Room} {Q : State → Prop} {pc : Nat} {lv lv' : List (Nat × Value)} {st : List Value} {S : St} {β : Type} {o : β}
theorem m_gI {a c k idx : Nat} (C : Cok X G own cc nL ret rm) (hd : decode cc pc = .ok (.getfield idx, 3)) (w : fOk own idx c k) (hs : sk c k ≠ 1 ∧ sk c k ≠ 2) {K : Int32 → Option β} (h : gI_ S a c k K = some o) (kk : ∀ v, K v = some o → WM X G nL n1 n2 Q (pc + 3) lv (.int v :: st) S) : WM X G nL n1 n2 Q pc lv (.ref (G.1 + a) :: st) S := by
  unfold gI_ at h
  split at h
  · next hc => exact m_get0 C hd cl_lay w hc.1 hc.2 (by rw [slV, hc.2, if_neg hs.2, if_neg hs.1]) (kk _ h)
  · cases h
theorem m_gJ {a c k idx : Nat} (C : Cok X G own cc nL ret rm) (hd : decode cc pc = .ok (.getfield idx, 3)) (w : fOk own idx c k) (hs : sk c k = 1) {K : Int64 → Option β} (h : gJ_ S a c k K = some o) (kk : ∀ v, K v = some o → WM X G nL n1 n2 Q (pc + 3) lv (.long v :: st) S) : WM X G nL n1 n2 Q pc lv (.ref (G.1 + a) :: st) S := by
  unfold gJ_ at h
  split at h
  · next hc => exact m_get0 C hd cl_lay w hc.1 hc.2 (by rw [slV, hc.2, hs, if_neg (by decide), if_pos rfl]) (kk _ h)
  · cases h
theorem m_gR {a c k idx : Nat} (C : Cok X G own cc nL ret rm) (hd : decode cc pc = .ok (.getfield idx, 3)) (w : fOk own idx c k) (hs : sk c k = 2) {K : Nat → Option β} (h : gR_ S a c k K = some o) (kk : ∀ v, K v = some o → WM X G nL n1 n2 Q (pc + 3) lv (.ref (G.1 + v) :: st) S) : WM X G nL n1 n2 Q pc lv (.ref (G.1 + a) :: st) S := by
  unfold gR_ at h
  split at h
  · next hc =>
    unfold nn_ at h
    split at h
    · cases h
    · next b hb => exact m_get0 C hd cl_lay w hc.1 hc.2 (by rw [slV, hc.2, if_pos hs, hb]; rfl) (kk _ h)
  · cases h
theorem m_pI {a c k idx : Nat} {x : Int32} (C : Cok X G own cc nL ret rm) (hd : decode cc pc = .ok (.putfield idx, 3)) (w : fOk own idx c k) (hs : sk c k = 0 ∧ (CT c k).2.2.2 = false) {K : St → Option β} (h : pI_ S a c k x K = some o) (kk : ∀ S' : St, K S' = some o → WM X G nL n1 n2 Q (pc + 3) lv st S') : WM X G nL n1 n2 Q pc lv (.int x :: .ref (G.1 + a) :: st) S := by
  unfold pI_ at h
  split at h
  · next hc =>
    refine m_put0 C hd cl_lay w hs.2 hc.1 hc.2 (cl_int c w.2.1 k w.2.2 hs.1) rfl rfl (S' := uI S a k x) rfl (fun b hb => wE_uI hb) (fun j => ?_) (kk _ h)
    by_cases hj : j = k
    · subst hj; simp [slV, hc.2, hs.1, uI]
    · simp [slV, hj, uI]
  · cases h
theorem m_pZ {a c k idx : Nat} {x : Int32} (C : Cok X G own cc nL ret rm) (hd : decode cc pc = .ok (.putfield idx, 3)) (w : fOk own idx c k) (hs : sk c k = 3 ∧ (CT c k).2.2.2 = false) {K : St → Option β} (h : pZ_ S a c k x K = some o) (kk : ∀ S' : St, K S' = some o → WM X G nL n1 n2 Q (pc + 3) lv st S') : WM X G nL n1 n2 Q pc lv (.int x :: .ref (G.1 + a) :: st) S := by
  unfold pZ_ at h
  split at h
  · next hc =>
    obtain ⟨hc, hx⟩ := hc
    refine m_put0 C hd cl_lay w hs.2 hc.1 hc.2 (cl_bool c w.2.1 k w.2.2 hs.1) (by rcases hx with rfl | rfl <;> decide) (by rcases hx with rfl | rfl <;> decide) (S' := uI S a k x) rfl (fun b hb => wE_uI hb) (fun j => ?_) (kk _ h)
    by_cases hj : j = k
    · subst hj; simp [slV, hc.2, hs.1, uI]
    · simp [slV, hj, uI]
  · cases h
theorem m_pJ {a c k idx : Nat} {x : Int64} (C : Cok X G own cc nL ret rm) (hd : decode cc pc = .ok (.putfield idx, 3)) (w : fOk own idx c k) (hs : sk c k = 1 ∧ (CT c k).2.2.2 = false) {K : St → Option β} (h : pJ_ S a c k x K = some o) (kk : ∀ S' : St, K S' = some o → WM X G nL n1 n2 Q (pc + 3) lv st S') : WM X G nL n1 n2 Q pc lv (.long x :: .ref (G.1 + a) :: st) S := by
  unfold pJ_ at h
  split at h
  · next hc =>
    refine m_put0 C hd cl_lay w hs.2 hc.1 hc.2 (cl_long c w.2.1 k w.2.2 hs.1) rfl rfl (S' := uJ S a k x) rfl (fun b hb => wE_uJ hb) (fun j => ?_) (kk _ h)
    by_cases hj : j = k
    · subst hj; simp [slV, hc.2, hs.1, uJ]
    · simp [slV, hj, uJ]
  · cases h
theorem ref_nar {ty : FieldType} (h : ty.isReference = true) (a : Nat) : narrow ty (.ref a) = .ref a ∧ fits ty (.ref a) = true := by
  cases ty <;> first | exact ⟨rfl, rfl⟩ | (simp [FieldType.isReference] at h)
theorem m_pR {a c k idx b : Nat} (C : Cok X G own cc nL ret rm) (hd : decode cc pc = .ok (.putfield idx, 3)) (w : fOk own idx c k) (hs : sk c k = 2 ∧ (CT c k).2.2.2 = false) {K : St → Option β} (h : pR_ S a c k (some b) K = some o) (kk : ∀ S' : St, K S' = some o → WM X G nL n1 n2 Q (pc + 3) lv st S') : WM X G nL n1 n2 Q pc lv (.ref (G.1 + b) :: .ref (G.1 + a) :: st) S := by
  unfold pR_ at h
  split at h
  · next hc =>
    have hr := ref_nar (cl_ref c w.2.1 k w.2.2 hs.1) (G.1 + b)
    refine m_put0 C hd cl_lay w hs.2 hc.1 hc.2 rfl hr.1 hr.2 (S' := uR S a k (some b)) rfl (fun b hb => wE_uR hb) (fun j => ?_) (kk _ h)
    by_cases hj : j = k
    · subst hj; simp [slV, hc.2, hs.1, uR, rfB, va_rf]
    · simp [slV, hj, uR]
  · cases h
/-! rows -/
theorem aI_at {a c : Nat} {H : Heap} (hr : wRel G S H) (ha : a < S.1) (hk : kd a = c) (hc : c = 10 ∨ c = 11 ∨ c = 13) : va_at G.2.1 vCl (G.1 + a, .inl (G.2.2 c, (ln a, .inl (S.2.1 a)))) H := by
  have h := hr.2 a ha
  rw [wE_arr hk hc] at h
  exact h
theorem m_aI {a : Nat} {i : Int32} (C : Cok X G own cc nL ret rm) (hd : decode cc pc = .ok (.iaload, 1)) {K : Int32 → Option β} (h : aI_ S a 11 i K = some o) (kk : ∀ v, K v = some o → WM X G nL n1 n2 Q (pc + 1) lv (.int v :: st) S) : WM X G nL n1 n2 Q pc lv (.int i :: .ref (G.1 + a) :: st) S := by
  unfold aI_ at h
  split at h
  · next hc =>
    intro H locs ls hl hr hs
    exact va_iald C.hx C.hb C.hK (one_P (aI_at hr hc.1.1 hc.1.2 (by decide))) 0 1 rfl (tyL_at (by decide)) hc.2 hd (kk _ h H locs ls hl hr hs)
  · cases h
theorem m_aB {a : Nat} {i : Int32} (C : Cok X G own cc nL ret rm) (hd : decode cc pc = .ok (.baload, 1)) {K : Int32 → Option β} (h : aI_ S a 10 i K = some o) (kk : ∀ v, K v = some o → WM X G nL n1 n2 Q (pc + 1) lv (.int v :: st) S) : WM X G nL n1 n2 Q pc lv (.int i :: .ref (G.1 + a) :: st) S := by
  unfold aI_ at h
  split at h
  · next hc =>
    intro H locs ls hl hr hs
    exact va_bald C.hx C.hb C.hK (one_P (aI_at hr hc.1.1 hc.1.2 (by decide))) 0 0 rfl (tyL_at (by decide)) hc.2 hd (kk _ h H locs ls hl hr hs)
  · cases h
theorem m_aZ {a : Nat} {i : Int32} (C : Cok X G own cc nL ret rm) (hd : decode cc pc = .ok (.baload, 1)) {K : Int32 → Option β} (h : aI_ S a 13 i K = some o) (kk : ∀ v, K v = some o → WM X G nL n1 n2 Q (pc + 1) lv (.int v :: st) S) : WM X G nL n1 n2 Q pc lv (.int i :: .ref (G.1 + a) :: st) S := by
  unfold aI_ at h
  split at h
  · next hc =>
    intro H locs ls hl hr hs
    exact va_zald C.hx C.hb C.hK (one_P (aI_at hr hc.1.1 hc.1.2 (by decide))) 0 3 rfl (tyL_at (by decide)) hc.2 hd (kk _ h H locs ls hl hr hs)
  · cases h
theorem m_aJ {a : Nat} {i : Int32} (C : Cok X G own cc nL ret rm) (hd : decode cc pc = .ok (.laload, 1)) {K : Int64 → Option β} (h : aJ_ S a i K = some o) (kk : ∀ v, K v = some o → WM X G nL n1 n2 Q (pc + 1) lv (.long v :: st) S) : WM X G nL n1 n2 Q pc lv (.int i :: .ref (G.1 + a) :: st) S := by
  unfold aJ_ at h
  split at h
  · next hc =>
    intro H locs ls hl hr hs
    have hat := hr.2 a hc.1.1
    rw [wE_lng hc.1.2] at hat
    exact va_lald C.hx C.hb C.hK (one_P hat) 0 2 rfl (tyL_at (by decide)) hc.2 hd (kk _ h H locs ls hl hr hs)
  · cases h
theorem m_aR {a c : Nat} {i : Int32} (C : Cok X G own cc nL ret rm) (hd : decode cc pc = .ok (.aaload, 1)) (hcc : c = 14 ∨ c = 15) {K : Nat → Option β} (h : aR_ S a c i K = some o) (kk : ∀ v, K v = some o → WM X G nL n1 n2 Q (pc + 1) lv (.ref (G.1 + v) :: st) S) : WM X G nL n1 n2 Q pc lv (.int i :: .ref (G.1 + a) :: st) S := by
  unfold aR_ at h
  split at h
  · next hc =>
    unfold nn_ at h
    split at h
    · cases h
    · next b hb =>
      intro H locs ls hl hr hs
      have hat := hr.2 a hc.1.1
      rw [wE_ref hc.1.2 hcc] at hat
      have e : va_rf ((S.2.2.2 a i.toNatClampNeg).map (fun b => G.1 + b)) = .ref (G.1 + b) := by rw [hb]; rfl
      have kk' := kk _ h H locs ls hl hr hs
      rw [← e] at kk'
      rcases hcc with rfl | rfl
      · exact va_aldq C.hx C.hb C.hK (one_P hat) 0 4 rfl (tyL_at (by decide)) hc.2 hd kk'
      · exact va_aldq C.hx C.hb C.hK (one_P hat) 0 5 rfl (tyL_at (by decide)) hc.2 hd kk'
  · cases h
theorem m_sI {a : Nat} {i x : Int32} (C : Cok X G own cc nL ret rm) (hd : decode cc pc = .ok (.iastore, 1)) {K : St → Option β} (h : sI_ S a i x K = some o) (kk : ∀ S' : St, K S' = some o → WM X G nL n1 n2 Q (pc + 1) lv st S') : WM X G nL n1 n2 Q pc lv (.int x :: .int i :: .ref (G.1 + a) :: st) S := by
  unfold sI_ at h
  split at h
  · next hc =>
    intro H locs ls hl hr hs
    have hat := aI_at hr hc.1.1 hc.1.2 (by decide)
    refine W.iast C.hx C.hb hat ((C.hK.2 1 _ (tyL_at (by decide))).1 (ln a) (fun j => .int (S.2.1 a j))) (fun q => by cases q) (by show ¬ (i < 0 ∨ (arrV _ _ _).slots.size ≤ _); rw [arrV_size]; exact hc.2) rfl rfl hd fun H1 e z oq => ?_
    refine kk _ h H1 _ ls hl (wRel_upd hr rfl (fun b hb => wE_uI hb) ?_ z oq) (hs.put z oq (Nat.le_add_right _ _))
    rw [wE_arr hc.1.2 (by decide)]
    show H1[G.1 + a]? = some (vp_cell _ _)
    rw [e, vp_cell_i, vp_cell_i, arrV_store]
    congr 2
    funext q
    by_cases hq : q = i.toNatClampNeg
    · subst hq; simp [updV, uI]
    · simp [updV, uI, hq]
  · cases h
theorem m_sB {a : Nat} {i x : Int32} (C : Cok X G own cc nL ret rm) (hd : decode cc pc = .ok (.bastore, 1)) {K : St → Option β} (h : sB_ S a i x K = some o) (kk : ∀ S' : St, K S' = some o → WM X G nL n1 n2 Q (pc + 1) lv st S') : WM X G nL n1 n2 Q pc lv (.int x :: .int i :: .ref (G.1 + a) :: st) S := by
  unfold sB_ at h
  split at h
  · next hc =>
    intro H locs ls hl hr hs
    have hat := aI_at hr hc.1.1 hc.1.2 (by decide)
    refine W.bast C.hx C.hb hat ((C.hK.2 0 _ (tyL_at (by decide))).1 (ln a) (fun j => .int (S.2.1 a j))) (fun q => by cases q) (by show ¬ (i < 0 ∨ (arrV _ _ _).slots.size ≤ _); rw [arrV_size]; exact hc.2) rfl rfl hd fun H1 e z oq => ?_
    refine kk _ h H1 _ ls hl (wRel_upd hr rfl (fun b hb => wE_uI hb) ?_ z oq) (hs.put z oq (Nat.le_add_right _ _))
    rw [wE_arr hc.1.2 (by decide)]
    show H1[G.1 + a]? = some (vp_cell _ _)
    rw [e, vp_cell_i, vp_cell_i, arrV_store]
    congr 2
    funext q
    by_cases hq : q = i.toNatClampNeg
    · subst hq; simp [updV, uI, vp_nar]; try rfl
    · simp [updV, uI, hq]
  · cases h
theorem m_sZ {a : Nat} {i x : Int32} (C : Cok X G own cc nL ret rm) (hd : decode cc pc = .ok (.bastore, 1)) {K : St → Option β} (h : sZ_ S a i x K = some o) (kk : ∀ S' : St, K S' = some o → WM X G nL n1 n2 Q (pc + 1) lv st S') : WM X G nL n1 n2 Q pc lv (.int x :: .int i :: .ref (G.1 + a) :: st) S := by
  unfold sZ_ at h
  split at h
  · next hc =>
    intro H locs ls hl hr hs
    have hat := aI_at hr hc.1.1 hc.1.2 (by decide)
    refine W.zast C.hx C.hb hat ((C.hK.2 3 _ (tyL_at (by decide))).1 (ln a) (fun j => .int (S.2.1 a j))) (fun q => by cases q) (by show ¬ (i < 0 ∨ (arrV _ _ _).slots.size ≤ _); rw [arrV_size]; exact hc.2) rfl rfl hd fun H1 e z oq => ?_
    refine kk _ h H1 _ ls hl (wRel_upd hr rfl (fun b hb => wE_uI hb) ?_ z oq) (hs.put z oq (Nat.le_add_right _ _))
    rw [wE_arr hc.1.2 (by decide)]
    show H1[G.1 + a]? = some (vp_cell _ _)
    rw [e, vp_cell_i, vp_cell_i, arrV_store]
    congr 2
    funext q
    by_cases hq : q = i.toNatClampNeg
    · subst hq; simp [updV, uI, vp_nar]; try rfl
    · simp [updV, uI, hq]
  · cases h
theorem m_sJ {a : Nat} {i : Int32} {x : Int64} (C : Cok X G own cc nL ret rm) (hd : decode cc pc = .ok (.lastore, 1)) {K : St → Option β} (h : sJ_ S a i x K = some o) (kk : ∀ S' : St, K S' = some o → WM X G nL n1 n2 Q (pc + 1) lv st S') : WM X G nL n1 n2 Q pc lv (.long x :: .int i :: .ref (G.1 + a) :: st) S := by
  unfold sJ_ at h
  split at h
  · next hc =>
    intro H locs ls hl hr hs
    have hat := hr.2 a hc.1.1
    rw [wE_lng hc.1.2] at hat
    refine W.last C.hx C.hb hat ((C.hK.2 2 _ (tyL_at (by decide))).1 (ln a) (fun j => .long (S.2.2.1 a j))) (fun q => by cases q) (by show ¬ (i < 0 ∨ (arrV _ _ _).slots.size ≤ _); rw [arrV_size]; exact hc.2) rfl rfl hd fun H1 e z oq => ?_
    refine kk _ h H1 _ ls hl (wRel_upd hr rfl (fun b hb => wE_uJ hb) ?_ z oq) (hs.put z oq (Nat.le_add_right _ _))
    rw [wE_lng hc.1.2]
    show H1[G.1 + a]? = some (vp_cell _ _)
    rw [e, vp_cell_l, vp_cell_l, arrV_store]
    congr 2
    funext q
    by_cases hq : q = i.toNatClampNeg
    · subst hq; simp [updV, uJ]
    · simp [updV, uJ, hq]
  · cases h
theorem m_sR {a c cb b : Nat} {i : Int32} (C : Cok X G own cc nL ret rm) (hd : decode cc pc = .ok (.aastore, 1)) (hcc : (c = 14 ∧ cb = 0) ∨ (c = 15 ∧ cb = 3)) {K : St → Option β} (h : sR_ S a c i b cb K = some o) (kk : ∀ S' : St, K S' = some o → WM X G nL n1 n2 Q (pc + 1) lv st S') : WM X G nL n1 n2 Q pc lv (.ref (G.1 + b) :: .int i :: .ref (G.1 + a) :: st) S := by
  unfold sR_ at h
  split at h
  · next hc =>
    obtain ⟨⟨⟨ha, hka⟩, hin⟩, hb, hkb⟩ := hc
    intro H locs ls hl hr hs
    have hcx : c = 14 ∨ c = 15 := by rcases hcc with ⟨e, -⟩ | ⟨e, -⟩ <;> simp [e]
    have hc10 : cb < 10 := by rcases hcc with ⟨-, e⟩ | ⟨-, e⟩ <;> simp [e]
    have hat := hr.2 a ha
    rw [wE_ref hka hcx] at hat
    have hbt := hr.2 b hb
    rw [wE_obj hkb hc10] at hbt
    obtain ⟨r', hr', cellV, g1, g2, g3, -⟩ := hbt
    have hrr : r' = (CN cb, CT cb, nF cb) := Option.some.inj (hr'.symm.trans (cl_get hc10))
    subst hrr
    have hcls := (C.hK.1 cb _ (cl_get hc10)).2
    have hkk : ∃ t0 : Nat, (tyL G)[t0]? = some (G.2.2 c, FieldType.object (CN cb)) := by
      rcases hcc with ⟨rfl, rfl⟩ | ⟨rfl, rfl⟩
      · exact ⟨4, tyL_at (by decide)⟩
      · exact ⟨5, tyL_at (by decide)⟩
    obtain ⟨t0, ht0⟩ := hkk
    obtain ⟨kA, comp, k1, k2, k3, -⟩ := (C.hK.2 t0 _ ht0).2
    have hcomp : comp = G.2.1.1 cb := Option.some.inj (k3.symm.trans hcls.1)
    subst hcomp
    obtain ⟨kC, hkC, -⟩ := hcls.2
    have hlt : i.toNatClampNeg < ln a := Nat.not_le.mp fun q => hin (Or.inr q)
    refine W.aast C.hx C.hb hat (fun q h => by cases h) (fun h => by cases h) k1 k2 rfl hkC ⟨fun q => hin (Or.inl q), by show _ < (arrV _ _ _).slots.size; rw [arrV_size]; exact hlt⟩ g1 (fun q h => by rw [g3] at h; cases h) (by rw [g2]; exact hkC) (by rw [g2]; exact va_assign hcls) rfl rfl hd fun H1 e z oq => ?_
    refine kk _ h H1 _ ls hl (wRel_upd hr rfl (fun b hb => wE_uR hb) ?_ z oq) (hs.put z oq (Nat.le_add_right _ _))
    rw [wE_ref hka hcx]
    show H1[G.1 + a]? = some (vp_cell _ _)
    rw [e, vp_cell_q, vp_cell_q, arrV_store]
    congr 2
    funext q
    by_cases hq : q = i.toNatClampNeg
    · subst hq; simp [updV, uR, va_rf]
    · simp [updV, uR, hq]
  · cases h
theorem m_al {a c : Nat} (C : Cok X G own cc nL ret rm) (hd : decode cc pc = .ok (.arraylength, 1)) (hcc : c = 10 ∨ c = 11 ∨ c = 13 ∨ c = 14 ∨ c = 15) {K : Int32 → Option β} (h : al_ S a c K = some o) (kk : ∀ v, K v = some o → WM X G nL n1 n2 Q (pc + 1) lv (.int v :: st) S) : WM X G nL n1 n2 Q pc lv (.ref (G.1 + a) :: st) S := by
  unfold al_ at h
  split at h
  · next hc =>
    intro H locs ls hl hr hs
    have hat := hr.2 a hc.1
    have k1 := kk _ h H locs ls hl hr hs
    rcases hcc with rfl | rfl | rfl | rfl | rfl
    · rw [wE_arr hc.2 (by decide)] at hat
      exact va_alen C.hx C.hb C.hK (one_P hat) 0 0 rfl (tyL_at (by decide)) rfl hd k1
    · rw [wE_arr hc.2 (by decide)] at hat
      exact va_alen C.hx C.hb C.hK (one_P hat) 0 1 rfl (tyL_at (by decide)) rfl hd k1
    · rw [wE_arr hc.2 (by decide)] at hat
      exact va_alen C.hx C.hb C.hK (one_P hat) 0 3 rfl (tyL_at (by decide)) rfl hd k1
    · rw [wE_ref hc.2 (by decide)] at hat
      exact va_alen C.hx C.hb C.hK (one_P hat) 0 4 rfl (tyL_at (by decide)) rfl hd k1
    · rw [wE_ref hc.2 (by decide)] at hat
      exact va_alen C.hx C.hb C.hK (one_P hat) 0 5 rfl (tyL_at (by decide)) rfl hd k1
  · cases h
end ROWSB
