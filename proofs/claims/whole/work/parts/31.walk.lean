/-- TraceRingModel.copiesText(II)V -/
def f_X9_copiesText (S : St) (b0 : Nat) (p1 : Int32) (p2 : Int32) : Option St :=
  ck_ S b0 9 <| cV_ (f_X9_copies S b0 p1 p2) fun S1 =>
  lp_ (fun self2 (x2 : Int32 × St) =>
    if 400 ≤ x2.1 then
      rt_ x2.2
    else
      gR_ x2.2 b0 9 2 fun a3 =>
      lt_ (400 * p2 : Int32) fun v4 =>
      lt_ (v4 + x2.1 : Int32) fun v5 =>
      gR_ x2.2 b0 9 2 fun a6 =>
      lt_ (400 * p1 : Int32) fun v7 =>
      lt_ (v7 + x2.1 : Int32) fun v8 =>
      aI_ x2.2 a6 10 v8 fun v9 =>
      sB_ x2.2 a3 v5 v9 fun S10 =>
      lt_ (x2.1 + 1) fun v11 =>
      self2 (v11, S10)
  ) FU (0, S1)
set_option maxRecDepth 100000 in
set_option maxHeartbeats 4000000 in
theorem c_X9_copiesText (l : Launch) (G : Gx) (S : St) (b0 : Nat) (p1 : Int32) (p2 : Int32) (o : St) (h : f_X9_copiesText S b0 p1 p2 = some o) : Met l yX9_copiesText (Cond.code yX9_copiesText cX9_copiesText 4 none :: wAll) ({ frames := 1, cells := 0, slots := 0, locals := 23 } : Room) (va_Pc [.ref (G.1 + b0), .int p1, .int p2] (wPre G S)) (qV G o) 0 0 (wA G) := by
  refine m_start (by decide +kernel) (Nat.le_of_ble_eq_true rfl) (fun X C => ?_)
  unfold f_X9_copiesText at h
  show WM X G 4 0 0 (wQ X G (qV G o) 0 0) 0 [(0, .ref (G.1 + b0)), (1, .int p1), (2, .int p2)] [] S
  refine m_aload_n C (dOf DX9_copiesText 0 rfl) rfl 0 rfl ?_
  refine m_iload_n C (dOf DX9_copiesText 1 rfl) rfl 1 rfl ?_
  refine m_iload_n C (dOf DX9_copiesText 2 rfl) rfl 2 rfl ?_
  obtain ⟨hc, h⟩ := ck_spec h
  refine m_cV (st := []) h (fun o' ho H locs ls hl hr hs => ⟨_, m_runV C (dOf DX9_copiesText 3 rfl) km_X9_320 ky_X9_copies (by decide) ⟨rfl, rfl⟩ (c_X9_copies _ G _ _ _ _ o' ho) hc.1 hc.2 (by decide) rfl rfl rfl (Nat.le_of_ble_eq_true rfl) ⟨Nat.le_refl _, Nat.le_refl _⟩ hl hr hs⟩) (fun S1 h => ?_)
  refine m_iconst C (dOf DX9_copiesText 4 rfl) (v := 0) ki_0 ?_
  refine m_istore_n C (dOf DX9_copiesText 5 rfl) rfl (by decide) (lv' := [(3, .int 0), (0, .ref (G.1 + b0)), (1, .int p1), (2, .int p2)]) rfl ?_
  refine m_sub [1, 2, 3, 0] rfl (m_lp (J := fun (x2 : Int32 × St) => WM X G 4 0 0 (wQ X G (qV G o) 0 0) 8 [(0, .ref (G.1 + b0)), (1, .int p1), (2, .int p2), (3, .int x2.1)] [] x2.2) h (fun self2 hself2 x2 h => ?_))
  refine m_iload_n C (dOf DX9_copiesText 6 rfl) rfl 3 rfl ?_
  refine m_sipush C (dOf DX9_copiesText 7 rfl) (v := 400) ks_400 ?_
  refine m_icmpge C (dOf DX9_copiesText 8 rfl) (tgt := 45) rfl h (fun h => ?_) (fun h => ?_)
  · exact m_vret C rfl (dOf DX9_copiesText 27 rfl) h
  · refine m_aload_n C (dOf DX9_copiesText 9 rfl) rfl 0 rfl ?_
    refine m_gR C (dOf DX9_copiesText 10 rfl) kf_X9_13 fg_9_2 h (fun a3 h => ?_)
    refine m_sipush C (dOf DX9_copiesText 11 rfl) (v := 400) ks_400 ?_
    refine m_iload_n C (dOf DX9_copiesText 12 rfl) rfl 2 rfl ?_
    refine m_imul C (dOf DX9_copiesText 13 rfl) h (fun v4 h => ?_)
    refine m_iload_n C (dOf DX9_copiesText 14 rfl) rfl 3 rfl ?_
    refine m_iadd C (dOf DX9_copiesText 15 rfl) h (fun v5 h => ?_)
    refine m_aload_n C (dOf DX9_copiesText 16 rfl) rfl 0 rfl ?_
    refine m_gR C (dOf DX9_copiesText 17 rfl) kf_X9_13 fg_9_2 h (fun a6 h => ?_)
    refine m_sipush C (dOf DX9_copiesText 18 rfl) (v := 400) ks_400 ?_
    refine m_iload_n C (dOf DX9_copiesText 19 rfl) rfl 1 rfl ?_
    refine m_imul C (dOf DX9_copiesText 20 rfl) h (fun v7 h => ?_)
    refine m_iload_n C (dOf DX9_copiesText 21 rfl) rfl 3 rfl ?_
    refine m_iadd C (dOf DX9_copiesText 22 rfl) h (fun v8 h => ?_)
    refine m_aB C (dOf DX9_copiesText 23 rfl) h (fun v9 h => ?_)
    refine m_sB C (dOf DX9_copiesText 24 rfl) h (fun S10 h => ?_)
    refine m_iinc C (dOf DX9_copiesText 25 rfl) (w := 1) ki_1 3 rfl (by decide) h (fun v11 h => ⟨[(3, .int v11), (0, .ref (G.1 + b0)), (1, .int p1), (2, .int p2)], rfl, ?_⟩)
    refine m_goto C (dOf DX9_copiesText 26 rfl) (tgt := 8) rfl ?_
    exact m_sub [1, 2, 3, 0] rfl (hself2 _ h)
/-- TraceRingModel.image(I)Z -/
def f_X9_image (S : St) (b0 : Nat) (p1 : Int32) : Option (Int32 × St) :=
  pI_ S b0 9 0 0 fun S1 =>
  cP_ (f_X9_in S1 p1 0 2) fun v2 =>
  if v2 = 0 then
    rz_ 0 S1
  else
    lt_ (p1 + 1 : Int32) fun v3 =>
    ck_ S1 b0 9 <| cV_ (f_X9_copiesText S1 b0 0 v3) fun S4 =>
    gR_ S4 b0 9 3 fun a5 =>
    sZ_ S4 a5 p1 1 fun S6 =>
    rz_ 1 S6
set_option maxRecDepth 100000 in
set_option maxHeartbeats 4000000 in
theorem c_X9_image (l : Launch) (G : Gx) (S : St) (b0 : Nat) (p1 : Int32) (o : (Int32 × St)) (h : f_X9_image S b0 p1 = some o) : Met l yX9_image (Cond.code yX9_image cX9_image 2 (some (.boolean)) :: wAll) ({ frames := 2, cells := 0, slots := 0, locals := 46 } : Room) (va_Pc [.ref (G.1 + b0), .int p1] (wPre G S)) (qI G o) 0 0 (wA G) := by
  refine m_start (by decide +kernel) (Nat.le_of_ble_eq_true rfl) (fun X C => ?_)
  unfold f_X9_image at h
  show WM X G 2 0 0 (wQ X G (qI G o) 0 0) 0 [(0, .ref (G.1 + b0)), (1, .int p1)] [] S
  refine m_aload_n C (dOf DX9_image 0 rfl) rfl 0 rfl ?_
  refine m_iconst C (dOf DX9_image 1 rfl) (v := 0) ki_0 ?_
  refine m_pI C (dOf DX9_image 2 rfl) kf_X9_51 fp_9_0 h (fun S1 h => ?_)
  refine m_iload_n C (dOf DX9_image 3 rfl) rfl 1 rfl ?_
  refine m_iconst C (dOf DX9_image 4 rfl) (v := 0) ki_0 ?_
  refine m_iconst C (dOf DX9_image 5 rfl) (v := 2) ki_2 ?_
  refine m_cP (st := []) h (fun o' ho H locs ls hl hr hs => ⟨_, m_runS C (dOf DX9_image 6 rfl) km_X9_76 ks_X9_in rfl (by decide) ⟨rfl, rfl⟩ (c_X9_in _ G _ _ _ _ o' ho) rfl rfl (Nat.le_of_ble_eq_true rfl) ⟨Nat.le_refl _, Nat.le_refl _⟩ hl hr hs⟩) (fun v2 h => ?_)
  refine m_ifne C (dOf DX9_image 7 rfl) (tgt := 16) rfl h (fun h => ?_) (fun h => ?_)
  · refine m_aload_n C (dOf DX9_image 10 rfl) rfl 0 rfl ?_
    refine m_iconst C (dOf DX9_image 11 rfl) (v := 0) ki_0 ?_
    refine m_iload_n C (dOf DX9_image 12 rfl) rfl 1 rfl ?_
    refine m_iconst C (dOf DX9_image 13 rfl) (v := 1) ki_1 ?_
    refine m_iadd C (dOf DX9_image 14 rfl) h (fun v3 h => ?_)
    obtain ⟨hc, h⟩ := ck_spec h
    refine m_cV (st := []) h (fun o' ho H locs ls hl hr hs => ⟨_, m_runV C (dOf DX9_image 15 rfl) km_X9_326 ky_X9_copiesText (by decide) ⟨rfl, rfl⟩ (c_X9_copiesText _ G _ _ _ _ o' ho) hc.1 hc.2 (by decide) rfl rfl rfl (Nat.le_of_ble_eq_true rfl) ⟨Nat.le_refl _, Nat.le_refl _⟩ hl hr hs⟩) (fun S4 h => ?_)
    refine m_aload_n C (dOf DX9_image 16 rfl) rfl 0 rfl ?_
    refine m_gR C (dOf DX9_image 17 rfl) kf_X9_17 fg_9_3 h (fun a5 h => ?_)
    refine m_iload_n C (dOf DX9_image 18 rfl) rfl 1 rfl ?_
    refine m_iconst C (dOf DX9_image 19 rfl) (v := 1) ki_1 ?_
    refine m_sZ C (dOf DX9_image 20 rfl) h (fun S6 h => ?_)
    refine m_iconst C (dOf DX9_image 21 rfl) (v := 1) ki_1 ?_
    exact m_zret C rfl (dOf DX9_image 22 rfl) h
  · refine m_iconst C (dOf DX9_image 8 rfl) (v := 0) ki_0 ?_
    exact m_zret C rfl (dOf DX9_image 9 rfl) h
/-- TraceRingModel.again(I)Z -/
def f_X9_again (S : St) (b0 : Nat) (p1 : Int32) : Option (Int32 × St) :=
  pI_ S b0 9 0 0 fun S1 =>
  cP_ (f_X9_in S1 p1 0 2) fun v2 =>
  jn_ (fun (x3 : Unit) =>
    rz_ 0 S1
  ) fun j3 =>
  if v2 = 0 then
    j3 ()
  else
    gR_ S1 b0 9 3 fun a4 =>
    aI_ S1 a4 13 p1 fun v5 =>
    if v5 = 0 then
      j3 ()
    else
      lt_ (p1 + 1 : Int32) fun v6 =>
      ck_ S1 b0 9 <| cV_ (f_X9_copiesText S1 b0 v6 0) fun S7 =>
      rz_ 1 S7
set_option maxRecDepth 100000 in
set_option maxHeartbeats 4000000 in
theorem c_X9_again (l : Launch) (G : Gx) (S : St) (b0 : Nat) (p1 : Int32) (o : (Int32 × St)) (h : f_X9_again S b0 p1 = some o) : Met l yX9_again (Cond.code yX9_again cX9_again 2 (some (.boolean)) :: wAll) ({ frames := 2, cells := 0, slots := 0, locals := 46 } : Room) (va_Pc [.ref (G.1 + b0), .int p1] (wPre G S)) (qI G o) 0 0 (wA G) := by
  refine m_start (by decide +kernel) (Nat.le_of_ble_eq_true rfl) (fun X C => ?_)
  unfold f_X9_again at h
  show WM X G 2 0 0 (wQ X G (qI G o) 0 0) 0 [(0, .ref (G.1 + b0)), (1, .int p1)] [] S
  refine m_aload_n C (dOf DX9_again 0 rfl) rfl 0 rfl ?_
  refine m_iconst C (dOf DX9_again 1 rfl) (v := 0) ki_0 ?_
  refine m_pI C (dOf DX9_again 2 rfl) kf_X9_51 fp_9_0 h (fun S1 h => ?_)
  refine m_iload_n C (dOf DX9_again 3 rfl) rfl 1 rfl ?_
  refine m_iconst C (dOf DX9_again 4 rfl) (v := 0) ki_0 ?_
  refine m_iconst C (dOf DX9_again 5 rfl) (v := 2) ki_2 ?_
  refine m_cP (st := []) h (fun o' ho H locs ls hl hr hs => ⟨_, m_runS C (dOf DX9_again 6 rfl) km_X9_76 ks_X9_in rfl (by decide) ⟨rfl, rfl⟩ (c_X9_in _ G _ _ _ _ o' ho) rfl rfl (Nat.le_of_ble_eq_true rfl) ⟨Nat.le_refl _, Nat.le_refl _⟩ hl hr hs⟩) (fun v2 h => ?_)
  refine m_jn (J := fun (x3 : Unit) => WM X G 2 0 0 (wQ X G (qI G o) 0 0) 23 [] [] S1) h (fun x3 h => ?_) (fun j3 hj3 h => ?_)
  · refine m_iconst C (dOf DX9_again 13 rfl) (v := 0) ki_0 ?_
    exact m_zret C rfl (dOf DX9_again 14 rfl) h
  refine m_ifeq C (dOf DX9_again 7 rfl) (tgt := 23) rfl h (fun h => ?_) (fun h => ?_)
  · exact m_sub [] rfl (hj3 _ h)
  · refine m_aload_n C (dOf DX9_again 8 rfl) rfl 0 rfl ?_
    refine m_gR C (dOf DX9_again 9 rfl) kf_X9_17 fg_9_3 h (fun a4 h => ?_)
    refine m_iload_n C (dOf DX9_again 10 rfl) rfl 1 rfl ?_
    refine m_aZ C (dOf DX9_again 11 rfl) h (fun v5 h => ?_)
    refine m_ifne C (dOf DX9_again 12 rfl) (tgt := 25) rfl h (fun h => ?_) (fun h => ?_)
    · refine m_aload_n C (dOf DX9_again 15 rfl) rfl 0 rfl ?_
      refine m_iload_n C (dOf DX9_again 16 rfl) rfl 1 rfl ?_
      refine m_iconst C (dOf DX9_again 17 rfl) (v := 1) ki_1 ?_
      refine m_iadd C (dOf DX9_again 18 rfl) h (fun v6 h => ?_)
      refine m_iconst C (dOf DX9_again 19 rfl) (v := 0) ki_0 ?_
      obtain ⟨hc, h⟩ := ck_spec h
      refine m_cV (st := []) h (fun o' ho H locs ls hl hr hs => ⟨_, m_runV C (dOf DX9_again 20 rfl) km_X9_326 ky_X9_copiesText (by decide) ⟨rfl, rfl⟩ (c_X9_copiesText _ G _ _ _ _ o' ho) hc.1 hc.2 (by decide) rfl rfl rfl (Nat.le_of_ble_eq_true rfl) ⟨Nat.le_refl _, Nat.le_refl _⟩ hl hr hs⟩) (fun S7 h => ?_)
      refine m_iconst C (dOf DX9_again 21 rfl) (v := 1) ki_1 ?_
      exact m_zret C rfl (dOf DX9_again 22 rfl) h
    · exact m_sub [] rfl (hj3 _ h)
