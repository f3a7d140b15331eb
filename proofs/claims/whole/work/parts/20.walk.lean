/-- TraceRing$Latest.clear()V -/
def f_X1_clear (S : St) (b0 : Nat) : Option St :=
  pI_ S b0 1 1 0 fun S1 =>
  pI_ S1 b0 1 2 0 fun S2 =>
  pI_ S2 b0 1 3 0 fun S3 =>
  pI_ S3 b0 1 4 0 fun S4 =>
  pI_ S4 b0 1 5 0 fun S5 =>
  rt_ S5
set_option maxRecDepth 100000 in
set_option maxHeartbeats 4000000 in
theorem c_X1_clear (l : Launch) (G : Gx) (S : St) (b0 : Nat) (o : St) (h : f_X1_clear S b0 = some o) : Met l yX1_clear (Cond.code yX1_clear cX1_clear 1 none :: wAll) ({ frames := 0, cells := 0, slots := 0, locals := 0 } : Room) (va_Pc [.ref (G.1 + b0)] (wPre G S)) (qV G o) 0 0 (wA G) := by
  refine m_start (by decide +kernel) (Nat.le_of_ble_eq_true rfl) (fun X C => ?_)
  unfold f_X1_clear at h
  show WM X G 1 0 0 (wQ X G (qV G o) 0 0) 0 [(0, .ref (G.1 + b0))] [] S
  refine m_aload_n C (dOf DX1_clear 0 rfl) rfl 0 rfl ?_
  refine m_iconst C (dOf DX1_clear 1 rfl) (v := 0) ki_0 ?_
  refine m_pI C (dOf DX1_clear 2 rfl) kf_X1_15 fp_1_1 h (fun S1 h => ?_)
  refine m_aload_n C (dOf DX1_clear 3 rfl) rfl 0 rfl ?_
  refine m_iconst C (dOf DX1_clear 4 rfl) (v := 0) ki_0 ?_
  refine m_pI C (dOf DX1_clear 5 rfl) kf_X1_19 fp_1_2 h (fun S2 h => ?_)
  refine m_aload_n C (dOf DX1_clear 6 rfl) rfl 0 rfl ?_
  refine m_iconst C (dOf DX1_clear 7 rfl) (v := 0) ki_0 ?_
  refine m_pI C (dOf DX1_clear 8 rfl) kf_X1_22 fp_1_3 h (fun S3 h => ?_)
  refine m_aload_n C (dOf DX1_clear 9 rfl) rfl 0 rfl ?_
  refine m_iconst C (dOf DX1_clear 10 rfl) (v := 0) ki_0 ?_
  refine m_pI C (dOf DX1_clear 11 rfl) kf_X1_25 fp_1_4 h (fun S4 h => ?_)
  refine m_aload_n C (dOf DX1_clear 12 rfl) rfl 0 rfl ?_
  refine m_iconst C (dOf DX1_clear 13 rfl) (v := 0) ki_0 ?_
  refine m_pI C (dOf DX1_clear 14 rfl) kf_X1_28 fp_1_5 h (fun S5 h => ?_)
  exact m_vret C rfl (dOf DX1_clear 15 rfl) h
/-- TraceRing.copyRow([I[I)V -/
def f_X8_copyRow (S : St) (b0 : Nat) (b1 : Nat) : Option St :=
  al_ S b0 11 fun v1 =>
  al_ S b1 11 fun v2 =>
  lt_ (if v2 < v1 then v2 else v1) fun v3 =>
  cp_ S b0 0 b1 0 v3 fun S4 =>
  rt_ S4
set_option maxRecDepth 100000 in
set_option maxHeartbeats 4000000 in
theorem c_X8_copyRow (l : Launch) (G : Gx) (S : St) (b0 : Nat) (b1 : Nat) (o : St) (h : f_X8_copyRow S b0 b1 = some o) : Met l yX8_copyRow (Cond.code yX8_copyRow cX8_copyRow 2 none :: wAll) ({ frames := 1, cells := 0, slots := 0, locals := 80 } : Room) (va_Pc [.ref (G.1 + b0), .ref (G.1 + b1)] (wPre G S)) (qV G o) 0 0 (wA G) := by
  refine m_start (by decide +kernel) (Nat.le_of_ble_eq_true rfl) (fun X C => ?_)
  unfold f_X8_copyRow at h
  show WM X G 2 0 0 (wQ X G (qV G o) 0 0) 0 [(0, .ref (G.1 + b0)), (1, .ref (G.1 + b1))] [] S
  refine m_aload_n C (dOf DX8_copyRow 0 rfl) rfl 0 rfl ?_
  refine m_iconst C (dOf DX8_copyRow 1 rfl) (v := 0) ki_0 ?_
  refine m_aload_n C (dOf DX8_copyRow 2 rfl) rfl 1 rfl ?_
  refine m_iconst C (dOf DX8_copyRow 3 rfl) (v := 0) ki_0 ?_
  refine m_aload_n C (dOf DX8_copyRow 4 rfl) rfl 0 rfl ?_
  refine m_al C (dOf DX8_copyRow 5 rfl) (by decide) h (fun v1 h => ?_)
  refine m_aload_n C (dOf DX8_copyRow 6 rfl) rfl 1 rfl ?_
  refine m_al C (dOf DX8_copyRow 7 rfl) (by decide) h (fun v2 h => ?_)
  refine m_min C (dOf DX8_copyRow 8 rfl) km_X8_206 kw_min ⟨by decide, Nat.le_of_ble_eq_true rfl⟩ ⟨Nat.le_refl _, Nat.le_refl _⟩ h (fun v3 h => ?_)
  refine m_copy C (dOf DX8_copyRow 9 rfl) km_X8_211 kw_copy ⟨by decide, Nat.le_trans (Nat.add_le_add_left nfw_le _) (Nat.le_of_ble_eq_true rfl)⟩ (by decide) (by decide) h (fun S4 h => ?_)
  exact m_vret C rfl (dOf DX8_copyRow 10 rfl) h
/-- TraceRing$Latest.copyFrom(LTraceRing$Latest;)V -/
def f_X1_copyFrom (S : St) (b0 : Nat) (b1 : Nat) : Option St :=
  gR_ S b1 1 0 fun a1 =>
  gR_ S b0 1 0 fun a2 =>
  cV_ (f_X8_copyRow S a1 a2) fun S3 =>
  gI_ S3 b1 1 1 fun v4 =>
  pI_ S3 b0 1 1 v4 fun S5 =>
  gI_ S5 b1 1 2 fun v6 =>
  pI_ S5 b0 1 2 v6 fun S7 =>
  gI_ S7 b1 1 3 fun v8 =>
  pI_ S7 b0 1 3 v8 fun S9 =>
  gI_ S9 b1 1 4 fun v10 =>
  pI_ S9 b0 1 4 v10 fun S11 =>
  gI_ S11 b1 1 5 fun v12 =>
  pI_ S11 b0 1 5 v12 fun S13 =>
  rt_ S13
set_option maxRecDepth 100000 in
set_option maxHeartbeats 4000000 in
theorem c_X1_copyFrom (l : Launch) (G : Gx) (S : St) (b0 : Nat) (b1 : Nat) (o : St) (h : f_X1_copyFrom S b0 b1 = some o) : Met l yX1_copyFrom (Cond.code yX1_copyFrom cX1_copyFrom 2 none :: wAll) ({ frames := 2, cells := 0, slots := 0, locals := 101 } : Room) (va_Pc [.ref (G.1 + b0), .ref (G.1 + b1)] (wPre G S)) (qV G o) 0 0 (wA G) := by
  refine m_start (by decide +kernel) (Nat.le_of_ble_eq_true rfl) (fun X C => ?_)
  unfold f_X1_copyFrom at h
  show WM X G 2 0 0 (wQ X G (qV G o) 0 0) 0 [(0, .ref (G.1 + b0)), (1, .ref (G.1 + b1))] [] S
  refine m_aload_n C (dOf DX1_copyFrom 0 rfl) rfl 1 rfl ?_
  refine m_gR C (dOf DX1_copyFrom 1 rfl) kf_X1_9 fg_1_0 h (fun a1 h => ?_)
  refine m_aload_n C (dOf DX1_copyFrom 2 rfl) rfl 0 rfl ?_
  refine m_gR C (dOf DX1_copyFrom 3 rfl) kf_X1_9 fg_1_0 h (fun a2 h => ?_)
  refine m_cV (st := []) h (fun o' ho H locs ls hl hr hs => ⟨_, m_runSN C (dOf DX1_copyFrom 4 rfl) kn_X1_31 ks_X8_copyRow (by decide) ⟨rfl, rfl⟩ (c_X8_copyRow _ G _ _ _ o' ho) rfl rfl (Nat.le_of_ble_eq_true rfl) ⟨Nat.le_refl _, Nat.le_refl _⟩ hl hr hs⟩) (fun S3 h => ?_)
  refine m_aload_n C (dOf DX1_copyFrom 5 rfl) rfl 0 rfl ?_
  refine m_aload_n C (dOf DX1_copyFrom 6 rfl) rfl 1 rfl ?_
  refine m_gI C (dOf DX1_copyFrom 7 rfl) kf_X1_15 fg_1_1 h (fun v4 h => ?_)
  refine m_pI C (dOf DX1_copyFrom 8 rfl) kf_X1_15 fp_1_1 h (fun S5 h => ?_)
  refine m_aload_n C (dOf DX1_copyFrom 9 rfl) rfl 0 rfl ?_
  refine m_aload_n C (dOf DX1_copyFrom 10 rfl) rfl 1 rfl ?_
  refine m_gI C (dOf DX1_copyFrom 11 rfl) kf_X1_19 fg_1_2 h (fun v6 h => ?_)
  refine m_pI C (dOf DX1_copyFrom 12 rfl) kf_X1_19 fp_1_2 h (fun S7 h => ?_)
  refine m_aload_n C (dOf DX1_copyFrom 13 rfl) rfl 0 rfl ?_
  refine m_aload_n C (dOf DX1_copyFrom 14 rfl) rfl 1 rfl ?_
  refine m_gI C (dOf DX1_copyFrom 15 rfl) kf_X1_22 fg_1_3 h (fun v8 h => ?_)
  refine m_pI C (dOf DX1_copyFrom 16 rfl) kf_X1_22 fp_1_3 h (fun S9 h => ?_)
  refine m_aload_n C (dOf DX1_copyFrom 17 rfl) rfl 0 rfl ?_
  refine m_aload_n C (dOf DX1_copyFrom 18 rfl) rfl 1 rfl ?_
  refine m_gI C (dOf DX1_copyFrom 19 rfl) kf_X1_25 fg_1_4 h (fun v10 h => ?_)
  refine m_pI C (dOf DX1_copyFrom 20 rfl) kf_X1_25 fp_1_4 h (fun S11 h => ?_)
  refine m_aload_n C (dOf DX1_copyFrom 21 rfl) rfl 0 rfl ?_
  refine m_aload_n C (dOf DX1_copyFrom 22 rfl) rfl 1 rfl ?_
  refine m_gI C (dOf DX1_copyFrom 23 rfl) kf_X1_28 fg_1_5 h (fun v12 h => ?_)
  refine m_pI C (dOf DX1_copyFrom 24 rfl) kf_X1_28 fp_1_5 h (fun S13 h => ?_)
  exact m_vret C rfl (dOf DX1_copyFrom 25 rfl) h
/-- TraceRing.set([III)V -/
def f_X8_set (S : St) (b0 : Nat) (p1 : Int32) (p2 : Int32) : Option St :=
  jn_ (fun (x1 : St) =>
    rt_ x1
  ) fun j1 =>
  if p1 < 0 then
    j1 (S)
  else
    al_ S b0 11 fun v2 =>
    if v2 ≤ p1 then
      j1 (S)
    else
      sI_ S b0 p1 p2 fun S3 =>
      j1 (S3)
set_option maxRecDepth 100000 in
set_option maxHeartbeats 4000000 in
theorem c_X8_set (l : Launch) (G : Gx) (S : St) (b0 : Nat) (p1 : Int32) (p2 : Int32) (o : St) (h : f_X8_set S b0 p1 p2 = some o) : Met l yX8_set (Cond.code yX8_set cX8_set 3 none :: wAll) ({ frames := 0, cells := 0, slots := 0, locals := 0 } : Room) (va_Pc [.ref (G.1 + b0), .int p1, .int p2] (wPre G S)) (qV G o) 0 0 (wA G) := by
  refine m_start (by decide +kernel) (Nat.le_of_ble_eq_true rfl) (fun X C => ?_)
  unfold f_X8_set at h
  show WM X G 3 0 0 (wQ X G (qV G o) 0 0) 0 [(0, .ref (G.1 + b0)), (1, .int p1), (2, .int p2)] [] S
  refine m_iload_n C (dOf DX8_set 0 rfl) rfl 1 rfl ?_
  refine m_jn (J := fun (x1 : St) => WM X G 3 0 0 (wQ X G (qV G o) 0 0) 14 [] [] x1) h (fun x1 h => ?_) (fun j1 hj1 h => ?_)
  · exact m_vret C rfl (dOf DX8_set 10 rfl) h
  refine m_iflt C (dOf DX8_set 1 rfl) (tgt := 14) rfl h (fun h => ?_) (fun h => ?_)
  · exact m_sub [] rfl (hj1 _ h)
  · refine m_iload_n C (dOf DX8_set 2 rfl) rfl 1 rfl ?_
    refine m_aload_n C (dOf DX8_set 3 rfl) rfl 0 rfl ?_
    refine m_al C (dOf DX8_set 4 rfl) (by decide) h (fun v2 h => ?_)
    refine m_icmpge C (dOf DX8_set 5 rfl) (tgt := 14) rfl h (fun h => ?_) (fun h => ?_)
    · exact m_sub [] rfl (hj1 _ h)
    · refine m_aload_n C (dOf DX8_set 6 rfl) rfl 0 rfl ?_
      refine m_iload_n C (dOf DX8_set 7 rfl) rfl 1 rfl ?_
      refine m_iload_n C (dOf DX8_set 8 rfl) rfl 2 rfl ?_
      refine m_sI C (dOf DX8_set 9 rfl) h (fun S3 h => ?_)
      exact m_sub [] rfl (hj1 _ h)
/-- TraceRing$Latest.note(LTraceRing$Page;I)V -/
def f_X1_note (S : St) (b0 : Nat) (b1 : Nat) (p2 : Int32) : Option St :=
  gR_ S b1 3 1 fun a1 =>
  cP_ (f_X8_at S a1 p2) fun v2 =>
  gI_ S b0 1 1 fun v3 =>
  lt_ (v2 - v3 : Int32) fun v4 =>
  lt_ (v4 - 1 : Int32) fun v5 =>
  pI_ S b0 1 5 v5 fun S6 =>
  pI_ S6 b0 1 1 v2 fun S7 =>
  gR_ S7 b1 3 2 fun a8 =>
  cP_ (f_X8_at S7 a8 p2) fun v9 =>
  pI_ S7 b0 1 2 v9 fun S10 =>
  gR_ S10 b1 3 3 fun a11 =>
  cP_ (f_X8_at S10 a11 p2) fun v12 =>
  pI_ S10 b0 1 3 v12 fun S13 =>
  gR_ S13 b1 3 6 fun a14 =>
  cP_ (f_X8_at S13 a14 p2) fun v15 =>
  pI_ S13 b0 1 4 v15 fun S16 =>
  gR_ S16 b1 3 5 fun a17 =>
  cP_ (f_X8_at S16 a17 p2) fun v18 =>
  lt_ (v18 + 1 : Int32) fun v19 =>
  lp_ (fun self20 (x20 : Int32 × St) =>
    gI_ x20.2 b0 1 4 fun v21 =>
    if v21 ≤ x20.1 then
      rt_ x20.2
    else
      gR_ x20.2 b0 1 0 fun a22 =>
      gR_ x20.2 b1 3 0 fun a23 =>
      lt_ (v19 + x20.1 : Int32) fun v24 =>
      cP_ (f_X8_at x20.2 a23 v24) fun v25 =>
      cV_ (f_X8_set x20.2 a22 x20.1 v25) fun S26 =>
      lt_ (x20.1 + 1) fun v27 =>
      self20 (v27, S26)
  ) FU (0, S16)
set_option maxRecDepth 100000 in
set_option maxHeartbeats 4000000 in
theorem c_X1_note (l : Launch) (G : Gx) (S : St) (b0 : Nat) (b1 : Nat) (p2 : Int32) (o : St) (h : f_X1_note S b0 b1 p2 = some o) : Met l yX1_note (Cond.code yX1_note cX1_note 6 none :: wAll) ({ frames := 1, cells := 0, slots := 0, locals := 22 } : Room) (va_Pc [.ref (G.1 + b0), .ref (G.1 + b1), .int p2] (wPre G S)) (qV G o) 0 0 (wA G) := by
  refine m_start (by decide +kernel) (Nat.le_of_ble_eq_true rfl) (fun X C => ?_)
  unfold f_X1_note at h
  show WM X G 6 0 0 (wQ X G (qV G o) 0 0) 0 [(0, .ref (G.1 + b0)), (1, .ref (G.1 + b1)), (2, .int p2)] [] S
  refine m_aload_n C (dOf DX1_note 0 rfl) rfl 1 rfl ?_
  refine m_gR C (dOf DX1_note 1 rfl) kf_X1_35 fg_3_1 h (fun a1 h => ?_)
  refine m_iload_n C (dOf DX1_note 2 rfl) rfl 2 rfl ?_
  refine m_cP (st := []) h (fun o' ho H locs ls hl hr hs => ⟨_, m_runSN C (dOf DX1_note 3 rfl) kn_X1_39 ks_X8_at (by decide) ⟨rfl, rfl⟩ (c_X8_at _ G _ _ _ o' ho) rfl rfl (Nat.le_of_ble_eq_true rfl) ⟨Nat.le_refl _, Nat.le_refl _⟩ hl hr hs⟩) (fun v2 h => ?_)
  refine m_istore_n C (dOf DX1_note 4 rfl) rfl (by decide) (lv' := [(3, .int v2), (0, .ref (G.1 + b0)), (1, .ref (G.1 + b1)), (2, .int p2)]) rfl ?_
  refine m_aload_n C (dOf DX1_note 5 rfl) rfl 1 rfl ?_
  refine m_iload_n C (dOf DX1_note 6 rfl) rfl 0 rfl ?_
  refine m_aload_n C (dOf DX1_note 7 rfl) rfl 1 rfl ?_
  refine m_gI C (dOf DX1_note 8 rfl) kf_X1_15 fg_1_1 h (fun v3 h => ?_)
  refine m_isub C (dOf DX1_note 9 rfl) h (fun v4 h => ?_)
  refine m_iconst C (dOf DX1_note 10 rfl) (v := 1) ki_1 ?_
  refine m_isub C (dOf DX1_note 11 rfl) h (fun v5 h => ?_)
  refine m_pI C (dOf DX1_note 12 rfl) kf_X1_28 fp_1_5 h (fun S6 h => ?_)
  refine m_aload_n C (dOf DX1_note 13 rfl) rfl 1 rfl ?_
  refine m_iload_n C (dOf DX1_note 14 rfl) rfl 0 rfl ?_
  refine m_pI C (dOf DX1_note 15 rfl) kf_X1_15 fp_1_1 h (fun S7 h => ?_)
  refine m_aload_n C (dOf DX1_note 16 rfl) rfl 1 rfl ?_
  refine m_aload_n C (dOf DX1_note 17 rfl) rfl 2 rfl ?_
  refine m_gR C (dOf DX1_note 18 rfl) kf_X1_43 fg_3_2 h (fun a8 h => ?_)
  refine m_iload_n C (dOf DX1_note 19 rfl) rfl 3 rfl ?_
  refine m_cP (st := [.ref (G.1 + b0)]) h (fun o' ho H locs ls hl hr hs => ⟨_, m_runSN C (dOf DX1_note 20 rfl) kn_X1_39 ks_X8_at (by decide) ⟨rfl, rfl⟩ (c_X8_at _ G _ _ _ o' ho) rfl rfl (Nat.le_of_ble_eq_true rfl) ⟨Nat.le_refl _, Nat.le_refl _⟩ hl hr hs⟩) (fun v9 h => ?_)
  refine m_pI C (dOf DX1_note 21 rfl) kf_X1_19 fp_1_2 h (fun S10 h => ?_)
  refine m_aload_n C (dOf DX1_note 22 rfl) rfl 1 rfl ?_
  refine m_aload_n C (dOf DX1_note 23 rfl) rfl 2 rfl ?_
  refine m_gR C (dOf DX1_note 24 rfl) kf_X1_45 fg_3_3 h (fun a11 h => ?_)
  refine m_iload_n C (dOf DX1_note 25 rfl) rfl 3 rfl ?_
  refine m_cP (st := [.ref (G.1 + b0)]) h (fun o' ho H locs ls hl hr hs => ⟨_, m_runSN C (dOf DX1_note 26 rfl) kn_X1_39 ks_X8_at (by decide) ⟨rfl, rfl⟩ (c_X8_at _ G _ _ _ o' ho) rfl rfl (Nat.le_of_ble_eq_true rfl) ⟨Nat.le_refl _, Nat.le_refl _⟩ hl hr hs⟩) (fun v12 h => ?_)
  refine m_pI C (dOf DX1_note 27 rfl) kf_X1_22 fp_1_3 h (fun S13 h => ?_)
  refine m_aload_n C (dOf DX1_note 28 rfl) rfl 1 rfl ?_
  refine m_aload_n C (dOf DX1_note 29 rfl) rfl 2 rfl ?_
  refine m_gR C (dOf DX1_note 30 rfl) kf_X1_47 fg_3_6 h (fun a14 h => ?_)
  refine m_iload_n C (dOf DX1_note 31 rfl) rfl 3 rfl ?_
  refine m_cP (st := [.ref (G.1 + b0)]) h (fun o' ho H locs ls hl hr hs => ⟨_, m_runSN C (dOf DX1_note 32 rfl) kn_X1_39 ks_X8_at (by decide) ⟨rfl, rfl⟩ (c_X8_at _ G _ _ _ o' ho) rfl rfl (Nat.le_of_ble_eq_true rfl) ⟨Nat.le_refl _, Nat.le_refl _⟩ hl hr hs⟩) (fun v15 h => ?_)
  refine m_pI C (dOf DX1_note 33 rfl) kf_X1_25 fp_1_4 h (fun S16 h => ?_)
  refine m_aload_n C (dOf DX1_note 34 rfl) rfl 2 rfl ?_
  refine m_gR C (dOf DX1_note 35 rfl) kf_X1_49 fg_3_5 h (fun a17 h => ?_)
  refine m_iload_n C (dOf DX1_note 36 rfl) rfl 3 rfl ?_
  refine m_cP (st := []) h (fun o' ho H locs ls hl hr hs => ⟨_, m_runSN C (dOf DX1_note 37 rfl) kn_X1_39 ks_X8_at (by decide) ⟨rfl, rfl⟩ (c_X8_at _ G _ _ _ o' ho) rfl rfl (Nat.le_of_ble_eq_true rfl) ⟨Nat.le_refl _, Nat.le_refl _⟩ hl hr hs⟩) (fun v18 h => ?_)
  refine m_iconst C (dOf DX1_note 38 rfl) (v := 1) ki_1 ?_
  refine m_iadd C (dOf DX1_note 39 rfl) h (fun v19 h => ?_)
  refine m_istore C (dOf DX1_note 40 rfl) (by decide) (lv' := [(4, .int v19), (3, .int v2), (0, .ref (G.1 + b0)), (1, .ref (G.1 + b1)), (2, .int p2)]) rfl ?_
  refine m_iconst C (dOf DX1_note 41 rfl) (v := 0) ki_0 ?_
  refine m_istore C (dOf DX1_note 42 rfl) (by decide) (lv' := [(5, .int 0), (4, .int v19), (3, .int v2), (0, .ref (G.1 + b0)), (1, .ref (G.1 + b1)), (2, .int p2)]) rfl ?_
  refine m_sub [3, 4, 1, 0] rfl (m_lp (J := fun (x20 : Int32 × St) => WM X G 6 0 0 (wQ X G (qV G o) 0 0) 77 [(0, .ref (G.1 + b0)), (1, .ref (G.1 + b1)), (4, .int v19), (5, .int x20.1)] [] x20.2) h (fun self20 hself20 x20 h => ?_))
  refine m_iload C (dOf DX1_note 43 rfl) 3 rfl ?_
  refine m_aload_n C (dOf DX1_note 44 rfl) rfl 0 rfl ?_
  refine m_gI C (dOf DX1_note 45 rfl) kf_X1_25 fg_1_4 h (fun v21 h => ?_)
  refine m_icmpge C (dOf DX1_note 46 rfl) (tgt := 113) rfl h (fun h => ?_) (fun h => ?_)
  · exact m_vret C rfl (dOf DX1_note 59 rfl) h
  · refine m_aload_n C (dOf DX1_note 47 rfl) rfl 0 rfl ?_
    refine m_gR C (dOf DX1_note 48 rfl) kf_X1_9 fg_1_0 h (fun a22 h => ?_)
    refine m_iload C (dOf DX1_note 49 rfl) 3 rfl ?_
    refine m_aload_n C (dOf DX1_note 50 rfl) rfl 1 rfl ?_
    refine m_gR C (dOf DX1_note 51 rfl) kf_X1_52 fg_3_0 h (fun a23 h => ?_)
    refine m_iload C (dOf DX1_note 52 rfl) 2 rfl ?_
    refine m_iload C (dOf DX1_note 53 rfl) 3 rfl ?_
    refine m_iadd C (dOf DX1_note 54 rfl) h (fun v24 h => ?_)
    refine m_cP (st := [.int x20.1, .ref (G.1 + a22)]) h (fun o' ho H locs ls hl hr hs => ⟨_, m_runSN C (dOf DX1_note 55 rfl) kn_X1_39 ks_X8_at (by decide) ⟨rfl, rfl⟩ (c_X8_at _ G _ _ _ o' ho) rfl rfl (Nat.le_of_ble_eq_true rfl) ⟨Nat.le_refl _, Nat.le_refl _⟩ hl hr hs⟩) (fun v25 h => ?_)
    refine m_cV (st := []) h (fun o' ho H locs ls hl hr hs => ⟨_, m_runSN C (dOf DX1_note 56 rfl) kn_X1_55 ks_X8_set (by decide) ⟨rfl, rfl⟩ (c_X8_set _ G _ _ _ _ o' ho) rfl rfl (Nat.le_of_ble_eq_true rfl) ⟨Nat.le_refl _, Nat.le_refl _⟩ hl hr hs⟩) (fun S26 h => ?_)
    refine m_iinc C (dOf DX1_note 57 rfl) (w := 1) ki_1 3 rfl (by decide) h (fun v27 h => ⟨[(5, .int v27), (0, .ref (G.1 + b0)), (1, .ref (G.1 + b1)), (4, .int v19)], rfl, ?_⟩)
    refine m_goto C (dOf DX1_note 58 rfl) (tgt := 77) rfl ?_
    exact m_sub [1, 2, 3, 0] rfl (hself20 _ h)
/-- TraceRing$Latest.figure(I)I -/
def f_X1_figure (S : St) (b0 : Nat) (p1 : Int32) : Option Int32 :=
  gI_ S b0 1 1 fun v1 =>
  if v1 = 0 then
    rt_ (-2)
  else
    jn_ (fun (x2 : Unit) =>
      if p1 = 0 then
        gI_ S b0 1 1 fun v3 =>
        rt_ v3
      else
      if p1 = 1 then
        gI_ S b0 1 2 fun v4 =>
        rt_ v4
      else
      if p1 = 2 then
        gI_ S b0 1 3 fun v5 =>
        rt_ v5
      else
      if p1 = 3 then
        gI_ S b0 1 4 fun v6 =>
        rt_ v6
      else
      if p1 = 4 then
        gI_ S b0 1 5 fun v7 =>
        rt_ v7
      else
      rt_ (-2)
    ) fun j2 =>
    if p1 < 10 then
      j2 ()
    else
      lt_ (p1 - 10 : Int32) fun v8 =>
      gI_ S b0 1 4 fun v9 =>
      if v9 ≤ v8 then
        j2 ()
      else
        gR_ S b0 1 0 fun a10 =>
        lt_ (p1 - 10 : Int32) fun v11 =>
        cP_ (f_X8_at S a10 v11) fun v12 =>
        rt_ v12
set_option maxRecDepth 100000 in
set_option maxHeartbeats 4000000 in
theorem c_X1_figure (l : Launch) (G : Gx) (S : St) (b0 : Nat) (p1 : Int32) (o : Int32) (h : f_X1_figure S b0 p1 = some o) : Met l yX1_figure (Cond.code yX1_figure cX1_figure 2 (some (.int)) :: wAll) ({ frames := 1, cells := 0, slots := 0, locals := 21 } : Room) (va_Pc [.ref (G.1 + b0), .int p1] (wPre G S)) (qI G (o, S)) 0 0 (wA G) := by
  refine m_start (by decide +kernel) (Nat.le_of_ble_eq_true rfl) (fun X C => ?_)
  unfold f_X1_figure at h
  show WM X G 2 0 0 (wQ X G (qI G (o, S)) 0 0) 0 [(0, .ref (G.1 + b0)), (1, .int p1)] [] S
  refine m_aload_n C (dOf DX1_figure 0 rfl) rfl 0 rfl ?_
  refine m_gI C (dOf DX1_figure 1 rfl) kf_X1_15 fg_1_1 h (fun v1 h => ?_)
  refine m_ifne C (dOf DX1_figure 2 rfl) (tgt := 10) rfl h (fun h => ?_) (fun h => ?_)
  · refine m_iload_n C (dOf DX1_figure 5 rfl) rfl 1 rfl ?_
    refine m_bipush C (dOf DX1_figure 6 rfl) (v := 10) kb_10 ?_
    refine m_jn (J := fun (x2 : Unit) => WM X G 2 0 0 (wQ X G (qI G (o, S)) 0 0) 39 [(0, .ref (G.1 + b0)), (1, .int p1)] [] S) h (fun x2 h => ?_) (fun j2 hj2 h => ?_)
    · refine m_iload_n C (dOf DX1_figure 21 rfl) rfl 1 rfl ?_
      refine m_sw h (fun e h => ?_) (fun n0 h => ?_)
      · refine m_tin C (dOf DX1_figure 22 rfl) 0 e (by decide) (by decide) (off := 36) rfl (tgt := 76) rfl ?_
        refine m_aload_n C (dOf DX1_figure 23 rfl) rfl 0 rfl ?_
        refine m_gI C (dOf DX1_figure 24 rfl) kf_X1_15 fg_1_1 h (fun v3 h => ?_)
        exact m_iretP C rfl (dOf DX1_figure 25 rfl) h
      refine m_sw h (fun e h => ?_) (fun n1 h => ?_)
      · refine m_tin C (dOf DX1_figure 22 rfl) 1 e (by decide) (by decide) (off := 41) rfl (tgt := 81) rfl ?_
        refine m_aload_n C (dOf DX1_figure 26 rfl) rfl 0 rfl ?_
        refine m_gI C (dOf DX1_figure 27 rfl) kf_X1_19 fg_1_2 h (fun v4 h => ?_)
        exact m_iretP C rfl (dOf DX1_figure 28 rfl) h
      refine m_sw h (fun e h => ?_) (fun n2 h => ?_)
      · refine m_tin C (dOf DX1_figure 22 rfl) 2 e (by decide) (by decide) (off := 46) rfl (tgt := 86) rfl ?_
        refine m_aload_n C (dOf DX1_figure 29 rfl) rfl 0 rfl ?_
        refine m_gI C (dOf DX1_figure 30 rfl) kf_X1_22 fg_1_3 h (fun v5 h => ?_)
        exact m_iretP C rfl (dOf DX1_figure 31 rfl) h
      refine m_sw h (fun e h => ?_) (fun n3 h => ?_)
      · refine m_tin C (dOf DX1_figure 22 rfl) 3 e (by decide) (by decide) (off := 51) rfl (tgt := 91) rfl ?_
        refine m_aload_n C (dOf DX1_figure 32 rfl) rfl 0 rfl ?_
        refine m_gI C (dOf DX1_figure 33 rfl) kf_X1_25 fg_1_4 h (fun v6 h => ?_)
        exact m_iretP C rfl (dOf DX1_figure 34 rfl) h
      refine m_sw h (fun e h => ?_) (fun n4 h => ?_)
      · refine m_tin C (dOf DX1_figure 22 rfl) 4 e (by decide) (by decide) (off := 56) rfl (tgt := 96) rfl ?_
        refine m_aload_n C (dOf DX1_figure 35 rfl) rfl 0 rfl ?_
        refine m_gI C (dOf DX1_figure 36 rfl) kf_X1_28 fg_1_5 h (fun v7 h => ?_)
        exact m_iretP C rfl (dOf DX1_figure 37 rfl) h
      have qn0 := neT n0 kt_0
      have qn1 := neT n1 kt_1
      have qn2 := neT n2 kt_2
      have qn3 := neT n3 kt_3
      have qn4 := neT n4 kt_4
      refine m_tout C (dOf DX1_figure 22 rfl) (tgt := 101) (by omega) rfl ?_
      refine m_bipush C (dOf DX1_figure 38 rfl) (v := (-2)) kb_m2 ?_
      exact m_iretP C rfl (dOf DX1_figure 39 rfl) h
    refine m_icmplt C (dOf DX1_figure 7 rfl) (tgt := 39) rfl h (fun h => ?_) (fun h => ?_)
    · exact m_sub [0, 1] rfl (hj2 _ h)
    · refine m_iload_n C (dOf DX1_figure 8 rfl) rfl 1 rfl ?_
      refine m_bipush C (dOf DX1_figure 9 rfl) (v := 10) kb_10 ?_
      refine m_isub C (dOf DX1_figure 10 rfl) h (fun v8 h => ?_)
      refine m_aload_n C (dOf DX1_figure 11 rfl) rfl 0 rfl ?_
      refine m_gI C (dOf DX1_figure 12 rfl) kf_X1_25 fg_1_4 h (fun v9 h => ?_)
      refine m_icmpge C (dOf DX1_figure 13 rfl) (tgt := 39) rfl h (fun h => ?_) (fun h => ?_)
      · exact m_sub [0, 1] rfl (hj2 _ h)
      · refine m_aload_n C (dOf DX1_figure 14 rfl) rfl 0 rfl ?_
        refine m_gR C (dOf DX1_figure 15 rfl) kf_X1_9 fg_1_0 h (fun a10 h => ?_)
        refine m_iload_n C (dOf DX1_figure 16 rfl) rfl 1 rfl ?_
        refine m_bipush C (dOf DX1_figure 17 rfl) (v := 10) kb_10 ?_
        refine m_isub C (dOf DX1_figure 18 rfl) h (fun v11 h => ?_)
        refine m_cP (st := []) h (fun o' ho H locs ls hl hr hs => ⟨_, m_runSN C (dOf DX1_figure 19 rfl) kn_X1_39 ks_X8_at (by decide) ⟨rfl, rfl⟩ (c_X8_at _ G _ _ _ o' ho) rfl rfl (Nat.le_of_ble_eq_true rfl) ⟨Nat.le_refl _, Nat.le_refl _⟩ hl hr hs⟩) (fun v12 h => ?_)
        exact m_iretP C rfl (dOf DX1_figure 20 rfl) h
  · refine m_bipush C (dOf DX1_figure 3 rfl) (v := (-2)) kb_m2 ?_
    exact m_iretP C rfl (dOf DX1_figure 4 rfl) h
/-- TraceRing$Text.blame(II)V -/
def f_X6_blame (S : St) (b0 : Nat) (p1 : Int32) (p2 : Int32) : Option St :=
  pI_ S b0 6 2 p1 fun S1 =>
  pI_ S1 b0 6 3 p2 fun S2 =>
  rt_ S2
set_option maxRecDepth 100000 in
set_option maxHeartbeats 4000000 in
theorem c_X6_blame (l : Launch) (G : Gx) (S : St) (b0 : Nat) (p1 : Int32) (p2 : Int32) (o : St) (h : f_X6_blame S b0 p1 p2 = some o) : Met l yX6_blame (Cond.code yX6_blame cX6_blame 3 none :: wAll) ({ frames := 0, cells := 0, slots := 0, locals := 0 } : Room) (va_Pc [.ref (G.1 + b0), .int p1, .int p2] (wPre G S)) (qV G o) 0 0 (wA G) := by
  refine m_start (by decide +kernel) (Nat.le_of_ble_eq_true rfl) (fun X C => ?_)
  unfold f_X6_blame at h
  show WM X G 3 0 0 (wQ X G (qV G o) 0 0) 0 [(0, .ref (G.1 + b0)), (1, .int p1), (2, .int p2)] [] S
  refine m_aload_n C (dOf DX6_blame 0 rfl) rfl 0 rfl ?_
  refine m_iload_n C (dOf DX6_blame 1 rfl) rfl 1 rfl ?_
  refine m_pI C (dOf DX6_blame 2 rfl) kf_X6_15 fp_6_2 h (fun S1 h => ?_)
  refine m_aload_n C (dOf DX6_blame 3 rfl) rfl 0 rfl ?_
  refine m_iload_n C (dOf DX6_blame 4 rfl) rfl 2 rfl ?_
  refine m_pI C (dOf DX6_blame 5 rfl) kf_X6_19 fp_6_3 h (fun S2 h => ?_)
  exact m_vret C rfl (dOf DX6_blame 6 rfl) h
/-- TraceRing$Text.isBlank(I)Z -/
def f_X6_isBlank (S : St) (b0 : Nat) (p1 : Int32) : Option Int32 :=
  jn_ (fun (x1 : Int32) =>
    rzP_ x1
  ) fun j1 =>
  jn_ (fun (x2 : Unit) =>
    j1 (1)
  ) fun j2 =>
  if p1 = 32 then
    j2 ()
  else
    if p1 = 10 then
      j2 ()
    else
      j1 (0)
set_option maxRecDepth 100000 in
set_option maxHeartbeats 4000000 in
theorem c_X6_isBlank (l : Launch) (G : Gx) (S : St) (b0 : Nat) (p1 : Int32) (o : Int32) (h : f_X6_isBlank S b0 p1 = some o) : Met l yX6_isBlank (Cond.code yX6_isBlank cX6_isBlank 2 (some (.boolean)) :: wAll) ({ frames := 0, cells := 0, slots := 0, locals := 0 } : Room) (va_Pc [.ref (G.1 + b0), .int p1] (wPre G S)) (qI G (o, S)) 0 0 (wA G) := by
  refine m_start (by decide +kernel) (Nat.le_of_ble_eq_true rfl) (fun X C => ?_)
  unfold f_X6_isBlank at h
  show WM X G 2 0 0 (wQ X G (qI G (o, S)) 0 0) 0 [(0, .ref (G.1 + b0)), (1, .int p1)] [] S
  refine m_iload_n C (dOf DX6_isBlank 0 rfl) rfl 1 rfl ?_
  refine m_bipush C (dOf DX6_isBlank 1 rfl) (v := 32) kb_32 ?_
  refine m_jn (J := fun (x1 : Int32) => WM X G 2 0 0 (wQ X G (qI G (o, S)) 0 0) 17 [] [.int x1] S) h (fun x1 h => ?_) (fun j1 hj1 h => ?_)
  · exact m_zretP C rfl (dOf DX6_isBlank 9 rfl) h
  refine m_jn (J := fun (x2 : Unit) => WM X G 2 0 0 (wQ X G (qI G (o, S)) 0 0) 12 [] [] S) h (fun x2 h => ?_) (fun j2 hj2 h => ?_)
  · refine m_iconst C (dOf DX6_isBlank 6 rfl) (v := 1) ki_1 ?_
    refine m_goto C (dOf DX6_isBlank 7 rfl) (tgt := 17) rfl ?_
    exact m_sub [] rfl (hj1 _ h)
  refine m_icmpeq C (dOf DX6_isBlank 2 rfl) (tgt := 12) rfl h (fun h => ?_) (fun h => ?_)
  · exact m_sub [] rfl (hj2 _ h)
  · refine m_iload_n C (dOf DX6_isBlank 3 rfl) rfl 1 rfl ?_
    refine m_bipush C (dOf DX6_isBlank 4 rfl) (v := 10) kb_10 ?_
    refine m_icmpne C (dOf DX6_isBlank 5 rfl) (tgt := 16) rfl h (fun h => ?_) (fun h => ?_)
    · refine m_iconst C (dOf DX6_isBlank 8 rfl) (v := 0) ki_0 ?_
      exact m_sub [] rfl (hj1 _ h)
    · exact m_sub [] rfl (hj2 _ h)
/-- TraceRing$Text.isLetter(I)Z -/
def f_X6_isLetter (S : St) (b0 : Nat) (p1 : Int32) : Option Int32 :=
  jn_ (fun (x1 : Int32) =>
    rzP_ x1
  ) fun j1 =>
  jn_ (fun (x2 : Unit) =>
    j1 (0)
  ) fun j2 =>
  if p1 < 97 then
    j2 ()
  else
    if 122 < p1 then
      j2 ()
    else
      j1 (1)
set_option maxRecDepth 100000 in
set_option maxHeartbeats 4000000 in
theorem c_X6_isLetter (l : Launch) (G : Gx) (S : St) (b0 : Nat) (p1 : Int32) (o : Int32) (h : f_X6_isLetter S b0 p1 = some o) : Met l yX6_isLetter (Cond.code yX6_isLetter cX6_isLetter 2 (some (.boolean)) :: wAll) ({ frames := 0, cells := 0, slots := 0, locals := 0 } : Room) (va_Pc [.ref (G.1 + b0), .int p1] (wPre G S)) (qI G (o, S)) 0 0 (wA G) := by
  refine m_start (by decide +kernel) (Nat.le_of_ble_eq_true rfl) (fun X C => ?_)
  unfold f_X6_isLetter at h
  show WM X G 2 0 0 (wQ X G (qI G (o, S)) 0 0) 0 [(0, .ref (G.1 + b0)), (1, .int p1)] [] S
  refine m_iload_n C (dOf DX6_isLetter 0 rfl) rfl 1 rfl ?_
  refine m_bipush C (dOf DX6_isLetter 1 rfl) (v := 97) kb_97 ?_
  refine m_jn (J := fun (x1 : Int32) => WM X G 2 0 0 (wQ X G (qI G (o, S)) 0 0) 17 [] [.int x1] S) h (fun x1 h => ?_) (fun j1 hj1 h => ?_)
  · exact m_zretP C rfl (dOf DX6_isLetter 9 rfl) h
  refine m_jn (J := fun (x2 : Unit) => WM X G 2 0 0 (wQ X G (qI G (o, S)) 0 0) 16 [] [] S) h (fun x2 h => ?_) (fun j2 hj2 h => ?_)
  · refine m_iconst C (dOf DX6_isLetter 8 rfl) (v := 0) ki_0 ?_
    exact m_sub [] rfl (hj1 _ h)
  refine m_icmplt C (dOf DX6_isLetter 2 rfl) (tgt := 16) rfl h (fun h => ?_) (fun h => ?_)
  · exact m_sub [] rfl (hj2 _ h)
  · refine m_iload_n C (dOf DX6_isLetter 3 rfl) rfl 1 rfl ?_
    refine m_bipush C (dOf DX6_isLetter 4 rfl) (v := 122) kb_122 ?_
    refine m_icmpgt C (dOf DX6_isLetter 5 rfl) (tgt := 16) rfl h (fun h => ?_) (fun h => ?_)
    · exact m_sub [] rfl (hj2 _ h)
    · refine m_iconst C (dOf DX6_isLetter 6 rfl) (v := 1) ki_1 ?_
      refine m_goto C (dOf DX6_isLetter 7 rfl) (tgt := 17) rfl ?_
      exact m_sub [] rfl (hj1 _ h)
/-- TraceRing$Text.passWord()V -/
def f_X6_passWord (S : St) (b0 : Nat) : Option St :=
  lp_ (fun self1 (x1 : St) =>
    gI_ x1 b0 6 7 fun v2 =>
    gI_ x1 b0 6 1 fun v3 =>
    jn_ (fun (x4 : Unit) =>
      pI_ x1 b0 6 4 1 fun S5 =>
      rt_ S5
    ) fun j4 =>
    if v3 ≤ v2 then
      j4 ()
    else
      gI_ x1 b0 6 7 fun v6 =>
      ck_ x1 b0 6 <| cP_ (f_X6_byteAt x1 b0 v6) fun v7 =>
      ck_ x1 b0 6 <| cP_ (f_X6_isLetter x1 b0 v7) fun v8 =>
      if v8 = 0 then
        j4 ()
      else
        gI_ x1 b0 6 7 fun v9 =>
        lt_ (v9 + 1 : Int32) fun v10 =>
        pI_ x1 b0 6 7 v10 fun S11 =>
        self1 (S11)
  ) FU (S)
set_option maxRecDepth 100000 in
set_option maxHeartbeats 4000000 in
theorem c_X6_passWord (l : Launch) (G : Gx) (S : St) (b0 : Nat) (o : St) (h : f_X6_passWord S b0 = some o) : Met l yX6_passWord (Cond.code yX6_passWord cX6_passWord 1 none :: wAll) ({ frames := 2, cells := 0, slots := 0, locals := 42 } : Room) (va_Pc [.ref (G.1 + b0)] (wPre G S)) (qV G o) 0 0 (wA G) := by
  refine m_start (by decide +kernel) (Nat.le_of_ble_eq_true rfl) (fun X C => ?_)
  unfold f_X6_passWord at h
  show WM X G 1 0 0 (wQ X G (qV G o) 0 0) 0 [(0, .ref (G.1 + b0))] [] S
  refine m_sub [0] rfl (m_lp (J := fun (x1 : St) => WM X G 1 0 0 (wQ X G (qV G o) 0 0) 0 [(0, .ref (G.1 + b0))] [] x1) h (fun self1 hself1 x1 h => ?_))
  refine m_aload_n C (dOf DX6_passWord 0 rfl) rfl 0 rfl ?_
  refine m_gI C (dOf DX6_passWord 1 rfl) kf_X6_46 fg_6_7 h (fun v2 h => ?_)
  refine m_aload_n C (dOf DX6_passWord 2 rfl) rfl 0 rfl ?_
  refine m_gI C (dOf DX6_passWord 3 rfl) kf_X6_29 fg_6_1 h (fun v3 h => ?_)
  refine m_jn (J := fun (x4 : Unit) => WM X G 1 0 0 (wQ X G (qV G o) 0 0) 39 [(0, .ref (G.1 + b0))] [] x1) h (fun x4 h => ?_) (fun j4 hj4 h => ?_)
  · refine m_aload_n C (dOf DX6_passWord 19 rfl) rfl 0 rfl ?_
    refine m_iconst C (dOf DX6_passWord 20 rfl) (v := 1) ki_1 ?_
    refine m_pI C (dOf DX6_passWord 21 rfl) kf_X6_22 fp_6_4 h (fun S5 h => ?_)
    exact m_vret C rfl (dOf DX6_passWord 22 rfl) h
  refine m_icmpge C (dOf DX6_passWord 4 rfl) (tgt := 39) rfl h (fun h => ?_) (fun h => ?_)
  · exact m_sub [0] rfl (hj4 _ h)
  · refine m_aload_n C (dOf DX6_passWord 5 rfl) rfl 0 rfl ?_
    refine m_aload_n C (dOf DX6_passWord 6 rfl) rfl 0 rfl ?_
    refine m_aload_n C (dOf DX6_passWord 7 rfl) rfl 0 rfl ?_
    refine m_gI C (dOf DX6_passWord 8 rfl) kf_X6_46 fg_6_7 h (fun v6 h => ?_)
    obtain ⟨hc, h⟩ := ck_spec h
    refine m_cP (st := [.ref (G.1 + b0)]) h (fun o' ho H locs ls hl hr hs => ⟨_, m_runV C (dOf DX6_passWord 9 rfl) km_X6_52 ky_X6_byteAt (by decide) ⟨rfl, rfl⟩ (c_X6_byteAt _ G _ _ _ o' ho) hc.1 hc.2 (by decide) rfl rfl rfl (Nat.le_of_ble_eq_true rfl) ⟨Nat.le_refl _, Nat.le_refl _⟩ hl hr hs⟩) (fun v7 h => ?_)
    obtain ⟨hc, h⟩ := ck_spec h
    refine m_cP (st := []) h (fun o' ho H locs ls hl hr hs => ⟨_, m_runV C (dOf DX6_passWord 10 rfl) km_X6_63 ky_X6_isLetter (by decide) ⟨rfl, rfl⟩ (c_X6_isLetter _ G _ _ _ o' ho) hc.1 hc.2 (by decide) rfl rfl rfl (Nat.le_of_ble_eq_true rfl) ⟨Nat.le_refl _, Nat.le_refl _⟩ hl hr hs⟩) (fun v8 h => ?_)
    refine m_ifeq C (dOf DX6_passWord 11 rfl) (tgt := 39) rfl h (fun h => ?_) (fun h => ?_)
    · exact m_sub [0] rfl (hj4 _ h)
    · refine m_aload_n C (dOf DX6_passWord 12 rfl) rfl 0 rfl ?_
      refine m_dup C (dOf DX6_passWord 13 rfl) rfl ?_
      refine m_gI C (dOf DX6_passWord 14 rfl) kf_X6_46 fg_6_7 h (fun v9 h => ?_)
      refine m_iconst C (dOf DX6_passWord 15 rfl) (v := 1) ki_1 ?_
      refine m_iadd C (dOf DX6_passWord 16 rfl) h (fun v10 h => ?_)
      refine m_pI C (dOf DX6_passWord 17 rfl) kf_X6_46 fp_6_7 h (fun S11 h => ?_)
      refine m_goto C (dOf DX6_passWord 18 rfl) (tgt := 0) rfl ?_
      exact m_sub [0] rfl (hself1 _ h)
/-- TraceRing$Text.isDigit(I)Z -/
def f_X6_isDigit (S : St) (b0 : Nat) (p1 : Int32) : Option Int32 :=
  jn_ (fun (x1 : Int32) =>
    rzP_ x1
  ) fun j1 =>
  jn_ (fun (x2 : Unit) =>
    j1 (0)
  ) fun j2 =>
  if p1 < 48 then
    j2 ()
  else
    if 57 < p1 then
      j2 ()
    else
      j1 (1)
set_option maxRecDepth 100000 in
set_option maxHeartbeats 4000000 in
theorem c_X6_isDigit (l : Launch) (G : Gx) (S : St) (b0 : Nat) (p1 : Int32) (o : Int32) (h : f_X6_isDigit S b0 p1 = some o) : Met l yX6_isDigit (Cond.code yX6_isDigit cX6_isDigit 2 (some (.boolean)) :: wAll) ({ frames := 0, cells := 0, slots := 0, locals := 0 } : Room) (va_Pc [.ref (G.1 + b0), .int p1] (wPre G S)) (qI G (o, S)) 0 0 (wA G) := by
  refine m_start (by decide +kernel) (Nat.le_of_ble_eq_true rfl) (fun X C => ?_)
  unfold f_X6_isDigit at h
  show WM X G 2 0 0 (wQ X G (qI G (o, S)) 0 0) 0 [(0, .ref (G.1 + b0)), (1, .int p1)] [] S
  refine m_iload_n C (dOf DX6_isDigit 0 rfl) rfl 1 rfl ?_
  refine m_bipush C (dOf DX6_isDigit 1 rfl) (v := 48) kb_48 ?_
  refine m_jn (J := fun (x1 : Int32) => WM X G 2 0 0 (wQ X G (qI G (o, S)) 0 0) 17 [] [.int x1] S) h (fun x1 h => ?_) (fun j1 hj1 h => ?_)
  · exact m_zretP C rfl (dOf DX6_isDigit 9 rfl) h
  refine m_jn (J := fun (x2 : Unit) => WM X G 2 0 0 (wQ X G (qI G (o, S)) 0 0) 16 [] [] S) h (fun x2 h => ?_) (fun j2 hj2 h => ?_)
  · refine m_iconst C (dOf DX6_isDigit 8 rfl) (v := 0) ki_0 ?_
    exact m_sub [] rfl (hj1 _ h)
  refine m_icmplt C (dOf DX6_isDigit 2 rfl) (tgt := 16) rfl h (fun h => ?_) (fun h => ?_)
  · exact m_sub [] rfl (hj2 _ h)
  · refine m_iload_n C (dOf DX6_isDigit 3 rfl) rfl 1 rfl ?_
    refine m_bipush C (dOf DX6_isDigit 4 rfl) (v := 57) kb_57 ?_
    refine m_icmpgt C (dOf DX6_isDigit 5 rfl) (tgt := 16) rfl h (fun h => ?_) (fun h => ?_)
    · exact m_sub [] rfl (hj2 _ h)
    · refine m_iconst C (dOf DX6_isDigit 6 rfl) (v := 1) ki_1 ?_
      refine m_goto C (dOf DX6_isDigit 7 rfl) (tgt := 17) rfl ?_
      exact m_sub [] rfl (hj1 _ h)
/-- TraceRing$Text.passNumber()V -/
def f_X6_passNumber (S : St) (b0 : Nat) : Option St :=
  pI_ S b0 6 6 0 fun S1 =>
  lp_ (fun self2 (x2 : St) =>
    gI_ x2 b0 6 7 fun v3 =>
    gI_ x2 b0 6 1 fun v4 =>
    jn_ (fun (x5 : Unit) =>
      gI_ x2 b0 6 7 fun v6 =>
      gI_ x2 b0 6 5 fun v7 =>
      lt_ (v6 - v7 : Int32) fun v8 =>
      jn_ (fun (x9 : Int32) =>
        pI_ x2 b0 6 4 x9 fun S10 =>
        rt_ S10
      ) fun j9 =>
      if 6 < v8 then
        j9 (4)
      else
        j9 (2)
    ) fun j5 =>
    if v4 ≤ v3 then
      j5 ()
    else
      gI_ x2 b0 6 7 fun v11 =>
      ck_ x2 b0 6 <| cP_ (f_X6_byteAt x2 b0 v11) fun v12 =>
      ck_ x2 b0 6 <| cP_ (f_X6_isDigit x2 b0 v12) fun v13 =>
      if v13 = 0 then
        j5 ()
      else
        gI_ x2 b0 6 6 fun v14 =>
        lt_ (10 * v14 : Int32) fun v15 =>
        gI_ x2 b0 6 7 fun v16 =>
        ck_ x2 b0 6 <| cP_ (f_X6_byteAt x2 b0 v16) fun v17 =>
        lt_ (v15 + v17 : Int32) fun v18 =>
        lt_ (v18 - 48 : Int32) fun v19 =>
        pI_ x2 b0 6 6 v19 fun S20 =>
        gI_ S20 b0 6 7 fun v21 =>
        lt_ (v21 + 1 : Int32) fun v22 =>
        pI_ S20 b0 6 7 v22 fun S23 =>
        self2 (S23)
  ) FU (S1)
set_option maxRecDepth 100000 in
set_option maxHeartbeats 4000000 in
theorem c_X6_passNumber (l : Launch) (G : Gx) (S : St) (b0 : Nat) (o : St) (h : f_X6_passNumber S b0 = some o) : Met l yX6_passNumber (Cond.code yX6_passNumber cX6_passNumber 1 none :: wAll) ({ frames := 2, cells := 0, slots := 0, locals := 42 } : Room) (va_Pc [.ref (G.1 + b0)] (wPre G S)) (qV G o) 0 0 (wA G) := by
  refine m_start (by decide +kernel) (Nat.le_of_ble_eq_true rfl) (fun X C => ?_)
  unfold f_X6_passNumber at h
  show WM X G 1 0 0 (wQ X G (qV G o) 0 0) 0 [(0, .ref (G.1 + b0))] [] S
  refine m_aload_n C (dOf DX6_passNumber 0 rfl) rfl 0 rfl ?_
  refine m_iconst C (dOf DX6_passNumber 1 rfl) (v := 0) ki_0 ?_
  refine m_pI C (dOf DX6_passNumber 2 rfl) kf_X6_75 fp_6_6 h (fun S1 h => ?_)
  refine m_sub [0] rfl (m_lp (J := fun (x2 : St) => WM X G 1 0 0 (wQ X G (qV G o) 0 0) 5 [(0, .ref (G.1 + b0))] [] x2) h (fun self2 hself2 x2 h => ?_))
  refine m_aload_n C (dOf DX6_passNumber 3 rfl) rfl 0 rfl ?_
  refine m_gI C (dOf DX6_passNumber 4 rfl) kf_X6_46 fg_6_7 h (fun v3 h => ?_)
  refine m_aload_n C (dOf DX6_passNumber 5 rfl) rfl 0 rfl ?_
  refine m_gI C (dOf DX6_passNumber 6 rfl) kf_X6_29 fg_6_1 h (fun v4 h => ?_)
  refine m_jn (J := fun (x5 : Unit) => WM X G 1 0 0 (wQ X G (qV G o) 0 0) 67 [(0, .ref (G.1 + b0))] [] x2) h (fun x5 h => ?_) (fun j5 hj5 h => ?_)
  · refine m_aload_n C (dOf DX6_passNumber 35 rfl) rfl 0 rfl ?_
    refine m_aload_n C (dOf DX6_passNumber 36 rfl) rfl 0 rfl ?_
    refine m_gI C (dOf DX6_passNumber 37 rfl) kf_X6_46 fg_6_7 h (fun v6 h => ?_)
    refine m_aload_n C (dOf DX6_passNumber 38 rfl) rfl 0 rfl ?_
    refine m_gI C (dOf DX6_passNumber 39 rfl) kf_X6_60 fg_6_5 h (fun v7 h => ?_)
    refine m_isub C (dOf DX6_passNumber 40 rfl) h (fun v8 h => ?_)
    refine m_bipush C (dOf DX6_passNumber 41 rfl) (v := 6) kb_6 ?_
    refine m_jn (J := fun (x9 : Int32) => WM X G 1 0 0 (wQ X G (qV G o) 0 0) 87 [] [.int x9, .ref (G.1 + b0)] x2) h (fun x9 h => ?_) (fun j9 hj9 h => ?_)
    · refine m_pI C (dOf DX6_passNumber 46 rfl) kf_X6_22 fp_6_4 h (fun S10 h => ?_)
      exact m_vret C rfl (dOf DX6_passNumber 47 rfl) h
    refine m_icmpgt C (dOf DX6_passNumber 42 rfl) (tgt := 86) rfl h (fun h => ?_) (fun h => ?_)
    · refine m_iconst C (dOf DX6_passNumber 45 rfl) (v := 4) ki_4 ?_
      exact m_sub [] rfl (hj9 _ h)
    · refine m_iconst C (dOf DX6_passNumber 43 rfl) (v := 2) ki_2 ?_
      refine m_goto C (dOf DX6_passNumber 44 rfl) (tgt := 87) rfl ?_
      exact m_sub [] rfl (hj9 _ h)
  refine m_icmpge C (dOf DX6_passNumber 7 rfl) (tgt := 67) rfl h (fun h => ?_) (fun h => ?_)
  · exact m_sub [0] rfl (hj5 _ h)
  · refine m_aload_n C (dOf DX6_passNumber 8 rfl) rfl 0 rfl ?_
    refine m_aload_n C (dOf DX6_passNumber 9 rfl) rfl 0 rfl ?_
    refine m_aload_n C (dOf DX6_passNumber 10 rfl) rfl 0 rfl ?_
    refine m_gI C (dOf DX6_passNumber 11 rfl) kf_X6_46 fg_6_7 h (fun v11 h => ?_)
    obtain ⟨hc, h⟩ := ck_spec h
    refine m_cP (st := [.ref (G.1 + b0)]) h (fun o' ho H locs ls hl hr hs => ⟨_, m_runV C (dOf DX6_passNumber 12 rfl) km_X6_52 ky_X6_byteAt (by decide) ⟨rfl, rfl⟩ (c_X6_byteAt _ G _ _ _ o' ho) hc.1 hc.2 (by decide) rfl rfl rfl (Nat.le_of_ble_eq_true rfl) ⟨Nat.le_refl _, Nat.le_refl _⟩ hl hr hs⟩) (fun v12 h => ?_)
    obtain ⟨hc, h⟩ := ck_spec h
    refine m_cP (st := []) h (fun o' ho H locs ls hl hr hs => ⟨_, m_runV C (dOf DX6_passNumber 13 rfl) km_X6_69 ky_X6_isDigit (by decide) ⟨rfl, rfl⟩ (c_X6_isDigit _ G _ _ _ o' ho) hc.1 hc.2 (by decide) rfl rfl rfl (Nat.le_of_ble_eq_true rfl) ⟨Nat.le_refl _, Nat.le_refl _⟩ hl hr hs⟩) (fun v13 h => ?_)
    refine m_ifeq C (dOf DX6_passNumber 14 rfl) (tgt := 67) rfl h (fun h => ?_) (fun h => ?_)
    · exact m_sub [0] rfl (hj5 _ h)
    · refine m_aload_n C (dOf DX6_passNumber 15 rfl) rfl 0 rfl ?_
      refine m_bipush C (dOf DX6_passNumber 16 rfl) (v := 10) kb_10 ?_
      refine m_aload_n C (dOf DX6_passNumber 17 rfl) rfl 0 rfl ?_
      refine m_gI C (dOf DX6_passNumber 18 rfl) kf_X6_75 fg_6_6 h (fun v14 h => ?_)
      refine m_imul C (dOf DX6_passNumber 19 rfl) h (fun v15 h => ?_)
      refine m_aload_n C (dOf DX6_passNumber 20 rfl) rfl 0 rfl ?_
      refine m_aload_n C (dOf DX6_passNumber 21 rfl) rfl 0 rfl ?_
      refine m_gI C (dOf DX6_passNumber 22 rfl) kf_X6_46 fg_6_7 h (fun v16 h => ?_)
      obtain ⟨hc, h⟩ := ck_spec h
      refine m_cP (st := [.int v15, .ref (G.1 + b0)]) h (fun o' ho H locs ls hl hr hs => ⟨_, m_runV C (dOf DX6_passNumber 23 rfl) km_X6_52 ky_X6_byteAt (by decide) ⟨rfl, rfl⟩ (c_X6_byteAt _ G _ _ _ o' ho) hc.1 hc.2 (by decide) rfl rfl rfl (Nat.le_of_ble_eq_true rfl) ⟨Nat.le_refl _, Nat.le_refl _⟩ hl hr hs⟩) (fun v17 h => ?_)
      refine m_iadd C (dOf DX6_passNumber 24 rfl) h (fun v18 h => ?_)
      refine m_bipush C (dOf DX6_passNumber 25 rfl) (v := 48) kb_48 ?_
      refine m_isub C (dOf DX6_passNumber 26 rfl) h (fun v19 h => ?_)
      refine m_pI C (dOf DX6_passNumber 27 rfl) kf_X6_75 fp_6_6 h (fun S20 h => ?_)
      refine m_aload_n C (dOf DX6_passNumber 28 rfl) rfl 0 rfl ?_
      refine m_dup C (dOf DX6_passNumber 29 rfl) rfl ?_
      refine m_gI C (dOf DX6_passNumber 30 rfl) kf_X6_46 fg_6_7 h (fun v21 h => ?_)
      refine m_iconst C (dOf DX6_passNumber 31 rfl) (v := 1) ki_1 ?_
      refine m_iadd C (dOf DX6_passNumber 32 rfl) h (fun v22 h => ?_)
      refine m_pI C (dOf DX6_passNumber 33 rfl) kf_X6_46 fp_6_7 h (fun S23 h => ?_)
      refine m_goto C (dOf DX6_passNumber 34 rfl) (tgt := 5) rfl ?_
      exact m_sub [0] rfl (hself2 _ h)
/-- TraceRing$Text.goToNext()V -/
def f_X6_goToNext (S : St) (b0 : Nat) : Option St :=
  lp_ (fun self1 (x1 : St) =>
    gI_ x1 b0 6 7 fun v2 =>
    gI_ x1 b0 6 1 fun v3 =>
    jn_ (fun (x4 : Unit) =>
      gI_ x1 b0 6 7 fun v5 =>
      pI_ x1 b0 6 5 v5 fun S6 =>
      gI_ S6 b0 6 5 fun v7 =>
      ck_ S6 b0 6 <| cP_ (f_X6_byteAt S6 b0 v7) fun v8 =>
      gI_ S6 b0 6 5 fun v9 =>
      gI_ S6 b0 6 1 fun v10 =>
      jn_ (fun (x11 : St) =>
        rt_ x11
      ) fun j11 =>
      if v9 < v10 then
        ck_ S6 b0 6 <| cP_ (f_X6_isLetter S6 b0 v8) fun v12 =>
        if v12 = 0 then
          ck_ S6 b0 6 <| cP_ (f_X6_isDigit S6 b0 v8) fun v13 =>
          if v13 = 0 then
            gI_ S6 b0 6 7 fun v14 =>
            lt_ (v14 + 1 : Int32) fun v15 =>
            pI_ S6 b0 6 7 v15 fun S16 =>
            jn_ (fun (x17 : Int32) =>
              pI_ S16 b0 6 4 x17 fun S18 =>
              j11 (S18)
            ) fun j17 =>
            if v8 = 59 then
              j17 (3)
            else
              j17 (4)
          else
            ck_ S6 b0 6 <| cV_ (f_X6_passNumber S6 b0) fun S19 =>
            j11 (S19)
        else
          ck_ S6 b0 6 <| cV_ (f_X6_passWord S6 b0) fun S20 =>
          j11 (S20)
      else
        pI_ S6 b0 6 4 0 fun S21 =>
        j11 (S21)
    ) fun j4 =>
    if v3 ≤ v2 then
      j4 ()
    else
      gI_ x1 b0 6 7 fun v22 =>
      ck_ x1 b0 6 <| cP_ (f_X6_byteAt x1 b0 v22) fun v23 =>
      ck_ x1 b0 6 <| cP_ (f_X6_isBlank x1 b0 v23) fun v24 =>
      if v24 = 0 then
        j4 ()
      else
        gI_ x1 b0 6 7 fun v25 =>
        lt_ (v25 + 1 : Int32) fun v26 =>
        pI_ x1 b0 6 7 v26 fun S27 =>
        self1 (S27)
  ) FU (S)
set_option maxRecDepth 100000 in
set_option maxHeartbeats 4000000 in
theorem c_X6_goToNext (l : Launch) (G : Gx) (S : St) (b0 : Nat) (o : St) (h : f_X6_goToNext S b0 = some o) : Met l yX6_goToNext (Cond.code yX6_goToNext cX6_goToNext 2 none :: wAll) ({ frames := 3, cells := 0, slots := 0, locals := 62 } : Room) (va_Pc [.ref (G.1 + b0)] (wPre G S)) (qV G o) 0 0 (wA G) := by
  refine m_start (by decide +kernel) (Nat.le_of_ble_eq_true rfl) (fun X C => ?_)
  unfold f_X6_goToNext at h
  show WM X G 2 0 0 (wQ X G (qV G o) 0 0) 0 [(0, .ref (G.1 + b0))] [] S
  refine m_sub [0] rfl (m_lp (J := fun (x1 : St) => WM X G 2 0 0 (wQ X G (qV G o) 0 0) 0 [(0, .ref (G.1 + b0))] [] x1) h (fun self1 hself1 x1 h => ?_))
  refine m_aload_n C (dOf DX6_goToNext 0 rfl) rfl 0 rfl ?_
  refine m_gI C (dOf DX6_goToNext 1 rfl) kf_X6_46 fg_6_7 h (fun v2 h => ?_)
  refine m_aload_n C (dOf DX6_goToNext 2 rfl) rfl 0 rfl ?_
  refine m_gI C (dOf DX6_goToNext 3 rfl) kf_X6_29 fg_6_1 h (fun v3 h => ?_)
  refine m_jn (J := fun (x4 : Unit) => WM X G 2 0 0 (wQ X G (qV G o) 0 0) 39 [(0, .ref (G.1 + b0))] [] x1) h (fun x4 h => ?_) (fun j4 hj4 h => ?_)
  · refine m_aload_n C (dOf DX6_goToNext 19 rfl) rfl 0 rfl ?_
    refine m_aload_n C (dOf DX6_goToNext 20 rfl) rfl 0 rfl ?_
    refine m_gI C (dOf DX6_goToNext 21 rfl) kf_X6_46 fg_6_7 h (fun v5 h => ?_)
    refine m_pI C (dOf DX6_goToNext 22 rfl) kf_X6_60 fp_6_5 h (fun S6 h => ?_)
    refine m_aload_n C (dOf DX6_goToNext 23 rfl) rfl 0 rfl ?_
    refine m_aload_n C (dOf DX6_goToNext 24 rfl) rfl 0 rfl ?_
    refine m_gI C (dOf DX6_goToNext 25 rfl) kf_X6_60 fg_6_5 h (fun v7 h => ?_)
    obtain ⟨hc, h⟩ := ck_spec h
    refine m_cP (st := []) h (fun o' ho H locs ls hl hr hs => ⟨_, m_runV C (dOf DX6_goToNext 26 rfl) km_X6_52 ky_X6_byteAt (by decide) ⟨rfl, rfl⟩ (c_X6_byteAt _ G _ _ _ o' ho) hc.1 hc.2 (by decide) rfl rfl rfl (Nat.le_of_ble_eq_true rfl) ⟨Nat.le_refl _, Nat.le_refl _⟩ hl hr hs⟩) (fun v8 h => ?_)
    refine m_istore_n C (dOf DX6_goToNext 27 rfl) rfl (by decide) (lv' := [(1, .int v8), (0, .ref (G.1 + b0))]) rfl ?_
    refine m_aload_n C (dOf DX6_goToNext 28 rfl) rfl 1 rfl ?_
    refine m_gI C (dOf DX6_goToNext 29 rfl) kf_X6_60 fg_6_5 h (fun v9 h => ?_)
    refine m_aload_n C (dOf DX6_goToNext 30 rfl) rfl 1 rfl ?_
    refine m_gI C (dOf DX6_goToNext 31 rfl) kf_X6_29 fg_6_1 h (fun v10 h => ?_)
    refine m_jn (J := fun (x11 : St) => WM X G 2 0 0 (wQ X G (qV G o) 0 0) 130 [] [] x11) h (fun x11 h => ?_) (fun j11 hj11 h => ?_)
    · exact m_vret C rfl (dOf DX6_goToNext 65 rfl) h
    refine m_icmplt C (dOf DX6_goToNext 32 rfl) (tgt := 75) rfl h (fun h => ?_) (fun h => ?_)
    · refine m_aload_n C (dOf DX6_goToNext 37 rfl) rfl 1 rfl ?_
      refine m_iload_n C (dOf DX6_goToNext 38 rfl) rfl 0 rfl ?_
      obtain ⟨hc, h⟩ := ck_spec h
      refine m_cP (st := []) h (fun o' ho H locs ls hl hr hs => ⟨_, m_runV C (dOf DX6_goToNext 39 rfl) km_X6_63 ky_X6_isLetter (by decide) ⟨rfl, rfl⟩ (c_X6_isLetter _ G _ _ _ o' ho) hc.1 hc.2 (by decide) rfl rfl rfl (Nat.le_of_ble_eq_true rfl) ⟨Nat.le_refl _, Nat.le_refl _⟩ hl hr hs⟩) (fun v12 h => ?_)
      refine m_ifeq C (dOf DX6_goToNext 40 rfl) (tgt := 90) rfl h (fun h => ?_) (fun h => ?_)
      · refine m_aload_n C (dOf DX6_goToNext 44 rfl) rfl 1 rfl ?_
        refine m_iload_n C (dOf DX6_goToNext 45 rfl) rfl 0 rfl ?_
        obtain ⟨hc, h⟩ := ck_spec h
        refine m_cP (st := []) h (fun o' ho H locs ls hl hr hs => ⟨_, m_runV C (dOf DX6_goToNext 46 rfl) km_X6_69 ky_X6_isDigit (by decide) ⟨rfl, rfl⟩ (c_X6_isDigit _ G _ _ _ o' ho) hc.1 hc.2 (by decide) rfl rfl rfl (Nat.le_of_ble_eq_true rfl) ⟨Nat.le_refl _, Nat.le_refl _⟩ hl hr hs⟩) (fun v13 h => ?_)
        refine m_ifeq C (dOf DX6_goToNext 47 rfl) (tgt := 105) rfl h (fun h => ?_) (fun h => ?_)
        · refine m_aload_n C (dOf DX6_goToNext 51 rfl) rfl 1 rfl ?_
          refine m_dup C (dOf DX6_goToNext 52 rfl) rfl ?_
          refine m_gI C (dOf DX6_goToNext 53 rfl) kf_X6_46 fg_6_7 h (fun v14 h => ?_)
          refine m_iconst C (dOf DX6_goToNext 54 rfl) (v := 1) ki_1 ?_
          refine m_iadd C (dOf DX6_goToNext 55 rfl) h (fun v15 h => ?_)
          refine m_pI C (dOf DX6_goToNext 56 rfl) kf_X6_46 fp_6_7 h (fun S16 h => ?_)
          refine m_aload_n C (dOf DX6_goToNext 57 rfl) rfl 1 rfl ?_
          refine m_iload_n C (dOf DX6_goToNext 58 rfl) rfl 0 rfl ?_
          refine m_bipush C (dOf DX6_goToNext 59 rfl) (v := 59) kb_59 ?_
          refine m_jn (J := fun (x17 : Int32) => WM X G 2 0 0 (wQ X G (qV G o) 0 0) 127 [] [.int x17, .ref (G.1 + b0)] S16) h (fun x17 h => ?_) (fun j17 hj17 h => ?_)
          · refine m_pI C (dOf DX6_goToNext 64 rfl) kf_X6_22 fp_6_4 h (fun S18 h => ?_)
            exact m_sub [] rfl (hj11 _ h)
          refine m_icmpne C (dOf DX6_goToNext 60 rfl) (tgt := 126) rfl h (fun h => ?_) (fun h => ?_)
          · refine m_iconst C (dOf DX6_goToNext 63 rfl) (v := 4) ki_4 ?_
            exact m_sub [] rfl (hj17 _ h)
          · refine m_iconst C (dOf DX6_goToNext 61 rfl) (v := 3) ki_3 ?_
            refine m_goto C (dOf DX6_goToNext 62 rfl) (tgt := 127) rfl ?_
            exact m_sub [] rfl (hj17 _ h)
        · refine m_aload_n C (dOf DX6_goToNext 48 rfl) rfl 1 rfl ?_
          obtain ⟨hc, h⟩ := ck_spec h
          refine m_cV (st := []) h (fun o' ho H locs ls hl hr hs => ⟨_, m_runV C (dOf DX6_goToNext 49 rfl) km_X6_72 ky_X6_passNumber (by decide) ⟨rfl, rfl⟩ (c_X6_passNumber _ G _ _ o' ho) hc.1 hc.2 (by decide) rfl rfl rfl (Nat.le_of_ble_eq_true rfl) ⟨Nat.le_refl _, Nat.le_refl _⟩ hl hr hs⟩) (fun S19 h => ?_)
          refine m_goto C (dOf DX6_goToNext 50 rfl) (tgt := 130) rfl ?_
          exact m_sub [] rfl (hj11 _ h)
      · refine m_aload_n C (dOf DX6_goToNext 41 rfl) rfl 1 rfl ?_
        obtain ⟨hc, h⟩ := ck_spec h
        refine m_cV (st := []) h (fun o' ho H locs ls hl hr hs => ⟨_, m_runV C (dOf DX6_goToNext 42 rfl) km_X6_66 ky_X6_passWord (by decide) ⟨rfl, rfl⟩ (c_X6_passWord _ G _ _ o' ho) hc.1 hc.2 (by decide) rfl rfl rfl (Nat.le_of_ble_eq_true rfl) ⟨Nat.le_refl _, Nat.le_refl _⟩ hl hr hs⟩) (fun S20 h => ?_)
        refine m_goto C (dOf DX6_goToNext 43 rfl) (tgt := 130) rfl ?_
        exact m_sub [] rfl (hj11 _ h)
    · refine m_aload_n C (dOf DX6_goToNext 33 rfl) rfl 1 rfl ?_
      refine m_iconst C (dOf DX6_goToNext 34 rfl) (v := 0) ki_0 ?_
      refine m_pI C (dOf DX6_goToNext 35 rfl) kf_X6_22 fp_6_4 h (fun S21 h => ?_)
      refine m_goto C (dOf DX6_goToNext 36 rfl) (tgt := 130) rfl ?_
      exact m_sub [] rfl (hj11 _ h)
  refine m_icmpge C (dOf DX6_goToNext 4 rfl) (tgt := 39) rfl h (fun h => ?_) (fun h => ?_)
  · exact m_sub [0] rfl (hj4 _ h)
  · refine m_aload_n C (dOf DX6_goToNext 5 rfl) rfl 0 rfl ?_
    refine m_aload_n C (dOf DX6_goToNext 6 rfl) rfl 0 rfl ?_
    refine m_aload_n C (dOf DX6_goToNext 7 rfl) rfl 0 rfl ?_
    refine m_gI C (dOf DX6_goToNext 8 rfl) kf_X6_46 fg_6_7 h (fun v22 h => ?_)
    obtain ⟨hc, h⟩ := ck_spec h
    refine m_cP (st := [.ref (G.1 + b0)]) h (fun o' ho H locs ls hl hr hs => ⟨_, m_runV C (dOf DX6_goToNext 9 rfl) km_X6_52 ky_X6_byteAt (by decide) ⟨rfl, rfl⟩ (c_X6_byteAt _ G _ _ _ o' ho) hc.1 hc.2 (by decide) rfl rfl rfl (Nat.le_of_ble_eq_true rfl) ⟨Nat.le_refl _, Nat.le_refl _⟩ hl hr hs⟩) (fun v23 h => ?_)
    obtain ⟨hc, h⟩ := ck_spec h
    refine m_cP (st := []) h (fun o' ho H locs ls hl hr hs => ⟨_, m_runV C (dOf DX6_goToNext 10 rfl) km_X6_56 ky_X6_isBlank (by decide) ⟨rfl, rfl⟩ (c_X6_isBlank _ G _ _ _ o' ho) hc.1 hc.2 (by decide) rfl rfl rfl (Nat.le_of_ble_eq_true rfl) ⟨Nat.le_refl _, Nat.le_refl _⟩ hl hr hs⟩) (fun v24 h => ?_)
    refine m_ifeq C (dOf DX6_goToNext 11 rfl) (tgt := 39) rfl h (fun h => ?_) (fun h => ?_)
    · exact m_sub [0] rfl (hj4 _ h)
    · refine m_aload_n C (dOf DX6_goToNext 12 rfl) rfl 0 rfl ?_
      refine m_dup C (dOf DX6_goToNext 13 rfl) rfl ?_
      refine m_gI C (dOf DX6_goToNext 14 rfl) kf_X6_46 fg_6_7 h (fun v25 h => ?_)
      refine m_iconst C (dOf DX6_goToNext 15 rfl) (v := 1) ki_1 ?_
      refine m_iadd C (dOf DX6_goToNext 16 rfl) h (fun v26 h => ?_)
      refine m_pI C (dOf DX6_goToNext 17 rfl) kf_X6_46 fp_6_7 h (fun S27 h => ?_)
      refine m_goto C (dOf DX6_goToNext 18 rfl) (tgt := 0) rfl ?_
      exact m_sub [0] rfl (hself1 _ h)
/-- TraceRing$Text.goToFirst()V -/
def f_X6_goToFirst (S : St) (b0 : Nat) : Option St :=
  pI_ S b0 6 7 0 fun S1 =>
  ck_ S1 b0 6 <| cV_ (f_X6_goToNext S1 b0) fun S2 =>
  rt_ S2
set_option maxRecDepth 100000 in
set_option maxHeartbeats 4000000 in
theorem c_X6_goToFirst (l : Launch) (G : Gx) (S : St) (b0 : Nat) (o : St) (h : f_X6_goToFirst S b0 = some o) : Met l yX6_goToFirst (Cond.code yX6_goToFirst cX6_goToFirst 1 none :: wAll) ({ frames := 4, cells := 0, slots := 0, locals := 83 } : Room) (va_Pc [.ref (G.1 + b0)] (wPre G S)) (qV G o) 0 0 (wA G) := by
  refine m_start (by decide +kernel) (Nat.le_of_ble_eq_true rfl) (fun X C => ?_)
  unfold f_X6_goToFirst at h
  show WM X G 1 0 0 (wQ X G (qV G o) 0 0) 0 [(0, .ref (G.1 + b0))] [] S
  refine m_aload_n C (dOf DX6_goToFirst 0 rfl) rfl 0 rfl ?_
  refine m_iconst C (dOf DX6_goToFirst 1 rfl) (v := 0) ki_0 ?_
  refine m_pI C (dOf DX6_goToFirst 2 rfl) kf_X6_46 fp_6_7 h (fun S1 h => ?_)
  refine m_aload_n C (dOf DX6_goToFirst 3 rfl) rfl 0 rfl ?_
  obtain ⟨hc, h⟩ := ck_spec h
  refine m_cV (st := []) h (fun o' ho H locs ls hl hr hs => ⟨_, m_runV C (dOf DX6_goToFirst 4 rfl) km_X6_49 ky_X6_goToNext (by decide) ⟨rfl, rfl⟩ (c_X6_goToNext _ G _ _ o' ho) hc.1 hc.2 (by decide) rfl rfl rfl (Nat.le_of_ble_eq_true rfl) ⟨Nat.le_refl _, Nat.le_refl _⟩ hl hr hs⟩) (fun S2 h => ?_)
  exact m_vret C rfl (dOf DX6_goToFirst 5 rfl) h
/-- TraceRing$Lines.numbersOf(I)I -/
def f_X2_numbersOf (S : St) (b0 : Nat) (p1 : Int32) : Option Int32 :=
  jn_ (fun (x1 : Unit) =>
    rt_ 0
  ) fun j1 =>
  jn_ (fun (x2 : Unit) =>
    rt_ 1
  ) fun j2 =>
  jn_ (fun (x3 : Unit) =>
    rt_ 2
  ) fun j3 =>
  if p1 = 2 then
    j1 ()
  else
  if p1 = 3 then
    j1 ()
  else
  if p1 = 4 then
    j2 ()
  else
  if p1 = 5 then
    j3 ()
  else
  if p1 = 6 then
    j3 ()
  else
  if p1 = 7 then
    j2 ()
  else
  if p1 = 8 then
    j2 ()
  else
  if p1 = 9 then
    j1 ()
  else
  if p1 = 10 then
    j1 ()
  else
  j2 ()
set_option maxRecDepth 100000 in
set_option maxHeartbeats 4000000 in
theorem c_X2_numbersOf (l : Launch) (G : Gx) (S : St) (b0 : Nat) (p1 : Int32) (o : Int32) (h : f_X2_numbersOf S b0 p1 = some o) : Met l yX2_numbersOf (Cond.code yX2_numbersOf cX2_numbersOf 2 (some (.int)) :: wAll) ({ frames := 0, cells := 0, slots := 0, locals := 0 } : Room) (va_Pc [.ref (G.1 + b0), .int p1] (wPre G S)) (qI G (o, S)) 0 0 (wA G) := by
  refine m_start (by decide +kernel) (Nat.le_of_ble_eq_true rfl) (fun X C => ?_)
  unfold f_X2_numbersOf at h
  show WM X G 2 0 0 (wQ X G (qI G (o, S)) 0 0) 0 [(0, .ref (G.1 + b0)), (1, .int p1)] [] S
  refine m_iload_n C (dOf DX2_numbersOf 0 rfl) rfl 1 rfl ?_
  refine m_jn (J := fun (x1 : Unit) => WM X G 2 0 0 (wQ X G (qI G (o, S)) 0 0) 52 [] [] S) h (fun x1 h => ?_) (fun j1 hj1 h => ?_)
  · refine m_iconst C (dOf DX2_numbersOf 2 rfl) (v := 0) ki_0 ?_
    exact m_iretP C rfl (dOf DX2_numbersOf 3 rfl) h
  refine m_jn (J := fun (x2 : Unit) => WM X G 2 0 0 (wQ X G (qI G (o, S)) 0 0) 56 [] [] S) h (fun x2 h => ?_) (fun j2 hj2 h => ?_)
  · refine m_iconst C (dOf DX2_numbersOf 6 rfl) (v := 1) ki_1 ?_
    exact m_iretP C rfl (dOf DX2_numbersOf 7 rfl) h
  refine m_jn (J := fun (x3 : Unit) => WM X G 2 0 0 (wQ X G (qI G (o, S)) 0 0) 54 [] [] S) h (fun x3 h => ?_) (fun j3 hj3 h => ?_)
  · refine m_iconst C (dOf DX2_numbersOf 4 rfl) (v := 2) ki_2 ?_
    exact m_iretP C rfl (dOf DX2_numbersOf 5 rfl) h
  refine m_sw h (fun e h => ?_) (fun n2 h => ?_)
  · refine m_tin C (dOf DX2_numbersOf 1 rfl) 2 e (by decide) (by decide) (off := 51) rfl (tgt := 52) rfl ?_
    exact m_sub [] rfl (hj1 _ h)
  refine m_sw h (fun e h => ?_) (fun n3 h => ?_)
  · refine m_tin C (dOf DX2_numbersOf 1 rfl) 3 e (by decide) (by decide) (off := 51) rfl (tgt := 52) rfl ?_
    exact m_sub [] rfl (hj1 _ h)
  refine m_sw h (fun e h => ?_) (fun n4 h => ?_)
  · refine m_tin C (dOf DX2_numbersOf 1 rfl) 4 e (by decide) (by decide) (off := 55) rfl (tgt := 56) rfl ?_
    exact m_sub [] rfl (hj2 _ h)
  refine m_sw h (fun e h => ?_) (fun n5 h => ?_)
  · refine m_tin C (dOf DX2_numbersOf 1 rfl) 5 e (by decide) (by decide) (off := 53) rfl (tgt := 54) rfl ?_
    exact m_sub [] rfl (hj3 _ h)
  refine m_sw h (fun e h => ?_) (fun n6 h => ?_)
  · refine m_tin C (dOf DX2_numbersOf 1 rfl) 6 e (by decide) (by decide) (off := 53) rfl (tgt := 54) rfl ?_
    exact m_sub [] rfl (hj3 _ h)
  refine m_sw h (fun e h => ?_) (fun n7 h => ?_)
  · refine m_tin C (dOf DX2_numbersOf 1 rfl) 7 e (by decide) (by decide) (off := 55) rfl (tgt := 56) rfl ?_
    exact m_sub [] rfl (hj2 _ h)
  refine m_sw h (fun e h => ?_) (fun n8 h => ?_)
  · refine m_tin C (dOf DX2_numbersOf 1 rfl) 8 e (by decide) (by decide) (off := 55) rfl (tgt := 56) rfl ?_
    exact m_sub [] rfl (hj2 _ h)
  refine m_sw h (fun e h => ?_) (fun n9 h => ?_)
  · refine m_tin C (dOf DX2_numbersOf 1 rfl) 9 e (by decide) (by decide) (off := 51) rfl (tgt := 52) rfl ?_
    exact m_sub [] rfl (hj1 _ h)
  refine m_sw h (fun e h => ?_) (fun n10 h => ?_)
  · refine m_tin C (dOf DX2_numbersOf 1 rfl) 10 e (by decide) (by decide) (off := 51) rfl (tgt := 52) rfl ?_
    exact m_sub [] rfl (hj1 _ h)
  have qn2 := neT n2 kt_2
  have qn3 := neT n3 kt_3
  have qn4 := neT n4 kt_4
  have qn5 := neT n5 kt_5
  have qn6 := neT n6 kt_6
  have qn7 := neT n7 kt_7
  have qn8 := neT n8 kt_8
  have qn9 := neT n9 kt_9
  have qn10 := neT n10 kt_10
  refine m_tout C (dOf DX2_numbersOf 1 rfl) (tgt := 56) (by omega) rfl ?_
  exact m_sub [] rfl (hj2 _ h)
/-- TraceRing$Lines.isLevel(I)Z -/
def f_X2_isLevel (S : St) (b0 : Nat) (p1 : Int32) : Option Int32 :=
  jn_ (fun (x1 : Int32) =>
    rzP_ x1
  ) fun j1 =>
  jn_ (fun (x2 : Unit) =>
    j1 (0)
  ) fun j2 =>
  if p1 < 0 then
    j2 ()
  else
    if 4 ≤ p1 then
      j2 ()
    else
      j1 (1)
set_option maxRecDepth 100000 in
set_option maxHeartbeats 4000000 in
theorem c_X2_isLevel (l : Launch) (G : Gx) (S : St) (b0 : Nat) (p1 : Int32) (o : Int32) (h : f_X2_isLevel S b0 p1 = some o) : Met l yX2_isLevel (Cond.code yX2_isLevel cX2_isLevel 2 (some (.boolean)) :: wAll) ({ frames := 0, cells := 0, slots := 0, locals := 0 } : Room) (va_Pc [.ref (G.1 + b0), .int p1] (wPre G S)) (qI G (o, S)) 0 0 (wA G) := by
  refine m_start (by decide +kernel) (Nat.le_of_ble_eq_true rfl) (fun X C => ?_)
  unfold f_X2_isLevel at h
  show WM X G 2 0 0 (wQ X G (qI G (o, S)) 0 0) 0 [(0, .ref (G.1 + b0)), (1, .int p1)] [] S
  refine m_iload_n C (dOf DX2_isLevel 0 rfl) rfl 1 rfl ?_
  refine m_jn (J := fun (x1 : Int32) => WM X G 2 0 0 (wQ X G (qI G (o, S)) 0 0) 14 [] [.int x1] S) h (fun x1 h => ?_) (fun j1 hj1 h => ?_)
  · exact m_zretP C rfl (dOf DX2_isLevel 8 rfl) h
  refine m_jn (J := fun (x2 : Unit) => WM X G 2 0 0 (wQ X G (qI G (o, S)) 0 0) 13 [] [] S) h (fun x2 h => ?_) (fun j2 hj2 h => ?_)
  · refine m_iconst C (dOf DX2_isLevel 7 rfl) (v := 0) ki_0 ?_
    exact m_sub [] rfl (hj1 _ h)
  refine m_iflt C (dOf DX2_isLevel 1 rfl) (tgt := 13) rfl h (fun h => ?_) (fun h => ?_)
  · exact m_sub [] rfl (hj2 _ h)
  · refine m_iload_n C (dOf DX2_isLevel 2 rfl) rfl 1 rfl ?_
    refine m_iconst C (dOf DX2_isLevel 3 rfl) (v := 4) ki_4 ?_
    refine m_icmpge C (dOf DX2_isLevel 4 rfl) (tgt := 13) rfl h (fun h => ?_) (fun h => ?_)
    · exact m_sub [] rfl (hj2 _ h)
    · refine m_iconst C (dOf DX2_isLevel 5 rfl) (v := 1) ki_1 ?_
      refine m_goto C (dOf DX2_isLevel 6 rfl) (tgt := 14) rfl ?_
      exact m_sub [] rfl (hj1 _ h)
/-- TraceRing$Lines.canBe(III)Z -/
def f_X2_canBe (S : St) (b0 : Nat) (p1 : Int32) (p2 : Int32) (p3 : Int32) : Option Int32 :=
  jn_ (fun (x1 : Unit) =>
    jn_ (fun (x2 : Int32) =>
      rzP_ x2
    ) fun j2 =>
    jn_ (fun (x3 : Unit) =>
      j2 (0)
    ) fun j3 =>
    if p3 < 2 then
      j3 ()
    else
      if 6 < p3 then
        j3 ()
      else
        j2 (1)
  ) fun j1 =>
  jn_ (fun (x4 : Unit) =>
    ck_ S b0 2 <| cP_ (f_X2_isLevel S b0 p3) fun v5 =>
    rzP_ v5
  ) fun j4 =>
  if p1 = 0 then
    j1 ()
  else
  if p1 = 1 then
    jn_ (fun (x6 : Int32) =>
      rzP_ x6
    ) fun j6 =>
    jn_ (fun (x7 : Unit) =>
      j6 (0)
    ) fun j7 =>
    if p3 < 12 then
      j7 ()
    else
      if 32 < p3 then
        j7 ()
      else
        j6 (1)
  else
  if p1 = 2 then
    j4 ()
  else
  if p1 = 3 then
    j4 ()
  else
  if p1 = 4 then
    jn_ (fun (x8 : Int32) =>
      rzP_ x8
    ) fun j8 =>
    jn_ (fun (x9 : Unit) =>
      j8 (0)
    ) fun j9 =>
    if p3 < 1 then
      j9 ()
    else
      if 5000 < p3 then
        j9 ()
      else
        j8 (1)
  else
  if p1 = 5 then
    jn_ (fun (x10 : Int32) =>
      rzP_ x10
    ) fun j10 =>
    if p2 = 0 then
      ck_ S b0 2 <| cP_ (f_X2_isLevel S b0 p3) fun v12 =>
      j10 (v12)
    else
      jn_ (fun (x11 : Unit) =>
        j10 (0)
      ) fun j11 =>
      if p3 < 1 then
        j11 ()
      else
        if 8 < p3 then
          j11 ()
        else
          j10 (1)
  else
  if p1 = 6 then
    jn_ (fun (x13 : Int32) =>
      rzP_ x13
    ) fun j13 =>
    if p2 = 0 then
      ck_ S b0 2 <| cP_ (f_X2_isLevel S b0 p3) fun v15 =>
      j13 (v15)
    else
      jn_ (fun (x14 : Unit) =>
        j13 (0)
      ) fun j14 =>
      if p3 < 0 then
        j14 ()
      else
        if 255 < p3 then
          j14 ()
        else
          j13 (1)
  else
  if p1 = 7 then
    j4 ()
  else
  if p1 = 8 then
    j4 ()
  else
  if p1 = 9 then
    j4 ()
  else
  if p1 = 10 then
    j4 ()
  else
  if p1 = 11 then
    jn_ (fun (x16 : Int32) =>
      rzP_ x16
    ) fun j16 =>
    jn_ (fun (x17 : Unit) =>
      j16 (0)
    ) fun j17 =>
    if p3 < 1 then
      j17 ()
    else
      if 99 < p3 then
        j17 ()
      else
        j16 (1)
  else
  if p1 = 12 then
    jn_ (fun (x18 : Int32) =>
      rzP_ x18
    ) fun j18 =>
    jn_ (fun (x19 : Unit) =>
      j18 (0)
    ) fun j19 =>
    if p3 < 0 then
      j19 ()
    else
      if 15 < p3 then
        j19 ()
      else
        j18 (1)
  else
  if p1 = 13 then
    j1 ()
  else
  j4 ()
set_option maxRecDepth 100000 in
set_option maxHeartbeats 4000000 in
theorem c_X2_canBe (l : Launch) (G : Gx) (S : St) (b0 : Nat) (p1 : Int32) (p2 : Int32) (p3 : Int32) (o : Int32) (h : f_X2_canBe S b0 p1 p2 p3 = some o) : Met l yX2_canBe (Cond.code yX2_canBe cX2_canBe 4 (some (.boolean)) :: wAll) ({ frames := 1, cells := 0, slots := 0, locals := 21 } : Room) (va_Pc [.ref (G.1 + b0), .int p1, .int p2, .int p3] (wPre G S)) (qI G (o, S)) 0 0 (wA G) := by
  refine m_start (by decide +kernel) (Nat.le_of_ble_eq_true rfl) (fun X C => ?_)
  unfold f_X2_canBe at h
  show WM X G 4 0 0 (wQ X G (qI G (o, S)) 0 0) 0 [(0, .ref (G.1 + b0)), (1, .int p1), (2, .int p2), (3, .int p3)] [] S
  refine m_iload_n C (dOf DX2_canBe 0 rfl) rfl 1 rfl ?_
  refine m_jn (J := fun (x1 : Unit) => WM X G 4 0 0 (wQ X G (qI G (o, S)) 0 0) 72 [(3, .int p3)] [] S) h (fun x1 h => ?_) (fun j1 hj1 h => ?_)
  · refine m_iload_n C (dOf DX2_canBe 2 rfl) rfl 0 rfl ?_
    refine m_iconst C (dOf DX2_canBe 3 rfl) (v := 2) ki_2 ?_
    refine m_jn (J := fun (x2 : Int32) => WM X G 4 0 0 (wQ X G (qI G (o, S)) 0 0) 88 [] [.int x2] S) h (fun x2 h => ?_) (fun j2 hj2 h => ?_)
    · exact m_zretP C rfl (dOf DX2_canBe 11 rfl) h
    refine m_jn (J := fun (x3 : Unit) => WM X G 4 0 0 (wQ X G (qI G (o, S)) 0 0) 87 [] [] S) h (fun x3 h => ?_) (fun j3 hj3 h => ?_)
    · refine m_iconst C (dOf DX2_canBe 10 rfl) (v := 0) ki_0 ?_
      exact m_sub [] rfl (hj2 _ h)
    refine m_icmplt C (dOf DX2_canBe 4 rfl) (tgt := 87) rfl h (fun h => ?_) (fun h => ?_)
    · exact m_sub [] rfl (hj3 _ h)
    · refine m_iload_n C (dOf DX2_canBe 5 rfl) rfl 0 rfl ?_
      refine m_bipush C (dOf DX2_canBe 6 rfl) (v := 6) kb_6 ?_
      refine m_icmpgt C (dOf DX2_canBe 7 rfl) (tgt := 87) rfl h (fun h => ?_) (fun h => ?_)
      · exact m_sub [] rfl (hj3 _ h)
      · refine m_iconst C (dOf DX2_canBe 8 rfl) (v := 1) ki_1 ?_
        refine m_goto C (dOf DX2_canBe 9 rfl) (tgt := 88) rfl ?_
        exact m_sub [] rfl (hj2 _ h)
  refine m_jn (J := fun (x4 : Unit) => WM X G 4 0 0 (wQ X G (qI G (o, S)) 0 0) 216 [(0, .ref (G.1 + b0)), (3, .int p3)] [] S) h (fun x4 h => ?_) (fun j4 hj4 h => ?_)
  · refine m_aload_n C (dOf DX2_canBe 82 rfl) rfl 0 rfl ?_
    refine m_iload_n C (dOf DX2_canBe 83 rfl) rfl 1 rfl ?_
    obtain ⟨hc, h⟩ := ck_spec h
    refine m_cP (st := []) h (fun o' ho H locs ls hl hr hs => ⟨_, m_runV C (dOf DX2_canBe 84 rfl) km_X2_105 ky_X2_isLevel (by decide) ⟨rfl, rfl⟩ (c_X2_isLevel _ G _ _ _ o' ho) hc.1 hc.2 (by decide) rfl rfl rfl (Nat.le_of_ble_eq_true rfl) ⟨Nat.le_refl _, Nat.le_refl _⟩ hl hr hs⟩) (fun v5 h => ?_)
    exact m_zretP C rfl (dOf DX2_canBe 85 rfl) h
  refine m_sw h (fun e h => ?_) (fun n0 h => ?_)
  · refine m_tin C (dOf DX2_canBe 1 rfl) 0 e (by decide) (by decide) (off := 71) rfl (tgt := 72) rfl ?_
    exact m_sub [3] rfl (hj1 _ h)
  refine m_sw h (fun e h => ?_) (fun n1 h => ?_)
  · refine m_tin C (dOf DX2_canBe 1 rfl) 1 e (by decide) (by decide) (off := 88) rfl (tgt := 89) rfl ?_
    refine m_iload_n C (dOf DX2_canBe 12 rfl) rfl 3 rfl ?_
    refine m_bipush C (dOf DX2_canBe 13 rfl) (v := 12) kb_12 ?_
    refine m_jn (J := fun (x6 : Int32) => WM X G 4 0 0 (wQ X G (qI G (o, S)) 0 0) 106 [] [.int x6] S) h (fun x6 h => ?_) (fun j6 hj6 h => ?_)
    · exact m_zretP C rfl (dOf DX2_canBe 21 rfl) h
    refine m_jn (J := fun (x7 : Unit) => WM X G 4 0 0 (wQ X G (qI G (o, S)) 0 0) 105 [] [] S) h (fun x7 h => ?_) (fun j7 hj7 h => ?_)
    · refine m_iconst C (dOf DX2_canBe 20 rfl) (v := 0) ki_0 ?_
      exact m_sub [] rfl (hj6 _ h)
    refine m_icmplt C (dOf DX2_canBe 14 rfl) (tgt := 105) rfl h (fun h => ?_) (fun h => ?_)
    · exact m_sub [] rfl (hj7 _ h)
    · refine m_iload_n C (dOf DX2_canBe 15 rfl) rfl 3 rfl ?_
      refine m_bipush C (dOf DX2_canBe 16 rfl) (v := 32) kb_32 ?_
      refine m_icmpgt C (dOf DX2_canBe 17 rfl) (tgt := 105) rfl h (fun h => ?_) (fun h => ?_)
      · exact m_sub [] rfl (hj7 _ h)
      · refine m_iconst C (dOf DX2_canBe 18 rfl) (v := 1) ki_1 ?_
        refine m_goto C (dOf DX2_canBe 19 rfl) (tgt := 106) rfl ?_
        exact m_sub [] rfl (hj6 _ h)
  refine m_sw h (fun e h => ?_) (fun n2 h => ?_)
  · refine m_tin C (dOf DX2_canBe 1 rfl) 2 e (by decide) (by decide) (off := 215) rfl (tgt := 216) rfl ?_
    exact m_sub [0, 3] rfl (hj4 _ h)
  refine m_sw h (fun e h => ?_) (fun n3 h => ?_)
  · refine m_tin C (dOf DX2_canBe 1 rfl) 3 e (by decide) (by decide) (off := 215) rfl (tgt := 216) rfl ?_
    exact m_sub [0, 3] rfl (hj4 _ h)
  refine m_sw h (fun e h => ?_) (fun n4 h => ?_)
  · refine m_tin C (dOf DX2_canBe 1 rfl) 4 e (by decide) (by decide) (off := 106) rfl (tgt := 107) rfl ?_
    refine m_iload_n C (dOf DX2_canBe 22 rfl) rfl 3 rfl ?_
    refine m_iconst C (dOf DX2_canBe 23 rfl) (v := 1) ki_1 ?_
    refine m_jn (J := fun (x8 : Int32) => WM X G 4 0 0 (wQ X G (qI G (o, S)) 0 0) 124 [] [.int x8] S) h (fun x8 h => ?_) (fun j8 hj8 h => ?_)
    · exact m_zretP C rfl (dOf DX2_canBe 31 rfl) h
    refine m_jn (J := fun (x9 : Unit) => WM X G 4 0 0 (wQ X G (qI G (o, S)) 0 0) 123 [] [] S) h (fun x9 h => ?_) (fun j9 hj9 h => ?_)
    · refine m_iconst C (dOf DX2_canBe 30 rfl) (v := 0) ki_0 ?_
      exact m_sub [] rfl (hj8 _ h)
    refine m_icmplt C (dOf DX2_canBe 24 rfl) (tgt := 123) rfl h (fun h => ?_) (fun h => ?_)
    · exact m_sub [] rfl (hj9 _ h)
    · refine m_iload_n C (dOf DX2_canBe 25 rfl) rfl 3 rfl ?_
      refine m_sipush C (dOf DX2_canBe 26 rfl) (v := 5000) ks_5000 ?_
      refine m_icmpgt C (dOf DX2_canBe 27 rfl) (tgt := 123) rfl h (fun h => ?_) (fun h => ?_)
      · exact m_sub [] rfl (hj9 _ h)
      · refine m_iconst C (dOf DX2_canBe 28 rfl) (v := 1) ki_1 ?_
        refine m_goto C (dOf DX2_canBe 29 rfl) (tgt := 124) rfl ?_
        exact m_sub [] rfl (hj8 _ h)
  refine m_sw h (fun e h => ?_) (fun n5 h => ?_)
  · refine m_tin C (dOf DX2_canBe 1 rfl) 5 e (by decide) (by decide) (off := 157) rfl (tgt := 158) rfl ?_
    refine m_iload_n C (dOf DX2_canBe 51 rfl) rfl 2 rfl ?_
    refine m_jn (J := fun (x10 : Int32) => WM X G 4 0 0 (wQ X G (qI G (o, S)) 0 0) 186 [] [.int x10] S) h (fun x10 h => ?_) (fun j10 hj10 h => ?_)
    · exact m_zretP C rfl (dOf DX2_canBe 66 rfl) h
    refine m_ifne C (dOf DX2_canBe 52 rfl) (tgt := 170) rfl h (fun h => ?_) (fun h => ?_)
    · refine m_iload_n C (dOf DX2_canBe 57 rfl) rfl 3 rfl ?_
      refine m_iconst C (dOf DX2_canBe 58 rfl) (v := 1) ki_1 ?_
      refine m_jn (J := fun (x11 : Unit) => WM X G 4 0 0 (wQ X G (qI G (o, S)) 0 0) 185 [] [] S) h (fun x11 h => ?_) (fun j11 hj11 h => ?_)
      · refine m_iconst C (dOf DX2_canBe 65 rfl) (v := 0) ki_0 ?_
        exact m_sub [] rfl (hj10 _ h)
      refine m_icmplt C (dOf DX2_canBe 59 rfl) (tgt := 185) rfl h (fun h => ?_) (fun h => ?_)
      · exact m_sub [] rfl (hj11 _ h)
      · refine m_iload_n C (dOf DX2_canBe 60 rfl) rfl 3 rfl ?_
        refine m_bipush C (dOf DX2_canBe 61 rfl) (v := 8) kb_8 ?_
        refine m_icmpgt C (dOf DX2_canBe 62 rfl) (tgt := 185) rfl h (fun h => ?_) (fun h => ?_)
        · exact m_sub [] rfl (hj11 _ h)
        · refine m_iconst C (dOf DX2_canBe 63 rfl) (v := 1) ki_1 ?_
          refine m_goto C (dOf DX2_canBe 64 rfl) (tgt := 186) rfl ?_
          exact m_sub [] rfl (hj10 _ h)
    · refine m_aload_n C (dOf DX2_canBe 53 rfl) rfl 0 rfl ?_
      refine m_iload_n C (dOf DX2_canBe 54 rfl) rfl 3 rfl ?_
      obtain ⟨hc, h⟩ := ck_spec h
      refine m_cP (st := []) h (fun o' ho H locs ls hl hr hs => ⟨_, m_runV C (dOf DX2_canBe 55 rfl) km_X2_105 ky_X2_isLevel (by decide) ⟨rfl, rfl⟩ (c_X2_isLevel _ G _ _ _ o' ho) hc.1 hc.2 (by decide) rfl rfl rfl (Nat.le_of_ble_eq_true rfl) ⟨Nat.le_refl _, Nat.le_refl _⟩ hl hr hs⟩) (fun v12 h => ?_)
      refine m_goto C (dOf DX2_canBe 56 rfl) (tgt := 186) rfl ?_
      exact m_sub [] rfl (hj10 _ h)
  refine m_sw h (fun e h => ?_) (fun n6 h => ?_)
  · refine m_tin C (dOf DX2_canBe 1 rfl) 6 e (by decide) (by decide) (off := 186) rfl (tgt := 187) rfl ?_
    refine m_iload_n C (dOf DX2_canBe 67 rfl) rfl 2 rfl ?_
    refine m_jn (J := fun (x13 : Int32) => WM X G 4 0 0 (wQ X G (qI G (o, S)) 0 0) 215 [] [.int x13] S) h (fun x13 h => ?_) (fun j13 hj13 h => ?_)
    · exact m_zretP C rfl (dOf DX2_canBe 81 rfl) h
    refine m_ifne C (dOf DX2_canBe 68 rfl) (tgt := 199) rfl h (fun h => ?_) (fun h => ?_)
    · refine m_iload_n C (dOf DX2_canBe 73 rfl) rfl 3 rfl ?_
      refine m_jn (J := fun (x14 : Unit) => WM X G 4 0 0 (wQ X G (qI G (o, S)) 0 0) 214 [] [] S) h (fun x14 h => ?_) (fun j14 hj14 h => ?_)
      · refine m_iconst C (dOf DX2_canBe 80 rfl) (v := 0) ki_0 ?_
        exact m_sub [] rfl (hj13 _ h)
      refine m_iflt C (dOf DX2_canBe 74 rfl) (tgt := 214) rfl h (fun h => ?_) (fun h => ?_)
      · exact m_sub [] rfl (hj14 _ h)
      · refine m_iload_n C (dOf DX2_canBe 75 rfl) rfl 3 rfl ?_
        refine m_sipush C (dOf DX2_canBe 76 rfl) (v := 255) ks_255 ?_
        refine m_icmpgt C (dOf DX2_canBe 77 rfl) (tgt := 214) rfl h (fun h => ?_) (fun h => ?_)
        · exact m_sub [] rfl (hj14 _ h)
        · refine m_iconst C (dOf DX2_canBe 78 rfl) (v := 1) ki_1 ?_
          refine m_goto C (dOf DX2_canBe 79 rfl) (tgt := 215) rfl ?_
          exact m_sub [] rfl (hj13 _ h)
    · refine m_aload_n C (dOf DX2_canBe 69 rfl) rfl 0 rfl ?_
      refine m_iload_n C (dOf DX2_canBe 70 rfl) rfl 3 rfl ?_
      obtain ⟨hc, h⟩ := ck_spec h
      refine m_cP (st := []) h (fun o' ho H locs ls hl hr hs => ⟨_, m_runV C (dOf DX2_canBe 71 rfl) km_X2_105 ky_X2_isLevel (by decide) ⟨rfl, rfl⟩ (c_X2_isLevel _ G _ _ _ o' ho) hc.1 hc.2 (by decide) rfl rfl rfl (Nat.le_of_ble_eq_true rfl) ⟨Nat.le_refl _, Nat.le_refl _⟩ hl hr hs⟩) (fun v15 h => ?_)
      refine m_goto C (dOf DX2_canBe 72 rfl) (tgt := 215) rfl ?_
      exact m_sub [] rfl (hj13 _ h)
  refine m_sw h (fun e h => ?_) (fun n7 h => ?_)
  · refine m_tin C (dOf DX2_canBe 1 rfl) 7 e (by decide) (by decide) (off := 215) rfl (tgt := 216) rfl ?_
    exact m_sub [0, 3] rfl (hj4 _ h)
  refine m_sw h (fun e h => ?_) (fun n8 h => ?_)
  · refine m_tin C (dOf DX2_canBe 1 rfl) 8 e (by decide) (by decide) (off := 215) rfl (tgt := 216) rfl ?_
    exact m_sub [0, 3] rfl (hj4 _ h)
  refine m_sw h (fun e h => ?_) (fun n9 h => ?_)
  · refine m_tin C (dOf DX2_canBe 1 rfl) 9 e (by decide) (by decide) (off := 215) rfl (tgt := 216) rfl ?_
    exact m_sub [0, 3] rfl (hj4 _ h)
  refine m_sw h (fun e h => ?_) (fun n10 h => ?_)
  · refine m_tin C (dOf DX2_canBe 1 rfl) 10 e (by decide) (by decide) (off := 215) rfl (tgt := 216) rfl ?_
    exact m_sub [0, 3] rfl (hj4 _ h)
  refine m_sw h (fun e h => ?_) (fun n11 h => ?_)
  · refine m_tin C (dOf DX2_canBe 1 rfl) 11 e (by decide) (by decide) (off := 124) rfl (tgt := 125) rfl ?_
    refine m_iload_n C (dOf DX2_canBe 32 rfl) rfl 3 rfl ?_
    refine m_iconst C (dOf DX2_canBe 33 rfl) (v := 1) ki_1 ?_
    refine m_jn (J := fun (x16 : Int32) => WM X G 4 0 0 (wQ X G (qI G (o, S)) 0 0) 141 [] [.int x16] S) h (fun x16 h => ?_) (fun j16 hj16 h => ?_)
    · exact m_zretP C rfl (dOf DX2_canBe 41 rfl) h
    refine m_jn (J := fun (x17 : Unit) => WM X G 4 0 0 (wQ X G (qI G (o, S)) 0 0) 140 [] [] S) h (fun x17 h => ?_) (fun j17 hj17 h => ?_)
    · refine m_iconst C (dOf DX2_canBe 40 rfl) (v := 0) ki_0 ?_
      exact m_sub [] rfl (hj16 _ h)
    refine m_icmplt C (dOf DX2_canBe 34 rfl) (tgt := 140) rfl h (fun h => ?_) (fun h => ?_)
    · exact m_sub [] rfl (hj17 _ h)
    · refine m_iload_n C (dOf DX2_canBe 35 rfl) rfl 3 rfl ?_
      refine m_bipush C (dOf DX2_canBe 36 rfl) (v := 99) kb_99 ?_
      refine m_icmpgt C (dOf DX2_canBe 37 rfl) (tgt := 140) rfl h (fun h => ?_) (fun h => ?_)
      · exact m_sub [] rfl (hj17 _ h)
      · refine m_iconst C (dOf DX2_canBe 38 rfl) (v := 1) ki_1 ?_
        refine m_goto C (dOf DX2_canBe 39 rfl) (tgt := 141) rfl ?_
        exact m_sub [] rfl (hj16 _ h)
  refine m_sw h (fun e h => ?_) (fun n12 h => ?_)
  · refine m_tin C (dOf DX2_canBe 1 rfl) 12 e (by decide) (by decide) (off := 141) rfl (tgt := 142) rfl ?_
    refine m_iload_n C (dOf DX2_canBe 42 rfl) rfl 3 rfl ?_
    refine m_jn (J := fun (x18 : Int32) => WM X G 4 0 0 (wQ X G (qI G (o, S)) 0 0) 157 [] [.int x18] S) h (fun x18 h => ?_) (fun j18 hj18 h => ?_)
    · exact m_zretP C rfl (dOf DX2_canBe 50 rfl) h
    refine m_jn (J := fun (x19 : Unit) => WM X G 4 0 0 (wQ X G (qI G (o, S)) 0 0) 156 [] [] S) h (fun x19 h => ?_) (fun j19 hj19 h => ?_)
    · refine m_iconst C (dOf DX2_canBe 49 rfl) (v := 0) ki_0 ?_
      exact m_sub [] rfl (hj18 _ h)
    refine m_iflt C (dOf DX2_canBe 43 rfl) (tgt := 156) rfl h (fun h => ?_) (fun h => ?_)
    · exact m_sub [] rfl (hj19 _ h)
    · refine m_iload_n C (dOf DX2_canBe 44 rfl) rfl 3 rfl ?_
      refine m_bipush C (dOf DX2_canBe 45 rfl) (v := 15) kb_15 ?_
      refine m_icmpgt C (dOf DX2_canBe 46 rfl) (tgt := 156) rfl h (fun h => ?_) (fun h => ?_)
      · exact m_sub [] rfl (hj19 _ h)
      · refine m_iconst C (dOf DX2_canBe 47 rfl) (v := 1) ki_1 ?_
        refine m_goto C (dOf DX2_canBe 48 rfl) (tgt := 157) rfl ?_
        exact m_sub [] rfl (hj18 _ h)
  refine m_sw h (fun e h => ?_) (fun n13 h => ?_)
  · refine m_tin C (dOf DX2_canBe 1 rfl) 13 e (by decide) (by decide) (off := 71) rfl (tgt := 72) rfl ?_
    exact m_sub [3] rfl (hj1 _ h)
  have qn0 := neT n0 kt_0
  have qn1 := neT n1 kt_1
  have qn2 := neT n2 kt_2
  have qn3 := neT n3 kt_3
  have qn4 := neT n4 kt_4
  have qn5 := neT n5 kt_5
  have qn6 := neT n6 kt_6
  have qn7 := neT n7 kt_7
  have qn8 := neT n8 kt_8
  have qn9 := neT n9 kt_9
  have qn10 := neT n10 kt_10
  have qn11 := neT n11 kt_11
  have qn12 := neT n12 kt_12
  have qn13 := neT n13 kt_13
  refine m_tout C (dOf DX2_canBe 1 rfl) (tgt := 216) (by omega) rfl ?_
  exact m_sub [0, 3] rfl (hj4 _ h)
/-- TraceRing$Lines.passLine(LTraceRing$Text;II)Z -/
def f_X2_passLine (S : St) (b0 : Nat) (b1 : Nat) (p2 : Int32) (p3 : Int32) : Option (Int32 × St) :=
  ck_ S b0 2 <| cP_ (f_X2_verbHere S b0 b1 p2 p3) fun v1 =>
  if v1 = (-1) then
    rz_ 0 S
  else
    gR_ S b0 2 0 fun a2 =>
    gI_ S b0 2 3 fun v3 =>
    cV_ (f_X8_set S a2 v3 v1) fun S4 =>
    ck_ S4 b1 6 <| cV_ (f_X6_goToNext S4 b1) fun S5 =>
    lp_ (fun self6 (x6 : Int32 × St) =>
      ck_ x6.2 b0 2 <| cP_ (f_X2_numbersOf x6.2 b0 v1) fun v7 =>
      if v7 ≤ x6.1 then
        gI_ x6.2 b1 6 4 fun v8 =>
        if v8 = 3 then
          ck_ x6.2 b1 6 <| cV_ (f_X6_goToNext x6.2 b1) fun S9 =>
          rz_ 1 S9
        else
          rz_ 0 x6.2
      else
        gI_ x6.2 b1 6 4 fun v10 =>
        if v10 = 2 then
          jn_ (fun (x11 : Nat) =>
            gI_ x6.2 b0 2 3 fun v12 =>
            gI_ x6.2 b1 6 6 fun v13 =>
            cV_ (f_X8_set x6.2 x11 v12 v13) fun S14 =>
            gI_ S14 b0 2 4 fun v15 =>
            jn_ (fun (x16 : St) =>
              ck_ x16 b1 6 <| cV_ (f_X6_goToNext x16 b1) fun S17 =>
              lt_ (x6.1 + 1) fun v18 =>
              self6 (v18, S17)
            ) fun j16 =>
            if v15 = (-1) then
              gI_ S14 b1 6 6 fun v19 =>
              ck_ S14 b0 2 <| cP_ (f_X2_canBe S14 b0 v1 x6.1 v19) fun v20 =>
              if v20 = 0 then
                gI_ S14 b1 6 5 fun v21 =>
                pI_ S14 b0 2 4 v21 fun S22 =>
                j16 (S22)
              else
                j16 (S14)
            else
              j16 (S14)
          ) fun j11 =>
          if x6.1 = 0 then
            gR_ x6.2 b0 2 1 fun a24 =>
            j11 (a24)
          else
            gR_ x6.2 b0 2 2 fun a23 =>
            j11 (a23)
        else
          rz_ 0 x6.2
    ) FU (0, S5)
set_option maxRecDepth 100000 in
set_option maxHeartbeats 4000000 in
theorem c_X2_passLine (l : Launch) (G : Gx) (S : St) (b0 : Nat) (b1 : Nat) (p2 : Int32) (p3 : Int32) (o : (Int32 × St)) (h : f_X2_passLine S b0 b1 p2 p3 = some o) : Met l yX2_passLine (Cond.code yX2_passLine cX2_passLine 6 (some (.boolean)) :: wAll) ({ frames := 7, cells := 0, slots := 0, locals := 164 } : Room) (va_Pc [.ref (G.1 + b0), .ref (G.1 + b1), .int p2, .int p3] (wPre G S)) (qI G o) 0 0 (wA G) := by
  refine m_start (by decide +kernel) (Nat.le_of_ble_eq_true rfl) (fun X C => ?_)
  unfold f_X2_passLine at h
  show WM X G 6 0 0 (wQ X G (qI G o) 0 0) 0 [(0, .ref (G.1 + b0)), (1, .ref (G.1 + b1)), (2, .int p2), (3, .int p3)] [] S
  refine m_aload_n C (dOf DX2_passLine 0 rfl) rfl 0 rfl ?_
  refine m_aload_n C (dOf DX2_passLine 1 rfl) rfl 1 rfl ?_
  refine m_iload_n C (dOf DX2_passLine 2 rfl) rfl 2 rfl ?_
  refine m_iload_n C (dOf DX2_passLine 3 rfl) rfl 3 rfl ?_
  obtain ⟨hc, h⟩ := ck_spec h
  refine m_cP (st := []) h (fun o' ho H locs ls hl hr hs => ⟨_, m_runV C (dOf DX2_passLine 4 rfl) km_X2_47 ky_X2_verbHere (by decide) ⟨rfl, rfl⟩ (c_X2_verbHere _ G _ _ _ _ _ o' ho) hc.1 hc.2 (by decide) rfl rfl rfl (Nat.le_of_ble_eq_true rfl) ⟨Nat.le_refl _, Nat.le_refl _⟩ hl hr hs⟩) (fun v1 h => ?_)
  refine m_istore C (dOf DX2_passLine 5 rfl) (by decide) (lv' := [(4, .int v1), (0, .ref (G.1 + b0)), (1, .ref (G.1 + b1)), (2, .int p2), (3, .int p3)]) rfl ?_
  refine m_iload C (dOf DX2_passLine 6 rfl) 0 rfl ?_
  refine m_iconst C (dOf DX2_passLine 7 rfl) (v := (-1)) ki_m1 ?_
  refine m_icmpne C (dOf DX2_passLine 8 rfl) (tgt := 17) rfl h (fun h => ?_) (fun h => ?_)
  · refine m_aload_n C (dOf DX2_passLine 11 rfl) rfl 1 rfl ?_
    refine m_gR C (dOf DX2_passLine 12 rfl) kf_X2_9 fg_2_0 h (fun a2 h => ?_)
    refine m_aload_n C (dOf DX2_passLine 13 rfl) rfl 1 rfl ?_
    refine m_gI C (dOf DX2_passLine 14 rfl) kf_X2_21 fg_2_3 h (fun v3 h => ?_)
    refine m_iload C (dOf DX2_passLine 15 rfl) 0 rfl ?_
    refine m_cV (st := []) h (fun o' ho H locs ls hl hr hs => ⟨_, m_runSN C (dOf DX2_passLine 16 rfl) kn_X2_51 ks_X8_set (by decide) ⟨rfl, rfl⟩ (c_X8_set _ G _ _ _ _ o' ho) rfl rfl (Nat.le_of_ble_eq_true rfl) ⟨Nat.le_refl _, Nat.le_refl _⟩ hl hr hs⟩) (fun S4 h => ?_)
    refine m_aload_n C (dOf DX2_passLine 17 rfl) rfl 2 rfl ?_
    obtain ⟨hc, h⟩ := ck_spec h
    refine m_cV (st := []) h (fun o' ho H locs ls hl hr hs => ⟨_, m_runV C (dOf DX2_passLine 18 rfl) km_X2_55 ky_X6_goToNext (by decide) ⟨rfl, rfl⟩ (c_X6_goToNext _ G _ _ o' ho) hc.1 hc.2 (by decide) rfl rfl rfl (Nat.le_of_ble_eq_true rfl) ⟨Nat.le_refl _, Nat.le_refl _⟩ hl hr hs⟩) (fun S5 h => ?_)
    refine m_iconst C (dOf DX2_passLine 19 rfl) (v := 0) ki_0 ?_
    refine m_istore C (dOf DX2_passLine 20 rfl) (by decide) (lv' := [(5, .int 0), (4, .int v1), (0, .ref (G.1 + b0)), (1, .ref (G.1 + b1)), (2, .int p2), (3, .int p3)]) rfl ?_
    refine m_sub [2, 3, 1, 0] rfl (m_lp (J := fun (x6 : Int32 × St) => WM X G 6 0 0 (wQ X G (qI G o) 0 0) 37 [(0, .ref (G.1 + b0)), (1, .ref (G.1 + b1)), (4, .int v1), (5, .int x6.1)] [] x6.2) h (fun self6 hself6 x6 h => ?_))
    refine m_iload C (dOf DX2_passLine 21 rfl) 3 rfl ?_
    refine m_aload_n C (dOf DX2_passLine 22 rfl) rfl 0 rfl ?_
    refine m_iload C (dOf DX2_passLine 23 rfl) 2 rfl ?_
    obtain ⟨hc, h⟩ := ck_spec h
    refine m_cP (st := [.int x6.1]) h (fun o' ho H locs ls hl hr hs => ⟨_, m_runV C (dOf DX2_passLine 24 rfl) km_X2_58 ky_X2_numbersOf (by decide) ⟨rfl, rfl⟩ (c_X2_numbersOf _ G _ _ _ o' ho) hc.1 hc.2 (by decide) rfl rfl rfl (Nat.le_of_ble_eq_true rfl) ⟨Nat.le_refl _, Nat.le_refl _⟩ hl hr hs⟩) (fun v7 h => ?_)
    refine m_icmpge C (dOf DX2_passLine 25 rfl) (tgt := 126) rfl h (fun h => ?_) (fun h => ?_)
    · refine m_aload_n C (dOf DX2_passLine 63 rfl) rfl 1 rfl ?_
      refine m_gI C (dOf DX2_passLine 64 rfl) kf_X2_37 fg_6_4 h (fun v8 h => ?_)
      refine m_iconst C (dOf DX2_passLine 65 rfl) (v := 3) ki_3 ?_
      refine m_icmpeq C (dOf DX2_passLine 66 rfl) (tgt := 136) rfl h (fun h => ?_) (fun h => ?_)
      · refine m_aload_n C (dOf DX2_passLine 69 rfl) rfl 1 rfl ?_
        obtain ⟨hc, h⟩ := ck_spec h
        refine m_cV (st := []) h (fun o' ho H locs ls hl hr hs => ⟨_, m_runV C (dOf DX2_passLine 70 rfl) km_X2_55 ky_X6_goToNext (by decide) ⟨rfl, rfl⟩ (c_X6_goToNext _ G _ _ o' ho) hc.1 hc.2 (by decide) rfl rfl rfl (Nat.le_of_ble_eq_true rfl) ⟨Nat.le_refl _, Nat.le_refl _⟩ hl hr hs⟩) (fun S9 h => ?_)
        refine m_iconst C (dOf DX2_passLine 71 rfl) (v := 1) ki_1 ?_
        exact m_zret C rfl (dOf DX2_passLine 72 rfl) h
      · refine m_iconst C (dOf DX2_passLine 67 rfl) (v := 0) ki_0 ?_
        exact m_zret C rfl (dOf DX2_passLine 68 rfl) h
    · refine m_aload_n C (dOf DX2_passLine 26 rfl) rfl 1 rfl ?_
      refine m_gI C (dOf DX2_passLine 27 rfl) kf_X2_37 fg_6_4 h (fun v10 h => ?_)
      refine m_iconst C (dOf DX2_passLine 28 rfl) (v := 2) ki_2 ?_
      refine m_icmpeq C (dOf DX2_passLine 29 rfl) (tgt := 58) rfl h (fun h => ?_) (fun h => ?_)
      · refine m_iload C (dOf DX2_passLine 32 rfl) 3 rfl ?_
        refine m_jn (J := fun (x11 : Nat) => WM X G 6 0 0 (wQ X G (qI G o) 0 0) 74 [(0, .ref (G.1 + b0)), (1, .ref (G.1 + b1)), (4, .int v1), (5, .int x6.1)] [.ref (G.1 + x11)] x6.2) h (fun x11 h => ?_) (fun j11 hj11 h => ?_)
        · refine m_aload_n C (dOf DX2_passLine 39 rfl) rfl 0 rfl ?_
          refine m_gI C (dOf DX2_passLine 40 rfl) kf_X2_21 fg_2_3 h (fun v12 h => ?_)
          refine m_aload_n C (dOf DX2_passLine 41 rfl) rfl 1 rfl ?_
          refine m_gI C (dOf DX2_passLine 42 rfl) kf_X2_62 fg_6_6 h (fun v13 h => ?_)
          refine m_cV (st := []) h (fun o' ho H locs ls hl hr hs => ⟨_, m_runSN C (dOf DX2_passLine 43 rfl) kn_X2_51 ks_X8_set (by decide) ⟨rfl, rfl⟩ (c_X8_set _ G _ _ _ _ o' ho) rfl rfl (Nat.le_of_ble_eq_true rfl) ⟨Nat.le_refl _, Nat.le_refl _⟩ hl hr hs⟩) (fun S14 h => ?_)
          refine m_aload_n C (dOf DX2_passLine 44 rfl) rfl 0 rfl ?_
          refine m_gI C (dOf DX2_passLine 45 rfl) kf_X2_25 fg_2_4 h (fun v15 h => ?_)
          refine m_iconst C (dOf DX2_passLine 46 rfl) (v := (-1)) ki_m1 ?_
          refine m_jn (J := fun (x16 : St) => WM X G 6 0 0 (wQ X G (qI G o) 0 0) 116 [(0, .ref (G.1 + b0)), (1, .ref (G.1 + b1)), (4, .int v1), (5, .int x6.1)] [] x16) h (fun x16 h => ?_) (fun j16 hj16 h => ?_)
          · refine m_aload_n C (dOf DX2_passLine 59 rfl) rfl 1 rfl ?_
            obtain ⟨hc, h⟩ := ck_spec h
            refine m_cV (st := []) h (fun o' ho H locs ls hl hr hs => ⟨_, m_runV C (dOf DX2_passLine 60 rfl) km_X2_55 ky_X6_goToNext (by decide) ⟨rfl, rfl⟩ (c_X6_goToNext _ G _ _ o' ho) hc.1 hc.2 (by decide) rfl rfl rfl (Nat.le_of_ble_eq_true rfl) ⟨Nat.le_refl _, Nat.le_refl _⟩ hl hr hs⟩) (fun S17 h => ?_)
            refine m_iinc C (dOf DX2_passLine 61 rfl) (w := 1) ki_1 3 rfl (by decide) h (fun v18 h => ⟨[(5, .int v18), (0, .ref (G.1 + b0)), (1, .ref (G.1 + b1)), (4, .int v1)], rfl, ?_⟩)
            refine m_goto C (dOf DX2_passLine 62 rfl) (tgt := 37) rfl ?_
            exact m_sub [1, 2, 3, 0] rfl (hself6 _ h)
          refine m_icmpne C (dOf DX2_passLine 47 rfl) (tgt := 116) rfl h (fun h => ?_) (fun h => ?_)
          · exact m_sub [0, 1, 2, 3] rfl (hj16 _ h)
          · refine m_aload_n C (dOf DX2_passLine 48 rfl) rfl 0 rfl ?_
            refine m_iload C (dOf DX2_passLine 49 rfl) 2 rfl ?_
            refine m_iload C (dOf DX2_passLine 50 rfl) 3 rfl ?_
            refine m_aload_n C (dOf DX2_passLine 51 rfl) rfl 1 rfl ?_
            refine m_gI C (dOf DX2_passLine 52 rfl) kf_X2_62 fg_6_6 h (fun v19 h => ?_)
            obtain ⟨hc, h⟩ := ck_spec h
            refine m_cP (st := []) h (fun o' ho H locs ls hl hr hs => ⟨_, m_runV C (dOf DX2_passLine 53 rfl) km_X2_65 ky_X2_canBe (by decide) ⟨rfl, rfl⟩ (c_X2_canBe _ G _ _ _ _ _ o' ho) hc.1 hc.2 (by decide) rfl rfl rfl (Nat.le_of_ble_eq_true rfl) ⟨Nat.le_refl _, Nat.le_refl _⟩ hl hr hs⟩) (fun v20 h => ?_)
            refine m_ifne C (dOf DX2_passLine 54 rfl) (tgt := 116) rfl h (fun h => ?_) (fun h => ?_)
            · exact m_sub [0, 1, 2, 3] rfl (hj16 _ h)
            · refine m_aload_n C (dOf DX2_passLine 55 rfl) rfl 0 rfl ?_
              refine m_aload_n C (dOf DX2_passLine 56 rfl) rfl 1 rfl ?_
              refine m_gI C (dOf DX2_passLine 57 rfl) kf_X2_44 fg_6_5 h (fun v21 h => ?_)
              refine m_pI C (dOf DX2_passLine 58 rfl) kf_X2_25 fp_2_4 h (fun S22 h => ?_)
              exact m_sub [0, 1, 2, 3] rfl (hj16 _ h)
        refine m_ifne C (dOf DX2_passLine 33 rfl) (tgt := 70) rfl h (fun h => ?_) (fun h => ?_)
        · refine m_aload_n C (dOf DX2_passLine 37 rfl) rfl 0 rfl ?_
          refine m_gR C (dOf DX2_passLine 38 rfl) kf_X2_18 fg_2_2 h (fun a23 h => ?_)
          exact m_sub [0, 1, 2, 3] rfl (hj11 _ h)
        · refine m_aload_n C (dOf DX2_passLine 34 rfl) rfl 0 rfl ?_
          refine m_gR C (dOf DX2_passLine 35 rfl) kf_X2_15 fg_2_1 h (fun a24 h => ?_)
          refine m_goto C (dOf DX2_passLine 36 rfl) (tgt := 74) rfl ?_
          exact m_sub [0, 1, 2, 3] rfl (hj11 _ h)
      · refine m_iconst C (dOf DX2_passLine 30 rfl) (v := 0) ki_0 ?_
        exact m_zret C rfl (dOf DX2_passLine 31 rfl) h
  · refine m_iconst C (dOf DX2_passLine 9 rfl) (v := 0) ki_0 ?_
    exact m_zret C rfl (dOf DX2_passLine 10 rfl) h
/-- TraceRing$Lines.understand(LTraceRing$Text;II)Z -/
def f_X2_understand (S : St) (b0 : Nat) (b1 : Nat) (p2 : Int32) (p3 : Int32) : Option (Int32 × St) :=
  pI_ S b0 2 3 0 fun S1 =>
  pI_ S1 b0 2 4 (-1) fun S2 =>
  ck_ S2 b1 6 <| cV_ (f_X6_blame S2 b1 0 (-1)) fun S3 =>
  ck_ S3 b1 6 <| cV_ (f_X6_goToFirst S3 b1) fun S4 =>
  lp_ (fun self5 (x5 : St) =>
    gI_ x5 b0 2 3 fun v6 =>
    jn_ (fun (x7 : Unit) =>
      gI_ x5 b0 2 4 fun v8 =>
      if v8 = (-1) then
        rz_ 1 x5
      else
        gI_ x5 b0 2 4 fun v9 =>
        ck_ x5 b1 6 <| cV_ (f_X6_blame x5 b1 2 v9) fun S10 =>
        rz_ 0 S10
    ) fun j7 =>
    if 80 ≤ v6 then
      j7 ()
    else
      gI_ x5 b1 6 4 fun v11 =>
      if v11 = 0 then
        j7 ()
      else
        ck_ x5 b0 2 <| cI_ (f_X2_passLine x5 b0 b1 p2 p3) fun v13 S12 =>
        if v13 = 0 then
          gI_ S12 b1 6 5 fun v17 =>
          ck_ S12 b1 6 <| cV_ (f_X6_blame S12 b1 1 v17) fun S18 =>
          rz_ 0 S18
        else
          gI_ S12 b0 2 3 fun v14 =>
          lt_ (v14 + 1 : Int32) fun v15 =>
          pI_ S12 b0 2 3 v15 fun S16 =>
          self5 (S16)
  ) FU (S4)
set_option maxRecDepth 100000 in
set_option maxHeartbeats 4000000 in
theorem c_X2_understand (l : Launch) (G : Gx) (S : St) (b0 : Nat) (b1 : Nat) (p2 : Int32) (p3 : Int32) (o : (Int32 × St)) (h : f_X2_understand S b0 b1 p2 p3 = some o) : Met l yX2_understand (Cond.code yX2_understand cX2_understand 4 (some (.boolean)) :: wAll) ({ frames := 8, cells := 0, slots := 0, locals := 189 } : Room) (va_Pc [.ref (G.1 + b0), .ref (G.1 + b1), .int p2, .int p3] (wPre G S)) (qI G o) 0 0 (wA G) := by
  refine m_start (by decide +kernel) (Nat.le_of_ble_eq_true rfl) (fun X C => ?_)
  unfold f_X2_understand at h
  show WM X G 4 0 0 (wQ X G (qI G o) 0 0) 0 [(0, .ref (G.1 + b0)), (1, .ref (G.1 + b1)), (2, .int p2), (3, .int p3)] [] S
  refine m_aload_n C (dOf DX2_understand 0 rfl) rfl 0 rfl ?_
  refine m_iconst C (dOf DX2_understand 1 rfl) (v := 0) ki_0 ?_
  refine m_pI C (dOf DX2_understand 2 rfl) kf_X2_21 fp_2_3 h (fun S1 h => ?_)
  refine m_aload_n C (dOf DX2_understand 3 rfl) rfl 0 rfl ?_
  refine m_iconst C (dOf DX2_understand 4 rfl) (v := (-1)) ki_m1 ?_
  refine m_pI C (dOf DX2_understand 5 rfl) kf_X2_25 fp_2_4 h (fun S2 h => ?_)
  refine m_aload_n C (dOf DX2_understand 6 rfl) rfl 1 rfl ?_
  refine m_iconst C (dOf DX2_understand 7 rfl) (v := 0) ki_0 ?_
  refine m_iconst C (dOf DX2_understand 8 rfl) (v := (-1)) ki_m1 ?_
  obtain ⟨hc, h⟩ := ck_spec h
  refine m_cV (st := []) h (fun o' ho H locs ls hl hr hs => ⟨_, m_runV C (dOf DX2_understand 9 rfl) km_X2_28 ky_X6_blame (by decide) ⟨rfl, rfl⟩ (c_X6_blame _ G _ _ _ _ o' ho) hc.1 hc.2 (by decide) rfl rfl rfl (Nat.le_of_ble_eq_true rfl) ⟨Nat.le_refl _, Nat.le_refl _⟩ hl hr hs⟩) (fun S3 h => ?_)
  refine m_aload_n C (dOf DX2_understand 10 rfl) rfl 1 rfl ?_
  obtain ⟨hc, h⟩ := ck_spec h
  refine m_cV (st := []) h (fun o' ho H locs ls hl hr hs => ⟨_, m_runV C (dOf DX2_understand 11 rfl) km_X2_34 ky_X6_goToFirst (by decide) ⟨rfl, rfl⟩ (c_X6_goToFirst _ G _ _ o' ho) hc.1 hc.2 (by decide) rfl rfl rfl (Nat.le_of_ble_eq_true rfl) ⟨Nat.le_refl _, Nat.le_refl _⟩ hl hr hs⟩) (fun S4 h => ?_)
  refine m_sub [0, 1, 2, 3] rfl (m_lp (J := fun (x5 : St) => WM X G 4 0 0 (wQ X G (qI G o) 0 0) 20 [(0, .ref (G.1 + b0)), (1, .ref (G.1 + b1)), (2, .int p2), (3, .int p3)] [] x5) h (fun self5 hself5 x5 h => ?_))
  refine m_aload_n C (dOf DX2_understand 12 rfl) rfl 0 rfl ?_
  refine m_gI C (dOf DX2_understand 13 rfl) kf_X2_21 fg_2_3 h (fun v6 h => ?_)
  refine m_bipush C (dOf DX2_understand 14 rfl) (v := 80) kb_80 ?_
  refine m_jn (J := fun (x7 : Unit) => WM X G 4 0 0 (wQ X G (qI G o) 0 0) 70 [(0, .ref (G.1 + b0)), (1, .ref (G.1 + b1))] [] x5) h (fun x7 h => ?_) (fun j7 hj7 h => ?_)
  · refine m_aload_n C (dOf DX2_understand 39 rfl) rfl 0 rfl ?_
    refine m_gI C (dOf DX2_understand 40 rfl) kf_X2_25 fg_2_4 h (fun v8 h => ?_)
    refine m_iconst C (dOf DX2_understand 41 rfl) (v := (-1)) ki_m1 ?_
    refine m_icmpeq C (dOf DX2_understand 42 rfl) (tgt := 89) rfl h (fun h => ?_) (fun h => ?_)
    · refine m_iconst C (dOf DX2_understand 50 rfl) (v := 1) ki_1 ?_
      exact m_zret C rfl (dOf DX2_understand 51 rfl) h
    · refine m_aload_n C (dOf DX2_understand 43 rfl) rfl 1 rfl ?_
      refine m_iconst C (dOf DX2_understand 44 rfl) (v := 2) ki_2 ?_
      refine m_aload_n C (dOf DX2_understand 45 rfl) rfl 0 rfl ?_
      refine m_gI C (dOf DX2_understand 46 rfl) kf_X2_25 fg_2_4 h (fun v9 h => ?_)
      obtain ⟨hc, h⟩ := ck_spec h
      refine m_cV (st := []) h (fun o' ho H locs ls hl hr hs => ⟨_, m_runV C (dOf DX2_understand 47 rfl) km_X2_28 ky_X6_blame (by decide) ⟨rfl, rfl⟩ (c_X6_blame _ G _ _ _ _ o' ho) hc.1 hc.2 (by decide) rfl rfl rfl (Nat.le_of_ble_eq_true rfl) ⟨Nat.le_refl _, Nat.le_refl _⟩ hl hr hs⟩) (fun S10 h => ?_)
      refine m_iconst C (dOf DX2_understand 48 rfl) (v := 0) ki_0 ?_
      exact m_zret C rfl (dOf DX2_understand 49 rfl) h
  refine m_icmpge C (dOf DX2_understand 15 rfl) (tgt := 70) rfl h (fun h => ?_) (fun h => ?_)
  · exact m_sub [0, 1] rfl (hj7 _ h)
  · refine m_aload_n C (dOf DX2_understand 16 rfl) rfl 1 rfl ?_
    refine m_gI C (dOf DX2_understand 17 rfl) kf_X2_37 fg_6_4 h (fun v11 h => ?_)
    refine m_ifeq C (dOf DX2_understand 18 rfl) (tgt := 70) rfl h (fun h => ?_) (fun h => ?_)
    · exact m_sub [0, 1] rfl (hj7 _ h)
    · refine m_aload_n C (dOf DX2_understand 19 rfl) rfl 0 rfl ?_
      refine m_aload_n C (dOf DX2_understand 20 rfl) rfl 1 rfl ?_
      refine m_iload_n C (dOf DX2_understand 21 rfl) rfl 2 rfl ?_
      refine m_iload_n C (dOf DX2_understand 22 rfl) rfl 3 rfl ?_
      obtain ⟨hc, h⟩ := ck_spec h
      refine m_cI (st := []) h (fun o' ho H locs ls hl hr hs => ⟨_, m_runV C (dOf DX2_understand 23 rfl) km_X2_40 ky_X2_passLine (by decide) ⟨rfl, rfl⟩ (c_X2_passLine _ G _ _ _ _ _ o' ho) hc.1 hc.2 (by decide) rfl rfl rfl (Nat.le_of_ble_eq_true rfl) ⟨Nat.le_refl _, Nat.le_refl _⟩ hl hr hs⟩) (fun v13 S12 h => ?_)
      refine m_ifne C (dOf DX2_understand 24 rfl) (tgt := 57) rfl h (fun h => ?_) (fun h => ?_)
      · refine m_aload_n C (dOf DX2_understand 32 rfl) rfl 0 rfl ?_
        refine m_dup C (dOf DX2_understand 33 rfl) rfl ?_
        refine m_gI C (dOf DX2_understand 34 rfl) kf_X2_21 fg_2_3 h (fun v14 h => ?_)
        refine m_iconst C (dOf DX2_understand 35 rfl) (v := 1) ki_1 ?_
        refine m_iadd C (dOf DX2_understand 36 rfl) h (fun v15 h => ?_)
        refine m_pI C (dOf DX2_understand 37 rfl) kf_X2_21 fp_2_3 h (fun S16 h => ?_)
        refine m_goto C (dOf DX2_understand 38 rfl) (tgt := 20) rfl ?_
        exact m_sub [0, 1, 2, 3] rfl (hself5 _ h)
      · refine m_aload_n C (dOf DX2_understand 25 rfl) rfl 1 rfl ?_
        refine m_iconst C (dOf DX2_understand 26 rfl) (v := 1) ki_1 ?_
        refine m_aload_n C (dOf DX2_understand 27 rfl) rfl 1 rfl ?_
        refine m_gI C (dOf DX2_understand 28 rfl) kf_X2_44 fg_6_5 h (fun v17 h => ?_)
        obtain ⟨hc, h⟩ := ck_spec h
        refine m_cV (st := []) h (fun o' ho H locs ls hl hr hs => ⟨_, m_runV C (dOf DX2_understand 29 rfl) km_X2_28 ky_X6_blame (by decide) ⟨rfl, rfl⟩ (c_X6_blame _ G _ _ _ _ o' ho) hc.1 hc.2 (by decide) rfl rfl rfl (Nat.le_of_ble_eq_true rfl) ⟨Nat.le_refl _, Nat.le_refl _⟩ hl hr hs⟩) (fun S18 h => ?_)
        refine m_iconst C (dOf DX2_understand 30 rfl) (v := 0) ki_0 ?_
        exact m_zret C rfl (dOf DX2_understand 31 rfl) h
