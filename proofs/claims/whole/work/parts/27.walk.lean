/-- TraceRingModel.fits(II)Z -/
def f_X9_fits (S : St) (b0 : Nat) (p1 : Int32) (p2 : Int32) : Option Int32 :=
  ck_ S b0 9 <| cP_ (f_X9_of S b0 p1 1) fun v1 =>
  ck_ S b0 9 <| cP_ (f_X9_deltaIn S b0 p1) fun v2 =>
  jn_ (fun (x3 : Int32) =>
    lt_ (v1 + x3 : Int32) fun v4 =>
    lt_ (v4 + 1 : Int32) fun v5 =>
    lt_ (v5 + p2 : Int32) fun v6 =>
    gR_ S b0 9 1 fun a7 =>
    aI_ S a7 11 1 fun v8 =>
    jn_ (fun (x9 : Int32) =>
      rzP_ x9
    ) fun j9 =>
    if v8 < v6 then
      j9 (0)
    else
      j9 (1)
  ) fun j3 =>
  if v2 ≤ 15 then
    j3 (0)
  else
    j3 (3)
set_option maxRecDepth 100000 in
set_option maxHeartbeats 4000000 in
theorem c_X9_fits (l : Launch) (G : Gx) (S : St) (b0 : Nat) (p1 : Int32) (p2 : Int32) (o : Int32) (h : f_X9_fits S b0 p1 p2 = some o) : Met l yX9_fits (Cond.code yX9_fits cX9_fits 3 (some (.boolean)) :: wAll) ({ frames := 3, cells := 0, slots := 0, locals := 66 } : Room) (va_Pc [.ref (G.1 + b0), .int p1, .int p2] (wPre G S)) (qI G (o, S)) 0 0 (wA G) := by
  refine m_start (by decide +kernel) (Nat.le_of_ble_eq_true rfl) (fun X C => ?_)
  unfold f_X9_fits at h
  show WM X G 3 0 0 (wQ X G (qI G (o, S)) 0 0) 0 [(0, .ref (G.1 + b0)), (1, .int p1), (2, .int p2)] [] S
  refine m_aload_n C (dOf DX9_fits 0 rfl) rfl 0 rfl ?_
  refine m_iload_n C (dOf DX9_fits 1 rfl) rfl 1 rfl ?_
  refine m_iconst C (dOf DX9_fits 2 rfl) (v := 1) ki_1 ?_
  obtain ⟨hc, h⟩ := ck_spec h
  refine m_cP (st := []) h (fun o' ho H locs ls hl hr hs => ⟨_, m_runV C (dOf DX9_fits 3 rfl) km_X9_144 ky_X9_of (by decide) ⟨rfl, rfl⟩ (c_X9_of _ G _ _ _ _ o' ho) hc.1 hc.2 (by decide) rfl rfl rfl (Nat.le_of_ble_eq_true rfl) ⟨Nat.le_refl _, Nat.le_refl _⟩ hl hr hs⟩) (fun v1 h => ?_)
  refine m_aload_n C (dOf DX9_fits 4 rfl) rfl 0 rfl ?_
  refine m_iload_n C (dOf DX9_fits 5 rfl) rfl 1 rfl ?_
  obtain ⟨hc, h⟩ := ck_spec h
  refine m_cP (st := [.int v1]) h (fun o' ho H locs ls hl hr hs => ⟨_, m_runV C (dOf DX9_fits 6 rfl) km_X9_168 ky_X9_deltaIn (by decide) ⟨rfl, rfl⟩ (c_X9_deltaIn _ G _ _ _ o' ho) hc.1 hc.2 (by decide) rfl rfl rfl (Nat.le_of_ble_eq_true rfl) ⟨Nat.le_refl _, Nat.le_refl _⟩ hl hr hs⟩) (fun v2 h => ?_)
  refine m_bipush C (dOf DX9_fits 7 rfl) (v := 15) kb_15 ?_
  refine m_jn (J := fun (x3 : Int32) => WM X G 3 0 0 (wQ X G (qI G (o, S)) 0 0) 21 [(0, .ref (G.1 + b0)), (2, .int p2)] [.int x3, .int v1] S) h (fun x3 h => ?_) (fun j3 hj3 h => ?_)
  · refine m_iadd C (dOf DX9_fits 12 rfl) h (fun v4 h => ?_)
    refine m_iconst C (dOf DX9_fits 13 rfl) (v := 1) ki_1 ?_
    refine m_iadd C (dOf DX9_fits 14 rfl) h (fun v5 h => ?_)
    refine m_iload_n C (dOf DX9_fits 15 rfl) rfl 1 rfl ?_
    refine m_iadd C (dOf DX9_fits 16 rfl) h (fun v6 h => ?_)
    refine m_aload_n C (dOf DX9_fits 17 rfl) rfl 0 rfl ?_
    refine m_gR C (dOf DX9_fits 18 rfl) kf_X9_7 fg_9_1 h (fun a7 h => ?_)
    refine m_iconst C (dOf DX9_fits 19 rfl) (v := 1) ki_1 ?_
    refine m_aI C (dOf DX9_fits 20 rfl) h (fun v8 h => ?_)
    refine m_jn (J := fun (x9 : Int32) => WM X G 3 0 0 (wQ X G (qI G (o, S)) 0 0) 40 [] [.int x9] S) h (fun x9 h => ?_) (fun j9 hj9 h => ?_)
    · exact m_zretP C rfl (dOf DX9_fits 25 rfl) h
    refine m_icmpgt C (dOf DX9_fits 21 rfl) (tgt := 39) rfl h (fun h => ?_) (fun h => ?_)
    · refine m_iconst C (dOf DX9_fits 24 rfl) (v := 0) ki_0 ?_
      exact m_sub [] rfl (hj9 _ h)
    · refine m_iconst C (dOf DX9_fits 22 rfl) (v := 1) ki_1 ?_
      refine m_goto C (dOf DX9_fits 23 rfl) (tgt := 40) rfl ?_
      exact m_sub [] rfl (hj9 _ h)
  refine m_icmple C (dOf DX9_fits 8 rfl) (tgt := 20) rfl h (fun h => ?_) (fun h => ?_)
  · refine m_iconst C (dOf DX9_fits 11 rfl) (v := 0) ki_0 ?_
    exact m_sub [0, 2] rfl (hj3 _ h)
  · refine m_iconst C (dOf DX9_fits 9 rfl) (v := 3) ki_3 ?_
    refine m_goto C (dOf DX9_fits 10 rfl) (tgt := 21) rfl ?_
    exact m_sub [0, 2] rfl (hj3 _ h)
/-- TraceRingModel.cellIs(III)V -/
def f_X9_cellIs (S : St) (b0 : Nat) (p1 : Int32) (p2 : Int32) (p3 : Int32) : Option St :=
  lt_ (4 + p2 : Int32) fun v1 =>
  ck_ S b0 9 <| cV_ (f_X9_lay S b0 p1 v1 p3) fun S2 =>
  rt_ S2
set_option maxRecDepth 100000 in
set_option maxHeartbeats 4000000 in
theorem c_X9_cellIs (l : Launch) (G : Gx) (S : St) (b0 : Nat) (p1 : Int32) (p2 : Int32) (p3 : Int32) (o : St) (h : f_X9_cellIs S b0 p1 p2 p3 = some o) : Met l yX9_cellIs (Cond.code yX9_cellIs cX9_cellIs 4 none :: wAll) ({ frames := 1, cells := 0, slots := 0, locals := 23 } : Room) (va_Pc [.ref (G.1 + b0), .int p1, .int p2, .int p3] (wPre G S)) (qV G o) 0 0 (wA G) := by
  refine m_start (by decide +kernel) (Nat.le_of_ble_eq_true rfl) (fun X C => ?_)
  unfold f_X9_cellIs at h
  show WM X G 4 0 0 (wQ X G (qV G o) 0 0) 0 [(0, .ref (G.1 + b0)), (1, .int p1), (2, .int p2), (3, .int p3)] [] S
  refine m_aload_n C (dOf DX9_cellIs 0 rfl) rfl 0 rfl ?_
  refine m_iload_n C (dOf DX9_cellIs 1 rfl) rfl 1 rfl ?_
  refine m_iconst C (dOf DX9_cellIs 2 rfl) (v := 4) ki_4 ?_
  refine m_iload_n C (dOf DX9_cellIs 3 rfl) rfl 2 rfl ?_
  refine m_iadd C (dOf DX9_cellIs 4 rfl) h (fun v1 h => ?_)
  refine m_iload_n C (dOf DX9_cellIs 5 rfl) rfl 3 rfl ?_
  obtain ⟨hc, h⟩ := ck_spec h
  refine m_cV (st := []) h (fun o' ho H locs ls hl hr hs => ⟨_, m_runV C (dOf DX9_cellIs 6 rfl) km_X9_141 ky_X9_lay (by decide) ⟨rfl, rfl⟩ (c_X9_lay _ G _ _ _ _ _ o' ho) hc.1 hc.2 (by decide) rfl rfl rfl (Nat.le_of_ble_eq_true rfl) ⟨Nat.le_refl _, Nat.le_refl _⟩ hl hr hs⟩) (fun S2 h => ?_)
  exact m_vret C rfl (dOf DX9_cellIs 7 rfl) h
/-- TraceRingModel.lays(III)V -/
def f_X9_lays (S : St) (b0 : Nat) (p1 : Int32) (p2 : Int32) (p3 : Int32) : Option St :=
  ck_ S b0 9 <| cP_ (f_X9_deltaIn S b0 p1) fun v1 =>
  ck_ S b0 9 <| cP_ (f_X9_of S b0 p1 1) fun v2 =>
  jn_ (fun (x3 : St) =>
    jn_ (fun (x4 : Int32 × St) =>
      lt_ (16 * p3 : Int32) fun v5 =>
      jn_ (fun (x6 : Int32) =>
        lt_ (v5 + x6 : Int32) fun v7 =>
        ck_ x4.2 b0 9 <| cV_ (f_X9_cellIs x4.2 b0 p1 x4.1 v7) fun S8 =>
        ck_ S8 b0 9 <| cP_ (f_X9_of S8 b0 p1 3) fun v9 =>
        lt_ (6 * v9 : Int32) fun v10 =>
        lt_ (36 + v10 : Int32) fun v11 =>
        lt_ (v11 + 0 : Int32) fun v12 =>
        ck_ S8 b0 9 <| cV_ (f_X9_lay S8 b0 p1 v12 0) fun S13 =>
        lt_ (v11 + 1 : Int32) fun v14 =>
        gR_ S13 b0 9 1 fun a15 =>
        aI_ S13 a15 11 10 fun v16 =>
        ck_ S13 b0 9 <| cV_ (f_X9_lay S13 b0 p1 v14 v16) fun S17 =>
        lt_ (v11 + 2 : Int32) fun v18 =>
        ck_ S17 b0 9 <| cV_ (f_X9_lay S17 b0 p1 v18 p2) fun S19 =>
        lt_ (v11 + 3 : Int32) fun v20 =>
        gR_ S19 b0 9 1 fun a21 =>
        aI_ S19 a21 11 3 fun v22 =>
        ck_ S19 b0 9 <| cV_ (f_X9_lay S19 b0 p1 v20 v22) fun S23 =>
        lt_ (v11 + 4 : Int32) fun v24 =>
        ck_ S23 b0 9 <| cV_ (f_X9_lay S23 b0 p1 v24 p3) fun S25 =>
        lt_ (v11 + 5 : Int32) fun v26 =>
        ck_ S25 b0 9 <| cV_ (f_X9_lay S25 b0 p1 v26 x4.1) fun S27 =>
        lt_ (v9 + 1 : Int32) fun v28 =>
        ck_ S27 b0 9 <| cV_ (f_X9_lay S27 b0 p1 3 v28) fun S29 =>
        lt_ (x4.1 + 1 : Int32) fun v30 =>
        lt_ (v30 + p3 : Int32) fun v31 =>
        ck_ S29 b0 9 <| cV_ (f_X9_lay S29 b0 p1 1 v31) fun S32 =>
        gR_ S32 b0 9 1 fun a33 =>
        gR_ S32 b0 9 1 fun a34 =>
        aI_ S32 a34 11 20 fun v35 =>
        cP_ (f_X9_greater S32 v35 v1) fun v36 =>
        sI_ S32 a33 20 v36 fun S37 =>
        gR_ S37 b0 9 1 fun a38 =>
        aI_ S37 a38 11 6 fun v39 =>
        lt_ (3 * v39 : Int32) fun v40 =>
        lt_ (43 + v40 : Int32) fun v41 =>
        gR_ S37 b0 9 1 fun a42 =>
        sI_ S37 a42 v41 p1 fun S43 =>
        gR_ S43 b0 9 1 fun a44 =>
        lt_ (v41 + 1 : Int32) fun v45 =>
        sI_ S43 a44 v45 v9 fun S46 =>
        gR_ S46 b0 9 1 fun a47 =>
        lt_ (v41 + 2 : Int32) fun v48 =>
        sI_ S46 a47 v48 0 fun S49 =>
        gR_ S49 b0 9 1 fun a50 =>
        aI_ S49 a50 11 6 fun v51 =>
        lt_ (v51 + 1 : Int32) fun v52 =>
        sI_ S49 a50 6 v52 fun S53 =>
        gR_ S53 b0 9 1 fun a54 =>
        gR_ S53 b0 9 1 fun a55 =>
        aI_ S53 a55 11 21 fun v56 =>
        gR_ S53 b0 9 1 fun a57 =>
        aI_ S53 a57 11 6 fun v58 =>
        cP_ (f_X9_greater S53 v56 v58) fun v59 =>
        sI_ S53 a54 21 v59 fun S60 =>
        gR_ S60 b0 9 1 fun a61 =>
        lt_ (22 + p2 : Int32) fun v62 =>
        aI_ S60 a61 11 v62 fun v63 =>
        lt_ (v63 + 1 : Int32) fun v64 =>
        sI_ S60 a61 v62 v64 fun S65 =>
        rt_ S65
      ) fun j6 =>
      if v1 ≤ 15 then
        j6 (v1)
      else
        j6 (0)
    ) fun j4 =>
    if v1 ≤ 15 then
      j4 (v2, x3)
    else
      rm_ v1 16 fun v66 =>
      lt_ (240 + v66 : Int32) fun v67 =>
      ck_ x3 b0 9 <| cV_ (f_X9_cellIs x3 b0 p1 v2 v67) fun S68 =>
      lt_ (v2 + 1 : Int32) fun v69 =>
      dv_ v1 16 fun v70 =>
      rm_ v70 256 fun v71 =>
      ck_ S68 b0 9 <| cV_ (f_X9_cellIs S68 b0 p1 v69 v71) fun S72 =>
      lt_ (v2 + 2 : Int32) fun v73 =>
      dv_ v1 4096 fun v74 =>
      ck_ S72 b0 9 <| cV_ (f_X9_cellIs S72 b0 p1 v73 v74) fun S75 =>
      lt_ (v2 + 3) fun v76 =>
      gR_ S75 b0 9 1 fun a77 =>
      aI_ S75 a77 11 16 fun v78 =>
      lt_ (v78 + 1 : Int32) fun v79 =>
      sI_ S75 a77 16 v79 fun S80 =>
      j4 (v76, S80)
  ) fun j3 =>
  if v2 = 0 then
    gR_ S b0 9 1 fun a81 =>
    aI_ S a81 11 3 fun v82 =>
    ck_ S b0 9 <| cV_ (f_X9_lay S b0 p1 0 v82) fun S83 =>
    j3 (S83)
  else
    j3 (S)
set_option maxRecDepth 100000 in
set_option maxHeartbeats 4000000 in
theorem c_X9_lays (l : Launch) (G : Gx) (S : St) (b0 : Nat) (p1 : Int32) (p2 : Int32) (p3 : Int32) (o : St) (h : f_X9_lays S b0 p1 p2 p3 = some o) : Met l yX9_lays (Cond.code yX9_lays cX9_lays 9 none :: wAll) ({ frames := 3, cells := 0, slots := 0, locals := 66 } : Room) (va_Pc [.ref (G.1 + b0), .int p1, .int p2, .int p3] (wPre G S)) (qV G o) 0 0 (wA G) := by
  refine m_start (by decide +kernel) (Nat.le_of_ble_eq_true rfl) (fun X C => ?_)
  unfold f_X9_lays at h
  show WM X G 9 0 0 (wQ X G (qV G o) 0 0) 0 [(0, .ref (G.1 + b0)), (1, .int p1), (2, .int p2), (3, .int p3)] [] S
  refine m_aload_n C (dOf DX9_lays 0 rfl) rfl 0 rfl ?_
  refine m_iload_n C (dOf DX9_lays 1 rfl) rfl 1 rfl ?_
  obtain ⟨hc, h⟩ := ck_spec h
  refine m_cP (st := []) h (fun o' ho H locs ls hl hr hs => ⟨_, m_runV C (dOf DX9_lays 2 rfl) km_X9_168 ky_X9_deltaIn (by decide) ⟨rfl, rfl⟩ (c_X9_deltaIn _ G _ _ _ o' ho) hc.1 hc.2 (by decide) rfl rfl rfl (Nat.le_of_ble_eq_true rfl) ⟨Nat.le_refl _, Nat.le_refl _⟩ hl hr hs⟩) (fun v1 h => ?_)
  refine m_istore C (dOf DX9_lays 3 rfl) (by decide) (lv' := [(4, .int v1), (0, .ref (G.1 + b0)), (1, .int p1), (2, .int p2), (3, .int p3)]) rfl ?_
  refine m_aload_n C (dOf DX9_lays 4 rfl) rfl 1 rfl ?_
  refine m_iload_n C (dOf DX9_lays 5 rfl) rfl 2 rfl ?_
  refine m_iconst C (dOf DX9_lays 6 rfl) (v := 1) ki_1 ?_
  obtain ⟨hc, h⟩ := ck_spec h
  refine m_cP (st := []) h (fun o' ho H locs ls hl hr hs => ⟨_, m_runV C (dOf DX9_lays 7 rfl) km_X9_144 ky_X9_of (by decide) ⟨rfl, rfl⟩ (c_X9_of _ G _ _ _ _ o' ho) hc.1 hc.2 (by decide) rfl rfl rfl (Nat.le_of_ble_eq_true rfl) ⟨Nat.le_refl _, Nat.le_refl _⟩ hl hr hs⟩) (fun v2 h => ?_)
  refine m_istore C (dOf DX9_lays 8 rfl) (by decide) (lv' := [(5, .int v2), (4, .int v1), (0, .ref (G.1 + b0)), (1, .int p1), (2, .int p2), (3, .int p3)]) rfl ?_
  refine m_iload C (dOf DX9_lays 9 rfl) 0 rfl ?_
  refine m_jn (J := fun (x3 : St) => WM X G 9 0 0 (wQ X G (qV G o) 0 0) 32 [(0, .ref (G.1 + b0)), (1, .int p1), (2, .int p2), (3, .int p3), (4, .int v1), (5, .int v2)] [] x3) h (fun x3 h => ?_) (fun j3 hj3 h => ?_)
  · refine m_iload C (dOf DX9_lays 19 rfl) 4 rfl ?_
    refine m_bipush C (dOf DX9_lays 20 rfl) (v := 15) kb_15 ?_
    refine m_jn (J := fun (x4 : Int32 × St) => WM X G 9 0 0 (wQ X G (qV G o) 0 0) 102 [(0, .ref (G.1 + b0)), (1, .int p1), (2, .int p2), (3, .int p3), (4, .int v1), (5, .int x4.1)] [] x4.2) h (fun x4 h => ?_) (fun j4 hj4 h => ?_)
    · refine m_aload_n C (dOf DX9_lays 60 rfl) rfl 0 rfl ?_
      refine m_iload_n C (dOf DX9_lays 61 rfl) rfl 1 rfl ?_
      refine m_iload C (dOf DX9_lays 62 rfl) 5 rfl ?_
      refine m_bipush C (dOf DX9_lays 63 rfl) (v := 16) kb_16 ?_
      refine m_iload_n C (dOf DX9_lays 64 rfl) rfl 3 rfl ?_
      refine m_imul C (dOf DX9_lays 65 rfl) h (fun v5 h => ?_)
      refine m_iload C (dOf DX9_lays 66 rfl) 4 rfl ?_
      refine m_bipush C (dOf DX9_lays 67 rfl) (v := 15) kb_15 ?_
      refine m_jn (J := fun (x6 : Int32) => WM X G 9 0 0 (wQ X G (qV G o) 0 0) 123 [(0, .ref (G.1 + b0)), (1, .int p1), (2, .int p2), (3, .int p3), (4, .int v1), (5, .int x4.1)] [.int x6, .int v5, .int x4.1, .int p1, .ref (G.1 + b0)] x4.2) h (fun x6 h => ?_) (fun j6 hj6 h => ?_)
      · refine m_iadd C (dOf DX9_lays 72 rfl) h (fun v7 h => ?_)
        obtain ⟨hc, h⟩ := ck_spec h
        refine m_cV (st := []) h (fun o' ho H locs ls hl hr hs => ⟨_, m_runV C (dOf DX9_lays 73 rfl) km_X9_171 ky_X9_cellIs (by decide) ⟨rfl, rfl⟩ (c_X9_cellIs _ G _ _ _ _ _ o' ho) hc.1 hc.2 (by decide) rfl rfl rfl (Nat.le_of_ble_eq_true rfl) ⟨Nat.le_refl _, Nat.le_refl _⟩ hl hr hs⟩) (fun S8 h => ?_)
        refine m_aload_n C (dOf DX9_lays 74 rfl) rfl 0 rfl ?_
        refine m_iload_n C (dOf DX9_lays 75 rfl) rfl 1 rfl ?_
        refine m_iconst C (dOf DX9_lays 76 rfl) (v := 3) ki_3 ?_
        obtain ⟨hc, h⟩ := ck_spec h
        refine m_cP (st := []) h (fun o' ho H locs ls hl hr hs => ⟨_, m_runV C (dOf DX9_lays 77 rfl) km_X9_144 ky_X9_of (by decide) ⟨rfl, rfl⟩ (c_X9_of _ G _ _ _ _ o' ho) hc.1 hc.2 (by decide) rfl rfl rfl (Nat.le_of_ble_eq_true rfl) ⟨Nat.le_refl _, Nat.le_refl _⟩ hl hr hs⟩) (fun v9 h => ?_)
        refine m_istore C (dOf DX9_lays 78 rfl) (by decide) (lv' := [(6, .int v9), (0, .ref (G.1 + b0)), (1, .int p1), (2, .int p2), (3, .int p3), (4, .int v1), (5, .int x4.1)]) rfl ?_
        refine m_bipush C (dOf DX9_lays 79 rfl) (v := 36) kb_36 ?_
        refine m_bipush C (dOf DX9_lays 80 rfl) (v := 6) kb_6 ?_
        refine m_iload C (dOf DX9_lays 81 rfl) 0 rfl ?_
        refine m_imul C (dOf DX9_lays 82 rfl) h (fun v10 h => ?_)
        refine m_iadd C (dOf DX9_lays 83 rfl) h (fun v11 h => ?_)
        refine m_istore C (dOf DX9_lays 84 rfl) (by decide) (lv' := [(7, .int v11), (6, .int v9), (0, .ref (G.1 + b0)), (1, .int p1), (2, .int p2), (3, .int p3), (4, .int v1), (5, .int x4.1)]) rfl ?_
        refine m_aload_n C (dOf DX9_lays 85 rfl) rfl 2 rfl ?_
        refine m_iload_n C (dOf DX9_lays 86 rfl) rfl 3 rfl ?_
        refine m_iload C (dOf DX9_lays 87 rfl) 0 rfl ?_
        refine m_iconst C (dOf DX9_lays 88 rfl) (v := 0) ki_0 ?_
        refine m_iadd C (dOf DX9_lays 89 rfl) h (fun v12 h => ?_)
        refine m_iconst C (dOf DX9_lays 90 rfl) (v := 0) ki_0 ?_
        obtain ⟨hc, h⟩ := ck_spec h
        refine m_cV (st := []) h (fun o' ho H locs ls hl hr hs => ⟨_, m_runV C (dOf DX9_lays 91 rfl) km_X9_141 ky_X9_lay (by decide) ⟨rfl, rfl⟩ (c_X9_lay _ G _ _ _ _ _ o' ho) hc.1 hc.2 (by decide) rfl rfl rfl (Nat.le_of_ble_eq_true rfl) ⟨Nat.le_refl _, Nat.le_refl _⟩ hl hr hs⟩) (fun S13 h => ?_)
        refine m_aload_n C (dOf DX9_lays 92 rfl) rfl 2 rfl ?_
        refine m_iload_n C (dOf DX9_lays 93 rfl) rfl 3 rfl ?_
        refine m_iload C (dOf DX9_lays 94 rfl) 0 rfl ?_
        refine m_iconst C (dOf DX9_lays 95 rfl) (v := 1) ki_1 ?_
        refine m_iadd C (dOf DX9_lays 96 rfl) h (fun v14 h => ?_)
        refine m_aload_n C (dOf DX9_lays 97 rfl) rfl 2 rfl ?_
        refine m_gR C (dOf DX9_lays 98 rfl) kf_X9_7 fg_9_1 h (fun a15 h => ?_)
        refine m_bipush C (dOf DX9_lays 99 rfl) (v := 10) kb_10 ?_
        refine m_aI C (dOf DX9_lays 100 rfl) h (fun v16 h => ?_)
        obtain ⟨hc, h⟩ := ck_spec h
        refine m_cV (st := []) h (fun o' ho H locs ls hl hr hs => ⟨_, m_runV C (dOf DX9_lays 101 rfl) km_X9_141 ky_X9_lay (by decide) ⟨rfl, rfl⟩ (c_X9_lay _ G _ _ _ _ _ o' ho) hc.1 hc.2 (by decide) rfl rfl rfl (Nat.le_of_ble_eq_true rfl) ⟨Nat.le_refl _, Nat.le_refl _⟩ hl hr hs⟩) (fun S17 h => ?_)
        refine m_aload_n C (dOf DX9_lays 102 rfl) rfl 2 rfl ?_
        refine m_iload_n C (dOf DX9_lays 103 rfl) rfl 3 rfl ?_
        refine m_iload C (dOf DX9_lays 104 rfl) 0 rfl ?_
        refine m_iconst C (dOf DX9_lays 105 rfl) (v := 2) ki_2 ?_
        refine m_iadd C (dOf DX9_lays 106 rfl) h (fun v18 h => ?_)
        refine m_iload_n C (dOf DX9_lays 107 rfl) rfl 4 rfl ?_
        obtain ⟨hc, h⟩ := ck_spec h
        refine m_cV (st := []) h (fun o' ho H locs ls hl hr hs => ⟨_, m_runV C (dOf DX9_lays 108 rfl) km_X9_141 ky_X9_lay (by decide) ⟨rfl, rfl⟩ (c_X9_lay _ G _ _ _ _ _ o' ho) hc.1 hc.2 (by decide) rfl rfl rfl (Nat.le_of_ble_eq_true rfl) ⟨Nat.le_refl _, Nat.le_refl _⟩ hl hr hs⟩) (fun S19 h => ?_)
        refine m_aload_n C (dOf DX9_lays 109 rfl) rfl 2 rfl ?_
        refine m_iload_n C (dOf DX9_lays 110 rfl) rfl 3 rfl ?_
        refine m_iload C (dOf DX9_lays 111 rfl) 0 rfl ?_
        refine m_iconst C (dOf DX9_lays 112 rfl) (v := 3) ki_3 ?_
        refine m_iadd C (dOf DX9_lays 113 rfl) h (fun v20 h => ?_)
        refine m_aload_n C (dOf DX9_lays 114 rfl) rfl 2 rfl ?_
        refine m_gR C (dOf DX9_lays 115 rfl) kf_X9_7 fg_9_1 h (fun a21 h => ?_)
        refine m_iconst C (dOf DX9_lays 116 rfl) (v := 3) ki_3 ?_
        refine m_aI C (dOf DX9_lays 117 rfl) h (fun v22 h => ?_)
        obtain ⟨hc, h⟩ := ck_spec h
        refine m_cV (st := []) h (fun o' ho H locs ls hl hr hs => ⟨_, m_runV C (dOf DX9_lays 118 rfl) km_X9_141 ky_X9_lay (by decide) ⟨rfl, rfl⟩ (c_X9_lay _ G _ _ _ _ _ o' ho) hc.1 hc.2 (by decide) rfl rfl rfl (Nat.le_of_ble_eq_true rfl) ⟨Nat.le_refl _, Nat.le_refl _⟩ hl hr hs⟩) (fun S23 h => ?_)
        refine m_aload_n C (dOf DX9_lays 119 rfl) rfl 2 rfl ?_
        refine m_iload_n C (dOf DX9_lays_1 0 rfl) rfl 3 rfl ?_
        refine m_iload C (dOf DX9_lays_1 1 rfl) 0 rfl ?_
        refine m_iconst C (dOf DX9_lays_1 2 rfl) (v := 4) ki_4 ?_
        refine m_iadd C (dOf DX9_lays_1 3 rfl) h (fun v24 h => ?_)
        refine m_iload_n C (dOf DX9_lays_1 4 rfl) rfl 5 rfl ?_
        obtain ⟨hc, h⟩ := ck_spec h
        refine m_cV (st := []) h (fun o' ho H locs ls hl hr hs => ⟨_, m_runV C (dOf DX9_lays_1 5 rfl) km_X9_141 ky_X9_lay (by decide) ⟨rfl, rfl⟩ (c_X9_lay _ G _ _ _ _ _ o' ho) hc.1 hc.2 (by decide) rfl rfl rfl (Nat.le_of_ble_eq_true rfl) ⟨Nat.le_refl _, Nat.le_refl _⟩ hl hr hs⟩) (fun S25 h => ?_)
        refine m_aload_n C (dOf DX9_lays_1 6 rfl) rfl 2 rfl ?_
        refine m_iload_n C (dOf DX9_lays_1 7 rfl) rfl 3 rfl ?_
        refine m_iload C (dOf DX9_lays_1 8 rfl) 0 rfl ?_
        refine m_iconst C (dOf DX9_lays_1 9 rfl) (v := 5) ki_5 ?_
        refine m_iadd C (dOf DX9_lays_1 10 rfl) h (fun v26 h => ?_)
        refine m_iload C (dOf DX9_lays_1 11 rfl) 7 rfl ?_
        obtain ⟨hc, h⟩ := ck_spec h
        refine m_cV (st := []) h (fun o' ho H locs ls hl hr hs => ⟨_, m_runV C (dOf DX9_lays_1 12 rfl) km_X9_141 ky_X9_lay (by decide) ⟨rfl, rfl⟩ (c_X9_lay _ G _ _ _ _ _ o' ho) hc.1 hc.2 (by decide) rfl rfl rfl (Nat.le_of_ble_eq_true rfl) ⟨Nat.le_refl _, Nat.le_refl _⟩ hl hr hs⟩) (fun S27 h => ?_)
        refine m_aload_n C (dOf DX9_lays_1 13 rfl) rfl 2 rfl ?_
        refine m_iload_n C (dOf DX9_lays_1 14 rfl) rfl 3 rfl ?_
        refine m_iconst C (dOf DX9_lays_1 15 rfl) (v := 3) ki_3 ?_
        refine m_iload C (dOf DX9_lays_1 16 rfl) 1 rfl ?_
        refine m_iconst C (dOf DX9_lays_1 17 rfl) (v := 1) ki_1 ?_
        refine m_iadd C (dOf DX9_lays_1 18 rfl) h (fun v28 h => ?_)
        obtain ⟨hc, h⟩ := ck_spec h
        refine m_cV (st := []) h (fun o' ho H locs ls hl hr hs => ⟨_, m_runV C (dOf DX9_lays_1 19 rfl) km_X9_141 ky_X9_lay (by decide) ⟨rfl, rfl⟩ (c_X9_lay _ G _ _ _ _ _ o' ho) hc.1 hc.2 (by decide) rfl rfl rfl (Nat.le_of_ble_eq_true rfl) ⟨Nat.le_refl _, Nat.le_refl _⟩ hl hr hs⟩) (fun S29 h => ?_)
        refine m_aload_n C (dOf DX9_lays_1 20 rfl) rfl 2 rfl ?_
        refine m_iload_n C (dOf DX9_lays_1 21 rfl) rfl 3 rfl ?_
        refine m_iconst C (dOf DX9_lays_1 22 rfl) (v := 1) ki_1 ?_
        refine m_iload C (dOf DX9_lays_1 23 rfl) 7 rfl ?_
        refine m_iconst C (dOf DX9_lays_1 24 rfl) (v := 1) ki_1 ?_
        refine m_iadd C (dOf DX9_lays_1 25 rfl) h (fun v30 h => ?_)
        refine m_iload_n C (dOf DX9_lays_1 26 rfl) rfl 5 rfl ?_
        refine m_iadd C (dOf DX9_lays_1 27 rfl) h (fun v31 h => ?_)
        obtain ⟨hc, h⟩ := ck_spec h
        refine m_cV (st := []) h (fun o' ho H locs ls hl hr hs => ⟨_, m_runV C (dOf DX9_lays_1 28 rfl) km_X9_141 ky_X9_lay (by decide) ⟨rfl, rfl⟩ (c_X9_lay _ G _ _ _ _ _ o' ho) hc.1 hc.2 (by decide) rfl rfl rfl (Nat.le_of_ble_eq_true rfl) ⟨Nat.le_refl _, Nat.le_refl _⟩ hl hr hs⟩) (fun S32 h => ?_)
        refine m_aload_n C (dOf DX9_lays_1 29 rfl) rfl 2 rfl ?_
        refine m_gR C (dOf DX9_lays_1 30 rfl) kf_X9_7 fg_9_1 h (fun a33 h => ?_)
        refine m_bipush C (dOf DX9_lays_1 31 rfl) (v := 20) kb_20 ?_
        refine m_aload_n C (dOf DX9_lays_1 32 rfl) rfl 2 rfl ?_
        refine m_gR C (dOf DX9_lays_1 33 rfl) kf_X9_7 fg_9_1 h (fun a34 h => ?_)
        refine m_bipush C (dOf DX9_lays_1 34 rfl) (v := 20) kb_20 ?_
        refine m_aI C (dOf DX9_lays_1 35 rfl) h (fun v35 h => ?_)
        refine m_iload C (dOf DX9_lays_1 36 rfl) 6 rfl ?_
        refine m_cP (st := [.int 20, .ref (G.1 + a33)]) h (fun o' ho H locs ls hl hr hs => ⟨_, m_runS C (dOf DX9_lays_1 37 rfl) km_X9_174 ks_X9_greater rfl (by decide) ⟨rfl, rfl⟩ (c_X9_greater _ G _ _ _ o' ho) rfl rfl (Nat.le_of_ble_eq_true rfl) ⟨Nat.le_refl _, Nat.le_refl _⟩ hl hr hs⟩) (fun v36 h => ?_)
        refine m_sI C (dOf DX9_lays_1 38 rfl) h (fun S37 h => ?_)
        refine m_bipush C (dOf DX9_lays_1 39 rfl) (v := 43) kb_43 ?_
        refine m_iconst C (dOf DX9_lays_1 40 rfl) (v := 3) ki_3 ?_
        refine m_aload_n C (dOf DX9_lays_1 41 rfl) rfl 2 rfl ?_
        refine m_gR C (dOf DX9_lays_1 42 rfl) kf_X9_7 fg_9_1 h (fun a38 h => ?_)
        refine m_bipush C (dOf DX9_lays_1 43 rfl) (v := 6) kb_6 ?_
        refine m_aI C (dOf DX9_lays_1 44 rfl) h (fun v39 h => ?_)
        refine m_imul C (dOf DX9_lays_1 45 rfl) h (fun v40 h => ?_)
        refine m_iadd C (dOf DX9_lays_1 46 rfl) h (fun v41 h => ?_)
        refine m_istore C (dOf DX9_lays_1 47 rfl) (by decide) (lv' := [(8, .int v41), (7, .int v11), (6, .int v9), (0, .ref (G.1 + b0)), (1, .int p1), (2, .int p2), (3, .int p3), (4, .int v1), (5, .int x4.1)]) rfl ?_
        refine m_aload_n C (dOf DX9_lays_1 48 rfl) rfl 3 rfl ?_
        refine m_gR C (dOf DX9_lays_1 49 rfl) kf_X9_7 fg_9_1 h (fun a42 h => ?_)
        refine m_iload C (dOf DX9_lays_1 50 rfl) 0 rfl ?_
        refine m_iload_n C (dOf DX9_lays_1 51 rfl) rfl 4 rfl ?_
        refine m_sI C (dOf DX9_lays_1 52 rfl) h (fun S43 h => ?_)
        refine m_aload_n C (dOf DX9_lays_1 53 rfl) rfl 3 rfl ?_
        refine m_gR C (dOf DX9_lays_1 54 rfl) kf_X9_7 fg_9_1 h (fun a44 h => ?_)
        refine m_iload C (dOf DX9_lays_1 55 rfl) 0 rfl ?_
        refine m_iconst C (dOf DX9_lays_1 56 rfl) (v := 1) ki_1 ?_
        refine m_iadd C (dOf DX9_lays_1 57 rfl) h (fun v45 h => ?_)
        refine m_iload C (dOf DX9_lays_1 58 rfl) 2 rfl ?_
        refine m_sI C (dOf DX9_lays_1 59 rfl) h (fun S46 h => ?_)
        refine m_aload_n C (dOf DX9_lays_1 60 rfl) rfl 3 rfl ?_
        refine m_gR C (dOf DX9_lays_1 61 rfl) kf_X9_7 fg_9_1 h (fun a47 h => ?_)
        refine m_iload C (dOf DX9_lays_1 62 rfl) 0 rfl ?_
        refine m_iconst C (dOf DX9_lays_1 63 rfl) (v := 2) ki_2 ?_
        refine m_iadd C (dOf DX9_lays_1 64 rfl) h (fun v48 h => ?_)
        refine m_iconst C (dOf DX9_lays_1 65 rfl) (v := 0) ki_0 ?_
        refine m_sI C (dOf DX9_lays_1 66 rfl) h (fun S49 h => ?_)
        refine m_aload_n C (dOf DX9_lays_1 67 rfl) rfl 3 rfl ?_
        refine m_gR C (dOf DX9_lays_1 68 rfl) kf_X9_7 fg_9_1 h (fun a50 h => ?_)
        refine m_bipush C (dOf DX9_lays_1 69 rfl) (v := 6) kb_6 ?_
        refine m_dup2 C (dOf DX9_lays_1 70 rfl) rfl rfl ?_
        refine m_aI C (dOf DX9_lays_1 71 rfl) h (fun v51 h => ?_)
        refine m_iconst C (dOf DX9_lays_1 72 rfl) (v := 1) ki_1 ?_
        refine m_iadd C (dOf DX9_lays_1 73 rfl) h (fun v52 h => ?_)
        refine m_sI C (dOf DX9_lays_1 74 rfl) h (fun S53 h => ?_)
        refine m_aload_n C (dOf DX9_lays_1 75 rfl) rfl 3 rfl ?_
        refine m_gR C (dOf DX9_lays_1 76 rfl) kf_X9_7 fg_9_1 h (fun a54 h => ?_)
        refine m_bipush C (dOf DX9_lays_1 77 rfl) (v := 21) kb_21 ?_
        refine m_aload_n C (dOf DX9_lays_1 78 rfl) rfl 3 rfl ?_
        refine m_gR C (dOf DX9_lays_1 79 rfl) kf_X9_7 fg_9_1 h (fun a55 h => ?_)
        refine m_bipush C (dOf DX9_lays_1 80 rfl) (v := 21) kb_21 ?_
        refine m_aI C (dOf DX9_lays_1 81 rfl) h (fun v56 h => ?_)
        refine m_aload_n C (dOf DX9_lays_1 82 rfl) rfl 3 rfl ?_
        refine m_gR C (dOf DX9_lays_1 83 rfl) kf_X9_7 fg_9_1 h (fun a57 h => ?_)
        refine m_bipush C (dOf DX9_lays_1 84 rfl) (v := 6) kb_6 ?_
        refine m_aI C (dOf DX9_lays_1 85 rfl) h (fun v58 h => ?_)
        refine m_cP (st := [.int 21, .ref (G.1 + a54)]) h (fun o' ho H locs ls hl hr hs => ⟨_, m_runS C (dOf DX9_lays_1 86 rfl) km_X9_174 ks_X9_greater rfl (by decide) ⟨rfl, rfl⟩ (c_X9_greater _ G _ _ _ o' ho) rfl rfl (Nat.le_of_ble_eq_true rfl) ⟨Nat.le_refl _, Nat.le_refl _⟩ hl hr hs⟩) (fun v59 h => ?_)
        refine m_sI C (dOf DX9_lays_1 87 rfl) h (fun S60 h => ?_)
        refine m_aload_n C (dOf DX9_lays_1 88 rfl) rfl 3 rfl ?_
        refine m_gR C (dOf DX9_lays_1 89 rfl) kf_X9_7 fg_9_1 h (fun a61 h => ?_)
        refine m_bipush C (dOf DX9_lays_1 90 rfl) (v := 22) kb_22 ?_
        refine m_iload_n C (dOf DX9_lays_1 91 rfl) rfl 5 rfl ?_
        refine m_iadd C (dOf DX9_lays_1 92 rfl) h (fun v62 h => ?_)
        refine m_dup2 C (dOf DX9_lays_1 93 rfl) rfl rfl ?_
        refine m_aI C (dOf DX9_lays_1 94 rfl) h (fun v63 h => ?_)
        refine m_iconst C (dOf DX9_lays_1 95 rfl) (v := 1) ki_1 ?_
        refine m_iadd C (dOf DX9_lays_1 96 rfl) h (fun v64 h => ?_)
        refine m_sI C (dOf DX9_lays_1 97 rfl) h (fun S65 h => ?_)
        exact m_vret C rfl (dOf DX9_lays_1 98 rfl) h
      refine m_icmple C (dOf DX9_lays 68 rfl) (tgt := 121) rfl h (fun h => ?_) (fun h => ?_)
      · refine m_iload C (dOf DX9_lays 71 rfl) 4 rfl ?_
        exact m_sub [0, 1, 2, 3, 4, 5] rfl (hj6 _ h)
      · refine m_iconst C (dOf DX9_lays 69 rfl) (v := 0) ki_0 ?_
        refine m_goto C (dOf DX9_lays 70 rfl) (tgt := 123) rfl ?_
        exact m_sub [0, 1, 2, 3, 4, 5] rfl (hj6 _ h)
    refine m_icmple C (dOf DX9_lays 21 rfl) (tgt := 102) rfl h (fun h => ?_) (fun h => ?_)
    · exact m_sub [0, 1, 2, 3, 4, 5] rfl (hj4 _ h)
    · refine m_aload_n C (dOf DX9_lays 22 rfl) rfl 0 rfl ?_
      refine m_iload_n C (dOf DX9_lays 23 rfl) rfl 1 rfl ?_
      refine m_iload C (dOf DX9_lays 24 rfl) 5 rfl ?_
      refine m_sipush C (dOf DX9_lays 25 rfl) (v := 240) ks_240 ?_
      refine m_iload C (dOf DX9_lays 26 rfl) 4 rfl ?_
      refine m_bipush C (dOf DX9_lays 27 rfl) (v := 16) kb_16 ?_
      refine m_irem C (dOf DX9_lays 28 rfl) h (fun v66 h => ?_)
      refine m_iadd C (dOf DX9_lays 29 rfl) h (fun v67 h => ?_)
      obtain ⟨hc, h⟩ := ck_spec h
      refine m_cV (st := []) h (fun o' ho H locs ls hl hr hs => ⟨_, m_runV C (dOf DX9_lays 30 rfl) km_X9_171 ky_X9_cellIs (by decide) ⟨rfl, rfl⟩ (c_X9_cellIs _ G _ _ _ _ _ o' ho) hc.1 hc.2 (by decide) rfl rfl rfl (Nat.le_of_ble_eq_true rfl) ⟨Nat.le_refl _, Nat.le_refl _⟩ hl hr hs⟩) (fun S68 h => ?_)
      refine m_aload_n C (dOf DX9_lays 31 rfl) rfl 0 rfl ?_
      refine m_iload_n C (dOf DX9_lays 32 rfl) rfl 1 rfl ?_
      refine m_iload C (dOf DX9_lays 33 rfl) 5 rfl ?_
      refine m_iconst C (dOf DX9_lays 34 rfl) (v := 1) ki_1 ?_
      refine m_iadd C (dOf DX9_lays 35 rfl) h (fun v69 h => ?_)
      refine m_iload C (dOf DX9_lays 36 rfl) 4 rfl ?_
      refine m_bipush C (dOf DX9_lays 37 rfl) (v := 16) kb_16 ?_
      refine m_idiv C (dOf DX9_lays 38 rfl) h (fun v70 h => ?_)
      refine m_sipush C (dOf DX9_lays 39 rfl) (v := 256) ks_256 ?_
      refine m_irem C (dOf DX9_lays 40 rfl) h (fun v71 h => ?_)
      obtain ⟨hc, h⟩ := ck_spec h
      refine m_cV (st := []) h (fun o' ho H locs ls hl hr hs => ⟨_, m_runV C (dOf DX9_lays 41 rfl) km_X9_171 ky_X9_cellIs (by decide) ⟨rfl, rfl⟩ (c_X9_cellIs _ G _ _ _ _ _ o' ho) hc.1 hc.2 (by decide) rfl rfl rfl (Nat.le_of_ble_eq_true rfl) ⟨Nat.le_refl _, Nat.le_refl _⟩ hl hr hs⟩) (fun S72 h => ?_)
      refine m_aload_n C (dOf DX9_lays 42 rfl) rfl 0 rfl ?_
      refine m_iload_n C (dOf DX9_lays 43 rfl) rfl 1 rfl ?_
      refine m_iload C (dOf DX9_lays 44 rfl) 5 rfl ?_
      refine m_iconst C (dOf DX9_lays 45 rfl) (v := 2) ki_2 ?_
      refine m_iadd C (dOf DX9_lays 46 rfl) h (fun v73 h => ?_)
      refine m_iload C (dOf DX9_lays 47 rfl) 4 rfl ?_
      refine m_sipush C (dOf DX9_lays 48 rfl) (v := 4096) ks_4096 ?_
      refine m_idiv C (dOf DX9_lays 49 rfl) h (fun v74 h => ?_)
      obtain ⟨hc, h⟩ := ck_spec h
      refine m_cV (st := []) h (fun o' ho H locs ls hl hr hs => ⟨_, m_runV C (dOf DX9_lays 50 rfl) km_X9_171 ky_X9_cellIs (by decide) ⟨rfl, rfl⟩ (c_X9_cellIs _ G _ _ _ _ _ o' ho) hc.1 hc.2 (by decide) rfl rfl rfl (Nat.le_of_ble_eq_true rfl) ⟨Nat.le_refl _, Nat.le_refl _⟩ hl hr hs⟩) (fun S75 h => ?_)
      refine m_iinc C (dOf DX9_lays 51 rfl) (w := 3) ki_3 5 rfl (by decide) h (fun v76 h => ⟨[(5, .int v76), (0, .ref (G.1 + b0)), (1, .int p1), (2, .int p2), (3, .int p3), (4, .int v1)], rfl, ?_⟩)
      refine m_aload_n C (dOf DX9_lays 52 rfl) rfl 1 rfl ?_
      refine m_gR C (dOf DX9_lays 53 rfl) kf_X9_7 fg_9_1 h (fun a77 h => ?_)
      refine m_bipush C (dOf DX9_lays 54 rfl) (v := 16) kb_16 ?_
      refine m_dup2 C (dOf DX9_lays 55 rfl) rfl rfl ?_
      refine m_aI C (dOf DX9_lays 56 rfl) h (fun v78 h => ?_)
      refine m_iconst C (dOf DX9_lays 57 rfl) (v := 1) ki_1 ?_
      refine m_iadd C (dOf DX9_lays 58 rfl) h (fun v79 h => ?_)
      refine m_sI C (dOf DX9_lays 59 rfl) h (fun S80 h => ?_)
      exact m_sub [1, 2, 3, 4, 5, 0] rfl (hj4 _ h)
  refine m_ifne C (dOf DX9_lays 10 rfl) (tgt := 32) rfl h (fun h => ?_) (fun h => ?_)
  · exact m_sub [2, 3, 4, 5, 1, 0] rfl (hj3 _ h)
  · refine m_aload_n C (dOf DX9_lays 11 rfl) rfl 2 rfl ?_
    refine m_iload_n C (dOf DX9_lays 12 rfl) rfl 3 rfl ?_
    refine m_iconst C (dOf DX9_lays 13 rfl) (v := 0) ki_0 ?_
    refine m_aload_n C (dOf DX9_lays 14 rfl) rfl 2 rfl ?_
    refine m_gR C (dOf DX9_lays 15 rfl) kf_X9_7 fg_9_1 h (fun a81 h => ?_)
    refine m_iconst C (dOf DX9_lays 16 rfl) (v := 3) ki_3 ?_
    refine m_aI C (dOf DX9_lays 17 rfl) h (fun v82 h => ?_)
    obtain ⟨hc, h⟩ := ck_spec h
    refine m_cV (st := []) h (fun o' ho H locs ls hl hr hs => ⟨_, m_runV C (dOf DX9_lays 18 rfl) km_X9_141 ky_X9_lay (by decide) ⟨rfl, rfl⟩ (c_X9_lay _ G _ _ _ _ _ o' ho) hc.1 hc.2 (by decide) rfl rfl rfl (Nat.le_of_ble_eq_true rfl) ⟨Nat.le_refl _, Nat.le_refl _⟩ hl hr hs⟩) (fun S83 h => ?_)
    exact m_sub [2, 3, 4, 5, 1, 0] rfl (hj3 _ h)
/-- TraceRingModel.comes(II)I -/
def f_X9_comes (S : St) (b0 : Nat) (p1 : Int32) (p2 : Int32) : Option Int32 :=
  ck_ S b0 9 <| cP_ (f_X9_innermost S b0) fun v1 =>
  if v1 < p1 then
    gR_ S b0 9 1 fun a2 =>
    aI_ S a2 11 5 fun v3 =>
    ck_ S b0 9 <| cP_ (f_X9_pageAt S b0 v3) fun v4 =>
    ck_ S b0 9 <| cP_ (f_X9_fits S b0 v4 p2) fun v5 =>
    if v5 = 0 then
      gR_ S b0 9 1 fun a6 =>
      aI_ S a6 11 5 fun v7 =>
      ck_ S b0 9 <| cP_ (f_X9_behind S b0 v7) fun v8 =>
      gR_ S b0 9 1 fun a9 =>
      aI_ S a9 11 4 fun v10 =>
      if v8 = v10 then
        gR_ S b0 9 1 fun a11 =>
        aI_ S a11 11 2 fun v12 =>
        jn_ (fun (x13 : Int32) =>
          rt_ x13
        ) fun j13 =>
        jn_ (fun (x14 : Unit) =>
          j13 ((-3))
        ) fun j14 =>
        if v12 = 0 then
          j14 ()
        else
          ck_ S b0 9 <| cP_ (f_X9_pageAt S b0 v8) fun v15 =>
          ck_ S b0 9 <| cP_ (f_X9_isOpenIn S b0 v15) fun v16 =>
          if v16 = 0 then
            j13 (2)
          else
            j14 ()
      else
        rt_ 1
    else
      rt_ 0
  else
    rt_ (-2)
set_option maxRecDepth 100000 in
set_option maxHeartbeats 4000000 in
theorem c_X9_comes (l : Launch) (G : Gx) (S : St) (b0 : Nat) (p1 : Int32) (p2 : Int32) (o : Int32) (h : f_X9_comes S b0 p1 p2 = some o) : Met l yX9_comes (Cond.code yX9_comes cX9_comes 4 (some (.int)) :: wAll) ({ frames := 4, cells := 0, slots := 0, locals := 88 } : Room) (va_Pc [.ref (G.1 + b0), .int p1, .int p2] (wPre G S)) (qI G (o, S)) 0 0 (wA G) := by
  refine m_start (by decide +kernel) (Nat.le_of_ble_eq_true rfl) (fun X C => ?_)
  unfold f_X9_comes at h
  show WM X G 4 0 0 (wQ X G (qI G (o, S)) 0 0) 0 [(0, .ref (G.1 + b0)), (1, .int p1), (2, .int p2)] [] S
  refine m_iload_n C (dOf DX9_comes 0 rfl) rfl 1 rfl ?_
  refine m_aload_n C (dOf DX9_comes 1 rfl) rfl 0 rfl ?_
  obtain ⟨hc, h⟩ := ck_spec h
  refine m_cP (st := [.int p1]) h (fun o' ho H locs ls hl hr hs => ⟨_, m_runV C (dOf DX9_comes 2 rfl) km_X9_177 ky_X9_innermost (by decide) ⟨rfl, rfl⟩ (c_X9_innermost _ G _ _ o' ho) hc.1 hc.2 (by decide) rfl rfl rfl (Nat.le_of_ble_eq_true rfl) ⟨Nat.le_refl _, Nat.le_refl _⟩ hl hr hs⟩) (fun v1 h => ?_)
  refine m_icmpgt C (dOf DX9_comes 3 rfl) (tgt := 11) rfl h (fun h => ?_) (fun h => ?_)
  · refine m_aload_n C (dOf DX9_comes 6 rfl) rfl 0 rfl ?_
    refine m_aload_n C (dOf DX9_comes 7 rfl) rfl 0 rfl ?_
    refine m_aload_n C (dOf DX9_comes 8 rfl) rfl 0 rfl ?_
    refine m_gR C (dOf DX9_comes 9 rfl) kf_X9_7 fg_9_1 h (fun a2 h => ?_)
    refine m_iconst C (dOf DX9_comes 10 rfl) (v := 5) ki_5 ?_
    refine m_aI C (dOf DX9_comes 11 rfl) h (fun v3 h => ?_)
    obtain ⟨hc, h⟩ := ck_spec h
    refine m_cP (st := [.ref (G.1 + b0)]) h (fun o' ho H locs ls hl hr hs => ⟨_, m_runV C (dOf DX9_comes 12 rfl) km_X9_151 ky_X9_pageAt (by decide) ⟨rfl, rfl⟩ (c_X9_pageAt _ G _ _ _ o' ho) hc.1 hc.2 (by decide) rfl rfl rfl (Nat.le_of_ble_eq_true rfl) ⟨Nat.le_refl _, Nat.le_refl _⟩ hl hr hs⟩) (fun v4 h => ?_)
    refine m_iload_n C (dOf DX9_comes 13 rfl) rfl 2 rfl ?_
    obtain ⟨hc, h⟩ := ck_spec h
    refine m_cP (st := []) h (fun o' ho H locs ls hl hr hs => ⟨_, m_runV C (dOf DX9_comes 14 rfl) km_X9_180 ky_X9_fits (by decide) ⟨rfl, rfl⟩ (c_X9_fits _ G _ _ _ _ o' ho) hc.1 hc.2 (by decide) rfl rfl rfl (Nat.le_of_ble_eq_true rfl) ⟨Nat.le_refl _, Nat.le_refl _⟩ hl hr hs⟩) (fun v5 h => ?_)
    refine m_ifeq C (dOf DX9_comes 15 rfl) (tgt := 31) rfl h (fun h => ?_) (fun h => ?_)
    · refine m_aload_n C (dOf DX9_comes 18 rfl) rfl 0 rfl ?_
      refine m_aload_n C (dOf DX9_comes 19 rfl) rfl 0 rfl ?_
      refine m_gR C (dOf DX9_comes 20 rfl) kf_X9_7 fg_9_1 h (fun a6 h => ?_)
      refine m_iconst C (dOf DX9_comes 21 rfl) (v := 5) ki_5 ?_
      refine m_aI C (dOf DX9_comes 22 rfl) h (fun v7 h => ?_)
      obtain ⟨hc, h⟩ := ck_spec h
      refine m_cP (st := []) h (fun o' ho H locs ls hl hr hs => ⟨_, m_runV C (dOf DX9_comes 23 rfl) km_X9_184 ky_X9_behind (by decide) ⟨rfl, rfl⟩ (c_X9_behind _ G _ _ _ o' ho) hc.1 hc.2 (by decide) rfl rfl rfl (Nat.le_of_ble_eq_true rfl) ⟨Nat.le_refl _, Nat.le_refl _⟩ hl hr hs⟩) (fun v8 h => ?_)
      refine m_istore_n C (dOf DX9_comes 24 rfl) rfl (by decide) (lv' := [(3, .int v8), (0, .ref (G.1 + b0)), (1, .int p1), (2, .int p2)]) rfl ?_
      refine m_iload_n C (dOf DX9_comes 25 rfl) rfl 0 rfl ?_
      refine m_aload_n C (dOf DX9_comes 26 rfl) rfl 1 rfl ?_
      refine m_gR C (dOf DX9_comes 27 rfl) kf_X9_7 fg_9_1 h (fun a9 h => ?_)
      refine m_iconst C (dOf DX9_comes 28 rfl) (v := 4) ki_4 ?_
      refine m_aI C (dOf DX9_comes 29 rfl) h (fun v10 h => ?_)
      refine m_icmpeq C (dOf DX9_comes 30 rfl) (tgt := 54) rfl h (fun h => ?_) (fun h => ?_)
      · refine m_aload_n C (dOf DX9_comes 33 rfl) rfl 1 rfl ?_
        refine m_gR C (dOf DX9_comes 34 rfl) kf_X9_7 fg_9_1 h (fun a11 h => ?_)
        refine m_iconst C (dOf DX9_comes 35 rfl) (v := 2) ki_2 ?_
        refine m_aI C (dOf DX9_comes 36 rfl) h (fun v12 h => ?_)
        refine m_jn (J := fun (x13 : Int32) => WM X G 4 0 0 (wQ X G (qI G (o, S)) 0 0) 81 [] [.int x13] S) h (fun x13 h => ?_) (fun j13 hj13 h => ?_)
        · exact m_iretP C rfl (dOf DX9_comes 47 rfl) h
        refine m_jn (J := fun (x14 : Unit) => WM X G 4 0 0 (wQ X G (qI G (o, S)) 0 0) 75 [] [] S) h (fun x14 h => ?_) (fun j14 hj14 h => ?_)
        · refine m_bipush C (dOf DX9_comes 44 rfl) (v := (-3)) kb_m3 ?_
          refine m_goto C (dOf DX9_comes 45 rfl) (tgt := 81) rfl ?_
          exact m_sub [] rfl (hj13 _ h)
        refine m_ifeq C (dOf DX9_comes 37 rfl) (tgt := 75) rfl h (fun h => ?_) (fun h => ?_)
        · exact m_sub [] rfl (hj14 _ h)
        · refine m_aload_n C (dOf DX9_comes 38 rfl) rfl 1 rfl ?_
          refine m_aload_n C (dOf DX9_comes 39 rfl) rfl 1 rfl ?_
          refine m_iload_n C (dOf DX9_comes 40 rfl) rfl 0 rfl ?_
          obtain ⟨hc, h⟩ := ck_spec h
          refine m_cP (st := [.ref (G.1 + b0)]) h (fun o' ho H locs ls hl hr hs => ⟨_, m_runV C (dOf DX9_comes 41 rfl) km_X9_151 ky_X9_pageAt (by decide) ⟨rfl, rfl⟩ (c_X9_pageAt _ G _ _ _ o' ho) hc.1 hc.2 (by decide) rfl rfl rfl (Nat.le_of_ble_eq_true rfl) ⟨Nat.le_refl _, Nat.le_refl _⟩ hl hr hs⟩) (fun v15 h => ?_)
          obtain ⟨hc, h⟩ := ck_spec h
          refine m_cP (st := []) h (fun o' ho H locs ls hl hr hs => ⟨_, m_runV C (dOf DX9_comes 42 rfl) km_X9_187 ky_X9_isOpenIn (by decide) ⟨rfl, rfl⟩ (c_X9_isOpenIn _ G _ _ _ o' ho) hc.1 hc.2 (by decide) rfl rfl rfl (Nat.le_of_ble_eq_true rfl) ⟨Nat.le_refl _, Nat.le_refl _⟩ hl hr hs⟩) (fun v16 h => ?_)
          refine m_ifeq C (dOf DX9_comes 43 rfl) (tgt := 80) rfl h (fun h => ?_) (fun h => ?_)
          · refine m_iconst C (dOf DX9_comes 46 rfl) (v := 2) ki_2 ?_
            exact m_sub [] rfl (hj13 _ h)
          · exact m_sub [] rfl (hj14 _ h)
      · refine m_iconst C (dOf DX9_comes 31 rfl) (v := 1) ki_1 ?_
        exact m_iretP C rfl (dOf DX9_comes 32 rfl) h
    · refine m_iconst C (dOf DX9_comes 16 rfl) (v := 0) ki_0 ?_
      exact m_iretP C rfl (dOf DX9_comes 17 rfl) h
  · refine m_bipush C (dOf DX9_comes 4 rfl) (v := (-2)) kb_m2 ?_
    exact m_iretP C rfl (dOf DX9_comes 5 rfl) h
/-- TraceRingModel.overwrites()V -/
def f_X9_overwrites (S : St) (b0 : Nat) : Option St :=
  gR_ S b0 9 1 fun a1 =>
  aI_ S a1 11 4 fun v2 =>
  ck_ S b0 9 <| cP_ (f_X9_pageAt S b0 v2) fun v3 =>
  gR_ S b0 9 1 fun a4 =>
  aI_ S a4 11 12 fun v5 =>
  ck_ S b0 9 <| cP_ (f_X9_recordsIn S b0 v3 0) fun v6 =>
  lt_ (v5 + v6 : Int32) fun v7 =>
  sI_ S a4 12 v7 fun S8 =>
  ck_ S8 b0 9 <| cV_ (f_X9_empties S8 b0 v3) fun S9 =>
  gR_ S9 b0 9 1 fun a10 =>
  gR_ S9 b0 9 1 fun a11 =>
  aI_ S9 a11 11 4 fun v12 =>
  ck_ S9 b0 9 <| cP_ (f_X9_behind S9 b0 v12) fun v13 =>
  sI_ S9 a10 4 v13 fun S14 =>
  rt_ S14
set_option maxRecDepth 100000 in
set_option maxHeartbeats 4000000 in
theorem c_X9_overwrites (l : Launch) (G : Gx) (S : St) (b0 : Nat) (o : St) (h : f_X9_overwrites S b0 = some o) : Met l yX9_overwrites (Cond.code yX9_overwrites cX9_overwrites 2 none :: wAll) ({ frames := 3, cells := 0, slots := 0, locals := 69 } : Room) (va_Pc [.ref (G.1 + b0)] (wPre G S)) (qV G o) 0 0 (wA G) := by
  refine m_start (by decide +kernel) (Nat.le_of_ble_eq_true rfl) (fun X C => ?_)
  unfold f_X9_overwrites at h
  show WM X G 2 0 0 (wQ X G (qV G o) 0 0) 0 [(0, .ref (G.1 + b0))] [] S
  refine m_aload_n C (dOf DX9_overwrites 0 rfl) rfl 0 rfl ?_
  refine m_aload_n C (dOf DX9_overwrites 1 rfl) rfl 0 rfl ?_
  refine m_gR C (dOf DX9_overwrites 2 rfl) kf_X9_7 fg_9_1 h (fun a1 h => ?_)
  refine m_iconst C (dOf DX9_overwrites 3 rfl) (v := 4) ki_4 ?_
  refine m_aI C (dOf DX9_overwrites 4 rfl) h (fun v2 h => ?_)
  obtain ⟨hc, h⟩ := ck_spec h
  refine m_cP (st := []) h (fun o' ho H locs ls hl hr hs => ⟨_, m_runV C (dOf DX9_overwrites 5 rfl) km_X9_151 ky_X9_pageAt (by decide) ⟨rfl, rfl⟩ (c_X9_pageAt _ G _ _ _ o' ho) hc.1 hc.2 (by decide) rfl rfl rfl (Nat.le_of_ble_eq_true rfl) ⟨Nat.le_refl _, Nat.le_refl _⟩ hl hr hs⟩) (fun v3 h => ?_)
  refine m_istore_n C (dOf DX9_overwrites 6 rfl) rfl (by decide) (lv' := [(1, .int v3), (0, .ref (G.1 + b0))]) rfl ?_
  refine m_aload_n C (dOf DX9_overwrites 7 rfl) rfl 1 rfl ?_
  refine m_gR C (dOf DX9_overwrites 8 rfl) kf_X9_7 fg_9_1 h (fun a4 h => ?_)
  refine m_bipush C (dOf DX9_overwrites 9 rfl) (v := 12) kb_12 ?_
  refine m_dup2 C (dOf DX9_overwrites 10 rfl) rfl rfl ?_
  refine m_aI C (dOf DX9_overwrites 11 rfl) h (fun v5 h => ?_)
  refine m_aload_n C (dOf DX9_overwrites 12 rfl) rfl 1 rfl ?_
  refine m_iload_n C (dOf DX9_overwrites 13 rfl) rfl 0 rfl ?_
  refine m_iconst C (dOf DX9_overwrites 14 rfl) (v := 0) ki_0 ?_
  obtain ⟨hc, h⟩ := ck_spec h
  refine m_cP (st := [.int v5, .int 12, .ref (G.1 + a4)]) h (fun o' ho H locs ls hl hr hs => ⟨_, m_runV C (dOf DX9_overwrites 15 rfl) km_X9_191 ky_X9_recordsIn (by decide) ⟨rfl, rfl⟩ (c_X9_recordsIn _ G _ _ _ _ o' ho) hc.1 hc.2 (by decide) rfl rfl rfl (Nat.le_of_ble_eq_true rfl) ⟨Nat.le_refl _, Nat.le_refl _⟩ hl hr hs⟩) (fun v6 h => ?_)
  refine m_iadd C (dOf DX9_overwrites 16 rfl) h (fun v7 h => ?_)
  refine m_sI C (dOf DX9_overwrites 17 rfl) h (fun S8 h => ?_)
  refine m_aload_n C (dOf DX9_overwrites 18 rfl) rfl 1 rfl ?_
  refine m_iload_n C (dOf DX9_overwrites 19 rfl) rfl 0 rfl ?_
  obtain ⟨hc, h⟩ := ck_spec h
  refine m_cV (st := []) h (fun o' ho H locs ls hl hr hs => ⟨_, m_runV C (dOf DX9_overwrites 20 rfl) km_X9_194 ky_X9_empties (by decide) ⟨rfl, rfl⟩ (c_X9_empties _ G _ _ _ o' ho) hc.1 hc.2 (by decide) rfl rfl rfl (Nat.le_of_ble_eq_true rfl) ⟨Nat.le_refl _, Nat.le_refl _⟩ hl hr hs⟩) (fun S9 h => ?_)
  refine m_aload_n C (dOf DX9_overwrites 21 rfl) rfl 1 rfl ?_
  refine m_gR C (dOf DX9_overwrites 22 rfl) kf_X9_7 fg_9_1 h (fun a10 h => ?_)
  refine m_iconst C (dOf DX9_overwrites 23 rfl) (v := 4) ki_4 ?_
  refine m_aload_n C (dOf DX9_overwrites 24 rfl) rfl 1 rfl ?_
  refine m_aload_n C (dOf DX9_overwrites 25 rfl) rfl 1 rfl ?_
  refine m_gR C (dOf DX9_overwrites 26 rfl) kf_X9_7 fg_9_1 h (fun a11 h => ?_)
  refine m_iconst C (dOf DX9_overwrites 27 rfl) (v := 4) ki_4 ?_
  refine m_aI C (dOf DX9_overwrites 28 rfl) h (fun v12 h => ?_)
  obtain ⟨hc, h⟩ := ck_spec h
  refine m_cP (st := [.int 4, .ref (G.1 + a10)]) h (fun o' ho H locs ls hl hr hs => ⟨_, m_runV C (dOf DX9_overwrites 29 rfl) km_X9_184 ky_X9_behind (by decide) ⟨rfl, rfl⟩ (c_X9_behind _ G _ _ _ o' ho) hc.1 hc.2 (by decide) rfl rfl rfl (Nat.le_of_ble_eq_true rfl) ⟨Nat.le_refl _, Nat.le_refl _⟩ hl hr hs⟩) (fun v13 h => ?_)
  refine m_sI C (dOf DX9_overwrites 30 rfl) h (fun S14 h => ?_)
  exact m_vret C rfl (dOf DX9_overwrites 31 rfl) h
/-- TraceRingModel.taken(II)I -/
def f_X9_taken (S : St) (b0 : Nat) (p1 : Int32) (p2 : Int32) : Option (Int32 × St) :=
  ck_ S b0 9 <| cP_ (f_X9_comes S b0 p1 p2) fun v1 =>
  if v1 = (-2) then
    rt_ ((-2), S)
  else
    gR_ S b0 9 1 fun a2 =>
    aI_ S a2 11 10 fun v3 =>
    lt_ (v3 + 1 : Int32) fun v4 =>
    sI_ S a2 10 v4 fun S5 =>
    if v1 = (-3) then
      gR_ S5 b0 9 1 fun a22 =>
      aI_ S5 a22 11 11 fun v23 =>
      lt_ (v23 + 1 : Int32) fun v24 =>
      sI_ S5 a22 11 v24 fun S25 =>
      gR_ S25 b0 9 1 fun a26 =>
      lt_ (26 + p1 : Int32) fun v27 =>
      aI_ S25 a26 11 v27 fun v28 =>
      lt_ (v28 + 1 : Int32) fun v29 =>
      sI_ S25 a26 v27 v29 fun S30 =>
      rt_ ((-3), S30)
    else
      jn_ (fun (x6 : St) =>
        gR_ x6 b0 9 1 fun a7 =>
        jn_ (fun (x8 : Int32) =>
          sI_ x6 a7 5 x8 fun S9 =>
          gR_ S9 b0 9 1 fun a10 =>
          aI_ S9 a10 11 5 fun v11 =>
          ck_ S9 b0 9 <| cP_ (f_X9_pageAt S9 b0 v11) fun v12 =>
          ck_ S9 b0 9 <| cV_ (f_X9_lays S9 b0 v12 p1 p2) fun S13 =>
          gR_ S13 b0 9 1 fun a14 =>
          aI_ S13 a14 11 10 fun v15 =>
          rt_ (v15, S13)
        ) fun j8 =>
        if v1 = 0 then
          gR_ x6 b0 9 1 fun a19 =>
          aI_ x6 a19 11 5 fun v20 =>
          j8 (v20)
        else
          gR_ x6 b0 9 1 fun a16 =>
          aI_ x6 a16 11 5 fun v17 =>
          ck_ x6 b0 9 <| cP_ (f_X9_behind x6 b0 v17) fun v18 =>
          j8 (v18)
      ) fun j6 =>
      if v1 = 2 then
        ck_ S5 b0 9 <| cV_ (f_X9_overwrites S5 b0) fun S21 =>
        j6 (S21)
      else
        j6 (S5)
set_option maxRecDepth 100000 in
set_option maxHeartbeats 4000000 in
theorem c_X9_taken (l : Launch) (G : Gx) (S : St) (b0 : Nat) (p1 : Int32) (p2 : Int32) (o : (Int32 × St)) (h : f_X9_taken S b0 p1 p2 = some o) : Met l yX9_taken (Cond.code yX9_taken cX9_taken 4 (some (.int)) :: wAll) ({ frames := 5, cells := 0, slots := 0, locals := 111 } : Room) (va_Pc [.ref (G.1 + b0), .int p1, .int p2] (wPre G S)) (qI G o) 0 0 (wA G) := by
  refine m_start (by decide +kernel) (Nat.le_of_ble_eq_true rfl) (fun X C => ?_)
  unfold f_X9_taken at h
  show WM X G 4 0 0 (wQ X G (qI G o) 0 0) 0 [(0, .ref (G.1 + b0)), (1, .int p1), (2, .int p2)] [] S
  refine m_aload_n C (dOf DX9_taken 0 rfl) rfl 0 rfl ?_
  refine m_iload_n C (dOf DX9_taken 1 rfl) rfl 1 rfl ?_
  refine m_iload_n C (dOf DX9_taken 2 rfl) rfl 2 rfl ?_
  obtain ⟨hc, h⟩ := ck_spec h
  refine m_cP (st := []) h (fun o' ho H locs ls hl hr hs => ⟨_, m_runV C (dOf DX9_taken 3 rfl) km_X9_198 ky_X9_comes (by decide) ⟨rfl, rfl⟩ (c_X9_comes _ G _ _ _ _ o' ho) hc.1 hc.2 (by decide) rfl rfl rfl (Nat.le_of_ble_eq_true rfl) ⟨Nat.le_refl _, Nat.le_refl _⟩ hl hr hs⟩) (fun v1 h => ?_)
  refine m_istore_n C (dOf DX9_taken 4 rfl) rfl (by decide) (lv' := [(3, .int v1), (0, .ref (G.1 + b0)), (1, .int p1), (2, .int p2)]) rfl ?_
  refine m_iload_n C (dOf DX9_taken 5 rfl) rfl 0 rfl ?_
  refine m_bipush C (dOf DX9_taken 6 rfl) (v := (-2)) kb_m2 ?_
  refine m_icmpne C (dOf DX9_taken 7 rfl) (tgt := 16) rfl h (fun h => ?_) (fun h => ?_)
  · refine m_aload_n C (dOf DX9_taken 10 rfl) rfl 1 rfl ?_
    refine m_gR C (dOf DX9_taken 11 rfl) kf_X9_7 fg_9_1 h (fun a2 h => ?_)
    refine m_bipush C (dOf DX9_taken 12 rfl) (v := 10) kb_10 ?_
    refine m_dup2 C (dOf DX9_taken 13 rfl) rfl rfl ?_
    refine m_aI C (dOf DX9_taken 14 rfl) h (fun v3 h => ?_)
    refine m_iconst C (dOf DX9_taken 15 rfl) (v := 1) ki_1 ?_
    refine m_iadd C (dOf DX9_taken 16 rfl) h (fun v4 h => ?_)
    refine m_sI C (dOf DX9_taken 17 rfl) h (fun S5 h => ?_)
    refine m_iload_n C (dOf DX9_taken 18 rfl) rfl 0 rfl ?_
    refine m_bipush C (dOf DX9_taken 19 rfl) (v := (-3)) kb_m3 ?_
    refine m_icmpne C (dOf DX9_taken 20 rfl) (tgt := 60) rfl h (fun h => ?_) (fun h => ?_)
    · refine m_iload_n C (dOf DX9_taken 41 rfl) rfl 0 rfl ?_
      refine m_iconst C (dOf DX9_taken 42 rfl) (v := 2) ki_2 ?_
      refine m_jn (J := fun (x6 : St) => WM X G 4 0 0 (wQ X G (qI G o) 0 0) 69 [(0, .ref (G.1 + b0)), (1, .int p1), (2, .int p2), (3, .int v1)] [] x6) h (fun x6 h => ?_) (fun j6 hj6 h => ?_)
      · refine m_aload_n C (dOf DX9_taken 46 rfl) rfl 0 rfl ?_
        refine m_gR C (dOf DX9_taken 47 rfl) kf_X9_7 fg_9_1 h (fun a7 h => ?_)
        refine m_iconst C (dOf DX9_taken 48 rfl) (v := 5) ki_5 ?_
        refine m_iload_n C (dOf DX9_taken 49 rfl) rfl 3 rfl ?_
        refine m_jn (J := fun (x8 : Int32) => WM X G 4 0 0 (wQ X G (qI G o) 0 0) 97 [(0, .ref (G.1 + b0)), (1, .int p1), (2, .int p2)] [.int x8, .int 5, .ref (G.1 + a7)] x6) h (fun x8 h => ?_) (fun j8 hj8 h => ?_)
        · refine m_sI C (dOf DX9_taken 62 rfl) h (fun S9 h => ?_)
          refine m_aload_n C (dOf DX9_taken 63 rfl) rfl 0 rfl ?_
          refine m_aload_n C (dOf DX9_taken 64 rfl) rfl 0 rfl ?_
          refine m_aload_n C (dOf DX9_taken 65 rfl) rfl 0 rfl ?_
          refine m_gR C (dOf DX9_taken 66 rfl) kf_X9_7 fg_9_1 h (fun a10 h => ?_)
          refine m_iconst C (dOf DX9_taken 67 rfl) (v := 5) ki_5 ?_
          refine m_aI C (dOf DX9_taken 68 rfl) h (fun v11 h => ?_)
          obtain ⟨hc, h⟩ := ck_spec h
          refine m_cP (st := [.ref (G.1 + b0)]) h (fun o' ho H locs ls hl hr hs => ⟨_, m_runV C (dOf DX9_taken 69 rfl) km_X9_151 ky_X9_pageAt (by decide) ⟨rfl, rfl⟩ (c_X9_pageAt _ G _ _ _ o' ho) hc.1 hc.2 (by decide) rfl rfl rfl (Nat.le_of_ble_eq_true rfl) ⟨Nat.le_refl _, Nat.le_refl _⟩ hl hr hs⟩) (fun v12 h => ?_)
          refine m_iload_n C (dOf DX9_taken 70 rfl) rfl 1 rfl ?_
          refine m_iload_n C (dOf DX9_taken 71 rfl) rfl 2 rfl ?_
          obtain ⟨hc, h⟩ := ck_spec h
          refine m_cV (st := []) h (fun o' ho H locs ls hl hr hs => ⟨_, m_runV C (dOf DX9_taken 72 rfl) km_X9_204 ky_X9_lays (by decide) ⟨rfl, rfl⟩ (c_X9_lays _ G _ _ _ _ _ o' ho) hc.1 hc.2 (by decide) rfl rfl rfl (Nat.le_of_ble_eq_true rfl) ⟨Nat.le_refl _, Nat.le_refl _⟩ hl hr hs⟩) (fun S13 h => ?_)
          refine m_aload_n C (dOf DX9_taken 73 rfl) rfl 0 rfl ?_
          refine m_gR C (dOf DX9_taken 74 rfl) kf_X9_7 fg_9_1 h (fun a14 h => ?_)
          refine m_bipush C (dOf DX9_taken 75 rfl) (v := 10) kb_10 ?_
          refine m_aI C (dOf DX9_taken 76 rfl) h (fun v15 h => ?_)
          exact m_iret C rfl (dOf DX9_taken 77 rfl) h
        refine m_ifne C (dOf DX9_taken 50 rfl) (tgt := 87) rfl h (fun h => ?_) (fun h => ?_)
        · refine m_aload_n C (dOf DX9_taken 56 rfl) rfl 0 rfl ?_
          refine m_aload_n C (dOf DX9_taken 57 rfl) rfl 0 rfl ?_
          refine m_gR C (dOf DX9_taken 58 rfl) kf_X9_7 fg_9_1 h (fun a16 h => ?_)
          refine m_iconst C (dOf DX9_taken 59 rfl) (v := 5) ki_5 ?_
          refine m_aI C (dOf DX9_taken 60 rfl) h (fun v17 h => ?_)
          obtain ⟨hc, h⟩ := ck_spec h
          refine m_cP (st := [.int 5, .ref (G.1 + a7)]) h (fun o' ho H locs ls hl hr hs => ⟨_, m_runV C (dOf DX9_taken 61 rfl) km_X9_184 ky_X9_behind (by decide) ⟨rfl, rfl⟩ (c_X9_behind _ G _ _ _ o' ho) hc.1 hc.2 (by decide) rfl rfl rfl (Nat.le_of_ble_eq_true rfl) ⟨Nat.le_refl _, Nat.le_refl _⟩ hl hr hs⟩) (fun v18 h => ?_)
          exact m_sub [0, 1, 2] rfl (hj8 _ h)
        · refine m_aload_n C (dOf DX9_taken 51 rfl) rfl 0 rfl ?_
          refine m_gR C (dOf DX9_taken 52 rfl) kf_X9_7 fg_9_1 h (fun a19 h => ?_)
          refine m_iconst C (dOf DX9_taken 53 rfl) (v := 5) ki_5 ?_
          refine m_aI C (dOf DX9_taken 54 rfl) h (fun v20 h => ?_)
          refine m_goto C (dOf DX9_taken 55 rfl) (tgt := 97) rfl ?_
          exact m_sub [0, 1, 2] rfl (hj8 _ h)
      refine m_icmpne C (dOf DX9_taken 43 rfl) (tgt := 69) rfl h (fun h => ?_) (fun h => ?_)
      · exact m_sub [1, 2, 3, 0] rfl (hj6 _ h)
      · refine m_aload_n C (dOf DX9_taken 44 rfl) rfl 1 rfl ?_
        obtain ⟨hc, h⟩ := ck_spec h
        refine m_cV (st := []) h (fun o' ho H locs ls hl hr hs => ⟨_, m_runV C (dOf DX9_taken 45 rfl) km_X9_201 ky_X9_overwrites (by decide) ⟨rfl, rfl⟩ (c_X9_overwrites _ G _ _ o' ho) hc.1 hc.2 (by decide) rfl rfl rfl (Nat.le_of_ble_eq_true rfl) ⟨Nat.le_refl _, Nat.le_refl _⟩ hl hr hs⟩) (fun S21 h => ?_)
        exact m_sub [1, 2, 3, 0] rfl (hj6 _ h)
    · refine m_aload_n C (dOf DX9_taken 21 rfl) rfl 1 rfl ?_
      refine m_gR C (dOf DX9_taken 22 rfl) kf_X9_7 fg_9_1 h (fun a22 h => ?_)
      refine m_bipush C (dOf DX9_taken 23 rfl) (v := 11) kb_11 ?_
      refine m_dup2 C (dOf DX9_taken 24 rfl) rfl rfl ?_
      refine m_aI C (dOf DX9_taken 25 rfl) h (fun v23 h => ?_)
      refine m_iconst C (dOf DX9_taken 26 rfl) (v := 1) ki_1 ?_
      refine m_iadd C (dOf DX9_taken 27 rfl) h (fun v24 h => ?_)
      refine m_sI C (dOf DX9_taken 28 rfl) h (fun S25 h => ?_)
      refine m_aload_n C (dOf DX9_taken 29 rfl) rfl 1 rfl ?_
      refine m_gR C (dOf DX9_taken 30 rfl) kf_X9_7 fg_9_1 h (fun a26 h => ?_)
      refine m_bipush C (dOf DX9_taken 31 rfl) (v := 26) kb_26 ?_
      refine m_iload_n C (dOf DX9_taken 32 rfl) rfl 2 rfl ?_
      refine m_iadd C (dOf DX9_taken 33 rfl) h (fun v27 h => ?_)
      refine m_dup2 C (dOf DX9_taken 34 rfl) rfl rfl ?_
      refine m_aI C (dOf DX9_taken 35 rfl) h (fun v28 h => ?_)
      refine m_iconst C (dOf DX9_taken 36 rfl) (v := 1) ki_1 ?_
      refine m_iadd C (dOf DX9_taken 37 rfl) h (fun v29 h => ?_)
      refine m_sI C (dOf DX9_taken 38 rfl) h (fun S30 h => ?_)
      refine m_bipush C (dOf DX9_taken 39 rfl) (v := (-3)) kb_m3 ?_
      exact m_iret C rfl (dOf DX9_taken 40 rfl) h
  · refine m_bipush C (dOf DX9_taken 8 rfl) (v := (-2)) kb_m2 ?_
    exact m_iret C rfl (dOf DX9_taken 9 rfl) h
/-- TraceRingModel.puts(II)I -/
def f_X9_puts (S : St) (b0 : Nat) (p1 : Int32) (p2 : Int32) : Option (Int32 × St) :=
  gR_ S b0 9 1 fun a1 =>
  aI_ S a1 11 6 fun v2 =>
  lt_ (v2 - 1 : Int32) fun v3 =>
  ck_ S b0 9 <| cP_ (f_X9_innermost S b0) fun v4 =>
  jn_ (fun (x5 : Unit) =>
    rt_ ((-1), S)
  ) fun j5 =>
  if v4 = p1 then
    if 0 ≤ v3 then
      ck_ S b0 9 <| cP_ (f_X9_openPage S b0 v3) fun v6 =>
      ck_ S b0 9 <| cP_ (f_X9_openItem S b0 v3) fun v7 =>
      ck_ S b0 9 <| cP_ (f_X9_item S b0 v6 v7 4) fun v8 =>
      gR_ S b0 9 1 fun a9 =>
      lt_ (3 * v3 : Int32) fun v10 =>
      lt_ (43 + v10 : Int32) fun v11 =>
      lt_ (v11 + 2 : Int32) fun v12 =>
      aI_ S a9 11 v12 fun v13 =>
      if v13 = v8 then
        rt_ ((-1), S)
      else
        ck_ S b0 9 <| cP_ (f_X9_openItem S b0 v3) fun v14 =>
        ck_ S b0 9 <| cP_ (f_X9_item S b0 v6 v14 5) fun v15 =>
        lt_ (v15 + 1 : Int32) fun v16 =>
        lt_ (v16 + v13 : Int32) fun v17 =>
        ck_ S b0 9 <| cV_ (f_X9_cellIs S b0 v6 v17 p2) fun S18 =>
        gR_ S18 b0 9 1 fun a19 =>
        lt_ (3 * v3 : Int32) fun v20 =>
        lt_ (43 + v20 : Int32) fun v21 =>
        lt_ (v21 + 2 : Int32) fun v22 =>
        lt_ (v13 + 1 : Int32) fun v23 =>
        sI_ S18 a19 v22 v23 fun S24 =>
        lt_ (v8 - v13 : Int32) fun v25 =>
        lt_ (v25 - 1 : Int32) fun v26 =>
        rt_ (v26, S24)
    else
      j5 ()
  else
    j5 ()
set_option maxRecDepth 100000 in
set_option maxHeartbeats 4000000 in
theorem c_X9_puts (l : Launch) (G : Gx) (S : St) (b0 : Nat) (p1 : Int32) (p2 : Int32) (o : (Int32 × St)) (h : f_X9_puts S b0 p1 p2 = some o) : Met l yX9_puts (Cond.code yX9_puts cX9_puts 7 (some (.int)) :: wAll) ({ frames := 3, cells := 0, slots := 0, locals := 66 } : Room) (va_Pc [.ref (G.1 + b0), .int p1, .int p2] (wPre G S)) (qI G o) 0 0 (wA G) := by
  refine m_start (by decide +kernel) (Nat.le_of_ble_eq_true rfl) (fun X C => ?_)
  unfold f_X9_puts at h
  show WM X G 7 0 0 (wQ X G (qI G o) 0 0) 0 [(0, .ref (G.1 + b0)), (1, .int p1), (2, .int p2)] [] S
  refine m_aload_n C (dOf DX9_puts 0 rfl) rfl 0 rfl ?_
  refine m_gR C (dOf DX9_puts 1 rfl) kf_X9_7 fg_9_1 h (fun a1 h => ?_)
  refine m_bipush C (dOf DX9_puts 2 rfl) (v := 6) kb_6 ?_
  refine m_aI C (dOf DX9_puts 3 rfl) h (fun v2 h => ?_)
  refine m_iconst C (dOf DX9_puts 4 rfl) (v := 1) ki_1 ?_
  refine m_isub C (dOf DX9_puts 5 rfl) h (fun v3 h => ?_)
  refine m_istore_n C (dOf DX9_puts 6 rfl) rfl (by decide) (lv' := [(3, .int v3), (0, .ref (G.1 + b0)), (1, .int p1), (2, .int p2)]) rfl ?_
  refine m_aload_n C (dOf DX9_puts 7 rfl) rfl 1 rfl ?_
  obtain ⟨hc, h⟩ := ck_spec h
  refine m_cP (st := []) h (fun o' ho H locs ls hl hr hs => ⟨_, m_runV C (dOf DX9_puts 8 rfl) km_X9_177 ky_X9_innermost (by decide) ⟨rfl, rfl⟩ (c_X9_innermost _ G _ _ o' ho) hc.1 hc.2 (by decide) rfl rfl rfl (Nat.le_of_ble_eq_true rfl) ⟨Nat.le_refl _, Nat.le_refl _⟩ hl hr hs⟩) (fun v4 h => ?_)
  refine m_iload_n C (dOf DX9_puts 9 rfl) rfl 2 rfl ?_
  refine m_jn (J := fun (x5 : Unit) => WM X G 7 0 0 (wQ X G (qI G o) 0 0) 22 [] [] S) h (fun x5 h => ?_) (fun j5 hj5 h => ?_)
  · refine m_iconst C (dOf DX9_puts 13 rfl) (v := (-1)) ki_m1 ?_
    exact m_iret C rfl (dOf DX9_puts 14 rfl) h
  refine m_icmpne C (dOf DX9_puts 10 rfl) (tgt := 22) rfl h (fun h => ?_) (fun h => ?_)
  · exact m_sub [] rfl (hj5 _ h)
  · refine m_iload_n C (dOf DX9_puts 11 rfl) rfl 0 rfl ?_
    refine m_ifge C (dOf DX9_puts 12 rfl) (tgt := 24) rfl h (fun h => ?_) (fun h => ?_)
    · refine m_aload_n C (dOf DX9_puts 15 rfl) rfl 1 rfl ?_
      refine m_iload_n C (dOf DX9_puts 16 rfl) rfl 0 rfl ?_
      obtain ⟨hc, h⟩ := ck_spec h
      refine m_cP (st := []) h (fun o' ho H locs ls hl hr hs => ⟨_, m_runV C (dOf DX9_puts 17 rfl) km_X9_162 ky_X9_openPage (by decide) ⟨rfl, rfl⟩ (c_X9_openPage _ G _ _ _ o' ho) hc.1 hc.2 (by decide) rfl rfl rfl (Nat.le_of_ble_eq_true rfl) ⟨Nat.le_refl _, Nat.le_refl _⟩ hl hr hs⟩) (fun v6 h => ?_)
      refine m_istore C (dOf DX9_puts 18 rfl) (by decide) (lv' := [(4, .int v6), (3, .int v3), (0, .ref (G.1 + b0)), (1, .int p1), (2, .int p2)]) rfl ?_
      refine m_aload_n C (dOf DX9_puts 19 rfl) rfl 2 rfl ?_
      refine m_iload C (dOf DX9_puts 20 rfl) 0 rfl ?_
      refine m_aload_n C (dOf DX9_puts 21 rfl) rfl 2 rfl ?_
      refine m_iload_n C (dOf DX9_puts 22 rfl) rfl 1 rfl ?_
      obtain ⟨hc, h⟩ := ck_spec h
      refine m_cP (st := [.int v6, .ref (G.1 + b0)]) h (fun o' ho H locs ls hl hr hs => ⟨_, m_runV C (dOf DX9_puts 23 rfl) km_X9_165 ky_X9_openItem (by decide) ⟨rfl, rfl⟩ (c_X9_openItem _ G _ _ _ o' ho) hc.1 hc.2 (by decide) rfl rfl rfl (Nat.le_of_ble_eq_true rfl) ⟨Nat.le_refl _, Nat.le_refl _⟩ hl hr hs⟩) (fun v7 h => ?_)
      refine m_iconst C (dOf DX9_puts 24 rfl) (v := 4) ki_4 ?_
      obtain ⟨hc, h⟩ := ck_spec h
      refine m_cP (st := []) h (fun o' ho H locs ls hl hr hs => ⟨_, m_runV C (dOf DX9_puts 25 rfl) km_X9_155 ky_X9_item (by decide) ⟨rfl, rfl⟩ (c_X9_item _ G _ _ _ _ _ o' ho) hc.1 hc.2 (by decide) rfl rfl rfl (Nat.le_of_ble_eq_true rfl) ⟨Nat.le_refl _, Nat.le_refl _⟩ hl hr hs⟩) (fun v8 h => ?_)
      refine m_istore C (dOf DX9_puts 26 rfl) (by decide) (lv' := [(5, .int v8), (4, .int v6), (3, .int v3), (0, .ref (G.1 + b0)), (1, .int p1), (2, .int p2)]) rfl ?_
      refine m_aload_n C (dOf DX9_puts 27 rfl) rfl 3 rfl ?_
      refine m_gR C (dOf DX9_puts 28 rfl) kf_X9_7 fg_9_1 h (fun a9 h => ?_)
      refine m_bipush C (dOf DX9_puts 29 rfl) (v := 43) kb_43 ?_
      refine m_iconst C (dOf DX9_puts 30 rfl) (v := 3) ki_3 ?_
      refine m_iload_n C (dOf DX9_puts 31 rfl) rfl 2 rfl ?_
      refine m_imul C (dOf DX9_puts 32 rfl) h (fun v10 h => ?_)
      refine m_iadd C (dOf DX9_puts 33 rfl) h (fun v11 h => ?_)
      refine m_iconst C (dOf DX9_puts 34 rfl) (v := 2) ki_2 ?_
      refine m_iadd C (dOf DX9_puts 35 rfl) h (fun v12 h => ?_)
      refine m_aI C (dOf DX9_puts 36 rfl) h (fun v13 h => ?_)
      refine m_istore C (dOf DX9_puts 37 rfl) (by decide) (lv' := [(6, .int v13), (5, .int v8), (4, .int v6), (3, .int v3), (0, .ref (G.1 + b0)), (1, .int p1), (2, .int p2)]) rfl ?_
      refine m_iload C (dOf DX9_puts 38 rfl) 0 rfl ?_
      refine m_iload C (dOf DX9_puts 39 rfl) 1 rfl ?_
      refine m_icmpne C (dOf DX9_puts 40 rfl) (tgt := 69) rfl h (fun h => ?_) (fun h => ?_)
      · refine m_aload_n C (dOf DX9_puts 43 rfl) rfl 4 rfl ?_
        refine m_iload C (dOf DX9_puts 44 rfl) 2 rfl ?_
        refine m_aload_n C (dOf DX9_puts 45 rfl) rfl 4 rfl ?_
        refine m_iload C (dOf DX9_puts 46 rfl) 2 rfl ?_
        refine m_aload_n C (dOf DX9_puts 47 rfl) rfl 4 rfl ?_
        refine m_iload_n C (dOf DX9_puts 48 rfl) rfl 3 rfl ?_
        obtain ⟨hc, h⟩ := ck_spec h
        refine m_cP (st := [.int v6, .ref (G.1 + b0), .int v6, .ref (G.1 + b0)]) h (fun o' ho H locs ls hl hr hs => ⟨_, m_runV C (dOf DX9_puts 49 rfl) km_X9_165 ky_X9_openItem (by decide) ⟨rfl, rfl⟩ (c_X9_openItem _ G _ _ _ o' ho) hc.1 hc.2 (by decide) rfl rfl rfl (Nat.le_of_ble_eq_true rfl) ⟨Nat.le_refl _, Nat.le_refl _⟩ hl hr hs⟩) (fun v14 h => ?_)
        refine m_iconst C (dOf DX9_puts 50 rfl) (v := 5) ki_5 ?_
        obtain ⟨hc, h⟩ := ck_spec h
        refine m_cP (st := [.int v6, .ref (G.1 + b0)]) h (fun o' ho H locs ls hl hr hs => ⟨_, m_runV C (dOf DX9_puts 51 rfl) km_X9_155 ky_X9_item (by decide) ⟨rfl, rfl⟩ (c_X9_item _ G _ _ _ _ _ o' ho) hc.1 hc.2 (by decide) rfl rfl rfl (Nat.le_of_ble_eq_true rfl) ⟨Nat.le_refl _, Nat.le_refl _⟩ hl hr hs⟩) (fun v15 h => ?_)
        refine m_iconst C (dOf DX9_puts 52 rfl) (v := 1) ki_1 ?_
        refine m_iadd C (dOf DX9_puts 53 rfl) h (fun v16 h => ?_)
        refine m_iload C (dOf DX9_puts 54 rfl) 0 rfl ?_
        refine m_iadd C (dOf DX9_puts 55 rfl) h (fun v17 h => ?_)
        refine m_iload_n C (dOf DX9_puts 56 rfl) rfl 6 rfl ?_
        obtain ⟨hc, h⟩ := ck_spec h
        refine m_cV (st := []) h (fun o' ho H locs ls hl hr hs => ⟨_, m_runV C (dOf DX9_puts 57 rfl) km_X9_171 ky_X9_cellIs (by decide) ⟨rfl, rfl⟩ (c_X9_cellIs _ G _ _ _ _ _ o' ho) hc.1 hc.2 (by decide) rfl rfl rfl (Nat.le_of_ble_eq_true rfl) ⟨Nat.le_refl _, Nat.le_refl _⟩ hl hr hs⟩) (fun S18 h => ?_)
        refine m_aload_n C (dOf DX9_puts 58 rfl) rfl 4 rfl ?_
        refine m_gR C (dOf DX9_puts 59 rfl) kf_X9_7 fg_9_1 h (fun a19 h => ?_)
        refine m_bipush C (dOf DX9_puts 60 rfl) (v := 43) kb_43 ?_
        refine m_iconst C (dOf DX9_puts 61 rfl) (v := 3) ki_3 ?_
        refine m_iload_n C (dOf DX9_puts 62 rfl) rfl 3 rfl ?_
        refine m_imul C (dOf DX9_puts 63 rfl) h (fun v20 h => ?_)
        refine m_iadd C (dOf DX9_puts 64 rfl) h (fun v21 h => ?_)
        refine m_iconst C (dOf DX9_puts 65 rfl) (v := 2) ki_2 ?_
        refine m_iadd C (dOf DX9_puts 66 rfl) h (fun v22 h => ?_)
        refine m_iload C (dOf DX9_puts 67 rfl) 0 rfl ?_
        refine m_iconst C (dOf DX9_puts 68 rfl) (v := 1) ki_1 ?_
        refine m_iadd C (dOf DX9_puts 69 rfl) h (fun v23 h => ?_)
        refine m_sI C (dOf DX9_puts 70 rfl) h (fun S24 h => ?_)
        refine m_iload C (dOf DX9_puts 71 rfl) 1 rfl ?_
        refine m_iload C (dOf DX9_puts 72 rfl) 0 rfl ?_
        refine m_isub C (dOf DX9_puts 73 rfl) h (fun v25 h => ?_)
        refine m_iconst C (dOf DX9_puts 74 rfl) (v := 1) ki_1 ?_
        refine m_isub C (dOf DX9_puts 75 rfl) h (fun v26 h => ?_)
        exact m_iret C rfl (dOf DX9_puts 76 rfl) h
      · refine m_iconst C (dOf DX9_puts 41 rfl) (v := (-1)) ki_m1 ?_
        exact m_iret C rfl (dOf DX9_puts 42 rfl) h
    · exact m_sub [] rfl (hj5 _ h)
/-- TraceRingModel.closes()V -/
def f_X9_closes (S : St) (b0 : Nat) : Option St :=
  gR_ S b0 9 1 fun a1 =>
  aI_ S a1 11 6 fun v2 =>
  lt_ (v2 - 1 : Int32) fun v3 =>
  sI_ S a1 6 v3 fun S4 =>
  lp_ (fun self5 (x5 : Int32 × St) =>
    gR_ x5.2 b0 9 1 fun a6 =>
    aI_ x5.2 a6 11 0 fun v7 =>
    jn_ (fun (x8 : Unit) =>
      rt_ x5.2
    ) fun j8 =>
    if v7 ≤ x5.1 then
      j8 ()
    else
      gR_ x5.2 b0 9 1 fun a9 =>
      aI_ x5.2 a9 11 6 fun v10 =>
      if v10 = 0 then
        ck_ x5.2 b0 9 <| cP_ (f_X9_pageAt x5.2 b0 x5.1) fun v11 =>
        ck_ x5.2 b0 9 <| cP_ (f_X9_pageAt x5.2 b0 x5.1) fun v12 =>
        ck_ x5.2 b0 9 <| cP_ (f_X9_of x5.2 b0 v12 1) fun v13 =>
        ck_ x5.2 b0 9 <| cV_ (f_X9_lay x5.2 b0 v11 2 v13) fun S14 =>
        lt_ (x5.1 + 1) fun v15 =>
        self5 (v15, S14)
      else
        j8 ()
  ) FU (0, S4)
set_option maxRecDepth 100000 in
set_option maxHeartbeats 4000000 in
theorem c_X9_closes (l : Launch) (G : Gx) (S : St) (b0 : Nat) (o : St) (h : f_X9_closes S b0 = some o) : Met l yX9_closes (Cond.code yX9_closes cX9_closes 2 none :: wAll) ({ frames := 1, cells := 0, slots := 0, locals := 23 } : Room) (va_Pc [.ref (G.1 + b0)] (wPre G S)) (qV G o) 0 0 (wA G) := by
  refine m_start (by decide +kernel) (Nat.le_of_ble_eq_true rfl) (fun X C => ?_)
  unfold f_X9_closes at h
  show WM X G 2 0 0 (wQ X G (qV G o) 0 0) 0 [(0, .ref (G.1 + b0))] [] S
  refine m_aload_n C (dOf DX9_closes 0 rfl) rfl 0 rfl ?_
  refine m_gR C (dOf DX9_closes 1 rfl) kf_X9_7 fg_9_1 h (fun a1 h => ?_)
  refine m_bipush C (dOf DX9_closes 2 rfl) (v := 6) kb_6 ?_
  refine m_dup2 C (dOf DX9_closes 3 rfl) rfl rfl ?_
  refine m_aI C (dOf DX9_closes 4 rfl) h (fun v2 h => ?_)
  refine m_iconst C (dOf DX9_closes 5 rfl) (v := 1) ki_1 ?_
  refine m_isub C (dOf DX9_closes 6 rfl) h (fun v3 h => ?_)
  refine m_sI C (dOf DX9_closes 7 rfl) h (fun S4 h => ?_)
  refine m_iconst C (dOf DX9_closes 8 rfl) (v := 0) ki_0 ?_
  refine m_istore_n C (dOf DX9_closes 9 rfl) rfl (by decide) (lv' := [(1, .int 0), (0, .ref (G.1 + b0))]) rfl ?_
  refine m_sub [1, 0] rfl (m_lp (J := fun (x5 : Int32 × St) => WM X G 2 0 0 (wQ X G (qV G o) 0 0) 13 [(0, .ref (G.1 + b0)), (1, .int x5.1)] [] x5.2) h (fun self5 hself5 x5 h => ?_))
  refine m_iload_n C (dOf DX9_closes 10 rfl) rfl 1 rfl ?_
  refine m_aload_n C (dOf DX9_closes 11 rfl) rfl 0 rfl ?_
  refine m_gR C (dOf DX9_closes 12 rfl) kf_X9_7 fg_9_1 h (fun a6 h => ?_)
  refine m_iconst C (dOf DX9_closes 13 rfl) (v := 0) ki_0 ?_
  refine m_aI C (dOf DX9_closes 14 rfl) h (fun v7 h => ?_)
  refine m_jn (J := fun (x8 : Unit) => WM X G 2 0 0 (wQ X G (qV G o) 0 0) 59 [] [] x5.2) h (fun x8 h => ?_) (fun j8 hj8 h => ?_)
  · exact m_vret C rfl (dOf DX9_closes 35 rfl) h
  refine m_icmpge C (dOf DX9_closes 15 rfl) (tgt := 59) rfl h (fun h => ?_) (fun h => ?_)
  · exact m_sub [] rfl (hj8 _ h)
  · refine m_aload_n C (dOf DX9_closes 16 rfl) rfl 0 rfl ?_
    refine m_gR C (dOf DX9_closes 17 rfl) kf_X9_7 fg_9_1 h (fun a9 h => ?_)
    refine m_bipush C (dOf DX9_closes 18 rfl) (v := 6) kb_6 ?_
    refine m_aI C (dOf DX9_closes 19 rfl) h (fun v10 h => ?_)
    refine m_ifne C (dOf DX9_closes 20 rfl) (tgt := 59) rfl h (fun h => ?_) (fun h => ?_)
    · exact m_sub [] rfl (hj8 _ h)
    · refine m_aload_n C (dOf DX9_closes 21 rfl) rfl 0 rfl ?_
      refine m_aload_n C (dOf DX9_closes 22 rfl) rfl 0 rfl ?_
      refine m_iload_n C (dOf DX9_closes 23 rfl) rfl 1 rfl ?_
      obtain ⟨hc, h⟩ := ck_spec h
      refine m_cP (st := [.ref (G.1 + b0)]) h (fun o' ho H locs ls hl hr hs => ⟨_, m_runV C (dOf DX9_closes 24 rfl) km_X9_151 ky_X9_pageAt (by decide) ⟨rfl, rfl⟩ (c_X9_pageAt _ G _ _ _ o' ho) hc.1 hc.2 (by decide) rfl rfl rfl (Nat.le_of_ble_eq_true rfl) ⟨Nat.le_refl _, Nat.le_refl _⟩ hl hr hs⟩) (fun v11 h => ?_)
      refine m_iconst C (dOf DX9_closes 25 rfl) (v := 2) ki_2 ?_
      refine m_aload_n C (dOf DX9_closes 26 rfl) rfl 0 rfl ?_
      refine m_aload_n C (dOf DX9_closes 27 rfl) rfl 0 rfl ?_
      refine m_iload_n C (dOf DX9_closes 28 rfl) rfl 1 rfl ?_
      obtain ⟨hc, h⟩ := ck_spec h
      refine m_cP (st := [.ref (G.1 + b0), .int 2, .int v11, .ref (G.1 + b0)]) h (fun o' ho H locs ls hl hr hs => ⟨_, m_runV C (dOf DX9_closes 29 rfl) km_X9_151 ky_X9_pageAt (by decide) ⟨rfl, rfl⟩ (c_X9_pageAt _ G _ _ _ o' ho) hc.1 hc.2 (by decide) rfl rfl rfl (Nat.le_of_ble_eq_true rfl) ⟨Nat.le_refl _, Nat.le_refl _⟩ hl hr hs⟩) (fun v12 h => ?_)
      refine m_iconst C (dOf DX9_closes 30 rfl) (v := 1) ki_1 ?_
      obtain ⟨hc, h⟩ := ck_spec h
      refine m_cP (st := [.int 2, .int v11, .ref (G.1 + b0)]) h (fun o' ho H locs ls hl hr hs => ⟨_, m_runV C (dOf DX9_closes 31 rfl) km_X9_144 ky_X9_of (by decide) ⟨rfl, rfl⟩ (c_X9_of _ G _ _ _ _ o' ho) hc.1 hc.2 (by decide) rfl rfl rfl (Nat.le_of_ble_eq_true rfl) ⟨Nat.le_refl _, Nat.le_refl _⟩ hl hr hs⟩) (fun v13 h => ?_)
      obtain ⟨hc, h⟩ := ck_spec h
      refine m_cV (st := []) h (fun o' ho H locs ls hl hr hs => ⟨_, m_runV C (dOf DX9_closes 32 rfl) km_X9_141 ky_X9_lay (by decide) ⟨rfl, rfl⟩ (c_X9_lay _ G _ _ _ _ _ o' ho) hc.1 hc.2 (by decide) rfl rfl rfl (Nat.le_of_ble_eq_true rfl) ⟨Nat.le_refl _, Nat.le_refl _⟩ hl hr hs⟩) (fun S14 h => ?_)
      refine m_iinc C (dOf DX9_closes 33 rfl) (w := 1) ki_1 1 rfl (by decide) h (fun v15 h => ⟨[(1, .int v15), (0, .ref (G.1 + b0))], rfl, ?_⟩)
      refine m_goto C (dOf DX9_closes 34 rfl) (tgt := 13) rfl ?_
      exact m_sub [1, 0] rfl (hself5 _ h)
/-- TraceRingModel.ended(I)I -/
def f_X9_ended (S : St) (b0 : Nat) (p1 : Int32) : Option (Int32 × St) :=
  gR_ S b0 9 1 fun a1 =>
  aI_ S a1 11 6 fun v2 =>
  lt_ (v2 - 1 : Int32) fun v3 =>
  ck_ S b0 9 <| cP_ (f_X9_innermost S b0) fun v4 =>
  jn_ (fun (x5 : Unit) =>
    rt_ ((-1), S)
  ) fun j5 =>
  if v4 = p1 then
    if 0 ≤ v3 then
      gR_ S b0 9 1 fun a6 =>
      aI_ S a6 11 3 fun v7 =>
      ck_ S b0 9 <| cP_ (f_X9_openPage S b0 v3) fun v8 =>
      ck_ S b0 9 <| cP_ (f_X9_openItem S b0 v3) fun v9 =>
      ck_ S b0 9 <| cP_ (f_X9_item S b0 v8 v9 3) fun v10 =>
      lt_ (v7 - v10 : Int32) fun v11 =>
      gR_ S b0 9 1 fun a12 =>
      aI_ S a12 11 19 fun v13 =>
      jn_ (fun (x14 : St) =>
        ck_ x14 b0 9 <| cV_ (f_X9_closes x14 b0) fun S15 =>
        gR_ S15 b0 9 1 fun a16 =>
        aI_ S15 a16 11 6 fun v17 =>
        rt_ (v17, S15)
      ) fun j14 =>
      jn_ (fun (x18 : Unit) =>
        gR_ S b0 9 1 fun a19 =>
        sI_ S a19 18 v11 fun S20 =>
        gR_ S20 b0 9 1 fun a21 =>
        ck_ S20 b0 9 <| cP_ (f_X9_openPage S20 b0 v3) fun v22 =>
        ck_ S20 b0 9 <| cP_ (f_X9_openItem S20 b0 v3) fun v23 =>
        ck_ S20 b0 9 <| cP_ (f_X9_item S20 b0 v22 v23 1) fun v24 =>
        sI_ S20 a21 19 v24 fun S25 =>
        j14 (S25)
      ) fun j18 =>
      if v13 = (-1) then
        j18 ()
      else
        gR_ S b0 9 1 fun a26 =>
        aI_ S a26 11 18 fun v27 =>
        if v11 ≤ v27 then
          j14 (S)
        else
          j18 ()
    else
      j5 ()
  else
    j5 ()
set_option maxRecDepth 100000 in
set_option maxHeartbeats 4000000 in
theorem c_X9_ended (l : Launch) (G : Gx) (S : St) (b0 : Nat) (p1 : Int32) (o : (Int32 × St)) (h : f_X9_ended S b0 p1 = some o) : Met l yX9_ended (Cond.code yX9_ended cX9_ended 4 (some (.int)) :: wAll) ({ frames := 3, cells := 0, slots := 0, locals := 66 } : Room) (va_Pc [.ref (G.1 + b0), .int p1] (wPre G S)) (qI G o) 0 0 (wA G) := by
  refine m_start (by decide +kernel) (Nat.le_of_ble_eq_true rfl) (fun X C => ?_)
  unfold f_X9_ended at h
  show WM X G 4 0 0 (wQ X G (qI G o) 0 0) 0 [(0, .ref (G.1 + b0)), (1, .int p1)] [] S
  refine m_aload_n C (dOf DX9_ended 0 rfl) rfl 0 rfl ?_
  refine m_gR C (dOf DX9_ended 1 rfl) kf_X9_7 fg_9_1 h (fun a1 h => ?_)
  refine m_bipush C (dOf DX9_ended 2 rfl) (v := 6) kb_6 ?_
  refine m_aI C (dOf DX9_ended 3 rfl) h (fun v2 h => ?_)
  refine m_iconst C (dOf DX9_ended 4 rfl) (v := 1) ki_1 ?_
  refine m_isub C (dOf DX9_ended 5 rfl) h (fun v3 h => ?_)
  refine m_istore_n C (dOf DX9_ended 6 rfl) rfl (by decide) (lv' := [(2, .int v3), (0, .ref (G.1 + b0)), (1, .int p1)]) rfl ?_
  refine m_aload_n C (dOf DX9_ended 7 rfl) rfl 1 rfl ?_
  obtain ⟨hc, h⟩ := ck_spec h
  refine m_cP (st := []) h (fun o' ho H locs ls hl hr hs => ⟨_, m_runV C (dOf DX9_ended 8 rfl) km_X9_177 ky_X9_innermost (by decide) ⟨rfl, rfl⟩ (c_X9_innermost _ G _ _ o' ho) hc.1 hc.2 (by decide) rfl rfl rfl (Nat.le_of_ble_eq_true rfl) ⟨Nat.le_refl _, Nat.le_refl _⟩ hl hr hs⟩) (fun v4 h => ?_)
  refine m_iload_n C (dOf DX9_ended 9 rfl) rfl 2 rfl ?_
  refine m_jn (J := fun (x5 : Unit) => WM X G 4 0 0 (wQ X G (qI G o) 0 0) 22 [] [] S) h (fun x5 h => ?_) (fun j5 hj5 h => ?_)
  · refine m_iconst C (dOf DX9_ended 13 rfl) (v := (-1)) ki_m1 ?_
    exact m_iret C rfl (dOf DX9_ended 14 rfl) h
  refine m_icmpne C (dOf DX9_ended 10 rfl) (tgt := 22) rfl h (fun h => ?_) (fun h => ?_)
  · exact m_sub [] rfl (hj5 _ h)
  · refine m_iload_n C (dOf DX9_ended 11 rfl) rfl 0 rfl ?_
    refine m_ifge C (dOf DX9_ended 12 rfl) (tgt := 24) rfl h (fun h => ?_) (fun h => ?_)
    · refine m_aload_n C (dOf DX9_ended 15 rfl) rfl 1 rfl ?_
      refine m_gR C (dOf DX9_ended 16 rfl) kf_X9_7 fg_9_1 h (fun a6 h => ?_)
      refine m_iconst C (dOf DX9_ended 17 rfl) (v := 3) ki_3 ?_
      refine m_aI C (dOf DX9_ended 18 rfl) h (fun v7 h => ?_)
      refine m_aload_n C (dOf DX9_ended 19 rfl) rfl 1 rfl ?_
      refine m_aload_n C (dOf DX9_ended 20 rfl) rfl 1 rfl ?_
      refine m_iload_n C (dOf DX9_ended 21 rfl) rfl 0 rfl ?_
      obtain ⟨hc, h⟩ := ck_spec h
      refine m_cP (st := [.ref (G.1 + b0), .int v7]) h (fun o' ho H locs ls hl hr hs => ⟨_, m_runV C (dOf DX9_ended 22 rfl) km_X9_162 ky_X9_openPage (by decide) ⟨rfl, rfl⟩ (c_X9_openPage _ G _ _ _ o' ho) hc.1 hc.2 (by decide) rfl rfl rfl (Nat.le_of_ble_eq_true rfl) ⟨Nat.le_refl _, Nat.le_refl _⟩ hl hr hs⟩) (fun v8 h => ?_)
      refine m_aload_n C (dOf DX9_ended 23 rfl) rfl 1 rfl ?_
      refine m_iload_n C (dOf DX9_ended 24 rfl) rfl 0 rfl ?_
      obtain ⟨hc, h⟩ := ck_spec h
      refine m_cP (st := [.int v8, .ref (G.1 + b0), .int v7]) h (fun o' ho H locs ls hl hr hs => ⟨_, m_runV C (dOf DX9_ended 25 rfl) km_X9_165 ky_X9_openItem (by decide) ⟨rfl, rfl⟩ (c_X9_openItem _ G _ _ _ o' ho) hc.1 hc.2 (by decide) rfl rfl rfl (Nat.le_of_ble_eq_true rfl) ⟨Nat.le_refl _, Nat.le_refl _⟩ hl hr hs⟩) (fun v9 h => ?_)
      refine m_iconst C (dOf DX9_ended 26 rfl) (v := 3) ki_3 ?_
      obtain ⟨hc, h⟩ := ck_spec h
      refine m_cP (st := [.int v7]) h (fun o' ho H locs ls hl hr hs => ⟨_, m_runV C (dOf DX9_ended 27 rfl) km_X9_155 ky_X9_item (by decide) ⟨rfl, rfl⟩ (c_X9_item _ G _ _ _ _ _ o' ho) hc.1 hc.2 (by decide) rfl rfl rfl (Nat.le_of_ble_eq_true rfl) ⟨Nat.le_refl _, Nat.le_refl _⟩ hl hr hs⟩) (fun v10 h => ?_)
      refine m_isub C (dOf DX9_ended 28 rfl) h (fun v11 h => ?_)
      refine m_istore_n C (dOf DX9_ended 29 rfl) rfl (by decide) (lv' := [(3, .int v11), (2, .int v3), (0, .ref (G.1 + b0)), (1, .int p1)]) rfl ?_
      refine m_aload_n C (dOf DX9_ended 30 rfl) rfl 2 rfl ?_
      refine m_gR C (dOf DX9_ended 31 rfl) kf_X9_7 fg_9_1 h (fun a12 h => ?_)
      refine m_bipush C (dOf DX9_ended 32 rfl) (v := 19) kb_19 ?_
      refine m_aI C (dOf DX9_ended 33 rfl) h (fun v13 h => ?_)
      refine m_iconst C (dOf DX9_ended 34 rfl) (v := (-1)) ki_m1 ?_
      refine m_jn (J := fun (x14 : St) => WM X G 4 0 0 (wQ X G (qI G o) 0 0) 99 [(0, .ref (G.1 + b0))] [] x14) h (fun x14 h => ?_) (fun j14 hj14 h => ?_)
      · refine m_aload_n C (dOf DX9_ended 60 rfl) rfl 0 rfl ?_
        obtain ⟨hc, h⟩ := ck_spec h
        refine m_cV (st := []) h (fun o' ho H locs ls hl hr hs => ⟨_, m_runV C (dOf DX9_ended 61 rfl) km_X9_207 ky_X9_closes (by decide) ⟨rfl, rfl⟩ (c_X9_closes _ G _ _ o' ho) hc.1 hc.2 (by decide) rfl rfl rfl (Nat.le_of_ble_eq_true rfl) ⟨Nat.le_refl _, Nat.le_refl _⟩ hl hr hs⟩) (fun S15 h => ?_)
        refine m_aload_n C (dOf DX9_ended 62 rfl) rfl 0 rfl ?_
        refine m_gR C (dOf DX9_ended 63 rfl) kf_X9_7 fg_9_1 h (fun a16 h => ?_)
        refine m_bipush C (dOf DX9_ended 64 rfl) (v := 6) kb_6 ?_
        refine m_aI C (dOf DX9_ended 65 rfl) h (fun v17 h => ?_)
        exact m_iret C rfl (dOf DX9_ended 66 rfl) h
      refine m_jn (J := fun (x18 : Unit) => WM X G 4 0 0 (wQ X G (qI G o) 0 0) 69 [(0, .ref (G.1 + b0)), (2, .int v3), (3, .int v11)] [] S) h (fun x18 h => ?_) (fun j18 hj18 h => ?_)
      · refine m_aload_n C (dOf DX9_ended 42 rfl) rfl 0 rfl ?_
        refine m_gR C (dOf DX9_ended 43 rfl) kf_X9_7 fg_9_1 h (fun a19 h => ?_)
        refine m_bipush C (dOf DX9_ended 44 rfl) (v := 18) kb_18 ?_
        refine m_iload_n C (dOf DX9_ended 45 rfl) rfl 2 rfl ?_
        refine m_sI C (dOf DX9_ended 46 rfl) h (fun S20 h => ?_)
        refine m_aload_n C (dOf DX9_ended 47 rfl) rfl 0 rfl ?_
        refine m_gR C (dOf DX9_ended 48 rfl) kf_X9_7 fg_9_1 h (fun a21 h => ?_)
        refine m_bipush C (dOf DX9_ended 49 rfl) (v := 19) kb_19 ?_
        refine m_aload_n C (dOf DX9_ended 50 rfl) rfl 0 rfl ?_
        refine m_aload_n C (dOf DX9_ended 51 rfl) rfl 0 rfl ?_
        refine m_iload_n C (dOf DX9_ended 52 rfl) rfl 1 rfl ?_
        obtain ⟨hc, h⟩ := ck_spec h
        refine m_cP (st := [.ref (G.1 + b0), .int 19, .ref (G.1 + a21)]) h (fun o' ho H locs ls hl hr hs => ⟨_, m_runV C (dOf DX9_ended 53 rfl) km_X9_162 ky_X9_openPage (by decide) ⟨rfl, rfl⟩ (c_X9_openPage _ G _ _ _ o' ho) hc.1 hc.2 (by decide) rfl rfl rfl (Nat.le_of_ble_eq_true rfl) ⟨Nat.le_refl _, Nat.le_refl _⟩ hl hr hs⟩) (fun v22 h => ?_)
        refine m_aload_n C (dOf DX9_ended 54 rfl) rfl 0 rfl ?_
        refine m_iload_n C (dOf DX9_ended 55 rfl) rfl 1 rfl ?_
        obtain ⟨hc, h⟩ := ck_spec h
        refine m_cP (st := [.int v22, .ref (G.1 + b0), .int 19, .ref (G.1 + a21)]) h (fun o' ho H locs ls hl hr hs => ⟨_, m_runV C (dOf DX9_ended 56 rfl) km_X9_165 ky_X9_openItem (by decide) ⟨rfl, rfl⟩ (c_X9_openItem _ G _ _ _ o' ho) hc.1 hc.2 (by decide) rfl rfl rfl (Nat.le_of_ble_eq_true rfl) ⟨Nat.le_refl _, Nat.le_refl _⟩ hl hr hs⟩) (fun v23 h => ?_)
        refine m_iconst C (dOf DX9_ended 57 rfl) (v := 1) ki_1 ?_
        obtain ⟨hc, h⟩ := ck_spec h
        refine m_cP (st := [.int 19, .ref (G.1 + a21)]) h (fun o' ho H locs ls hl hr hs => ⟨_, m_runV C (dOf DX9_ended 58 rfl) km_X9_155 ky_X9_item (by decide) ⟨rfl, rfl⟩ (c_X9_item _ G _ _ _ _ _ o' ho) hc.1 hc.2 (by decide) rfl rfl rfl (Nat.le_of_ble_eq_true rfl) ⟨Nat.le_refl _, Nat.le_refl _⟩ hl hr hs⟩) (fun v24 h => ?_)
        refine m_sI C (dOf DX9_ended 59 rfl) h (fun S25 h => ?_)
        exact m_sub [0] rfl (hj14 _ h)
      refine m_icmpeq C (dOf DX9_ended 35 rfl) (tgt := 69) rfl h (fun h => ?_) (fun h => ?_)
      · exact m_sub [2, 1, 0] rfl (hj18 _ h)
      · refine m_iload_n C (dOf DX9_ended 36 rfl) rfl 0 rfl ?_
        refine m_aload_n C (dOf DX9_ended 37 rfl) rfl 2 rfl ?_
        refine m_gR C (dOf DX9_ended 38 rfl) kf_X9_7 fg_9_1 h (fun a26 h => ?_)
        refine m_bipush C (dOf DX9_ended 39 rfl) (v := 18) kb_18 ?_
        refine m_aI C (dOf DX9_ended 40 rfl) h (fun v27 h => ?_)
        refine m_icmple C (dOf DX9_ended 41 rfl) (tgt := 99) rfl h (fun h => ?_) (fun h => ?_)
        · exact m_sub [2] rfl (hj14 _ h)
        · exact m_sub [2, 1, 0] rfl (hj18 _ h)
    · exact m_sub [] rfl (hj5 _ h)
/-- TraceRingModel.dropped(I)I -/
def f_X9_dropped (S : St) (b0 : Nat) (p1 : Int32) : Option (Int32 × St) :=
  gR_ S b0 9 1 fun a1 =>
  aI_ S a1 11 6 fun v2 =>
  lt_ (v2 - 1 : Int32) fun v3 =>
  ck_ S b0 9 <| cP_ (f_X9_innermost S b0) fun v4 =>
  jn_ (fun (x5 : Unit) =>
    rt_ ((-1), S)
  ) fun j5 =>
  if v4 = p1 then
    if 0 ≤ v3 then
      ck_ S b0 9 <| cP_ (f_X9_openPage S b0 v3) fun v6 =>
      ck_ S b0 9 <| cP_ (f_X9_openItem S b0 v3) fun v7 =>
      gR_ S b0 9 1 fun a8 =>
      aI_ S a8 11 5 fun v9 =>
      ck_ S b0 9 <| cP_ (f_X9_pageAt S b0 v9) fun v10 =>
      jn_ (fun (x11 : Int32) =>
        jn_ (fun (x12 : St) =>
          gR_ x12 b0 9 1 fun a13 =>
          aI_ x12 a13 11 13 fun v14 =>
          lt_ (v14 + 1 : Int32) fun v15 =>
          sI_ x12 a13 13 v15 fun S16 =>
          ck_ S16 b0 9 <| cV_ (f_X9_closes S16 b0) fun S17 =>
          jn_ (fun (x18 : Int32) =>
            rt_ (x18, S17)
          ) fun j18 =>
          if x11 = 0 then
            j18 (1)
          else
            j18 (0)
        ) fun j12 =>
        if x11 = 0 then
          ck_ S b0 9 <| cP_ (f_X9_item S b0 v6 v7 5) fun v19 =>
          ck_ S b0 9 <| cP_ (f_X9_item S b0 v6 v7 4) fun v20 =>
          lt_ (4 + v19 : Int32) fun v21 =>
          ck_ S b0 9 <| cP_ (f_X9_of S b0 v6 v21) fun v22 =>
          rm_ v22 16 fun v23 =>
          lt_ (224 + v23 : Int32) fun v24 =>
          ck_ S b0 9 <| cV_ (f_X9_cellIs S b0 v6 v19 v24) fun S25 =>
          lp_ (fun self26 (x26 : Int32 × St) =>
            if v20 < x26.1 then
              lt_ (6 * v7 : Int32) fun v27 =>
              lt_ (36 + v27 : Int32) fun v28 =>
              lt_ (v28 + 0 : Int32) fun v29 =>
              ck_ x26.2 b0 9 <| cV_ (f_X9_lay x26.2 b0 v6 v29 1) fun S30 =>
              j12 (S30)
            else
              lt_ (v19 + x26.1 : Int32) fun v31 =>
              jn_ (fun (x32 : Int32) =>
                ck_ x26.2 b0 9 <| cV_ (f_X9_cellIs x26.2 b0 v6 v31 x32) fun S33 =>
                lt_ (x26.1 + 1) fun v34 =>
                self26 (v34, S33)
              ) fun j32 =>
              if x26.1 = 1 then
                j32 (v20)
              else
                j32 (0)
          ) FU (1, S25)
        else
          ck_ S b0 9 <| cP_ (f_X9_startOf S b0 v6 v7) fun v35 =>
          lp_ (fun self36 (x36 : Int32 × St) =>
            ck_ x36.2 b0 9 <| cP_ (f_X9_of x36.2 b0 v6 1) fun v37 =>
            if v37 ≤ x36.1 then
              ck_ x36.2 b0 9 <| cV_ (f_X9_lay x36.2 b0 v6 1 v35) fun S38 =>
              ck_ S38 b0 9 <| cV_ (f_X9_lay S38 b0 v6 3 v7) fun S39 =>
              jn_ (fun (x40 : Int32) =>
                ck_ S39 b0 9 <| cV_ (f_X9_lay S39 b0 v6 0 x40) fun S41 =>
                j12 (S41)
              ) fun j40 =>
              if v7 = 0 then
                j40 ((-1))
              else
                ck_ S39 b0 9 <| cP_ (f_X9_of S39 b0 v6 0) fun v42 =>
                j40 (v42)
            else
              ck_ x36.2 b0 9 <| cV_ (f_X9_cellIs x36.2 b0 v6 x36.1 0) fun S43 =>
              lt_ (x36.1 + 1) fun v44 =>
              self36 (v44, S43)
          ) FU (v35, S)
      ) fun j11 =>
      jn_ (fun (x45 : Unit) =>
        j11 (0)
      ) fun j45 =>
      if v6 = v10 then
        ck_ S b0 9 <| cP_ (f_X9_of S b0 v6 3) fun v46 =>
        lt_ (v46 - 1 : Int32) fun v47 =>
        if v7 = v47 then
          j11 (1)
        else
          j45 ()
      else
        j45 ()
    else
      j5 ()
  else
    j5 ()
set_option maxRecDepth 100000 in
set_option maxHeartbeats 4000000 in
theorem c_X9_dropped (l : Launch) (G : Gx) (S : St) (b0 : Nat) (p1 : Int32) (o : (Int32 × St)) (h : f_X9_dropped S b0 p1 = some o) : Met l yX9_dropped (Cond.code yX9_dropped cX9_dropped 9 (some (.int)) :: wAll) ({ frames := 4, cells := 0, slots := 0, locals := 89 } : Room) (va_Pc [.ref (G.1 + b0), .int p1] (wPre G S)) (qI G o) 0 0 (wA G) := by
  refine m_start (by decide +kernel) (Nat.le_of_ble_eq_true rfl) (fun X C => ?_)
  unfold f_X9_dropped at h
  show WM X G 9 0 0 (wQ X G (qI G o) 0 0) 0 [(0, .ref (G.1 + b0)), (1, .int p1)] [] S
  refine m_aload_n C (dOf DX9_dropped 0 rfl) rfl 0 rfl ?_
  refine m_gR C (dOf DX9_dropped 1 rfl) kf_X9_7 fg_9_1 h (fun a1 h => ?_)
  refine m_bipush C (dOf DX9_dropped 2 rfl) (v := 6) kb_6 ?_
  refine m_aI C (dOf DX9_dropped 3 rfl) h (fun v2 h => ?_)
  refine m_iconst C (dOf DX9_dropped 4 rfl) (v := 1) ki_1 ?_
  refine m_isub C (dOf DX9_dropped 5 rfl) h (fun v3 h => ?_)
  refine m_istore_n C (dOf DX9_dropped 6 rfl) rfl (by decide) (lv' := [(2, .int v3), (0, .ref (G.1 + b0)), (1, .int p1)]) rfl ?_
  refine m_aload_n C (dOf DX9_dropped 7 rfl) rfl 1 rfl ?_
  obtain ⟨hc, h⟩ := ck_spec h
  refine m_cP (st := []) h (fun o' ho H locs ls hl hr hs => ⟨_, m_runV C (dOf DX9_dropped 8 rfl) km_X9_177 ky_X9_innermost (by decide) ⟨rfl, rfl⟩ (c_X9_innermost _ G _ _ o' ho) hc.1 hc.2 (by decide) rfl rfl rfl (Nat.le_of_ble_eq_true rfl) ⟨Nat.le_refl _, Nat.le_refl _⟩ hl hr hs⟩) (fun v4 h => ?_)
  refine m_iload_n C (dOf DX9_dropped 9 rfl) rfl 2 rfl ?_
  refine m_jn (J := fun (x5 : Unit) => WM X G 9 0 0 (wQ X G (qI G o) 0 0) 22 [] [] S) h (fun x5 h => ?_) (fun j5 hj5 h => ?_)
  · refine m_iconst C (dOf DX9_dropped 13 rfl) (v := (-1)) ki_m1 ?_
    exact m_iret C rfl (dOf DX9_dropped 14 rfl) h
  refine m_icmpne C (dOf DX9_dropped 10 rfl) (tgt := 22) rfl h (fun h => ?_) (fun h => ?_)
  · exact m_sub [] rfl (hj5 _ h)
  · refine m_iload_n C (dOf DX9_dropped 11 rfl) rfl 0 rfl ?_
    refine m_ifge C (dOf DX9_dropped 12 rfl) (tgt := 24) rfl h (fun h => ?_) (fun h => ?_)
    · refine m_aload_n C (dOf DX9_dropped 15 rfl) rfl 1 rfl ?_
      refine m_iload_n C (dOf DX9_dropped 16 rfl) rfl 0 rfl ?_
      obtain ⟨hc, h⟩ := ck_spec h
      refine m_cP (st := []) h (fun o' ho H locs ls hl hr hs => ⟨_, m_runV C (dOf DX9_dropped 17 rfl) km_X9_162 ky_X9_openPage (by decide) ⟨rfl, rfl⟩ (c_X9_openPage _ G _ _ _ o' ho) hc.1 hc.2 (by decide) rfl rfl rfl (Nat.le_of_ble_eq_true rfl) ⟨Nat.le_refl _, Nat.le_refl _⟩ hl hr hs⟩) (fun v6 h => ?_)
      refine m_istore_n C (dOf DX9_dropped 18 rfl) rfl (by decide) (lv' := [(3, .int v6), (2, .int v3), (0, .ref (G.1 + b0)), (1, .int p1)]) rfl ?_
      refine m_aload_n C (dOf DX9_dropped 19 rfl) rfl 2 rfl ?_
      refine m_iload_n C (dOf DX9_dropped 20 rfl) rfl 1 rfl ?_
      obtain ⟨hc, h⟩ := ck_spec h
      refine m_cP (st := []) h (fun o' ho H locs ls hl hr hs => ⟨_, m_runV C (dOf DX9_dropped 21 rfl) km_X9_165 ky_X9_openItem (by decide) ⟨rfl, rfl⟩ (c_X9_openItem _ G _ _ _ o' ho) hc.1 hc.2 (by decide) rfl rfl rfl (Nat.le_of_ble_eq_true rfl) ⟨Nat.le_refl _, Nat.le_refl _⟩ hl hr hs⟩) (fun v7 h => ?_)
      refine m_istore C (dOf DX9_dropped 22 rfl) (by decide) (lv' := [(4, .int v7), (3, .int v6), (2, .int v3), (0, .ref (G.1 + b0)), (1, .int p1)]) rfl ?_
      refine m_iload_n C (dOf DX9_dropped 23 rfl) rfl 1 rfl ?_
      refine m_aload_n C (dOf DX9_dropped 24 rfl) rfl 3 rfl ?_
      refine m_aload_n C (dOf DX9_dropped 25 rfl) rfl 3 rfl ?_
      refine m_gR C (dOf DX9_dropped 26 rfl) kf_X9_7 fg_9_1 h (fun a8 h => ?_)
      refine m_iconst C (dOf DX9_dropped 27 rfl) (v := 5) ki_5 ?_
      refine m_aI C (dOf DX9_dropped 28 rfl) h (fun v9 h => ?_)
      obtain ⟨hc, h⟩ := ck_spec h
      refine m_cP (st := [.int v6]) h (fun o' ho H locs ls hl hr hs => ⟨_, m_runV C (dOf DX9_dropped 29 rfl) km_X9_151 ky_X9_pageAt (by decide) ⟨rfl, rfl⟩ (c_X9_pageAt _ G _ _ _ o' ho) hc.1 hc.2 (by decide) rfl rfl rfl (Nat.le_of_ble_eq_true rfl) ⟨Nat.le_refl _, Nat.le_refl _⟩ hl hr hs⟩) (fun v10 h => ?_)
      refine m_jn (J := fun (x11 : Int32) => WM X G 9 0 0 (wQ X G (qI G o) 0 0) 69 [(0, .ref (G.1 + b0)), (3, .int v6), (4, .int v7)] [.int x11] S) h (fun x11 h => ?_) (fun j11 hj11 h => ?_)
      · refine m_istore C (dOf DX9_dropped 42 rfl) (by decide) (lv' := [(5, .int x11), (0, .ref (G.1 + b0)), (3, .int v6), (4, .int v7)]) rfl ?_
        refine m_iload C (dOf DX9_dropped 43 rfl) 0 rfl ?_
        refine m_jn (J := fun (x12 : St) => WM X G 9 0 0 (wQ X G (qI G o) 0 0) 251 [(0, .ref (G.1 + b0)), (5, .int x11)] [] x12) h (fun x12 h => ?_) (fun j12 hj12 h => ?_)
        · refine m_aload_n C (dOf DX9_dropped_1 24 rfl) rfl 0 rfl ?_
          refine m_gR C (dOf DX9_dropped_1 25 rfl) kf_X9_7 fg_9_1 h (fun a13 h => ?_)
          refine m_bipush C (dOf DX9_dropped_1 26 rfl) (v := 13) kb_13 ?_
          refine m_dup2 C (dOf DX9_dropped_1 27 rfl) rfl rfl ?_
          refine m_aI C (dOf DX9_dropped_1 28 rfl) h (fun v14 h => ?_)
          refine m_iconst C (dOf DX9_dropped_1 29 rfl) (v := 1) ki_1 ?_
          refine m_iadd C (dOf DX9_dropped_1 30 rfl) h (fun v15 h => ?_)
          refine m_sI C (dOf DX9_dropped_1 31 rfl) h (fun S16 h => ?_)
          refine m_aload_n C (dOf DX9_dropped_1 32 rfl) rfl 0 rfl ?_
          obtain ⟨hc, h⟩ := ck_spec h
          refine m_cV (st := []) h (fun o' ho H locs ls hl hr hs => ⟨_, m_runV C (dOf DX9_dropped_1 33 rfl) km_X9_207 ky_X9_closes (by decide) ⟨rfl, rfl⟩ (c_X9_closes _ G _ _ o' ho) hc.1 hc.2 (by decide) rfl rfl rfl (Nat.le_of_ble_eq_true rfl) ⟨Nat.le_refl _, Nat.le_refl _⟩ hl hr hs⟩) (fun S17 h => ?_)
          refine m_iload C (dOf DX9_dropped_1 34 rfl) 1 rfl ?_
          refine m_jn (J := fun (x18 : Int32) => WM X G 9 0 0 (wQ X G (qI G o) 0 0) 276 [] [.int x18] S17) h (fun x18 h => ?_) (fun j18 hj18 h => ?_)
          · exact m_iret C rfl (dOf DX9_dropped_1 39 rfl) h
          refine m_ifeq C (dOf DX9_dropped_1 35 rfl) (tgt := 275) rfl h (fun h => ?_) (fun h => ?_)
          · refine m_iconst C (dOf DX9_dropped_1 38 rfl) (v := 1) ki_1 ?_
            exact m_sub [] rfl (hj18 _ h)
          · refine m_iconst C (dOf DX9_dropped_1 36 rfl) (v := 0) ki_0 ?_
            refine m_goto C (dOf DX9_dropped_1 37 rfl) (tgt := 276) rfl ?_
            exact m_sub [] rfl (hj18 _ h)
        refine m_ifeq C (dOf DX9_dropped 44 rfl) (tgt := 154) rfl h (fun h => ?_) (fun h => ?_)
        · refine m_aload_n C (dOf DX9_dropped 88 rfl) rfl 1 rfl ?_
          refine m_iload_n C (dOf DX9_dropped 89 rfl) rfl 2 rfl ?_
          refine m_iload C (dOf DX9_dropped 90 rfl) 3 rfl ?_
          refine m_iconst C (dOf DX9_dropped 91 rfl) (v := 5) ki_5 ?_
          obtain ⟨hc, h⟩ := ck_spec h
          refine m_cP (st := []) h (fun o' ho H locs ls hl hr hs => ⟨_, m_runV C (dOf DX9_dropped 92 rfl) km_X9_155 ky_X9_item (by decide) ⟨rfl, rfl⟩ (c_X9_item _ G _ _ _ _ _ o' ho) hc.1 hc.2 (by decide) rfl rfl rfl (Nat.le_of_ble_eq_true rfl) ⟨Nat.le_refl _, Nat.le_refl _⟩ hl hr hs⟩) (fun v19 h => ?_)
          refine m_istore C (dOf DX9_dropped 93 rfl) (by decide) (lv' := [(6, .int v19), (5, .int x11), (0, .ref (G.1 + b0)), (3, .int v6), (4, .int v7)]) rfl ?_
          refine m_aload_n C (dOf DX9_dropped 94 rfl) rfl 2 rfl ?_
          refine m_iload_n C (dOf DX9_dropped 95 rfl) rfl 3 rfl ?_
          refine m_iload C (dOf DX9_dropped 96 rfl) 4 rfl ?_
          refine m_iconst C (dOf DX9_dropped 97 rfl) (v := 4) ki_4 ?_
          obtain ⟨hc, h⟩ := ck_spec h
          refine m_cP (st := []) h (fun o' ho H locs ls hl hr hs => ⟨_, m_runV C (dOf DX9_dropped 98 rfl) km_X9_155 ky_X9_item (by decide) ⟨rfl, rfl⟩ (c_X9_item _ G _ _ _ _ _ o' ho) hc.1 hc.2 (by decide) rfl rfl rfl (Nat.le_of_ble_eq_true rfl) ⟨Nat.le_refl _, Nat.le_refl _⟩ hl hr hs⟩) (fun v20 h => ?_)
          refine m_istore C (dOf DX9_dropped 99 rfl) (by decide) (lv' := [(7, .int v20), (6, .int v19), (5, .int x11), (0, .ref (G.1 + b0)), (3, .int v6), (4, .int v7)]) rfl ?_
          refine m_aload_n C (dOf DX9_dropped 100 rfl) rfl 3 rfl ?_
          refine m_iload_n C (dOf DX9_dropped 101 rfl) rfl 4 rfl ?_
          refine m_iload C (dOf DX9_dropped 102 rfl) 1 rfl ?_
          refine m_sipush C (dOf DX9_dropped 103 rfl) (v := 224) ks_224 ?_
          refine m_aload_n C (dOf DX9_dropped 104 rfl) rfl 3 rfl ?_
          refine m_iload_n C (dOf DX9_dropped 105 rfl) rfl 4 rfl ?_
          refine m_iconst C (dOf DX9_dropped 106 rfl) (v := 4) ki_4 ?_
          refine m_iload C (dOf DX9_dropped 107 rfl) 1 rfl ?_
          refine m_iadd C (dOf DX9_dropped 108 rfl) h (fun v21 h => ?_)
          obtain ⟨hc, h⟩ := ck_spec h
          refine m_cP (st := [.int 224, .int v19, .int v6, .ref (G.1 + b0)]) h (fun o' ho H locs ls hl hr hs => ⟨_, m_runV C (dOf DX9_dropped 109 rfl) km_X9_144 ky_X9_of (by decide) ⟨rfl, rfl⟩ (c_X9_of _ G _ _ _ _ o' ho) hc.1 hc.2 (by decide) rfl rfl rfl (Nat.le_of_ble_eq_true rfl) ⟨Nat.le_refl _, Nat.le_refl _⟩ hl hr hs⟩) (fun v22 h => ?_)
          refine m_bipush C (dOf DX9_dropped 110 rfl) (v := 16) kb_16 ?_
          refine m_irem C (dOf DX9_dropped 111 rfl) h (fun v23 h => ?_)
          refine m_iadd C (dOf DX9_dropped 112 rfl) h (fun v24 h => ?_)
          obtain ⟨hc, h⟩ := ck_spec h
          refine m_cV (st := []) h (fun o' ho H locs ls hl hr hs => ⟨_, m_runV C (dOf DX9_dropped 113 rfl) km_X9_171 ky_X9_cellIs (by decide) ⟨rfl, rfl⟩ (c_X9_cellIs _ G _ _ _ _ _ o' ho) hc.1 hc.2 (by decide) rfl rfl rfl (Nat.le_of_ble_eq_true rfl) ⟨Nat.le_refl _, Nat.le_refl _⟩ hl hr hs⟩) (fun S25 h => ?_)
          refine m_iconst C (dOf DX9_dropped 114 rfl) (v := 1) ki_1 ?_
          refine m_istore C (dOf DX9_dropped 115 rfl) (by decide) (lv' := [(8, .int 1), (7, .int v20), (6, .int v19), (5, .int x11), (0, .ref (G.1 + b0)), (3, .int v6), (4, .int v7)]) rfl ?_
          refine m_sub [4, 5, 6, 3, 2, 1, 0] rfl (m_lp (J := fun (x26 : Int32 × St) => WM X G 9 0 0 (wQ X G (qI G o) 0 0) 200 [(0, .ref (G.1 + b0)), (3, .int v6), (4, .int v7), (5, .int x11), (6, .int v19), (7, .int v20), (8, .int x26.1)] [] x26.2) h (fun self26 hself26 x26 h => ?_))
          refine m_iload C (dOf DX9_dropped 116 rfl) 6 rfl ?_
          refine m_iload C (dOf DX9_dropped 117 rfl) 5 rfl ?_
          refine m_icmpgt C (dOf DX9_dropped 118 rfl) (tgt := 235) rfl h (fun h => ?_) (fun h => ?_)
          · refine m_aload_n C (dOf DX9_dropped_1 13 rfl) rfl 0 rfl ?_
            refine m_iload_n C (dOf DX9_dropped_1 14 rfl) rfl 1 rfl ?_
            refine m_bipush C (dOf DX9_dropped_1 15 rfl) (v := 36) kb_36 ?_
            refine m_bipush C (dOf DX9_dropped_1 16 rfl) (v := 6) kb_6 ?_
            refine m_iload C (dOf DX9_dropped_1 17 rfl) 2 rfl ?_
            refine m_imul C (dOf DX9_dropped_1 18 rfl) h (fun v27 h => ?_)
            refine m_iadd C (dOf DX9_dropped_1 19 rfl) h (fun v28 h => ?_)
            refine m_iconst C (dOf DX9_dropped_1 20 rfl) (v := 0) ki_0 ?_
            refine m_iadd C (dOf DX9_dropped_1 21 rfl) h (fun v29 h => ?_)
            refine m_iconst C (dOf DX9_dropped_1 22 rfl) (v := 1) ki_1 ?_
            obtain ⟨hc, h⟩ := ck_spec h
            refine m_cV (st := []) h (fun o' ho H locs ls hl hr hs => ⟨_, m_runV C (dOf DX9_dropped_1 23 rfl) km_X9_141 ky_X9_lay (by decide) ⟨rfl, rfl⟩ (c_X9_lay _ G _ _ _ _ _ o' ho) hc.1 hc.2 (by decide) rfl rfl rfl (Nat.le_of_ble_eq_true rfl) ⟨Nat.le_refl _, Nat.le_refl _⟩ hl hr hs⟩) (fun S30 h => ?_)
            exact m_sub [0, 3] rfl (hj12 _ h)
          · refine m_aload_n C (dOf DX9_dropped 119 rfl) rfl 0 rfl ?_
            refine m_iload_n C (dOf DX9_dropped_1 0 rfl) rfl 1 rfl ?_
            refine m_iload C (dOf DX9_dropped_1 1 rfl) 4 rfl ?_
            refine m_iload C (dOf DX9_dropped_1 2 rfl) 6 rfl ?_
            refine m_iadd C (dOf DX9_dropped_1 3 rfl) h (fun v31 h => ?_)
            refine m_iload C (dOf DX9_dropped_1 4 rfl) 6 rfl ?_
            refine m_iconst C (dOf DX9_dropped_1 5 rfl) (v := 1) ki_1 ?_
            refine m_jn (J := fun (x32 : Int32) => WM X G 9 0 0 (wQ X G (qI G o) 0 0) 226 [(0, .ref (G.1 + b0)), (3, .int v6), (4, .int v7), (5, .int x11), (6, .int v19), (7, .int v20), (8, .int x26.1)] [.int x32, .int v31, .int v6, .ref (G.1 + b0)] x26.2) h (fun x32 h => ?_) (fun j32 hj32 h => ?_)
            · obtain ⟨hc, h⟩ := ck_spec h
              refine m_cV (st := []) h (fun o' ho H locs ls hl hr hs => ⟨_, m_runV C (dOf DX9_dropped_1 10 rfl) km_X9_171 ky_X9_cellIs (by decide) ⟨rfl, rfl⟩ (c_X9_cellIs _ G _ _ _ _ _ o' ho) hc.1 hc.2 (by decide) rfl rfl rfl (Nat.le_of_ble_eq_true rfl) ⟨Nat.le_refl _, Nat.le_refl _⟩ hl hr hs⟩) (fun S33 h => ?_)
              refine m_iinc C (dOf DX9_dropped_1 11 rfl) (w := 1) ki_1 6 rfl (by decide) h (fun v34 h => ⟨[(8, .int v34), (0, .ref (G.1 + b0)), (3, .int v6), (4, .int v7), (5, .int x11), (6, .int v19), (7, .int v20)], rfl, ?_⟩)
              refine m_goto C (dOf DX9_dropped_1 12 rfl) (tgt := 200) rfl ?_
              exact m_sub [1, 2, 3, 4, 5, 6, 0] rfl (hself26 _ h)
            refine m_icmpne C (dOf DX9_dropped_1 6 rfl) (tgt := 225) rfl h (fun h => ?_) (fun h => ?_)
            · refine m_iconst C (dOf DX9_dropped_1 9 rfl) (v := 0) ki_0 ?_
              exact m_sub [0, 1, 2, 3, 4, 5, 6] rfl (hj32 _ h)
            · refine m_iload C (dOf DX9_dropped_1 7 rfl) 5 rfl ?_
              refine m_goto C (dOf DX9_dropped_1 8 rfl) (tgt := 226) rfl ?_
              exact m_sub [0, 1, 2, 3, 4, 5, 6] rfl (hj32 _ h)
        · refine m_aload_n C (dOf DX9_dropped 45 rfl) rfl 1 rfl ?_
          refine m_iload_n C (dOf DX9_dropped 46 rfl) rfl 2 rfl ?_
          refine m_iload C (dOf DX9_dropped 47 rfl) 3 rfl ?_
          obtain ⟨hc, h⟩ := ck_spec h
          refine m_cP (st := []) h (fun o' ho H locs ls hl hr hs => ⟨_, m_runV C (dOf DX9_dropped 48 rfl) km_X9_210 ky_X9_startOf (by decide) ⟨rfl, rfl⟩ (c_X9_startOf _ G _ _ _ _ o' ho) hc.1 hc.2 (by decide) rfl rfl rfl (Nat.le_of_ble_eq_true rfl) ⟨Nat.le_refl _, Nat.le_refl _⟩ hl hr hs⟩) (fun v35 h => ?_)
          refine m_istore C (dOf DX9_dropped 49 rfl) (by decide) (lv' := [(6, .int v35), (5, .int x11), (0, .ref (G.1 + b0)), (3, .int v6), (4, .int v7)]) rfl ?_
          refine m_iload C (dOf DX9_dropped 50 rfl) 0 rfl ?_
          refine m_istore C (dOf DX9_dropped 51 rfl) (by decide) (lv' := [(7, .int v35), (6, .int v35), (5, .int x11), (0, .ref (G.1 + b0)), (3, .int v6), (4, .int v7)]) rfl ?_
          refine m_sub [3, 4, 5, 2, 1, 0] rfl (m_lp (J := fun (x36 : Int32 × St) => WM X G 9 0 0 (wQ X G (qI G o) 0 0) 89 [(0, .ref (G.1 + b0)), (3, .int v6), (4, .int v7), (5, .int x11), (6, .int v35), (7, .int x36.1)] [] x36.2) h (fun self36 hself36 x36 h => ?_))
          refine m_iload C (dOf DX9_dropped 52 rfl) 5 rfl ?_
          refine m_aload_n C (dOf DX9_dropped 53 rfl) rfl 0 rfl ?_
          refine m_iload_n C (dOf DX9_dropped 54 rfl) rfl 1 rfl ?_
          refine m_iconst C (dOf DX9_dropped 55 rfl) (v := 1) ki_1 ?_
          obtain ⟨hc, h⟩ := ck_spec h
          refine m_cP (st := [.int x36.1]) h (fun o' ho H locs ls hl hr hs => ⟨_, m_runV C (dOf DX9_dropped 56 rfl) km_X9_144 ky_X9_of (by decide) ⟨rfl, rfl⟩ (c_X9_of _ G _ _ _ _ o' ho) hc.1 hc.2 (by decide) rfl rfl rfl (Nat.le_of_ble_eq_true rfl) ⟨Nat.le_refl _, Nat.le_refl _⟩ hl hr hs⟩) (fun v37 h => ?_)
          refine m_icmpge C (dOf DX9_dropped 57 rfl) (tgt := 114) rfl h (fun h => ?_) (fun h => ?_)
          · refine m_aload_n C (dOf DX9_dropped 65 rfl) rfl 0 rfl ?_
            refine m_iload_n C (dOf DX9_dropped 66 rfl) rfl 1 rfl ?_
            refine m_iconst C (dOf DX9_dropped 67 rfl) (v := 1) ki_1 ?_
            refine m_iload C (dOf DX9_dropped 68 rfl) 4 rfl ?_
            obtain ⟨hc, h⟩ := ck_spec h
            refine m_cV (st := []) h (fun o' ho H locs ls hl hr hs => ⟨_, m_runV C (dOf DX9_dropped 69 rfl) km_X9_141 ky_X9_lay (by decide) ⟨rfl, rfl⟩ (c_X9_lay _ G _ _ _ _ _ o' ho) hc.1 hc.2 (by decide) rfl rfl rfl (Nat.le_of_ble_eq_true rfl) ⟨Nat.le_refl _, Nat.le_refl _⟩ hl hr hs⟩) (fun S38 h => ?_)
            refine m_aload_n C (dOf DX9_dropped 70 rfl) rfl 0 rfl ?_
            refine m_iload_n C (dOf DX9_dropped 71 rfl) rfl 1 rfl ?_
            refine m_iconst C (dOf DX9_dropped 72 rfl) (v := 3) ki_3 ?_
            refine m_iload C (dOf DX9_dropped 73 rfl) 2 rfl ?_
            obtain ⟨hc, h⟩ := ck_spec h
            refine m_cV (st := []) h (fun o' ho H locs ls hl hr hs => ⟨_, m_runV C (dOf DX9_dropped 74 rfl) km_X9_141 ky_X9_lay (by decide) ⟨rfl, rfl⟩ (c_X9_lay _ G _ _ _ _ _ o' ho) hc.1 hc.2 (by decide) rfl rfl rfl (Nat.le_of_ble_eq_true rfl) ⟨Nat.le_refl _, Nat.le_refl _⟩ hl hr hs⟩) (fun S39 h => ?_)
            refine m_aload_n C (dOf DX9_dropped 75 rfl) rfl 0 rfl ?_
            refine m_iload_n C (dOf DX9_dropped 76 rfl) rfl 1 rfl ?_
            refine m_iconst C (dOf DX9_dropped 77 rfl) (v := 0) ki_0 ?_
            refine m_iload C (dOf DX9_dropped 78 rfl) 2 rfl ?_
            refine m_jn (J := fun (x40 : Int32) => WM X G 9 0 0 (wQ X G (qI G o) 0 0) 148 [(0, .ref (G.1 + b0)), (5, .int x11)] [.int x40, .int 0, .int v6, .ref (G.1 + b0)] S39) h (fun x40 h => ?_) (fun j40 hj40 h => ?_)
            · obtain ⟨hc, h⟩ := ck_spec h
              refine m_cV (st := []) h (fun o' ho H locs ls hl hr hs => ⟨_, m_runV C (dOf DX9_dropped 86 rfl) km_X9_141 ky_X9_lay (by decide) ⟨rfl, rfl⟩ (c_X9_lay _ G _ _ _ _ _ o' ho) hc.1 hc.2 (by decide) rfl rfl rfl (Nat.le_of_ble_eq_true rfl) ⟨Nat.le_refl _, Nat.le_refl _⟩ hl hr hs⟩) (fun S41 h => ?_)
              refine m_goto C (dOf DX9_dropped 87 rfl) (tgt := 251) rfl ?_
              exact m_sub [0, 1] rfl (hj12 _ h)
            refine m_ifne C (dOf DX9_dropped 79 rfl) (tgt := 142) rfl h (fun h => ?_) (fun h => ?_)
            · refine m_aload_n C (dOf DX9_dropped 82 rfl) rfl 0 rfl ?_
              refine m_iload_n C (dOf DX9_dropped 83 rfl) rfl 1 rfl ?_
              refine m_iconst C (dOf DX9_dropped 84 rfl) (v := 0) ki_0 ?_
              obtain ⟨hc, h⟩ := ck_spec h
              refine m_cP (st := [.int 0, .int v6, .ref (G.1 + b0)]) h (fun o' ho H locs ls hl hr hs => ⟨_, m_runV C (dOf DX9_dropped 85 rfl) km_X9_144 ky_X9_of (by decide) ⟨rfl, rfl⟩ (c_X9_of _ G _ _ _ _ o' ho) hc.1 hc.2 (by decide) rfl rfl rfl (Nat.le_of_ble_eq_true rfl) ⟨Nat.le_refl _, Nat.le_refl _⟩ hl hr hs⟩) (fun v42 h => ?_)
              exact m_sub [0, 3] rfl (hj40 _ h)
            · refine m_iconst C (dOf DX9_dropped 80 rfl) (v := (-1)) ki_m1 ?_
              refine m_goto C (dOf DX9_dropped 81 rfl) (tgt := 148) rfl ?_
              exact m_sub [0, 3] rfl (hj40 _ h)
          · refine m_aload_n C (dOf DX9_dropped 58 rfl) rfl 0 rfl ?_
            refine m_iload_n C (dOf DX9_dropped 59 rfl) rfl 1 rfl ?_
            refine m_iload C (dOf DX9_dropped 60 rfl) 5 rfl ?_
            refine m_iconst C (dOf DX9_dropped 61 rfl) (v := 0) ki_0 ?_
            obtain ⟨hc, h⟩ := ck_spec h
            refine m_cV (st := []) h (fun o' ho H locs ls hl hr hs => ⟨_, m_runV C (dOf DX9_dropped 62 rfl) km_X9_171 ky_X9_cellIs (by decide) ⟨rfl, rfl⟩ (c_X9_cellIs _ G _ _ _ _ _ o' ho) hc.1 hc.2 (by decide) rfl rfl rfl (Nat.le_of_ble_eq_true rfl) ⟨Nat.le_refl _, Nat.le_refl _⟩ hl hr hs⟩) (fun S43 h => ?_)
            refine m_iinc C (dOf DX9_dropped 63 rfl) (w := 1) ki_1 5 rfl (by decide) h (fun v44 h => ⟨[(7, .int v44), (0, .ref (G.1 + b0)), (3, .int v6), (4, .int v7), (5, .int x11), (6, .int v35)], rfl, ?_⟩)
            refine m_goto C (dOf DX9_dropped 64 rfl) (tgt := 89) rfl ?_
            exact m_sub [1, 2, 3, 4, 5, 0] rfl (hself36 _ h)
      refine m_jn (J := fun (x45 : Unit) => WM X G 9 0 0 (wQ X G (qI G o) 0 0) 68 [(0, .ref (G.1 + b0)), (3, .int v6), (4, .int v7)] [] S) h (fun x45 h => ?_) (fun j45 hj45 h => ?_)
      · refine m_iconst C (dOf DX9_dropped 41 rfl) (v := 0) ki_0 ?_
        exact m_sub [0, 1, 2] rfl (hj11 _ h)
      refine m_icmpne C (dOf DX9_dropped 30 rfl) (tgt := 68) rfl h (fun h => ?_) (fun h => ?_)
      · exact m_sub [3, 1, 0] rfl (hj45 _ h)
      · refine m_iload C (dOf DX9_dropped 31 rfl) 0 rfl ?_
        refine m_aload_n C (dOf DX9_dropped 32 rfl) rfl 3 rfl ?_
        refine m_iload_n C (dOf DX9_dropped 33 rfl) rfl 1 rfl ?_
        refine m_iconst C (dOf DX9_dropped 34 rfl) (v := 3) ki_3 ?_
        obtain ⟨hc, h⟩ := ck_spec h
        refine m_cP (st := [.int v7]) h (fun o' ho H locs ls hl hr hs => ⟨_, m_runV C (dOf DX9_dropped 35 rfl) km_X9_144 ky_X9_of (by decide) ⟨rfl, rfl⟩ (c_X9_of _ G _ _ _ _ o' ho) hc.1 hc.2 (by decide) rfl rfl rfl (Nat.le_of_ble_eq_true rfl) ⟨Nat.le_refl _, Nat.le_refl _⟩ hl hr hs⟩) (fun v46 h => ?_)
        refine m_iconst C (dOf DX9_dropped 36 rfl) (v := 1) ki_1 ?_
        refine m_isub C (dOf DX9_dropped 37 rfl) h (fun v47 h => ?_)
        refine m_icmpne C (dOf DX9_dropped 38 rfl) (tgt := 68) rfl h (fun h => ?_) (fun h => ?_)
        · exact m_sub [3, 1, 0] rfl (hj45 _ h)
        · refine m_iconst C (dOf DX9_dropped 39 rfl) (v := 1) ki_1 ?_
          refine m_goto C (dOf DX9_dropped 40 rfl) (tgt := 69) rfl ?_
          exact m_sub [3, 1, 0] rfl (hj11 _ h)
    · exact m_sub [] rfl (hj5 _ h)
