/-- TraceRing$Ring.isInnermost(I)Z -/
def f_X4_isInnermost (S : St) (b0 : Nat) (p1 : Int32) : Option Int32 :=
  gI_ S b0 4 15 fun v1 =>
  jn_ (fun (x2 : Int32) =>
    rzP_ x2
  ) fun j2 =>
  jn_ (fun (x3 : Unit) =>
    j2 (0)
  ) fun j3 =>
  if v1 ≤ 0 then
    j3 ()
  else
    ck_ S b0 4 <| cP_ (f_X4_innermostLevel S b0) fun v4 =>
    if v4 = p1 then
      j2 (1)
    else
      j3 ()
set_option maxRecDepth 100000 in
set_option maxHeartbeats 4000000 in
theorem c_X4_isInnermost (l : Launch) (G : Gx) (S : St) (b0 : Nat) (p1 : Int32) (o : Int32) (h : f_X4_isInnermost S b0 p1 = some o) : Met l yX4_isInnermost (Cond.code yX4_isInnermost cX4_isInnermost 2 (some (.boolean)) :: wAll) ({ frames := 2, cells := 0, slots := 0, locals := 42 } : Room) (va_Pc [.ref (G.1 + b0), .int p1] (wPre G S)) (qI G (o, S)) 0 0 (wA G) := by
  refine m_start (by decide +kernel) (Nat.le_of_ble_eq_true rfl) (fun X C => ?_)
  unfold f_X4_isInnermost at h
  show WM X G 2 0 0 (wQ X G (qI G (o, S)) 0 0) 0 [(0, .ref (G.1 + b0)), (1, .int p1)] [] S
  refine m_aload_n C (dOf DX4_isInnermost 0 rfl) rfl 0 rfl ?_
  refine m_gI C (dOf DX4_isInnermost 1 rfl) kf_X4_84 fg_4_15 h (fun v1 h => ?_)
  refine m_jn (J := fun (x2 : Int32) => WM X G 2 0 0 (wQ X G (qI G (o, S)) 0 0) 20 [] [.int x2] S) h (fun x2 h => ?_) (fun j2 hj2 h => ?_)
  · exact m_zretP C rfl (dOf DX4_isInnermost 10 rfl) h
  refine m_jn (J := fun (x3 : Unit) => WM X G 2 0 0 (wQ X G (qI G (o, S)) 0 0) 19 [] [] S) h (fun x3 h => ?_) (fun j3 hj3 h => ?_)
  · refine m_iconst C (dOf DX4_isInnermost 9 rfl) (v := 0) ki_0 ?_
    exact m_sub [] rfl (hj2 _ h)
  refine m_ifle C (dOf DX4_isInnermost 2 rfl) (tgt := 19) rfl h (fun h => ?_) (fun h => ?_)
  · exact m_sub [] rfl (hj3 _ h)
  · refine m_aload_n C (dOf DX4_isInnermost 3 rfl) rfl 0 rfl ?_
    obtain ⟨hc, h⟩ := ck_spec h
    refine m_cP (st := []) h (fun o' ho H locs ls hl hr hs => ⟨_, m_runV C (dOf DX4_isInnermost 4 rfl) km_X4_116 ky_X4_innermostLevel (by decide) ⟨rfl, rfl⟩ (c_X4_innermostLevel _ G _ _ o' ho) hc.1 hc.2 (by decide) rfl rfl rfl (Nat.le_of_ble_eq_true rfl) ⟨Nat.le_refl _, Nat.le_refl _⟩ hl hr hs⟩) (fun v4 h => ?_)
    refine m_iload_n C (dOf DX4_isInnermost 5 rfl) rfl 1 rfl ?_
    refine m_icmpne C (dOf DX4_isInnermost 6 rfl) (tgt := 19) rfl h (fun h => ?_) (fun h => ?_)
    · exact m_sub [] rfl (hj3 _ h)
    · refine m_iconst C (dOf DX4_isInnermost 7 rfl) (v := 1) ki_1 ?_
      refine m_goto C (dOf DX4_isInnermost 8 rfl) (tgt := 20) rfl ?_
      exact m_sub [] rfl (hj2 _ h)
/-- TraceRing$Ring.putData(II)I -/
def f_X4_putData (S : St) (b0 : Nat) (p1 : Int32) (p2 : Int32) : Option (Int32 × St) :=
  jn_ (fun (x1 : Unit) =>
    rt_ ((-1), S)
  ) fun j1 =>
  if p2 < 0 then
    j1 ()
  else
    if 255 < p2 then
      j1 ()
    else
      ck_ S b0 4 <| cP_ (f_X4_isInnermost S b0 p1) fun v2 =>
      if v2 = 0 then
        j1 ()
      else
        gI_ S b0 4 15 fun v3 =>
        lt_ (v3 - 1 : Int32) fun v4 =>
        gR_ S b0 4 1 fun a5 =>
        cP_ (f_X8_at S a5 v4) fun v6 =>
        ck_ S b0 4 <| cP_ (f_X4_pageAt S b0 v6) fun a7 =>
        gR_ S b0 4 2 fun a8 =>
        cP_ (f_X8_at S a8 v4) fun v9 =>
        gR_ S b0 4 3 fun a10 =>
        cP_ (f_X8_at S a10 v4) fun v11 =>
        gR_ S a7 3 6 fun a12 =>
        cP_ (f_X8_at S a12 v9) fun v13 =>
        lt_ (v13 - v11 : Int32) fun v14 =>
        if 1 ≤ v14 then
          gR_ S a7 3 0 fun a15 =>
          gR_ S a7 3 5 fun a16 =>
          cP_ (f_X8_at S a16 v9) fun v17 =>
          lt_ (v17 + 1 : Int32) fun v18 =>
          lt_ (v18 + v11 : Int32) fun v19 =>
          cV_ (f_X8_set S a15 v19 p2) fun S20 =>
          gR_ S20 b0 4 3 fun a21 =>
          lt_ (v11 + 1 : Int32) fun v22 =>
          cV_ (f_X8_set S20 a21 v4 v22) fun S23 =>
          lt_ (v14 - 1 : Int32) fun v24 =>
          rt_ (v24, S23)
        else
          rt_ ((-1), S)
set_option maxRecDepth 100000 in
set_option maxHeartbeats 4000000 in
theorem c_X4_putData (l : Launch) (G : Gx) (S : St) (b0 : Nat) (p1 : Int32) (p2 : Int32) (o : (Int32 × St)) (h : f_X4_putData S b0 p1 p2 = some o) : Met l yX4_putData (Cond.code yX4_putData cX4_putData 8 (some (.int)) :: wAll) ({ frames := 3, cells := 0, slots := 0, locals := 63 } : Room) (va_Pc [.ref (G.1 + b0), .int p1, .int p2] (wPre G S)) (qI G o) 0 0 (wA G) := by
  refine m_start (by decide +kernel) (Nat.le_of_ble_eq_true rfl) (fun X C => ?_)
  unfold f_X4_putData at h
  show WM X G 8 0 0 (wQ X G (qI G o) 0 0) 0 [(0, .ref (G.1 + b0)), (1, .int p1), (2, .int p2)] [] S
  refine m_iload_n C (dOf DX4_putData 0 rfl) rfl 2 rfl ?_
  refine m_jn (J := fun (x1 : Unit) => WM X G 8 0 0 (wQ X G (qI G o) 0 0) 19 [] [] S) h (fun x1 h => ?_) (fun j1 hj1 h => ?_)
  · refine m_iconst C (dOf DX4_putData 9 rfl) (v := (-1)) ki_m1 ?_
    exact m_iret C rfl (dOf DX4_putData 10 rfl) h
  refine m_iflt C (dOf DX4_putData 1 rfl) (tgt := 19) rfl h (fun h => ?_) (fun h => ?_)
  · exact m_sub [] rfl (hj1 _ h)
  · refine m_iload_n C (dOf DX4_putData 2 rfl) rfl 2 rfl ?_
    refine m_sipush C (dOf DX4_putData 3 rfl) (v := 255) ks_255 ?_
    refine m_icmpgt C (dOf DX4_putData 4 rfl) (tgt := 19) rfl h (fun h => ?_) (fun h => ?_)
    · exact m_sub [] rfl (hj1 _ h)
    · refine m_aload_n C (dOf DX4_putData 5 rfl) rfl 0 rfl ?_
      refine m_iload_n C (dOf DX4_putData 6 rfl) rfl 1 rfl ?_
      obtain ⟨hc, h⟩ := ck_spec h
      refine m_cP (st := []) h (fun o' ho H locs ls hl hr hs => ⟨_, m_runV C (dOf DX4_putData 7 rfl) km_X4_159 ky_X4_isInnermost (by decide) ⟨rfl, rfl⟩ (c_X4_isInnermost _ G _ _ _ o' ho) hc.1 hc.2 (by decide) rfl rfl rfl (Nat.le_of_ble_eq_true rfl) ⟨Nat.le_refl _, Nat.le_refl _⟩ hl hr hs⟩) (fun v2 h => ?_)
      refine m_ifne C (dOf DX4_putData 8 rfl) (tgt := 21) rfl h (fun h => ?_) (fun h => ?_)
      · refine m_aload_n C (dOf DX4_putData 11 rfl) rfl 0 rfl ?_
        refine m_gI C (dOf DX4_putData 12 rfl) kf_X4_84 fg_4_15 h (fun v3 h => ?_)
        refine m_iconst C (dOf DX4_putData 13 rfl) (v := 1) ki_1 ?_
        refine m_isub C (dOf DX4_putData 14 rfl) h (fun v4 h => ?_)
        refine m_istore_n C (dOf DX4_putData 15 rfl) rfl (by decide) (lv' := [(3, .int v4), (0, .ref (G.1 + b0)), (1, .int p1), (2, .int p2)]) rfl ?_
        refine m_aload_n C (dOf DX4_putData 16 rfl) rfl 1 rfl ?_
        refine m_aload_n C (dOf DX4_putData 17 rfl) rfl 1 rfl ?_
        refine m_gR C (dOf DX4_putData 18 rfl) kf_X4_17 fg_4_1 h (fun a5 h => ?_)
        refine m_iload_n C (dOf DX4_putData 19 rfl) rfl 0 rfl ?_
        refine m_cP (st := [.ref (G.1 + b0)]) h (fun o' ho H locs ls hl hr hs => ⟨_, m_runSN C (dOf DX4_putData 20 rfl) kn_X4_102 ks_X8_at (by decide) ⟨rfl, rfl⟩ (c_X8_at _ G _ _ _ o' ho) rfl rfl (Nat.le_of_ble_eq_true rfl) ⟨Nat.le_refl _, Nat.le_refl _⟩ hl hr hs⟩) (fun v6 h => ?_)
        obtain ⟨hc, h⟩ := ck_spec h
        refine m_cN (st := []) h (fun o' ho H locs ls hl hr hs => ⟨_, m_runV C (dOf DX4_putData 21 rfl) km_X4_46 ky_X4_pageAt (by decide) ⟨rfl, rfl⟩ (c_X4_pageAt _ G _ _ _ o' ho) hc.1 hc.2 (by decide) rfl rfl rfl (Nat.le_of_ble_eq_true rfl) ⟨Nat.le_refl _, Nat.le_refl _⟩ hl hr hs⟩) (fun a7 h => ?_)
        refine m_astore C (dOf DX4_putData 22 rfl) (by decide) (lv' := [(4, .ref (G.1 + a7)), (3, .int v4), (0, .ref (G.1 + b0)), (1, .int p1), (2, .int p2)]) rfl ?_
        refine m_aload_n C (dOf DX4_putData 23 rfl) rfl 2 rfl ?_
        refine m_gR C (dOf DX4_putData 24 rfl) kf_X4_21 fg_4_2 h (fun a8 h => ?_)
        refine m_iload_n C (dOf DX4_putData 25 rfl) rfl 1 rfl ?_
        refine m_cP (st := []) h (fun o' ho H locs ls hl hr hs => ⟨_, m_runSN C (dOf DX4_putData 26 rfl) kn_X4_102 ks_X8_at (by decide) ⟨rfl, rfl⟩ (c_X8_at _ G _ _ _ o' ho) rfl rfl (Nat.le_of_ble_eq_true rfl) ⟨Nat.le_refl _, Nat.le_refl _⟩ hl hr hs⟩) (fun v9 h => ?_)
        refine m_istore C (dOf DX4_putData 27 rfl) (by decide) (lv' := [(5, .int v9), (4, .ref (G.1 + a7)), (3, .int v4), (0, .ref (G.1 + b0)), (1, .int p1), (2, .int p2)]) rfl ?_
        refine m_aload_n C (dOf DX4_putData 28 rfl) rfl 3 rfl ?_
        refine m_gR C (dOf DX4_putData 29 rfl) kf_X4_24 fg_4_3 h (fun a10 h => ?_)
        refine m_iload_n C (dOf DX4_putData 30 rfl) rfl 2 rfl ?_
        refine m_cP (st := []) h (fun o' ho H locs ls hl hr hs => ⟨_, m_runSN C (dOf DX4_putData 31 rfl) kn_X4_102 ks_X8_at (by decide) ⟨rfl, rfl⟩ (c_X8_at _ G _ _ _ o' ho) rfl rfl (Nat.le_of_ble_eq_true rfl) ⟨Nat.le_refl _, Nat.le_refl _⟩ hl hr hs⟩) (fun v11 h => ?_)
        refine m_istore C (dOf DX4_putData 32 rfl) (by decide) (lv' := [(6, .int v11), (5, .int v9), (4, .ref (G.1 + a7)), (3, .int v4), (0, .ref (G.1 + b0)), (1, .int p1), (2, .int p2)]) rfl ?_
        refine m_aload C (dOf DX4_putData 33 rfl) 2 rfl ?_
        refine m_gR C (dOf DX4_putData 34 rfl) kf_X4_162 fg_3_6 h (fun a12 h => ?_)
        refine m_iload C (dOf DX4_putData 35 rfl) 1 rfl ?_
        refine m_cP (st := []) h (fun o' ho H locs ls hl hr hs => ⟨_, m_runSN C (dOf DX4_putData 36 rfl) kn_X4_102 ks_X8_at (by decide) ⟨rfl, rfl⟩ (c_X8_at _ G _ _ _ o' ho) rfl rfl (Nat.le_of_ble_eq_true rfl) ⟨Nat.le_refl _, Nat.le_refl _⟩ hl hr hs⟩) (fun v13 h => ?_)
        refine m_iload C (dOf DX4_putData 37 rfl) 0 rfl ?_
        refine m_isub C (dOf DX4_putData 38 rfl) h (fun v14 h => ?_)
        refine m_istore C (dOf DX4_putData 39 rfl) (by decide) (lv' := [(7, .int v14), (6, .int v11), (5, .int v9), (4, .ref (G.1 + a7)), (3, .int v4), (0, .ref (G.1 + b0)), (1, .int p1), (2, .int p2)]) rfl ?_
        refine m_iload C (dOf DX4_putData 40 rfl) 0 rfl ?_
        refine m_iconst C (dOf DX4_putData 41 rfl) (v := 1) ki_1 ?_
        refine m_icmpge C (dOf DX4_putData 42 rfl) (tgt := 85) rfl h (fun h => ?_) (fun h => ?_)
        · refine m_aload C (dOf DX4_putData 45 rfl) 3 rfl ?_
          refine m_gR C (dOf DX4_putData 46 rfl) kf_X4_165 fg_3_0 h (fun a15 h => ?_)
          refine m_aload C (dOf DX4_putData 47 rfl) 3 rfl ?_
          refine m_gR C (dOf DX4_putData 48 rfl) kf_X4_168 fg_3_5 h (fun a16 h => ?_)
          refine m_iload C (dOf DX4_putData 49 rfl) 2 rfl ?_
          refine m_cP (st := [.ref (G.1 + a15)]) h (fun o' ho H locs ls hl hr hs => ⟨_, m_runSN C (dOf DX4_putData 50 rfl) kn_X4_102 ks_X8_at (by decide) ⟨rfl, rfl⟩ (c_X8_at _ G _ _ _ o' ho) rfl rfl (Nat.le_of_ble_eq_true rfl) ⟨Nat.le_refl _, Nat.le_refl _⟩ hl hr hs⟩) (fun v17 h => ?_)
          refine m_iconst C (dOf DX4_putData 51 rfl) (v := 1) ki_1 ?_
          refine m_iadd C (dOf DX4_putData 52 rfl) h (fun v18 h => ?_)
          refine m_iload C (dOf DX4_putData 53 rfl) 1 rfl ?_
          refine m_iadd C (dOf DX4_putData 54 rfl) h (fun v19 h => ?_)
          refine m_iload_n C (dOf DX4_putData 55 rfl) rfl 7 rfl ?_
          refine m_cV (st := []) h (fun o' ho H locs ls hl hr hs => ⟨_, m_runSN C (dOf DX4_putData 56 rfl) kn_X4_53 ks_X8_set (by decide) ⟨rfl, rfl⟩ (c_X8_set _ G _ _ _ _ o' ho) rfl rfl (Nat.le_of_ble_eq_true rfl) ⟨Nat.le_refl _, Nat.le_refl _⟩ hl hr hs⟩) (fun S20 h => ?_)
          refine m_aload_n C (dOf DX4_putData 57 rfl) rfl 5 rfl ?_
          refine m_gR C (dOf DX4_putData 58 rfl) kf_X4_24 fg_4_3 h (fun a21 h => ?_)
          refine m_iload_n C (dOf DX4_putData 59 rfl) rfl 4 rfl ?_
          refine m_iload C (dOf DX4_putData 60 rfl) 1 rfl ?_
          refine m_iconst C (dOf DX4_putData 61 rfl) (v := 1) ki_1 ?_
          refine m_iadd C (dOf DX4_putData 62 rfl) h (fun v22 h => ?_)
          refine m_cV (st := []) h (fun o' ho H locs ls hl hr hs => ⟨_, m_runSN C (dOf DX4_putData 63 rfl) kn_X4_53 ks_X8_set (by decide) ⟨rfl, rfl⟩ (c_X8_set _ G _ _ _ _ o' ho) rfl rfl (Nat.le_of_ble_eq_true rfl) ⟨Nat.le_refl _, Nat.le_refl _⟩ hl hr hs⟩) (fun S23 h => ?_)
          refine m_iload C (dOf DX4_putData 64 rfl) 0 rfl ?_
          refine m_iconst C (dOf DX4_putData 65 rfl) (v := 1) ki_1 ?_
          refine m_isub C (dOf DX4_putData 66 rfl) h (fun v24 h => ?_)
          exact m_iret C rfl (dOf DX4_putData 67 rfl) h
        · refine m_iconst C (dOf DX4_putData 43 rfl) (v := (-1)) ki_m1 ?_
          exact m_iret C rfl (dOf DX4_putData 44 rfl) h
      · exact m_sub [] rfl (hj1 _ h)
/-- TraceRing$Ring.closeInnermost()V -/
def f_X4_closeInnermost (S : St) (b0 : Nat) : Option St :=
  gI_ S b0 4 15 fun v1 =>
  lt_ (v1 - 1 : Int32) fun v2 =>
  pI_ S b0 4 15 v2 fun S3 =>
  gI_ S3 b0 4 15 fun v4 =>
  jn_ (fun (x5 : St) =>
    rt_ x5
  ) fun j5 =>
  if v4 = 0 then
    lp_ (fun self6 (x6 : Int32 × St) =>
      gI_ x6.2 b0 4 13 fun v7 =>
      if v7 ≤ x6.1 then
        j5 (x6.2)
      else
        ck_ x6.2 b0 4 <| cP_ (f_X4_placeOf x6.2 b0 x6.1) fun v8 =>
        ck_ x6.2 b0 4 <| cP_ (f_X4_pageAt x6.2 b0 v8) fun a9 =>
        gI_ x6.2 a9 3 9 fun v10 =>
        pI_ x6.2 a9 3 10 v10 fun S11 =>
        lt_ (x6.1 + 1) fun v12 =>
        self6 (v12, S11)
    ) FU (0, S3)
  else
    j5 (S3)
set_option maxRecDepth 100000 in
set_option maxHeartbeats 4000000 in
theorem c_X4_closeInnermost (l : Launch) (G : Gx) (S : St) (b0 : Nat) (o : St) (h : f_X4_closeInnermost S b0 = some o) : Met l yX4_closeInnermost (Cond.code yX4_closeInnermost cX4_closeInnermost 3 none :: wAll) ({ frames := 1, cells := 0, slots := 0, locals := 22 } : Room) (va_Pc [.ref (G.1 + b0)] (wPre G S)) (qV G o) 0 0 (wA G) := by
  refine m_start (by decide +kernel) (Nat.le_of_ble_eq_true rfl) (fun X C => ?_)
  unfold f_X4_closeInnermost at h
  show WM X G 3 0 0 (wQ X G (qV G o) 0 0) 0 [(0, .ref (G.1 + b0))] [] S
  refine m_aload_n C (dOf DX4_closeInnermost 0 rfl) rfl 0 rfl ?_
  refine m_dup C (dOf DX4_closeInnermost 1 rfl) rfl ?_
  refine m_gI C (dOf DX4_closeInnermost 2 rfl) kf_X4_84 fg_4_15 h (fun v1 h => ?_)
  refine m_iconst C (dOf DX4_closeInnermost 3 rfl) (v := 1) ki_1 ?_
  refine m_isub C (dOf DX4_closeInnermost 4 rfl) h (fun v2 h => ?_)
  refine m_pI C (dOf DX4_closeInnermost 5 rfl) kf_X4_84 fp_4_15 h (fun S3 h => ?_)
  refine m_aload_n C (dOf DX4_closeInnermost 6 rfl) rfl 0 rfl ?_
  refine m_gI C (dOf DX4_closeInnermost 7 rfl) kf_X4_84 fg_4_15 h (fun v4 h => ?_)
  refine m_jn (J := fun (x5 : St) => WM X G 3 0 0 (wQ X G (qV G o) 0 0) 51 [] [] x5) h (fun x5 h => ?_) (fun j5 hj5 h => ?_)
  · exact m_vret C rfl (dOf DX4_closeInnermost 27 rfl) h
  refine m_ifne C (dOf DX4_closeInnermost 8 rfl) (tgt := 51) rfl h (fun h => ?_) (fun h => ?_)
  · exact m_sub [] rfl (hj5 _ h)
  · refine m_iconst C (dOf DX4_closeInnermost 9 rfl) (v := 0) ki_0 ?_
    refine m_istore_n C (dOf DX4_closeInnermost 10 rfl) rfl (by decide) (lv' := [(1, .int 0), (0, .ref (G.1 + b0))]) rfl ?_
    refine m_sub [1, 0] rfl (m_lp (J := fun (x6 : Int32 × St) => WM X G 3 0 0 (wQ X G (qV G o) 0 0) 19 [(0, .ref (G.1 + b0)), (1, .int x6.1)] [] x6.2) h (fun self6 hself6 x6 h => ?_))
    refine m_iload_n C (dOf DX4_closeInnermost 11 rfl) rfl 1 rfl ?_
    refine m_aload_n C (dOf DX4_closeInnermost 12 rfl) rfl 0 rfl ?_
    refine m_gI C (dOf DX4_closeInnermost 13 rfl) kf_X4_78 fg_4_13 h (fun v7 h => ?_)
    refine m_icmpge C (dOf DX4_closeInnermost 14 rfl) (tgt := 51) rfl h (fun h => ?_) (fun h => ?_)
    · exact m_sub [] rfl (hj5 _ h)
    · refine m_aload_n C (dOf DX4_closeInnermost 15 rfl) rfl 0 rfl ?_
      refine m_aload_n C (dOf DX4_closeInnermost 16 rfl) rfl 0 rfl ?_
      refine m_iload_n C (dOf DX4_closeInnermost 17 rfl) rfl 1 rfl ?_
      obtain ⟨hc, h⟩ := ck_spec h
      refine m_cP (st := [.ref (G.1 + b0)]) h (fun o' ho H locs ls hl hr hs => ⟨_, m_runV C (dOf DX4_closeInnermost 18 rfl) km_X4_98 ky_X4_placeOf (by decide) ⟨rfl, rfl⟩ (c_X4_placeOf _ G _ _ _ o' ho) hc.1 hc.2 (by decide) rfl rfl rfl (Nat.le_of_ble_eq_true rfl) ⟨Nat.le_refl _, Nat.le_refl _⟩ hl hr hs⟩) (fun v8 h => ?_)
      obtain ⟨hc, h⟩ := ck_spec h
      refine m_cN (st := []) h (fun o' ho H locs ls hl hr hs => ⟨_, m_runV C (dOf DX4_closeInnermost 19 rfl) km_X4_46 ky_X4_pageAt (by decide) ⟨rfl, rfl⟩ (c_X4_pageAt _ G _ _ _ o' ho) hc.1 hc.2 (by decide) rfl rfl rfl (Nat.le_of_ble_eq_true rfl) ⟨Nat.le_refl _, Nat.le_refl _⟩ hl hr hs⟩) (fun a9 h => ?_)
      refine m_astore_n C (dOf DX4_closeInnermost 20 rfl) rfl (by decide) (lv' := [(2, .ref (G.1 + a9)), (0, .ref (G.1 + b0)), (1, .int x6.1)]) rfl ?_
      refine m_aload_n C (dOf DX4_closeInnermost 21 rfl) rfl 0 rfl ?_
      refine m_aload_n C (dOf DX4_closeInnermost 22 rfl) rfl 0 rfl ?_
      refine m_gI C (dOf DX4_closeInnermost 23 rfl) kf_X4_126 fg_3_9 h (fun v10 h => ?_)
      refine m_pI C (dOf DX4_closeInnermost 24 rfl) kf_X4_190 fp_3_10 h (fun S11 h => ?_)
      refine m_iinc C (dOf DX4_closeInnermost 25 rfl) (w := 1) ki_1 2 rfl (by decide) h (fun v12 h => ⟨[(1, .int v12), (2, .ref (G.1 + a9)), (0, .ref (G.1 + b0))], rfl, ?_⟩)
      refine m_goto C (dOf DX4_closeInnermost 26 rfl) (tgt := 19) rfl ?_
      exact m_sub [2, 0] rfl (hself6 _ h)
/-- TraceRing$Ring.endInnermost(I)I -/
def f_X4_endInnermost (S : St) (b0 : Nat) (p1 : Int32) : Option (Int32 × St) :=
  ck_ S b0 4 <| cP_ (f_X4_isInnermost S b0 p1) fun v1 =>
  if v1 = 0 then
    rt_ ((-1), S)
  else
    gI_ S b0 4 15 fun v2 =>
    lt_ (v2 - 1 : Int32) fun v3 =>
    gR_ S b0 4 1 fun a4 =>
    cP_ (f_X8_at S a4 v3) fun v5 =>
    ck_ S b0 4 <| cP_ (f_X4_pageAt S b0 v5) fun a6 =>
    gR_ S b0 4 2 fun a7 =>
    cP_ (f_X8_at S a7 v3) fun v8 =>
    gI_ S b0 4 11 fun v9 =>
    gR_ S a6 3 3 fun a10 =>
    cP_ (f_X8_at S a10 v8) fun v11 =>
    lt_ (v9 - v11 : Int32) fun v12 =>
    gR_ S b0 4 4 fun a13 =>
    cP_ (f_X8_at S a13 17) fun v14 =>
    jn_ (fun (x15 : St) =>
      ck_ x15 b0 4 <| cV_ (f_X4_closeInnermost x15 b0) fun S16 =>
      gI_ S16 b0 4 15 fun v17 =>
      rt_ (v17, S16)
    ) fun j15 =>
    jn_ (fun (x18 : Unit) =>
      gR_ S b0 4 4 fun a19 =>
      cV_ (f_X8_set S a19 16 v12) fun S20 =>
      gR_ S20 b0 4 4 fun a21 =>
      gR_ S20 a6 3 1 fun a22 =>
      cP_ (f_X8_at S20 a22 v8) fun v23 =>
      cV_ (f_X8_set S20 a21 17 v23) fun S24 =>
      j15 (S24)
    ) fun j18 =>
    if v14 = (-1) then
      j18 ()
    else
      gR_ S b0 4 4 fun a25 =>
      cP_ (f_X8_at S a25 16) fun v26 =>
      if v12 ≤ v26 then
        j15 (S)
      else
        j18 ()
set_option maxRecDepth 100000 in
set_option maxHeartbeats 4000000 in
theorem c_X4_endInnermost (l : Launch) (G : Gx) (S : St) (b0 : Nat) (p1 : Int32) (o : (Int32 × St)) (h : f_X4_endInnermost S b0 p1 = some o) : Met l yX4_endInnermost (Cond.code yX4_endInnermost cX4_endInnermost 6 (some (.int)) :: wAll) ({ frames := 3, cells := 0, slots := 0, locals := 63 } : Room) (va_Pc [.ref (G.1 + b0), .int p1] (wPre G S)) (qI G o) 0 0 (wA G) := by
  refine m_start (by decide +kernel) (Nat.le_of_ble_eq_true rfl) (fun X C => ?_)
  unfold f_X4_endInnermost at h
  show WM X G 6 0 0 (wQ X G (qI G o) 0 0) 0 [(0, .ref (G.1 + b0)), (1, .int p1)] [] S
  refine m_aload_n C (dOf DX4_endInnermost 0 rfl) rfl 0 rfl ?_
  refine m_iload_n C (dOf DX4_endInnermost 1 rfl) rfl 1 rfl ?_
  obtain ⟨hc, h⟩ := ck_spec h
  refine m_cP (st := []) h (fun o' ho H locs ls hl hr hs => ⟨_, m_runV C (dOf DX4_endInnermost 2 rfl) km_X4_159 ky_X4_isInnermost (by decide) ⟨rfl, rfl⟩ (c_X4_isInnermost _ G _ _ _ o' ho) hc.1 hc.2 (by decide) rfl rfl rfl (Nat.le_of_ble_eq_true rfl) ⟨Nat.le_refl _, Nat.le_refl _⟩ hl hr hs⟩) (fun v1 h => ?_)
  refine m_ifne C (dOf DX4_endInnermost 3 rfl) (tgt := 10) rfl h (fun h => ?_) (fun h => ?_)
  · refine m_aload_n C (dOf DX4_endInnermost 6 rfl) rfl 0 rfl ?_
    refine m_gI C (dOf DX4_endInnermost 7 rfl) kf_X4_84 fg_4_15 h (fun v2 h => ?_)
    refine m_iconst C (dOf DX4_endInnermost 8 rfl) (v := 1) ki_1 ?_
    refine m_isub C (dOf DX4_endInnermost 9 rfl) h (fun v3 h => ?_)
    refine m_istore_n C (dOf DX4_endInnermost 10 rfl) rfl (by decide) (lv' := [(2, .int v3), (0, .ref (G.1 + b0)), (1, .int p1)]) rfl ?_
    refine m_aload_n C (dOf DX4_endInnermost 11 rfl) rfl 1 rfl ?_
    refine m_aload_n C (dOf DX4_endInnermost 12 rfl) rfl 1 rfl ?_
    refine m_gR C (dOf DX4_endInnermost 13 rfl) kf_X4_17 fg_4_1 h (fun a4 h => ?_)
    refine m_iload_n C (dOf DX4_endInnermost 14 rfl) rfl 0 rfl ?_
    refine m_cP (st := [.ref (G.1 + b0)]) h (fun o' ho H locs ls hl hr hs => ⟨_, m_runSN C (dOf DX4_endInnermost 15 rfl) kn_X4_102 ks_X8_at (by decide) ⟨rfl, rfl⟩ (c_X8_at _ G _ _ _ o' ho) rfl rfl (Nat.le_of_ble_eq_true rfl) ⟨Nat.le_refl _, Nat.le_refl _⟩ hl hr hs⟩) (fun v5 h => ?_)
    obtain ⟨hc, h⟩ := ck_spec h
    refine m_cN (st := []) h (fun o' ho H locs ls hl hr hs => ⟨_, m_runV C (dOf DX4_endInnermost 16 rfl) km_X4_46 ky_X4_pageAt (by decide) ⟨rfl, rfl⟩ (c_X4_pageAt _ G _ _ _ o' ho) hc.1 hc.2 (by decide) rfl rfl rfl (Nat.le_of_ble_eq_true rfl) ⟨Nat.le_refl _, Nat.le_refl _⟩ hl hr hs⟩) (fun a6 h => ?_)
    refine m_astore_n C (dOf DX4_endInnermost 17 rfl) rfl (by decide) (lv' := [(3, .ref (G.1 + a6)), (2, .int v3), (0, .ref (G.1 + b0)), (1, .int p1)]) rfl ?_
    refine m_aload_n C (dOf DX4_endInnermost 18 rfl) rfl 2 rfl ?_
    refine m_gR C (dOf DX4_endInnermost 19 rfl) kf_X4_21 fg_4_2 h (fun a7 h => ?_)
    refine m_iload_n C (dOf DX4_endInnermost 20 rfl) rfl 1 rfl ?_
    refine m_cP (st := []) h (fun o' ho H locs ls hl hr hs => ⟨_, m_runSN C (dOf DX4_endInnermost 21 rfl) kn_X4_102 ks_X8_at (by decide) ⟨rfl, rfl⟩ (c_X8_at _ G _ _ _ o' ho) rfl rfl (Nat.le_of_ble_eq_true rfl) ⟨Nat.le_refl _, Nat.le_refl _⟩ hl hr hs⟩) (fun v8 h => ?_)
    refine m_istore C (dOf DX4_endInnermost 22 rfl) (by decide) (lv' := [(4, .int v8), (3, .ref (G.1 + a6)), (2, .int v3), (0, .ref (G.1 + b0)), (1, .int p1)]) rfl ?_
    refine m_aload_n C (dOf DX4_endInnermost 23 rfl) rfl 3 rfl ?_
    refine m_gI C (dOf DX4_endInnermost 24 rfl) kf_X4_72 fg_4_11 h (fun v9 h => ?_)
    refine m_aload_n C (dOf DX4_endInnermost 25 rfl) rfl 1 rfl ?_
    refine m_gR C (dOf DX4_endInnermost 26 rfl) kf_X4_171 fg_3_3 h (fun a10 h => ?_)
    refine m_iload C (dOf DX4_endInnermost 27 rfl) 0 rfl ?_
    refine m_cP (st := [.int v9]) h (fun o' ho H locs ls hl hr hs => ⟨_, m_runSN C (dOf DX4_endInnermost 28 rfl) kn_X4_102 ks_X8_at (by decide) ⟨rfl, rfl⟩ (c_X8_at _ G _ _ _ o' ho) rfl rfl (Nat.le_of_ble_eq_true rfl) ⟨Nat.le_refl _, Nat.le_refl _⟩ hl hr hs⟩) (fun v11 h => ?_)
    refine m_isub C (dOf DX4_endInnermost 29 rfl) h (fun v12 h => ?_)
    refine m_istore C (dOf DX4_endInnermost 30 rfl) (by decide) (lv' := [(5, .int v12), (4, .int v8), (3, .ref (G.1 + a6)), (2, .int v3), (0, .ref (G.1 + b0)), (1, .int p1)]) rfl ?_
    refine m_aload_n C (dOf DX4_endInnermost 31 rfl) rfl 4 rfl ?_
    refine m_gR C (dOf DX4_endInnermost 32 rfl) kf_X4_27 fg_4_4 h (fun a13 h => ?_)
    refine m_bipush C (dOf DX4_endInnermost 33 rfl) (v := 17) kb_17 ?_
    refine m_cP (st := []) h (fun o' ho H locs ls hl hr hs => ⟨_, m_runSN C (dOf DX4_endInnermost 34 rfl) kn_X4_102 ks_X8_at (by decide) ⟨rfl, rfl⟩ (c_X8_at _ G _ _ _ o' ho) rfl rfl (Nat.le_of_ble_eq_true rfl) ⟨Nat.le_refl _, Nat.le_refl _⟩ hl hr hs⟩) (fun v14 h => ?_)
    refine m_iconst C (dOf DX4_endInnermost 35 rfl) (v := (-1)) ki_m1 ?_
    refine m_jn (J := fun (x15 : St) => WM X G 6 0 0 (wQ X G (qI G o) 0 0) 112 [(0, .ref (G.1 + b0))] [] x15) h (fun x15 h => ?_) (fun j15 hj15 h => ?_)
    · refine m_aload_n C (dOf DX4_endInnermost 56 rfl) rfl 0 rfl ?_
      obtain ⟨hc, h⟩ := ck_spec h
      refine m_cV (st := []) h (fun o' ho H locs ls hl hr hs => ⟨_, m_runV C (dOf DX4_endInnermost 57 rfl) km_X4_177 ky_X4_closeInnermost (by decide) ⟨rfl, rfl⟩ (c_X4_closeInnermost _ G _ _ o' ho) hc.1 hc.2 (by decide) rfl rfl rfl (Nat.le_of_ble_eq_true rfl) ⟨Nat.le_refl _, Nat.le_refl _⟩ hl hr hs⟩) (fun S16 h => ?_)
      refine m_aload_n C (dOf DX4_endInnermost 58 rfl) rfl 0 rfl ?_
      refine m_gI C (dOf DX4_endInnermost 59 rfl) kf_X4_84 fg_4_15 h (fun v17 h => ?_)
      exact m_iret C rfl (dOf DX4_endInnermost 60 rfl) h
    refine m_jn (J := fun (x18 : Unit) => WM X G 6 0 0 (wQ X G (qI G o) 0 0) 83 [(0, .ref (G.1 + b0)), (3, .ref (G.1 + a6)), (4, .int v8), (5, .int v12)] [] S) h (fun x18 h => ?_) (fun j18 hj18 h => ?_)
    · refine m_aload_n C (dOf DX4_endInnermost 43 rfl) rfl 0 rfl ?_
      refine m_gR C (dOf DX4_endInnermost 44 rfl) kf_X4_27 fg_4_4 h (fun a19 h => ?_)
      refine m_bipush C (dOf DX4_endInnermost 45 rfl) (v := 16) kb_16 ?_
      refine m_iload C (dOf DX4_endInnermost 46 rfl) 3 rfl ?_
      refine m_cV (st := []) h (fun o' ho H locs ls hl hr hs => ⟨_, m_runSN C (dOf DX4_endInnermost 47 rfl) kn_X4_53 ks_X8_set (by decide) ⟨rfl, rfl⟩ (c_X8_set _ G _ _ _ _ o' ho) rfl rfl (Nat.le_of_ble_eq_true rfl) ⟨Nat.le_refl _, Nat.le_refl _⟩ hl hr hs⟩) (fun S20 h => ?_)
      refine m_aload_n C (dOf DX4_endInnermost 48 rfl) rfl 0 rfl ?_
      refine m_gR C (dOf DX4_endInnermost 49 rfl) kf_X4_27 fg_4_4 h (fun a21 h => ?_)
      refine m_bipush C (dOf DX4_endInnermost 50 rfl) (v := 17) kb_17 ?_
      refine m_aload_n C (dOf DX4_endInnermost 51 rfl) rfl 1 rfl ?_
      refine m_gR C (dOf DX4_endInnermost 52 rfl) kf_X4_174 fg_3_1 h (fun a22 h => ?_)
      refine m_iload C (dOf DX4_endInnermost 53 rfl) 2 rfl ?_
      refine m_cP (st := [.int 17, .ref (G.1 + a21)]) h (fun o' ho H locs ls hl hr hs => ⟨_, m_runSN C (dOf DX4_endInnermost 54 rfl) kn_X4_102 ks_X8_at (by decide) ⟨rfl, rfl⟩ (c_X8_at _ G _ _ _ o' ho) rfl rfl (Nat.le_of_ble_eq_true rfl) ⟨Nat.le_refl _, Nat.le_refl _⟩ hl hr hs⟩) (fun v23 h => ?_)
      refine m_cV (st := []) h (fun o' ho H locs ls hl hr hs => ⟨_, m_runSN C (dOf DX4_endInnermost 55 rfl) kn_X4_53 ks_X8_set (by decide) ⟨rfl, rfl⟩ (c_X8_set _ G _ _ _ _ o' ho) rfl rfl (Nat.le_of_ble_eq_true rfl) ⟨Nat.le_refl _, Nat.le_refl _⟩ hl hr hs⟩) (fun S24 h => ?_)
      exact m_sub [0] rfl (hj15 _ h)
    refine m_icmpeq C (dOf DX4_endInnermost 36 rfl) (tgt := 83) rfl h (fun h => ?_) (fun h => ?_)
    · exact m_sub [4, 2, 1, 0] rfl (hj18 _ h)
    · refine m_iload C (dOf DX4_endInnermost 37 rfl) 0 rfl ?_
      refine m_aload_n C (dOf DX4_endInnermost 38 rfl) rfl 4 rfl ?_
      refine m_gR C (dOf DX4_endInnermost 39 rfl) kf_X4_27 fg_4_4 h (fun a25 h => ?_)
      refine m_bipush C (dOf DX4_endInnermost 40 rfl) (v := 16) kb_16 ?_
      refine m_cP (st := [.int v12]) h (fun o' ho H locs ls hl hr hs => ⟨_, m_runSN C (dOf DX4_endInnermost 41 rfl) kn_X4_102 ks_X8_at (by decide) ⟨rfl, rfl⟩ (c_X8_at _ G _ _ _ o' ho) rfl rfl (Nat.le_of_ble_eq_true rfl) ⟨Nat.le_refl _, Nat.le_refl _⟩ hl hr hs⟩) (fun v26 h => ?_)
      refine m_icmple C (dOf DX4_endInnermost 42 rfl) (tgt := 112) rfl h (fun h => ?_) (fun h => ?_)
      · exact m_sub [4] rfl (hj15 _ h)
      · exact m_sub [4, 2, 1, 0] rfl (hj18 _ h)
  · refine m_iconst C (dOf DX4_endInnermost 4 rfl) (v := (-1)) ki_m1 ?_
    exact m_iret C rfl (dOf DX4_endInnermost 5 rfl) h
/-- TraceRing$Page.takeBack()V -/
def f_X3_takeBack (S : St) (b0 : Nat) : Option St :=
  gI_ S b0 3 8 fun v1 =>
  jn_ (fun (x2 : St) =>
    rt_ x2
  ) fun j2 =>
  if v1 ≤ 0 then
    j2 (S)
  else
    gI_ S b0 3 8 fun v3 =>
    lt_ (v3 - 1 : Int32) fun v4 =>
    pI_ S b0 3 8 v4 fun S5 =>
    gR_ S5 b0 3 4 fun a6 =>
    gI_ S5 b0 3 8 fun v7 =>
    cP_ (f_X8_at S5 a6 v7) fun v8 =>
    lp_ (fun self9 (x9 : Int32 × St) =>
      gI_ x9.2 b0 3 9 fun v10 =>
      if v10 ≤ x9.1 then
        pI_ x9.2 b0 3 9 v8 fun S11 =>
        j2 (S11)
      else
        gR_ x9.2 b0 3 0 fun a12 =>
        cV_ (f_X8_set x9.2 a12 x9.1 0) fun S13 =>
        lt_ (x9.1 + 1) fun v14 =>
        self9 (v14, S13)
    ) FU (v8, S5)
set_option maxRecDepth 100000 in
set_option maxHeartbeats 4000000 in
theorem c_X3_takeBack (l : Launch) (G : Gx) (S : St) (b0 : Nat) (o : St) (h : f_X3_takeBack S b0 = some o) : Met l yX3_takeBack (Cond.code yX3_takeBack cX3_takeBack 3 none :: wAll) ({ frames := 1, cells := 0, slots := 0, locals := 22 } : Room) (va_Pc [.ref (G.1 + b0)] (wPre G S)) (qV G o) 0 0 (wA G) := by
  refine m_start (by decide +kernel) (Nat.le_of_ble_eq_true rfl) (fun X C => ?_)
  unfold f_X3_takeBack at h
  show WM X G 3 0 0 (wQ X G (qV G o) 0 0) 0 [(0, .ref (G.1 + b0))] [] S
  refine m_aload_n C (dOf DX3_takeBack 0 rfl) rfl 0 rfl ?_
  refine m_gI C (dOf DX3_takeBack 1 rfl) kf_X3_37 fg_3_8 h (fun v1 h => ?_)
  refine m_jn (J := fun (x2 : St) => WM X G 3 0 0 (wQ X G (qV G o) 0 0) 59 [] [] x2) h (fun x2 h => ?_) (fun j2 hj2 h => ?_)
  · exact m_vret C rfl (dOf DX3_takeBack 31 rfl) h
  refine m_ifle C (dOf DX3_takeBack 2 rfl) (tgt := 59) rfl h (fun h => ?_) (fun h => ?_)
  · exact m_sub [] rfl (hj2 _ h)
  · refine m_aload_n C (dOf DX3_takeBack 3 rfl) rfl 0 rfl ?_
    refine m_dup C (dOf DX3_takeBack 4 rfl) rfl ?_
    refine m_gI C (dOf DX3_takeBack 5 rfl) kf_X3_37 fg_3_8 h (fun v3 h => ?_)
    refine m_iconst C (dOf DX3_takeBack 6 rfl) (v := 1) ki_1 ?_
    refine m_isub C (dOf DX3_takeBack 7 rfl) h (fun v4 h => ?_)
    refine m_pI C (dOf DX3_takeBack 8 rfl) kf_X3_37 fp_3_8 h (fun S5 h => ?_)
    refine m_aload_n C (dOf DX3_takeBack 9 rfl) rfl 0 rfl ?_
    refine m_gR C (dOf DX3_takeBack 10 rfl) kf_X3_24 fg_3_4 h (fun a6 h => ?_)
    refine m_aload_n C (dOf DX3_takeBack 11 rfl) rfl 0 rfl ?_
    refine m_gI C (dOf DX3_takeBack 12 rfl) kf_X3_37 fg_3_8 h (fun v7 h => ?_)
    refine m_cP (st := []) h (fun o' ho H locs ls hl hr hs => ⟨_, m_runSN C (dOf DX3_takeBack 13 rfl) kn_X3_59 ks_X8_at (by decide) ⟨rfl, rfl⟩ (c_X8_at _ G _ _ _ o' ho) rfl rfl (Nat.le_of_ble_eq_true rfl) ⟨Nat.le_refl _, Nat.le_refl _⟩ hl hr hs⟩) (fun v8 h => ?_)
    refine m_istore_n C (dOf DX3_takeBack 14 rfl) rfl (by decide) (lv' := [(1, .int v8), (0, .ref (G.1 + b0))]) rfl ?_
    refine m_iload_n C (dOf DX3_takeBack 15 rfl) rfl 0 rfl ?_
    refine m_istore_n C (dOf DX3_takeBack 16 rfl) rfl (by decide) (lv' := [(2, .int v8), (1, .int v8), (0, .ref (G.1 + b0))]) rfl ?_
    refine m_sub [2, 1, 0] rfl (m_lp (J := fun (x9 : Int32 × St) => WM X G 3 0 0 (wQ X G (qV G o) 0 0) 31 [(0, .ref (G.1 + b0)), (1, .int v8), (2, .int x9.1)] [] x9.2) h (fun self9 hself9 x9 h => ?_))
    refine m_iload_n C (dOf DX3_takeBack 17 rfl) rfl 2 rfl ?_
    refine m_aload_n C (dOf DX3_takeBack 18 rfl) rfl 0 rfl ?_
    refine m_gI C (dOf DX3_takeBack 19 rfl) kf_X3_41 fg_3_9 h (fun v10 h => ?_)
    refine m_icmpge C (dOf DX3_takeBack 20 rfl) (tgt := 54) rfl h (fun h => ?_) (fun h => ?_)
    · refine m_aload_n C (dOf DX3_takeBack 28 rfl) rfl 0 rfl ?_
      refine m_iload_n C (dOf DX3_takeBack 29 rfl) rfl 1 rfl ?_
      refine m_pI C (dOf DX3_takeBack 30 rfl) kf_X3_41 fp_3_9 h (fun S11 h => ?_)
      exact m_sub [] rfl (hj2 _ h)
    · refine m_aload_n C (dOf DX3_takeBack 21 rfl) rfl 0 rfl ?_
      refine m_gR C (dOf DX3_takeBack 22 rfl) kf_X3_9 fg_3_0 h (fun a12 h => ?_)
      refine m_iload_n C (dOf DX3_takeBack 23 rfl) rfl 2 rfl ?_
      refine m_iconst C (dOf DX3_takeBack 24 rfl) (v := 0) ki_0 ?_
      refine m_cV (st := []) h (fun o' ho H locs ls hl hr hs => ⟨_, m_runSN C (dOf DX3_takeBack 25 rfl) kn_X3_55 ks_X8_set (by decide) ⟨rfl, rfl⟩ (c_X8_set _ G _ _ _ _ o' ho) rfl rfl (Nat.le_of_ble_eq_true rfl) ⟨Nat.le_refl _, Nat.le_refl _⟩ hl hr hs⟩) (fun S13 h => ?_)
      refine m_iinc C (dOf DX3_takeBack 26 rfl) (w := 1) ki_1 2 rfl (by decide) h (fun v14 h => ⟨[(2, .int v14), (0, .ref (G.1 + b0)), (1, .int v8)], rfl, ?_⟩)
      refine m_goto C (dOf DX3_takeBack 27 rfl) (tgt := 31) rfl ?_
      exact m_sub [1, 2, 0] rfl (hself9 _ h)
/-- TraceRing$Page.leaveGap(I)V -/
def f_X3_leaveGap (S : St) (b0 : Nat) (p1 : Int32) : Option St :=
  gR_ S b0 3 5 fun a1 =>
  cP_ (f_X8_at S a1 p1) fun v2 =>
  gR_ S b0 3 6 fun a3 =>
  cP_ (f_X8_at S a3 p1) fun v4 =>
  gR_ S b0 3 0 fun a5 =>
  gR_ S b0 3 0 fun a6 =>
  cP_ (f_X8_at S a6 v2) fun v7 =>
  rm_ v7 16 fun v8 =>
  lt_ (224 + v8 : Int32) fun v9 =>
  cV_ (f_X8_set S a5 v2 v9) fun S10 =>
  gR_ S10 b0 3 0 fun a11 =>
  lt_ (v2 + 1 : Int32) fun v12 =>
  cV_ (f_X8_set S10 a11 v12 v4) fun S13 =>
  lp_ (fun self14 (x14 : Int32 × St) =>
    if v4 ≤ x14.1 then
      jn_ (fun (x15 : St) =>
        rt_ x15
      ) fun j15 =>
      if p1 < 0 then
        j15 (x14.2)
      else
        gR_ x14.2 b0 3 7 fun a16 =>
        al_ x14.2 a16 13 fun v17 =>
        if v17 ≤ p1 then
          j15 (x14.2)
        else
          gR_ x14.2 b0 3 7 fun a18 =>
          sZ_ x14.2 a18 p1 1 fun S19 =>
          j15 (S19)
    else
      gR_ x14.2 b0 3 0 fun a20 =>
      lt_ (v2 + 1 : Int32) fun v21 =>
      lt_ (v21 + x14.1 : Int32) fun v22 =>
      cV_ (f_X8_set x14.2 a20 v22 0) fun S23 =>
      lt_ (x14.1 + 1) fun v24 =>
      self14 (v24, S23)
  ) FU (1, S13)
set_option maxRecDepth 100000 in
set_option maxHeartbeats 4000000 in
theorem c_X3_leaveGap (l : Launch) (G : Gx) (S : St) (b0 : Nat) (p1 : Int32) (o : St) (h : f_X3_leaveGap S b0 p1 = some o) : Met l yX3_leaveGap (Cond.code yX3_leaveGap cX3_leaveGap 5 none :: wAll) ({ frames := 1, cells := 0, slots := 0, locals := 22 } : Room) (va_Pc [.ref (G.1 + b0), .int p1] (wPre G S)) (qV G o) 0 0 (wA G) := by
  refine m_start (by decide +kernel) (Nat.le_of_ble_eq_true rfl) (fun X C => ?_)
  unfold f_X3_leaveGap at h
  show WM X G 5 0 0 (wQ X G (qV G o) 0 0) 0 [(0, .ref (G.1 + b0)), (1, .int p1)] [] S
  refine m_aload_n C (dOf DX3_leaveGap 0 rfl) rfl 0 rfl ?_
  refine m_gR C (dOf DX3_leaveGap 1 rfl) kf_X3_27 fg_3_5 h (fun a1 h => ?_)
  refine m_iload_n C (dOf DX3_leaveGap 2 rfl) rfl 1 rfl ?_
  refine m_cP (st := []) h (fun o' ho H locs ls hl hr hs => ⟨_, m_runSN C (dOf DX3_leaveGap 3 rfl) kn_X3_59 ks_X8_at (by decide) ⟨rfl, rfl⟩ (c_X8_at _ G _ _ _ o' ho) rfl rfl (Nat.le_of_ble_eq_true rfl) ⟨Nat.le_refl _, Nat.le_refl _⟩ hl hr hs⟩) (fun v2 h => ?_)
  refine m_istore_n C (dOf DX3_leaveGap 4 rfl) rfl (by decide) (lv' := [(2, .int v2), (0, .ref (G.1 + b0)), (1, .int p1)]) rfl ?_
  refine m_aload_n C (dOf DX3_leaveGap 5 rfl) rfl 1 rfl ?_
  refine m_gR C (dOf DX3_leaveGap 6 rfl) kf_X3_30 fg_3_6 h (fun a3 h => ?_)
  refine m_iload_n C (dOf DX3_leaveGap 7 rfl) rfl 2 rfl ?_
  refine m_cP (st := []) h (fun o' ho H locs ls hl hr hs => ⟨_, m_runSN C (dOf DX3_leaveGap 8 rfl) kn_X3_59 ks_X8_at (by decide) ⟨rfl, rfl⟩ (c_X8_at _ G _ _ _ o' ho) rfl rfl (Nat.le_of_ble_eq_true rfl) ⟨Nat.le_refl _, Nat.le_refl _⟩ hl hr hs⟩) (fun v4 h => ?_)
  refine m_istore_n C (dOf DX3_leaveGap 9 rfl) rfl (by decide) (lv' := [(3, .int v4), (2, .int v2), (0, .ref (G.1 + b0)), (1, .int p1)]) rfl ?_
  refine m_aload_n C (dOf DX3_leaveGap 10 rfl) rfl 2 rfl ?_
  refine m_gR C (dOf DX3_leaveGap 11 rfl) kf_X3_9 fg_3_0 h (fun a5 h => ?_)
  refine m_iload_n C (dOf DX3_leaveGap 12 rfl) rfl 1 rfl ?_
  refine m_sipush C (dOf DX3_leaveGap 13 rfl) (v := 224) ks_224 ?_
  refine m_aload_n C (dOf DX3_leaveGap 14 rfl) rfl 2 rfl ?_
  refine m_gR C (dOf DX3_leaveGap 15 rfl) kf_X3_9 fg_3_0 h (fun a6 h => ?_)
  refine m_iload_n C (dOf DX3_leaveGap 16 rfl) rfl 1 rfl ?_
  refine m_cP (st := [.int 224, .int v2, .ref (G.1 + a5)]) h (fun o' ho H locs ls hl hr hs => ⟨_, m_runSN C (dOf DX3_leaveGap 17 rfl) kn_X3_59 ks_X8_at (by decide) ⟨rfl, rfl⟩ (c_X8_at _ G _ _ _ o' ho) rfl rfl (Nat.le_of_ble_eq_true rfl) ⟨Nat.le_refl _, Nat.le_refl _⟩ hl hr hs⟩) (fun v7 h => ?_)
  refine m_bipush C (dOf DX3_leaveGap 18 rfl) (v := 16) kb_16 ?_
  refine m_irem C (dOf DX3_leaveGap 19 rfl) h (fun v8 h => ?_)
  refine m_iadd C (dOf DX3_leaveGap 20 rfl) h (fun v9 h => ?_)
  refine m_cV (st := []) h (fun o' ho H locs ls hl hr hs => ⟨_, m_runSN C (dOf DX3_leaveGap 21 rfl) kn_X3_55 ks_X8_set (by decide) ⟨rfl, rfl⟩ (c_X8_set _ G _ _ _ _ o' ho) rfl rfl (Nat.le_of_ble_eq_true rfl) ⟨Nat.le_refl _, Nat.le_refl _⟩ hl hr hs⟩) (fun S10 h => ?_)
  refine m_aload_n C (dOf DX3_leaveGap 22 rfl) rfl 2 rfl ?_
  refine m_gR C (dOf DX3_leaveGap 23 rfl) kf_X3_9 fg_3_0 h (fun a11 h => ?_)
  refine m_iload_n C (dOf DX3_leaveGap 24 rfl) rfl 1 rfl ?_
  refine m_iconst C (dOf DX3_leaveGap 25 rfl) (v := 1) ki_1 ?_
  refine m_iadd C (dOf DX3_leaveGap 26 rfl) h (fun v12 h => ?_)
  refine m_iload_n C (dOf DX3_leaveGap 27 rfl) rfl 0 rfl ?_
  refine m_cV (st := []) h (fun o' ho H locs ls hl hr hs => ⟨_, m_runSN C (dOf DX3_leaveGap 28 rfl) kn_X3_55 ks_X8_set (by decide) ⟨rfl, rfl⟩ (c_X8_set _ G _ _ _ _ o' ho) rfl rfl (Nat.le_of_ble_eq_true rfl) ⟨Nat.le_refl _, Nat.le_refl _⟩ hl hr hs⟩) (fun S13 h => ?_)
  refine m_iconst C (dOf DX3_leaveGap 29 rfl) (v := 1) ki_1 ?_
  refine m_istore C (dOf DX3_leaveGap 30 rfl) (by decide) (lv' := [(4, .int 1), (3, .int v4), (2, .int v2), (0, .ref (G.1 + b0)), (1, .int p1)]) rfl ?_
  refine m_sub [3, 4, 2, 1, 0] rfl (m_lp (J := fun (x14 : Int32 × St) => WM X G 5 0 0 (wQ X G (qV G o) 0 0) 55 [(0, .ref (G.1 + b0)), (1, .int p1), (2, .int v2), (3, .int v4), (4, .int x14.1)] [] x14.2) h (fun self14 hself14 x14 h => ?_))
  refine m_iload C (dOf DX3_leaveGap 31 rfl) 4 rfl ?_
  refine m_iload_n C (dOf DX3_leaveGap 32 rfl) rfl 3 rfl ?_
  refine m_icmpge C (dOf DX3_leaveGap 33 rfl) (tgt := 81) rfl h (fun h => ?_) (fun h => ?_)
  · refine m_iload_n C (dOf DX3_leaveGap 45 rfl) rfl 1 rfl ?_
    refine m_jn (J := fun (x15 : St) => WM X G 5 0 0 (wQ X G (qV G o) 0 0) 101 [] [] x15) h (fun x15 h => ?_) (fun j15 hj15 h => ?_)
    · exact m_vret C rfl (dOf DX3_leaveGap 57 rfl) h
    refine m_iflt C (dOf DX3_leaveGap 46 rfl) (tgt := 101) rfl h (fun h => ?_) (fun h => ?_)
    · exact m_sub [] rfl (hj15 _ h)
    · refine m_iload_n C (dOf DX3_leaveGap 47 rfl) rfl 1 rfl ?_
      refine m_aload_n C (dOf DX3_leaveGap 48 rfl) rfl 0 rfl ?_
      refine m_gR C (dOf DX3_leaveGap 49 rfl) kf_X3_33 fg_3_7 h (fun a16 h => ?_)
      refine m_al C (dOf DX3_leaveGap 50 rfl) (by decide) h (fun v17 h => ?_)
      refine m_icmpge C (dOf DX3_leaveGap 51 rfl) (tgt := 101) rfl h (fun h => ?_) (fun h => ?_)
      · exact m_sub [] rfl (hj15 _ h)
      · refine m_aload_n C (dOf DX3_leaveGap 52 rfl) rfl 0 rfl ?_
        refine m_gR C (dOf DX3_leaveGap 53 rfl) kf_X3_33 fg_3_7 h (fun a18 h => ?_)
        refine m_iload_n C (dOf DX3_leaveGap 54 rfl) rfl 1 rfl ?_
        refine m_iconst C (dOf DX3_leaveGap 55 rfl) (v := 1) ki_1 ?_
        refine m_sZ C (dOf DX3_leaveGap 56 rfl) h (fun S19 h => ?_)
        exact m_sub [] rfl (hj15 _ h)
  · refine m_aload_n C (dOf DX3_leaveGap 34 rfl) rfl 0 rfl ?_
    refine m_gR C (dOf DX3_leaveGap 35 rfl) kf_X3_9 fg_3_0 h (fun a20 h => ?_)
    refine m_iload_n C (dOf DX3_leaveGap 36 rfl) rfl 2 rfl ?_
    refine m_iconst C (dOf DX3_leaveGap 37 rfl) (v := 1) ki_1 ?_
    refine m_iadd C (dOf DX3_leaveGap 38 rfl) h (fun v21 h => ?_)
    refine m_iload C (dOf DX3_leaveGap 39 rfl) 4 rfl ?_
    refine m_iadd C (dOf DX3_leaveGap 40 rfl) h (fun v22 h => ?_)
    refine m_iconst C (dOf DX3_leaveGap 41 rfl) (v := 0) ki_0 ?_
    refine m_cV (st := []) h (fun o' ho H locs ls hl hr hs => ⟨_, m_runSN C (dOf DX3_leaveGap 42 rfl) kn_X3_55 ks_X8_set (by decide) ⟨rfl, rfl⟩ (c_X8_set _ G _ _ _ _ o' ho) rfl rfl (Nat.le_of_ble_eq_true rfl) ⟨Nat.le_refl _, Nat.le_refl _⟩ hl hr hs⟩) (fun S23 h => ?_)
    refine m_iinc C (dOf DX3_leaveGap 43 rfl) (w := 1) ki_1 4 rfl (by decide) h (fun v24 h => ⟨[(4, .int v24), (0, .ref (G.1 + b0)), (1, .int p1), (2, .int v2), (3, .int v4)], rfl, ?_⟩)
    refine m_goto C (dOf DX3_leaveGap 44 rfl) (tgt := 55) rfl ?_
    exact m_sub [1, 2, 3, 4, 0] rfl (hself14 _ h)
/-- TraceRing$Ring.dropInnermost(I)I -/
def f_X4_dropInnermost (S : St) (b0 : Nat) (p1 : Int32) : Option (Int32 × St) :=
  ck_ S b0 4 <| cP_ (f_X4_isInnermost S b0 p1) fun v1 =>
  if v1 = 0 then
    rt_ ((-1), S)
  else
    gI_ S b0 4 15 fun v2 =>
    lt_ (v2 - 1 : Int32) fun v3 =>
    gR_ S b0 4 1 fun a4 =>
    cP_ (f_X8_at S a4 v3) fun v5 =>
    gR_ S b0 4 2 fun a6 =>
    cP_ (f_X8_at S a6 v3) fun v7 =>
    ck_ S b0 4 <| cP_ (f_X4_pageAt S b0 v5) fun a8 =>
    ck_ S b0 4 <| cP_ (f_X4_tailPlace S b0) fun v9 =>
    jn_ (fun (x10 : Int32) =>
      jn_ (fun (x11 : St) =>
        ck_ x11 b0 4 <| cV_ (f_X4_raise x11 b0 9 1) fun S12 =>
        ck_ S12 b0 4 <| cV_ (f_X4_closeInnermost S12 b0) fun S13 =>
        jn_ (fun (x14 : Int32) =>
          rt_ (x14, S13)
        ) fun j14 =>
        if x10 = 0 then
          j14 (1)
        else
          j14 (0)
      ) fun j11 =>
      if x10 = 0 then
        ck_ S a8 3 <| cV_ (f_X3_leaveGap S a8 v7) fun S15 =>
        j11 (S15)
      else
        ck_ S a8 3 <| cV_ (f_X3_takeBack S a8) fun S16 =>
        j11 (S16)
    ) fun j10 =>
    jn_ (fun (x17 : Unit) =>
      j10 (0)
    ) fun j17 =>
    if v5 = v9 then
      gI_ S a8 3 8 fun v18 =>
      lt_ (v18 - 1 : Int32) fun v19 =>
      if v7 = v19 then
        j10 (1)
      else
        j17 ()
    else
      j17 ()
set_option maxRecDepth 100000 in
set_option maxHeartbeats 4000000 in
theorem c_X4_dropInnermost (l : Launch) (G : Gx) (S : St) (b0 : Nat) (p1 : Int32) (o : (Int32 × St)) (h : f_X4_dropInnermost S b0 p1 = some o) : Met l yX4_dropInnermost (Cond.code yX4_dropInnermost cX4_dropInnermost 7 (some (.int)) :: wAll) ({ frames := 3, cells := 0, slots := 0, locals := 63 } : Room) (va_Pc [.ref (G.1 + b0), .int p1] (wPre G S)) (qI G o) 0 0 (wA G) := by
  refine m_start (by decide +kernel) (Nat.le_of_ble_eq_true rfl) (fun X C => ?_)
  unfold f_X4_dropInnermost at h
  show WM X G 7 0 0 (wQ X G (qI G o) 0 0) 0 [(0, .ref (G.1 + b0)), (1, .int p1)] [] S
  refine m_aload_n C (dOf DX4_dropInnermost 0 rfl) rfl 0 rfl ?_
  refine m_iload_n C (dOf DX4_dropInnermost 1 rfl) rfl 1 rfl ?_
  obtain ⟨hc, h⟩ := ck_spec h
  refine m_cP (st := []) h (fun o' ho H locs ls hl hr hs => ⟨_, m_runV C (dOf DX4_dropInnermost 2 rfl) km_X4_159 ky_X4_isInnermost (by decide) ⟨rfl, rfl⟩ (c_X4_isInnermost _ G _ _ _ o' ho) hc.1 hc.2 (by decide) rfl rfl rfl (Nat.le_of_ble_eq_true rfl) ⟨Nat.le_refl _, Nat.le_refl _⟩ hl hr hs⟩) (fun v1 h => ?_)
  refine m_ifne C (dOf DX4_dropInnermost 3 rfl) (tgt := 10) rfl h (fun h => ?_) (fun h => ?_)
  · refine m_aload_n C (dOf DX4_dropInnermost 6 rfl) rfl 0 rfl ?_
    refine m_gI C (dOf DX4_dropInnermost 7 rfl) kf_X4_84 fg_4_15 h (fun v2 h => ?_)
    refine m_iconst C (dOf DX4_dropInnermost 8 rfl) (v := 1) ki_1 ?_
    refine m_isub C (dOf DX4_dropInnermost 9 rfl) h (fun v3 h => ?_)
    refine m_istore_n C (dOf DX4_dropInnermost 10 rfl) rfl (by decide) (lv' := [(2, .int v3), (0, .ref (G.1 + b0)), (1, .int p1)]) rfl ?_
    refine m_aload_n C (dOf DX4_dropInnermost 11 rfl) rfl 1 rfl ?_
    refine m_gR C (dOf DX4_dropInnermost 12 rfl) kf_X4_17 fg_4_1 h (fun a4 h => ?_)
    refine m_iload_n C (dOf DX4_dropInnermost 13 rfl) rfl 0 rfl ?_
    refine m_cP (st := []) h (fun o' ho H locs ls hl hr hs => ⟨_, m_runSN C (dOf DX4_dropInnermost 14 rfl) kn_X4_102 ks_X8_at (by decide) ⟨rfl, rfl⟩ (c_X8_at _ G _ _ _ o' ho) rfl rfl (Nat.le_of_ble_eq_true rfl) ⟨Nat.le_refl _, Nat.le_refl _⟩ hl hr hs⟩) (fun v5 h => ?_)
    refine m_istore_n C (dOf DX4_dropInnermost 15 rfl) rfl (by decide) (lv' := [(3, .int v5), (2, .int v3), (0, .ref (G.1 + b0)), (1, .int p1)]) rfl ?_
    refine m_aload_n C (dOf DX4_dropInnermost 16 rfl) rfl 2 rfl ?_
    refine m_gR C (dOf DX4_dropInnermost 17 rfl) kf_X4_21 fg_4_2 h (fun a6 h => ?_)
    refine m_iload_n C (dOf DX4_dropInnermost 18 rfl) rfl 1 rfl ?_
    refine m_cP (st := []) h (fun o' ho H locs ls hl hr hs => ⟨_, m_runSN C (dOf DX4_dropInnermost 19 rfl) kn_X4_102 ks_X8_at (by decide) ⟨rfl, rfl⟩ (c_X8_at _ G _ _ _ o' ho) rfl rfl (Nat.le_of_ble_eq_true rfl) ⟨Nat.le_refl _, Nat.le_refl _⟩ hl hr hs⟩) (fun v7 h => ?_)
    refine m_istore C (dOf DX4_dropInnermost 20 rfl) (by decide) (lv' := [(4, .int v7), (3, .int v5), (2, .int v3), (0, .ref (G.1 + b0)), (1, .int p1)]) rfl ?_
    refine m_aload_n C (dOf DX4_dropInnermost 21 rfl) rfl 3 rfl ?_
    refine m_iload_n C (dOf DX4_dropInnermost 22 rfl) rfl 1 rfl ?_
    obtain ⟨hc, h⟩ := ck_spec h
    refine m_cN (st := []) h (fun o' ho H locs ls hl hr hs => ⟨_, m_runV C (dOf DX4_dropInnermost 23 rfl) km_X4_46 ky_X4_pageAt (by decide) ⟨rfl, rfl⟩ (c_X4_pageAt _ G _ _ _ o' ho) hc.1 hc.2 (by decide) rfl rfl rfl (Nat.le_of_ble_eq_true rfl) ⟨Nat.le_refl _, Nat.le_refl _⟩ hl hr hs⟩) (fun a8 h => ?_)
    refine m_astore C (dOf DX4_dropInnermost 24 rfl) (by decide) (lv' := [(5, .ref (G.1 + a8)), (4, .int v7), (3, .int v5), (2, .int v3), (0, .ref (G.1 + b0)), (1, .int p1)]) rfl ?_
    refine m_iload_n C (dOf DX4_dropInnermost 25 rfl) rfl 2 rfl ?_
    refine m_aload_n C (dOf DX4_dropInnermost 26 rfl) rfl 4 rfl ?_
    obtain ⟨hc, h⟩ := ck_spec h
    refine m_cP (st := [.int v5]) h (fun o' ho H locs ls hl hr hs => ⟨_, m_runV C (dOf DX4_dropInnermost 27 rfl) km_X4_120 ky_X4_tailPlace (by decide) ⟨rfl, rfl⟩ (c_X4_tailPlace _ G _ _ o' ho) hc.1 hc.2 (by decide) rfl rfl rfl (Nat.le_of_ble_eq_true rfl) ⟨Nat.le_refl _, Nat.le_refl _⟩ hl hr hs⟩) (fun v9 h => ?_)
    refine m_jn (J := fun (x10 : Int32) => WM X G 7 0 0 (wQ X G (qI G o) 0 0) 68 [(0, .ref (G.1 + b0)), (4, .int v7), (5, .ref (G.1 + a8))] [.int x10] S) h (fun x10 h => ?_) (fun j10 hj10 h => ?_)
    · refine m_istore C (dOf DX4_dropInnermost 38 rfl) (by decide) (lv' := [(6, .int x10), (0, .ref (G.1 + b0)), (4, .int v7), (5, .ref (G.1 + a8))]) rfl ?_
      refine m_iload C (dOf DX4_dropInnermost 39 rfl) 0 rfl ?_
      refine m_jn (J := fun (x11 : St) => WM X G 7 0 0 (wQ X G (qI G o) 0 0) 90 [(0, .ref (G.1 + b0)), (6, .int x10)] [] x11) h (fun x11 h => ?_) (fun j11 hj11 h => ?_)
      · refine m_aload_n C (dOf DX4_dropInnermost 47 rfl) rfl 0 rfl ?_
        refine m_bipush C (dOf DX4_dropInnermost 48 rfl) (v := 9) kb_9 ?_
        refine m_iconst C (dOf DX4_dropInnermost 49 rfl) (v := 1) ki_1 ?_
        obtain ⟨hc, h⟩ := ck_spec h
        refine m_cV (st := []) h (fun o' ho H locs ls hl hr hs => ⟨_, m_runV C (dOf DX4_dropInnermost 50 rfl) km_X4_136 ky_X4_raise (by decide) ⟨rfl, rfl⟩ (c_X4_raise _ G _ _ _ _ o' ho) hc.1 hc.2 (by decide) rfl rfl rfl (Nat.le_of_ble_eq_true rfl) ⟨Nat.le_refl _, Nat.le_refl _⟩ hl hr hs⟩) (fun S12 h => ?_)
        refine m_aload_n C (dOf DX4_dropInnermost 51 rfl) rfl 0 rfl ?_
        obtain ⟨hc, h⟩ := ck_spec h
        refine m_cV (st := []) h (fun o' ho H locs ls hl hr hs => ⟨_, m_runV C (dOf DX4_dropInnermost 52 rfl) km_X4_177 ky_X4_closeInnermost (by decide) ⟨rfl, rfl⟩ (c_X4_closeInnermost _ G _ _ o' ho) hc.1 hc.2 (by decide) rfl rfl rfl (Nat.le_of_ble_eq_true rfl) ⟨Nat.le_refl _, Nat.le_refl _⟩ hl hr hs⟩) (fun S13 h => ?_)
        refine m_iload C (dOf DX4_dropInnermost 53 rfl) 1 rfl ?_
        refine m_jn (J := fun (x14 : Int32) => WM X G 7 0 0 (wQ X G (qI G o) 0 0) 111 [] [.int x14] S13) h (fun x14 h => ?_) (fun j14 hj14 h => ?_)
        · exact m_iret C rfl (dOf DX4_dropInnermost 58 rfl) h
        refine m_ifeq C (dOf DX4_dropInnermost 54 rfl) (tgt := 110) rfl h (fun h => ?_) (fun h => ?_)
        · refine m_iconst C (dOf DX4_dropInnermost 57 rfl) (v := 1) ki_1 ?_
          exact m_sub [] rfl (hj14 _ h)
        · refine m_iconst C (dOf DX4_dropInnermost 55 rfl) (v := 0) ki_0 ?_
          refine m_goto C (dOf DX4_dropInnermost 56 rfl) (tgt := 111) rfl ?_
          exact m_sub [] rfl (hj14 _ h)
      refine m_ifeq C (dOf DX4_dropInnermost 40 rfl) (tgt := 83) rfl h (fun h => ?_) (fun h => ?_)
      · refine m_aload C (dOf DX4_dropInnermost 44 rfl) 3 rfl ?_
        refine m_iload C (dOf DX4_dropInnermost 45 rfl) 2 rfl ?_
        obtain ⟨hc, h⟩ := ck_spec h
        refine m_cV (st := []) h (fun o' ho H locs ls hl hr hs => ⟨_, m_runV C (dOf DX4_dropInnermost 46 rfl) km_X4_186 ky_X3_leaveGap (by decide) ⟨rfl, rfl⟩ (c_X3_leaveGap _ G _ _ _ o' ho) hc.1 hc.2 (by decide) rfl rfl rfl (Nat.le_of_ble_eq_true rfl) ⟨Nat.le_refl _, Nat.le_refl _⟩ hl hr hs⟩) (fun S15 h => ?_)
        exact m_sub [1, 0] rfl (hj11 _ h)
      · refine m_aload C (dOf DX4_dropInnermost 41 rfl) 3 rfl ?_
        obtain ⟨hc, h⟩ := ck_spec h
        refine m_cV (st := []) h (fun o' ho H locs ls hl hr hs => ⟨_, m_runV C (dOf DX4_dropInnermost 42 rfl) km_X4_183 ky_X3_takeBack (by decide) ⟨rfl, rfl⟩ (c_X3_takeBack _ G _ _ o' ho) hc.1 hc.2 (by decide) rfl rfl rfl (Nat.le_of_ble_eq_true rfl) ⟨Nat.le_refl _, Nat.le_refl _⟩ hl hr hs⟩) (fun S16 h => ?_)
        refine m_goto C (dOf DX4_dropInnermost 43 rfl) (tgt := 90) rfl ?_
        exact m_sub [1, 0] rfl (hj11 _ h)
    refine m_jn (J := fun (x17 : Unit) => WM X G 7 0 0 (wQ X G (qI G o) 0 0) 67 [(0, .ref (G.1 + b0)), (4, .int v7), (5, .ref (G.1 + a8))] [] S) h (fun x17 h => ?_) (fun j17 hj17 h => ?_)
    · refine m_iconst C (dOf DX4_dropInnermost 37 rfl) (v := 0) ki_0 ?_
      exact m_sub [0, 1, 2] rfl (hj10 _ h)
    refine m_icmpne C (dOf DX4_dropInnermost 28 rfl) (tgt := 67) rfl h (fun h => ?_) (fun h => ?_)
    · exact m_sub [4, 1, 0] rfl (hj17 _ h)
    · refine m_iload C (dOf DX4_dropInnermost 29 rfl) 1 rfl ?_
      refine m_aload C (dOf DX4_dropInnermost 30 rfl) 0 rfl ?_
      refine m_gI C (dOf DX4_dropInnermost 31 rfl) kf_X4_180 fg_3_8 h (fun v18 h => ?_)
      refine m_iconst C (dOf DX4_dropInnermost 32 rfl) (v := 1) ki_1 ?_
      refine m_isub C (dOf DX4_dropInnermost 33 rfl) h (fun v19 h => ?_)
      refine m_icmpne C (dOf DX4_dropInnermost 34 rfl) (tgt := 67) rfl h (fun h => ?_) (fun h => ?_)
      · exact m_sub [4, 1, 0] rfl (hj17 _ h)
      · refine m_iconst C (dOf DX4_dropInnermost 35 rfl) (v := 1) ki_1 ?_
        refine m_goto C (dOf DX4_dropInnermost 36 rfl) (tgt := 68) rfl ?_
        exact m_sub [4, 1, 0] rfl (hj10 _ h)
  · refine m_iconst C (dOf DX4_dropInnermost 4 rfl) (v := (-1)) ki_m1 ?_
    exact m_iret C rfl (dOf DX4_dropInnermost 5 rfl) h
/-- TraceRing$Ring.canHeadBeHad(Z)Z -/
def f_X4_canHeadBeHad (S : St) (b0 : Nat) (p1 : Int32) : Option Int32 :=
  gI_ S b0 4 13 fun v1 =>
  if v1 ≤ 1 then
    jn_ (fun (x2 : Int32) =>
      rzP_ x2
    ) fun j2 =>
    jn_ (fun (x3 : Unit) =>
      j2 (0)
    ) fun j3 =>
    if p1 = 0 then
      j3 ()
    else
      gI_ S b0 4 12 fun v4 =>
      ck_ S b0 4 <| cP_ (f_X4_pageAt S b0 v4) fun a5 =>
      gI_ S a5 3 9 fun v6 =>
      if v6 ≤ 0 then
        j3 ()
      else
        gI_ S b0 4 15 fun v7 =>
        if v7 = 0 then
          j2 (1)
        else
          j3 ()
  else
    gI_ S b0 4 12 fun v8 =>
    ck_ S b0 4 <| cP_ (f_X4_isOpenIn S b0 v8) fun v9 =>
    jn_ (fun (x10 : Int32) =>
      rzP_ x10
    ) fun j10 =>
    if v9 = 0 then
      j10 (1)
    else
      j10 (0)
set_option maxRecDepth 100000 in
set_option maxHeartbeats 4000000 in
theorem c_X4_canHeadBeHad (l : Launch) (G : Gx) (S : St) (b0 : Nat) (p1 : Int32) (o : Int32) (h : f_X4_canHeadBeHad S b0 p1 = some o) : Met l yX4_canHeadBeHad (Cond.code yX4_canHeadBeHad cX4_canHeadBeHad 2 (some (.boolean)) :: wAll) ({ frames := 2, cells := 0, slots := 0, locals := 43 } : Room) (va_Pc [.ref (G.1 + b0), .int p1] (wPre G S)) (qI G (o, S)) 0 0 (wA G) := by
  refine m_start (by decide +kernel) (Nat.le_of_ble_eq_true rfl) (fun X C => ?_)
  unfold f_X4_canHeadBeHad at h
  show WM X G 2 0 0 (wQ X G (qI G (o, S)) 0 0) 0 [(0, .ref (G.1 + b0)), (1, .int p1)] [] S
  refine m_aload_n C (dOf DX4_canHeadBeHad 0 rfl) rfl 0 rfl ?_
  refine m_gI C (dOf DX4_canHeadBeHad 1 rfl) kf_X4_78 fg_4_13 h (fun v1 h => ?_)
  refine m_iconst C (dOf DX4_canHeadBeHad 2 rfl) (v := 1) ki_1 ?_
  refine m_icmple C (dOf DX4_canHeadBeHad 3 rfl) (tgt := 25) rfl h (fun h => ?_) (fun h => ?_)
  · refine m_iload_n C (dOf DX4_canHeadBeHad 13 rfl) rfl 1 rfl ?_
    refine m_jn (J := fun (x2 : Int32) => WM X G 2 0 0 (wQ X G (qI G (o, S)) 0 0) 55 [] [.int x2] S) h (fun x2 h => ?_) (fun j2 hj2 h => ?_)
    · exact m_zretP C rfl (dOf DX4_canHeadBeHad 27 rfl) h
    refine m_jn (J := fun (x3 : Unit) => WM X G 2 0 0 (wQ X G (qI G (o, S)) 0 0) 54 [] [] S) h (fun x3 h => ?_) (fun j3 hj3 h => ?_)
    · refine m_iconst C (dOf DX4_canHeadBeHad 26 rfl) (v := 0) ki_0 ?_
      exact m_sub [] rfl (hj2 _ h)
    refine m_ifeq C (dOf DX4_canHeadBeHad 14 rfl) (tgt := 54) rfl h (fun h => ?_) (fun h => ?_)
    · exact m_sub [] rfl (hj3 _ h)
    · refine m_aload_n C (dOf DX4_canHeadBeHad 15 rfl) rfl 0 rfl ?_
      refine m_aload_n C (dOf DX4_canHeadBeHad 16 rfl) rfl 0 rfl ?_
      refine m_gI C (dOf DX4_canHeadBeHad 17 rfl) kf_X4_75 fg_4_12 h (fun v4 h => ?_)
      obtain ⟨hc, h⟩ := ck_spec h
      refine m_cN (st := []) h (fun o' ho H locs ls hl hr hs => ⟨_, m_runV C (dOf DX4_canHeadBeHad 18 rfl) km_X4_46 ky_X4_pageAt (by decide) ⟨rfl, rfl⟩ (c_X4_pageAt _ G _ _ _ o' ho) hc.1 hc.2 (by decide) rfl rfl rfl (Nat.le_of_ble_eq_true rfl) ⟨Nat.le_refl _, Nat.le_refl _⟩ hl hr hs⟩) (fun a5 h => ?_)
      refine m_gI C (dOf DX4_canHeadBeHad 19 rfl) kf_X4_126 fg_3_9 h (fun v6 h => ?_)
      refine m_ifle C (dOf DX4_canHeadBeHad 20 rfl) (tgt := 54) rfl h (fun h => ?_) (fun h => ?_)
      · exact m_sub [] rfl (hj3 _ h)
      · refine m_aload_n C (dOf DX4_canHeadBeHad 21 rfl) rfl 0 rfl ?_
        refine m_gI C (dOf DX4_canHeadBeHad 22 rfl) kf_X4_84 fg_4_15 h (fun v7 h => ?_)
        refine m_ifne C (dOf DX4_canHeadBeHad 23 rfl) (tgt := 54) rfl h (fun h => ?_) (fun h => ?_)
        · exact m_sub [] rfl (hj3 _ h)
        · refine m_iconst C (dOf DX4_canHeadBeHad 24 rfl) (v := 1) ki_1 ?_
          refine m_goto C (dOf DX4_canHeadBeHad 25 rfl) (tgt := 55) rfl ?_
          exact m_sub [] rfl (hj2 _ h)
  · refine m_aload_n C (dOf DX4_canHeadBeHad 4 rfl) rfl 0 rfl ?_
    refine m_aload_n C (dOf DX4_canHeadBeHad 5 rfl) rfl 0 rfl ?_
    refine m_gI C (dOf DX4_canHeadBeHad 6 rfl) kf_X4_75 fg_4_12 h (fun v8 h => ?_)
    obtain ⟨hc, h⟩ := ck_spec h
    refine m_cP (st := []) h (fun o' ho H locs ls hl hr hs => ⟨_, m_runV C (dOf DX4_canHeadBeHad 7 rfl) km_X4_129 ky_X4_isOpenIn (by decide) ⟨rfl, rfl⟩ (c_X4_isOpenIn _ G _ _ _ o' ho) hc.1 hc.2 (by decide) rfl rfl rfl (Nat.le_of_ble_eq_true rfl) ⟨Nat.le_refl _, Nat.le_refl _⟩ hl hr hs⟩) (fun v9 h => ?_)
    refine m_jn (J := fun (x10 : Int32) => WM X G 2 0 0 (wQ X G (qI G (o, S)) 0 0) 24 [] [.int x10] S) h (fun x10 h => ?_) (fun j10 hj10 h => ?_)
    · exact m_zretP C rfl (dOf DX4_canHeadBeHad 12 rfl) h
    refine m_ifne C (dOf DX4_canHeadBeHad 8 rfl) (tgt := 23) rfl h (fun h => ?_) (fun h => ?_)
    · refine m_iconst C (dOf DX4_canHeadBeHad 11 rfl) (v := 0) ki_0 ?_
      exact m_sub [] rfl (hj10 _ h)
    · refine m_iconst C (dOf DX4_canHeadBeHad 9 rfl) (v := 1) ki_1 ?_
      refine m_goto C (dOf DX4_canHeadBeHad 10 rfl) (tgt := 24) rfl ?_
      exact m_sub [] rfl (hj10 _ h)
/-- TraceRing$Ring.swapHead(Z)I -/
def f_X4_swapHead (S : St) (b0 : Nat) (p1 : Int32) : Option (Int32 × St) :=
  ck_ S b0 4 <| cP_ (f_X4_canHeadBeHad S b0 p1) fun v1 =>
  jn_ (fun (x2 : Unit) =>
    rt_ ((-1), S)
  ) fun j2 =>
  if v1 = 0 then
    j2 ()
  else
    gI_ S b0 4 12 fun v3 =>
    if v3 < 0 then
      j2 ()
    else
      gI_ S b0 4 12 fun v4 =>
      gR_ S b0 4 0 fun a5 =>
      al_ S a5 15 fun v6 =>
      if v4 < v6 then
        gR_ S b0 4 6 fun a7 =>
        gI_ S b0 4 7 fun v8 =>
        ck_ S a7 3 <| cP_ (f_X3_recordsFrom S a7 v8) fun v9 =>
        ck_ S b0 4 <| cV_ (f_X4_raise S b0 10 v9) fun S10 =>
        ck_ S10 b0 4 <| cV_ (f_X4_raise S10 b0 14 1) fun S11 =>
        gI_ S11 b0 4 12 fun v12 =>
        ck_ S11 b0 4 <| cP_ (f_X4_pageAt S11 b0 v12) fun a13 =>
        gR_ S11 b0 4 6 fun a14 =>
        ck_ S11 a14 3 <| cV_ (f_X3_clear S11 a14) fun S15 =>
        gR_ S15 b0 4 0 fun a16 =>
        gI_ S15 b0 4 12 fun v17 =>
        gR_ S15 b0 4 6 fun a18 =>
        sR_ S15 a16 15 v17 a18 3 fun S19 =>
        pR_ S19 b0 4 6 (some a13) fun S20 =>
        pI_ S20 b0 4 7 0 fun S21 =>
        gI_ S21 b0 4 13 fun v22 =>
        jn_ (fun (x23 : St) =>
          gR_ x23 b0 4 6 fun a24 =>
          ck_ x23 a24 3 <| cP_ (f_X3_recordsFrom x23 a24 0) fun v25 =>
          rt_ (v25, x23)
        ) fun j23 =>
        if v22 ≤ 1 then
          j23 (S21)
        else
          ck_ S21 b0 4 <| cP_ (f_X4_placeOf S21 b0 1) fun v26 =>
          pI_ S21 b0 4 12 v26 fun S27 =>
          gI_ S27 b0 4 13 fun v28 =>
          lt_ (v28 - 1 : Int32) fun v29 =>
          pI_ S27 b0 4 13 v29 fun S30 =>
          j23 (S30)
      else
        j2 ()
set_option maxRecDepth 100000 in
set_option maxHeartbeats 4000000 in
theorem c_X4_swapHead (l : Launch) (G : Gx) (S : St) (b0 : Nat) (p1 : Int32) (o : (Int32 × St)) (h : f_X4_swapHead S b0 p1 = some o) : Met l yX4_swapHead (Cond.code yX4_swapHead cX4_swapHead 3 (some (.int)) :: wAll) ({ frames := 3, cells := 0, slots := 0, locals := 64 } : Room) (va_Pc [.ref (G.1 + b0), .int p1] (wPre G S)) (qI G o) 0 0 (wA G) := by
  refine m_start (by decide +kernel) (Nat.le_of_ble_eq_true rfl) (fun X C => ?_)
  unfold f_X4_swapHead at h
  show WM X G 3 0 0 (wQ X G (qI G o) 0 0) 0 [(0, .ref (G.1 + b0)), (1, .int p1)] [] S
  refine m_aload_n C (dOf DX4_swapHead 0 rfl) rfl 0 rfl ?_
  refine m_iload_n C (dOf DX4_swapHead 1 rfl) rfl 1 rfl ?_
  obtain ⟨hc, h⟩ := ck_spec h
  refine m_cP (st := []) h (fun o' ho H locs ls hl hr hs => ⟨_, m_runV C (dOf DX4_swapHead 2 rfl) km_X4_193 ky_X4_canHeadBeHad (by decide) ⟨rfl, rfl⟩ (c_X4_canHeadBeHad _ G _ _ _ o' ho) hc.1 hc.2 (by decide) rfl rfl rfl (Nat.le_of_ble_eq_true rfl) ⟨Nat.le_refl _, Nat.le_refl _⟩ hl hr hs⟩) (fun v1 h => ?_)
  refine m_jn (J := fun (x2 : Unit) => WM X G 3 0 0 (wQ X G (qI G o) 0 0) 27 [] [] S) h (fun x2 h => ?_) (fun j2 hj2 h => ?_)
  · refine m_iconst C (dOf DX4_swapHead 13 rfl) (v := (-1)) ki_m1 ?_
    exact m_iret C rfl (dOf DX4_swapHead 14 rfl) h
  refine m_ifeq C (dOf DX4_swapHead 3 rfl) (tgt := 27) rfl h (fun h => ?_) (fun h => ?_)
  · exact m_sub [] rfl (hj2 _ h)
  · refine m_aload_n C (dOf DX4_swapHead 4 rfl) rfl 0 rfl ?_
    refine m_gI C (dOf DX4_swapHead 5 rfl) kf_X4_75 fg_4_12 h (fun v3 h => ?_)
    refine m_iflt C (dOf DX4_swapHead 6 rfl) (tgt := 27) rfl h (fun h => ?_) (fun h => ?_)
    · exact m_sub [] rfl (hj2 _ h)
    · refine m_aload_n C (dOf DX4_swapHead 7 rfl) rfl 0 rfl ?_
      refine m_gI C (dOf DX4_swapHead 8 rfl) kf_X4_75 fg_4_12 h (fun v4 h => ?_)
      refine m_aload_n C (dOf DX4_swapHead 9 rfl) rfl 0 rfl ?_
      refine m_gR C (dOf DX4_swapHead 10 rfl) kf_X4_11 fg_4_0 h (fun a5 h => ?_)
      refine m_al C (dOf DX4_swapHead 11 rfl) (by decide) h (fun v6 h => ?_)
      refine m_icmplt C (dOf DX4_swapHead 12 rfl) (tgt := 29) rfl h (fun h => ?_) (fun h => ?_)
      · refine m_aload_n C (dOf DX4_swapHead 15 rfl) rfl 0 rfl ?_
        refine m_bipush C (dOf DX4_swapHead 16 rfl) (v := 10) kb_10 ?_
        refine m_aload_n C (dOf DX4_swapHead 17 rfl) rfl 0 rfl ?_
        refine m_gR C (dOf DX4_swapHead 18 rfl) kf_X4_38 fg_4_6 h (fun a7 h => ?_)
        refine m_aload_n C (dOf DX4_swapHead 19 rfl) rfl 0 rfl ?_
        refine m_gI C (dOf DX4_swapHead 20 rfl) kf_X4_58 fg_4_7 h (fun v8 h => ?_)
        obtain ⟨hc, h⟩ := ck_spec h
        refine m_cP (st := [.int 10, .ref (G.1 + b0)]) h (fun o' ho H locs ls hl hr hs => ⟨_, m_runV C (dOf DX4_swapHead 21 rfl) km_X4_146 ky_X3_recordsFrom (by decide) ⟨rfl, rfl⟩ (c_X3_recordsFrom _ G _ _ _ o' ho) hc.1 hc.2 (by decide) rfl rfl rfl (Nat.le_of_ble_eq_true rfl) ⟨Nat.le_refl _, Nat.le_refl _⟩ hl hr hs⟩) (fun v9 h => ?_)
        obtain ⟨hc, h⟩ := ck_spec h
        refine m_cV (st := []) h (fun o' ho H locs ls hl hr hs => ⟨_, m_runV C (dOf DX4_swapHead 22 rfl) km_X4_136 ky_X4_raise (by decide) ⟨rfl, rfl⟩ (c_X4_raise _ G _ _ _ _ o' ho) hc.1 hc.2 (by decide) rfl rfl rfl (Nat.le_of_ble_eq_true rfl) ⟨Nat.le_refl _, Nat.le_refl _⟩ hl hr hs⟩) (fun S10 h => ?_)
        refine m_aload_n C (dOf DX4_swapHead 23 rfl) rfl 0 rfl ?_
        refine m_bipush C (dOf DX4_swapHead 24 rfl) (v := 14) kb_14 ?_
        refine m_iconst C (dOf DX4_swapHead 25 rfl) (v := 1) ki_1 ?_
        obtain ⟨hc, h⟩ := ck_spec h
        refine m_cV (st := []) h (fun o' ho H locs ls hl hr hs => ⟨_, m_runV C (dOf DX4_swapHead 26 rfl) km_X4_136 ky_X4_raise (by decide) ⟨rfl, rfl⟩ (c_X4_raise _ G _ _ _ _ o' ho) hc.1 hc.2 (by decide) rfl rfl rfl (Nat.le_of_ble_eq_true rfl) ⟨Nat.le_refl _, Nat.le_refl _⟩ hl hr hs⟩) (fun S11 h => ?_)
        refine m_aload_n C (dOf DX4_swapHead 27 rfl) rfl 0 rfl ?_
        refine m_aload_n C (dOf DX4_swapHead 28 rfl) rfl 0 rfl ?_
        refine m_gI C (dOf DX4_swapHead 29 rfl) kf_X4_75 fg_4_12 h (fun v12 h => ?_)
        obtain ⟨hc, h⟩ := ck_spec h
        refine m_cN (st := []) h (fun o' ho H locs ls hl hr hs => ⟨_, m_runV C (dOf DX4_swapHead 30 rfl) km_X4_46 ky_X4_pageAt (by decide) ⟨rfl, rfl⟩ (c_X4_pageAt _ G _ _ _ o' ho) hc.1 hc.2 (by decide) rfl rfl rfl (Nat.le_of_ble_eq_true rfl) ⟨Nat.le_refl _, Nat.le_refl _⟩ hl hr hs⟩) (fun a13 h => ?_)
        refine m_astore_n C (dOf DX4_swapHead 31 rfl) rfl (by decide) (lv' := [(2, .ref (G.1 + a13)), (0, .ref (G.1 + b0)), (1, .int p1)]) rfl ?_
        refine m_aload_n C (dOf DX4_swapHead 32 rfl) rfl 1 rfl ?_
        refine m_gR C (dOf DX4_swapHead 33 rfl) kf_X4_38 fg_4_6 h (fun a14 h => ?_)
        obtain ⟨hc, h⟩ := ck_spec h
        refine m_cV (st := []) h (fun o' ho H locs ls hl hr hs => ⟨_, m_runV C (dOf DX4_swapHead 34 rfl) km_X4_50 ky_X3_clear (by decide) ⟨rfl, rfl⟩ (c_X3_clear _ G _ _ o' ho) hc.1 hc.2 (by decide) rfl rfl rfl (Nat.le_of_ble_eq_true rfl) ⟨Nat.le_refl _, Nat.le_refl _⟩ hl hr hs⟩) (fun S15 h => ?_)
        refine m_aload_n C (dOf DX4_swapHead 35 rfl) rfl 1 rfl ?_
        refine m_gR C (dOf DX4_swapHead 36 rfl) kf_X4_11 fg_4_0 h (fun a16 h => ?_)
        refine m_aload_n C (dOf DX4_swapHead 37 rfl) rfl 1 rfl ?_
        refine m_gI C (dOf DX4_swapHead 38 rfl) kf_X4_75 fg_4_12 h (fun v17 h => ?_)
        refine m_aload_n C (dOf DX4_swapHead 39 rfl) rfl 1 rfl ?_
        refine m_gR C (dOf DX4_swapHead 40 rfl) kf_X4_38 fg_4_6 h (fun a18 h => ?_)
        refine m_sR C (dOf DX4_swapHead 41 rfl) (by decide) h (fun S19 h => ?_)
        refine m_aload_n C (dOf DX4_swapHead 42 rfl) rfl 1 rfl ?_
        refine m_aload_n C (dOf DX4_swapHead 43 rfl) rfl 0 rfl ?_
        refine m_pR C (dOf DX4_swapHead 44 rfl) kf_X4_38 fp_4_6 h (fun S20 h => ?_)
        refine m_aload_n C (dOf DX4_swapHead 45 rfl) rfl 1 rfl ?_
        refine m_iconst C (dOf DX4_swapHead 46 rfl) (v := 0) ki_0 ?_
        refine m_pI C (dOf DX4_swapHead 47 rfl) kf_X4_58 fp_4_7 h (fun S21 h => ?_)
        refine m_aload_n C (dOf DX4_swapHead 48 rfl) rfl 1 rfl ?_
        refine m_gI C (dOf DX4_swapHead 49 rfl) kf_X4_78 fg_4_13 h (fun v22 h => ?_)
        refine m_iconst C (dOf DX4_swapHead 50 rfl) (v := 1) ki_1 ?_
        refine m_jn (J := fun (x23 : St) => WM X G 3 0 0 (wQ X G (qI G o) 0 0) 119 [(0, .ref (G.1 + b0))] [] x23) h (fun x23 h => ?_) (fun j23 hj23 h => ?_)
        · refine m_aload_n C (dOf DX4_swapHead 63 rfl) rfl 0 rfl ?_
          refine m_gR C (dOf DX4_swapHead 64 rfl) kf_X4_38 fg_4_6 h (fun a24 h => ?_)
          refine m_iconst C (dOf DX4_swapHead 65 rfl) (v := 0) ki_0 ?_
          obtain ⟨hc, h⟩ := ck_spec h
          refine m_cP (st := []) h (fun o' ho H locs ls hl hr hs => ⟨_, m_runV C (dOf DX4_swapHead 66 rfl) km_X4_146 ky_X3_recordsFrom (by decide) ⟨rfl, rfl⟩ (c_X3_recordsFrom _ G _ _ _ o' ho) hc.1 hc.2 (by decide) rfl rfl rfl (Nat.le_of_ble_eq_true rfl) ⟨Nat.le_refl _, Nat.le_refl _⟩ hl hr hs⟩) (fun v25 h => ?_)
          exact m_iret C rfl (dOf DX4_swapHead 67 rfl) h
        refine m_icmple C (dOf DX4_swapHead 51 rfl) (tgt := 119) rfl h (fun h => ?_) (fun h => ?_)
        · exact m_sub [1] rfl (hj23 _ h)
        · refine m_aload_n C (dOf DX4_swapHead 52 rfl) rfl 1 rfl ?_
          refine m_aload_n C (dOf DX4_swapHead 53 rfl) rfl 1 rfl ?_
          refine m_iconst C (dOf DX4_swapHead 54 rfl) (v := 1) ki_1 ?_
          obtain ⟨hc, h⟩ := ck_spec h
          refine m_cP (st := [.ref (G.1 + b0)]) h (fun o' ho H locs ls hl hr hs => ⟨_, m_runV C (dOf DX4_swapHead 55 rfl) km_X4_98 ky_X4_placeOf (by decide) ⟨rfl, rfl⟩ (c_X4_placeOf _ G _ _ _ o' ho) hc.1 hc.2 (by decide) rfl rfl rfl (Nat.le_of_ble_eq_true rfl) ⟨Nat.le_refl _, Nat.le_refl _⟩ hl hr hs⟩) (fun v26 h => ?_)
          refine m_pI C (dOf DX4_swapHead 56 rfl) kf_X4_75 fp_4_12 h (fun S27 h => ?_)
          refine m_aload_n C (dOf DX4_swapHead 57 rfl) rfl 1 rfl ?_
          refine m_dup C (dOf DX4_swapHead 58 rfl) rfl ?_
          refine m_gI C (dOf DX4_swapHead 59 rfl) kf_X4_78 fg_4_13 h (fun v28 h => ?_)
          refine m_iconst C (dOf DX4_swapHead 60 rfl) (v := 1) ki_1 ?_
          refine m_isub C (dOf DX4_swapHead 61 rfl) h (fun v29 h => ?_)
          refine m_pI C (dOf DX4_swapHead 62 rfl) kf_X4_78 fp_4_13 h (fun S30 h => ?_)
          exact m_sub [1] rfl (hj23 _ h)
      · exact m_sub [] rfl (hj2 _ h)
/-- TraceRing$Ring.readNext()I -/
def f_X4_readNext (S : St) (b0 : Nat) : Option (Int32 × St) :=
  lp_ (fun self1 (x1 : St) =>
    gI_ x1 b0 4 7 fun v2 =>
    gR_ x1 b0 4 6 fun a3 =>
    gI_ x1 a3 3 8 fun v4 =>
    if v4 ≤ v2 then
      rt_ ((-1), x1)
    else
      gI_ x1 b0 4 7 fun v5 =>
      gI_ x1 b0 4 7 fun v6 =>
      lt_ (v6 + 1 : Int32) fun v7 =>
      pI_ x1 b0 4 7 v7 fun S8 =>
      gR_ S8 b0 4 6 fun a9 =>
      ck_ S8 a9 3 <| cP_ (f_X3_isRecord S8 a9 v5) fun v10 =>
      jn_ (fun (x11 : St) =>
        self1 (x11)
      ) fun j11 =>
      if v10 = 0 then
        j11 (S8)
      else
        gI_ S8 b0 4 14 fun v12 =>
        gR_ S8 b0 4 6 fun a13 =>
        gR_ S8 a13 3 2 fun a14 =>
        cP_ (f_X8_at S8 a14 v5) fun v15 =>
        lt_ (v12 >>> (v15 &&& 31) : Int32) fun v16 =>
        lt_ (v16 &&& 1 : Int32) fun v17 =>
        if v17 = 1 then
          gR_ S8 b0 4 5 fun a19 =>
          gR_ S8 b0 4 6 fun a20 =>
          ck_ S8 a19 1 <| cV_ (f_X1_note S8 a19 a20 v5) fun S21 =>
          ck_ S21 b0 4 <| cV_ (f_X4_raise S21 b0 11 1) fun S22 =>
          gR_ S22 b0 4 5 fun a23 =>
          gI_ S22 a23 1 1 fun v24 =>
          rt_ (v24, S22)
        else
          ck_ S8 b0 4 <| cV_ (f_X4_raise S8 b0 10 1) fun S18 =>
          j11 (S18)
  ) FU (S)
set_option maxRecDepth 100000 in
set_option maxHeartbeats 4000000 in
theorem c_X4_readNext (l : Launch) (G : Gx) (S : St) (b0 : Nat) (o : (Int32 × St)) (h : f_X4_readNext S b0 = some o) : Met l yX4_readNext (Cond.code yX4_readNext cX4_readNext 2 (some (.int)) :: wAll) ({ frames := 2, cells := 0, slots := 0, locals := 47 } : Room) (va_Pc [.ref (G.1 + b0)] (wPre G S)) (qI G o) 0 0 (wA G) := by
  refine m_start (by decide +kernel) (Nat.le_of_ble_eq_true rfl) (fun X C => ?_)
  unfold f_X4_readNext at h
  show WM X G 2 0 0 (wQ X G (qI G o) 0 0) 0 [(0, .ref (G.1 + b0))] [] S
  refine m_sub [0] rfl (m_lp (J := fun (x1 : St) => WM X G 2 0 0 (wQ X G (qI G o) 0 0) 0 [(0, .ref (G.1 + b0))] [] x1) h (fun self1 hself1 x1 h => ?_))
  refine m_aload_n C (dOf DX4_readNext 0 rfl) rfl 0 rfl ?_
  refine m_gI C (dOf DX4_readNext 1 rfl) kf_X4_58 fg_4_7 h (fun v2 h => ?_)
  refine m_aload_n C (dOf DX4_readNext 2 rfl) rfl 0 rfl ?_
  refine m_gR C (dOf DX4_readNext 3 rfl) kf_X4_38 fg_4_6 h (fun a3 h => ?_)
  refine m_gI C (dOf DX4_readNext 4 rfl) kf_X4_180 fg_3_8 h (fun v4 h => ?_)
  refine m_icmpge C (dOf DX4_readNext 5 rfl) (tgt := 99) rfl h (fun h => ?_) (fun h => ?_)
  · refine m_iconst C (dOf DX4_readNext 51 rfl) (v := (-1)) ki_m1 ?_
    exact m_iret C rfl (dOf DX4_readNext 52 rfl) h
  · refine m_aload_n C (dOf DX4_readNext 6 rfl) rfl 0 rfl ?_
    refine m_gI C (dOf DX4_readNext 7 rfl) kf_X4_58 fg_4_7 h (fun v5 h => ?_)
    refine m_istore_n C (dOf DX4_readNext 8 rfl) rfl (by decide) (lv' := [(1, .int v5), (0, .ref (G.1 + b0))]) rfl ?_
    refine m_aload_n C (dOf DX4_readNext 9 rfl) rfl 1 rfl ?_
    refine m_dup C (dOf DX4_readNext 10 rfl) rfl ?_
    refine m_gI C (dOf DX4_readNext 11 rfl) kf_X4_58 fg_4_7 h (fun v6 h => ?_)
    refine m_iconst C (dOf DX4_readNext 12 rfl) (v := 1) ki_1 ?_
    refine m_iadd C (dOf DX4_readNext 13 rfl) h (fun v7 h => ?_)
    refine m_pI C (dOf DX4_readNext 14 rfl) kf_X4_58 fp_4_7 h (fun S8 h => ?_)
    refine m_aload_n C (dOf DX4_readNext 15 rfl) rfl 1 rfl ?_
    refine m_gR C (dOf DX4_readNext 16 rfl) kf_X4_38 fg_4_6 h (fun a9 h => ?_)
    refine m_iload_n C (dOf DX4_readNext 17 rfl) rfl 0 rfl ?_
    obtain ⟨hc, h⟩ := ck_spec h
    refine m_cP (st := []) h (fun o' ho H locs ls hl hr hs => ⟨_, m_runV C (dOf DX4_readNext 18 rfl) km_X4_197 ky_X3_isRecord (by decide) ⟨rfl, rfl⟩ (c_X3_isRecord _ G _ _ _ o' ho) hc.1 hc.2 (by decide) rfl rfl rfl (Nat.le_of_ble_eq_true rfl) ⟨Nat.le_refl _, Nat.le_refl _⟩ hl hr hs⟩) (fun v10 h => ?_)
    refine m_jn (J := fun (x11 : St) => WM X G 2 0 0 (wQ X G (qI G o) 0 0) 96 [(0, .ref (G.1 + b0))] [] x11) h (fun x11 h => ?_) (fun j11 hj11 h => ?_)
    · refine m_goto C (dOf DX4_readNext 50 rfl) (tgt := 0) rfl ?_
      exact m_sub [0] rfl (hself1 _ h)
    refine m_ifeq C (dOf DX4_readNext 19 rfl) (tgt := 96) rfl h (fun h => ?_) (fun h => ?_)
    · exact m_sub [1] rfl (hj11 _ h)
    · refine m_aload_n C (dOf DX4_readNext 20 rfl) rfl 1 rfl ?_
      refine m_gI C (dOf DX4_readNext 21 rfl) kf_X4_81 fg_4_14 h (fun v12 h => ?_)
      refine m_aload_n C (dOf DX4_readNext 22 rfl) rfl 1 rfl ?_
      refine m_gR C (dOf DX4_readNext 23 rfl) kf_X4_38 fg_4_6 h (fun a13 h => ?_)
      refine m_gR C (dOf DX4_readNext 24 rfl) kf_X4_113 fg_3_2 h (fun a14 h => ?_)
      refine m_iload_n C (dOf DX4_readNext 25 rfl) rfl 0 rfl ?_
      refine m_cP (st := [.int v12]) h (fun o' ho H locs ls hl hr hs => ⟨_, m_runSN C (dOf DX4_readNext 26 rfl) kn_X4_102 ks_X8_at (by decide) ⟨rfl, rfl⟩ (c_X8_at _ G _ _ _ o' ho) rfl rfl (Nat.le_of_ble_eq_true rfl) ⟨Nat.le_refl _, Nat.le_refl _⟩ hl hr hs⟩) (fun v15 h => ?_)
      refine m_ishr C (dOf DX4_readNext 27 rfl) h (fun v16 h => ?_)
      refine m_iconst C (dOf DX4_readNext 28 rfl) (v := 1) ki_1 ?_
      refine m_iand C (dOf DX4_readNext 29 rfl) h (fun v17 h => ?_)
      refine m_iconst C (dOf DX4_readNext 30 rfl) (v := 1) ki_1 ?_
      refine m_icmpne C (dOf DX4_readNext 31 rfl) (tgt := 89) rfl h (fun h => ?_) (fun h => ?_)
      · refine m_aload_n C (dOf DX4_readNext 46 rfl) rfl 1 rfl ?_
        refine m_bipush C (dOf DX4_readNext 47 rfl) (v := 10) kb_10 ?_
        refine m_iconst C (dOf DX4_readNext 48 rfl) (v := 1) ki_1 ?_
        obtain ⟨hc, h⟩ := ck_spec h
        refine m_cV (st := []) h (fun o' ho H locs ls hl hr hs => ⟨_, m_runV C (dOf DX4_readNext 49 rfl) km_X4_136 ky_X4_raise (by decide) ⟨rfl, rfl⟩ (c_X4_raise _ G _ _ _ _ o' ho) hc.1 hc.2 (by decide) rfl rfl rfl (Nat.le_of_ble_eq_true rfl) ⟨Nat.le_refl _, Nat.le_refl _⟩ hl hr hs⟩) (fun S18 h => ?_)
        exact m_sub [1] rfl (hj11 _ h)
      · refine m_aload_n C (dOf DX4_readNext 32 rfl) rfl 1 rfl ?_
        refine m_gR C (dOf DX4_readNext 33 rfl) kf_X4_33 fg_4_5 h (fun a19 h => ?_)
        refine m_aload_n C (dOf DX4_readNext 34 rfl) rfl 1 rfl ?_
        refine m_gR C (dOf DX4_readNext 35 rfl) kf_X4_38 fg_4_6 h (fun a20 h => ?_)
        refine m_iload_n C (dOf DX4_readNext 36 rfl) rfl 0 rfl ?_
        obtain ⟨hc, h⟩ := ck_spec h
        refine m_cV (st := []) h (fun o' ho H locs ls hl hr hs => ⟨_, m_runV C (dOf DX4_readNext 37 rfl) km_X4_200 ky_X1_note (by decide) ⟨rfl, rfl⟩ (c_X1_note _ G _ _ _ _ o' ho) hc.1 hc.2 (by decide) rfl rfl rfl (Nat.le_of_ble_eq_true rfl) ⟨Nat.le_refl _, Nat.le_refl _⟩ hl hr hs⟩) (fun S21 h => ?_)
        refine m_aload_n C (dOf DX4_readNext 38 rfl) rfl 1 rfl ?_
        refine m_bipush C (dOf DX4_readNext 39 rfl) (v := 11) kb_11 ?_
        refine m_iconst C (dOf DX4_readNext 40 rfl) (v := 1) ki_1 ?_
        obtain ⟨hc, h⟩ := ck_spec h
        refine m_cV (st := []) h (fun o' ho H locs ls hl hr hs => ⟨_, m_runV C (dOf DX4_readNext 41 rfl) km_X4_136 ky_X4_raise (by decide) ⟨rfl, rfl⟩ (c_X4_raise _ G _ _ _ _ o' ho) hc.1 hc.2 (by decide) rfl rfl rfl (Nat.le_of_ble_eq_true rfl) ⟨Nat.le_refl _, Nat.le_refl _⟩ hl hr hs⟩) (fun S22 h => ?_)
        refine m_aload_n C (dOf DX4_readNext 42 rfl) rfl 1 rfl ?_
        refine m_gR C (dOf DX4_readNext 43 rfl) kf_X4_33 fg_4_5 h (fun a23 h => ?_)
        refine m_gI C (dOf DX4_readNext 44 rfl) kf_X4_204 fg_1_1 h (fun v24 h => ?_)
        exact m_iret C rfl (dOf DX4_readNext 45 rfl) h
/-- TraceRing$Ring.readSome(I)Z -/
def f_X4_readSome (S : St) (b0 : Nat) (p1 : Int32) : Option (Int32 × St) :=
  lp_ (fun self1 (x1 : Int32 × St) =>
    jn_ (fun (x2 : St) =>
      jn_ (fun (x3 : Int32) =>
        rz_ x3 x2
      ) fun j3 =>
      if x1.1 ≤ 0 then
        j3 (0)
      else
        j3 (1)
    ) fun j2 =>
    if p1 ≤ x1.1 then
      j2 (x1.2)
    else
      ck_ x1.2 b0 4 <| cI_ (f_X4_readNext x1.2 b0) fun v5 S4 =>
      if v5 = (-1) then
        j2 (S4)
      else
        lt_ (x1.1 + 1) fun v6 =>
        self1 (v6, S4)
  ) FU (0, S)
set_option maxRecDepth 100000 in
set_option maxHeartbeats 4000000 in
theorem c_X4_readSome (l : Launch) (G : Gx) (S : St) (b0 : Nat) (p1 : Int32) (o : (Int32 × St)) (h : f_X4_readSome S b0 p1 = some o) : Met l yX4_readSome (Cond.code yX4_readSome cX4_readSome 3 (some (.boolean)) :: wAll) ({ frames := 3, cells := 0, slots := 0, locals := 68 } : Room) (va_Pc [.ref (G.1 + b0), .int p1] (wPre G S)) (qI G o) 0 0 (wA G) := by
  refine m_start (by decide +kernel) (Nat.le_of_ble_eq_true rfl) (fun X C => ?_)
  unfold f_X4_readSome at h
  show WM X G 3 0 0 (wQ X G (qI G o) 0 0) 0 [(0, .ref (G.1 + b0)), (1, .int p1)] [] S
  refine m_iconst C (dOf DX4_readSome 0 rfl) (v := 0) ki_0 ?_
  refine m_istore_n C (dOf DX4_readSome 1 rfl) rfl (by decide) (lv' := [(2, .int 0), (0, .ref (G.1 + b0)), (1, .int p1)]) rfl ?_
  refine m_sub [1, 2, 0] rfl (m_lp (J := fun (x1 : Int32 × St) => WM X G 3 0 0 (wQ X G (qI G o) 0 0) 2 [(0, .ref (G.1 + b0)), (1, .int p1), (2, .int x1.1)] [] x1.2) h (fun self1 hself1 x1 h => ?_))
  refine m_iload_n C (dOf DX4_readSome 2 rfl) rfl 2 rfl ?_
  refine m_iload_n C (dOf DX4_readSome 3 rfl) rfl 1 rfl ?_
  refine m_jn (J := fun (x2 : St) => WM X G 3 0 0 (wQ X G (qI G o) 0 0) 21 [(2, .int x1.1)] [] x2) h (fun x2 h => ?_) (fun j2 hj2 h => ?_)
  · refine m_iload_n C (dOf DX4_readSome 11 rfl) rfl 0 rfl ?_
    refine m_jn (J := fun (x3 : Int32) => WM X G 3 0 0 (wQ X G (qI G o) 0 0) 30 [] [.int x3] x2) h (fun x3 h => ?_) (fun j3 hj3 h => ?_)
    · exact m_zret C rfl (dOf DX4_readSome 16 rfl) h
    refine m_ifle C (dOf DX4_readSome 12 rfl) (tgt := 29) rfl h (fun h => ?_) (fun h => ?_)
    · refine m_iconst C (dOf DX4_readSome 15 rfl) (v := 0) ki_0 ?_
      exact m_sub [] rfl (hj3 _ h)
    · refine m_iconst C (dOf DX4_readSome 13 rfl) (v := 1) ki_1 ?_
      refine m_goto C (dOf DX4_readSome 14 rfl) (tgt := 30) rfl ?_
      exact m_sub [] rfl (hj3 _ h)
  refine m_icmpge C (dOf DX4_readSome 4 rfl) (tgt := 21) rfl h (fun h => ?_) (fun h => ?_)
  · exact m_sub [2] rfl (hj2 _ h)
  · refine m_aload_n C (dOf DX4_readSome 5 rfl) rfl 0 rfl ?_
    obtain ⟨hc, h⟩ := ck_spec h
    refine m_cI (st := []) h (fun o' ho H locs ls hl hr hs => ⟨_, m_runV C (dOf DX4_readSome 6 rfl) km_X4_206 ky_X4_readNext (by decide) ⟨rfl, rfl⟩ (c_X4_readNext _ G _ _ o' ho) hc.1 hc.2 (by decide) rfl rfl rfl (Nat.le_of_ble_eq_true rfl) ⟨Nat.le_refl _, Nat.le_refl _⟩ hl hr hs⟩) (fun v5 S4 h => ?_)
    refine m_iconst C (dOf DX4_readSome 7 rfl) (v := (-1)) ki_m1 ?_
    refine m_icmpeq C (dOf DX4_readSome 8 rfl) (tgt := 21) rfl h (fun h => ?_) (fun h => ?_)
    · exact m_sub [2] rfl (hj2 _ h)
    · refine m_iinc C (dOf DX4_readSome 9 rfl) (w := 1) ki_1 2 rfl (by decide) h (fun v6 h => ⟨[(2, .int v6), (0, .ref (G.1 + b0)), (1, .int p1)], rfl, ?_⟩)
      refine m_goto C (dOf DX4_readSome 10 rfl) (tgt := 2) rfl ?_
      exact m_sub [1, 2, 0] rfl (hself1 _ h)
/-- TraceRing$Ring.maskBy(I)Z -/
def f_X4_maskBy (S : St) (b0 : Nat) (p1 : Int32) : Option (Int32 × St) :=
  jn_ (fun (x1 : Unit) =>
    rz_ 0 S
  ) fun j1 =>
  if p1 < 0 then
    j1 ()
  else
    if 15 < p1 then
      j1 ()
    else
      gI_ S b0 4 14 fun v2 =>
      if p1 = v2 then
        j1 ()
      else
        pI_ S b0 4 14 p1 fun S3 =>
        rz_ 1 S3
set_option maxRecDepth 100000 in
set_option maxHeartbeats 4000000 in
theorem c_X4_maskBy (l : Launch) (G : Gx) (S : St) (b0 : Nat) (p1 : Int32) (o : (Int32 × St)) (h : f_X4_maskBy S b0 p1 = some o) : Met l yX4_maskBy (Cond.code yX4_maskBy cX4_maskBy 2 (some (.boolean)) :: wAll) ({ frames := 0, cells := 0, slots := 0, locals := 0 } : Room) (va_Pc [.ref (G.1 + b0), .int p1] (wPre G S)) (qI G o) 0 0 (wA G) := by
  refine m_start (by decide +kernel) (Nat.le_of_ble_eq_true rfl) (fun X C => ?_)
  unfold f_X4_maskBy at h
  show WM X G 2 0 0 (wQ X G (qI G o) 0 0) 0 [(0, .ref (G.1 + b0)), (1, .int p1)] [] S
  refine m_iload_n C (dOf DX4_maskBy 0 rfl) rfl 1 rfl ?_
  refine m_jn (J := fun (x1 : Unit) => WM X G 2 0 0 (wQ X G (qI G o) 0 0) 18 [] [] S) h (fun x1 h => ?_) (fun j1 hj1 h => ?_)
  · refine m_iconst C (dOf DX4_maskBy 9 rfl) (v := 0) ki_0 ?_
    exact m_zret C rfl (dOf DX4_maskBy 10 rfl) h
  refine m_iflt C (dOf DX4_maskBy 1 rfl) (tgt := 18) rfl h (fun h => ?_) (fun h => ?_)
  · exact m_sub [] rfl (hj1 _ h)
  · refine m_iload_n C (dOf DX4_maskBy 2 rfl) rfl 1 rfl ?_
    refine m_bipush C (dOf DX4_maskBy 3 rfl) (v := 15) kb_15 ?_
    refine m_icmpgt C (dOf DX4_maskBy 4 rfl) (tgt := 18) rfl h (fun h => ?_) (fun h => ?_)
    · exact m_sub [] rfl (hj1 _ h)
    · refine m_iload_n C (dOf DX4_maskBy 5 rfl) rfl 1 rfl ?_
      refine m_aload_n C (dOf DX4_maskBy 6 rfl) rfl 0 rfl ?_
      refine m_gI C (dOf DX4_maskBy 7 rfl) kf_X4_81 fg_4_14 h (fun v2 h => ?_)
      refine m_icmpne C (dOf DX4_maskBy 8 rfl) (tgt := 20) rfl h (fun h => ?_) (fun h => ?_)
      · refine m_aload_n C (dOf DX4_maskBy 11 rfl) rfl 0 rfl ?_
        refine m_iload_n C (dOf DX4_maskBy 12 rfl) rfl 1 rfl ?_
        refine m_pI C (dOf DX4_maskBy 13 rfl) kf_X4_81 fp_4_14 h (fun S3 h => ?_)
        refine m_iconst C (dOf DX4_maskBy 14 rfl) (v := 1) ki_1 ?_
        exact m_zret C rfl (dOf DX4_maskBy 15 rfl) h
      · exact m_sub [] rfl (hj1 _ h)
/-- TraceRing$Ring.turnByOne()V -/
def f_X4_turnByOne (S : St) (b0 : Nat) : Option St :=
  ck_ S b0 4 <| cP_ (f_X4_pageAt S b0 0) fun a1 =>
  lp_ (fun self2 (x2 : Int32 × St) =>
    gI_ x2.2 b0 4 8 fun v3 =>
    jn_ (fun (x4 : Unit) =>
      gI_ x2.2 b0 4 8 fun v5 =>
      jn_ (fun (x6 : St) =>
        rt_ x6
      ) fun j6 =>
      if v5 < 1 then
        j6 (x2.2)
      else
        gI_ x2.2 b0 4 8 fun v7 =>
        gR_ x2.2 b0 4 0 fun a8 =>
        al_ x2.2 a8 15 fun v9 =>
        if v9 < v7 then
          j6 (x2.2)
        else
          gR_ x2.2 b0 4 0 fun a10 =>
          gI_ x2.2 b0 4 8 fun v11 =>
          lt_ (v11 - 1 : Int32) fun v12 =>
          sR_ x2.2 a10 15 v12 a1 3 fun S13 =>
          j6 (S13)
    ) fun j4 =>
    if v3 ≤ x2.1 then
      j4 ()
    else
      gR_ x2.2 b0 4 0 fun a14 =>
      al_ x2.2 a14 15 fun v15 =>
      if v15 ≤ x2.1 then
        j4 ()
      else
        gR_ x2.2 b0 4 0 fun a16 =>
        lt_ (x2.1 - 1 : Int32) fun v17 =>
        gR_ x2.2 b0 4 0 fun a18 =>
        aR_ x2.2 a18 15 x2.1 fun a19 =>
        sR_ x2.2 a16 15 v17 a19 3 fun S20 =>
        lt_ (x2.1 + 1) fun v21 =>
        self2 (v21, S20)
  ) FU (1, S)
set_option maxRecDepth 100000 in
set_option maxHeartbeats 4000000 in
theorem c_X4_turnByOne (l : Launch) (G : Gx) (S : St) (b0 : Nat) (o : St) (h : f_X4_turnByOne S b0 = some o) : Met l yX4_turnByOne (Cond.code yX4_turnByOne cX4_turnByOne 3 none :: wAll) ({ frames := 1, cells := 0, slots := 0, locals := 21 } : Room) (va_Pc [.ref (G.1 + b0)] (wPre G S)) (qV G o) 0 0 (wA G) := by
  refine m_start (by decide +kernel) (Nat.le_of_ble_eq_true rfl) (fun X C => ?_)
  unfold f_X4_turnByOne at h
  show WM X G 3 0 0 (wQ X G (qV G o) 0 0) 0 [(0, .ref (G.1 + b0))] [] S
  refine m_aload_n C (dOf DX4_turnByOne 0 rfl) rfl 0 rfl ?_
  refine m_iconst C (dOf DX4_turnByOne 1 rfl) (v := 0) ki_0 ?_
  obtain ⟨hc, h⟩ := ck_spec h
  refine m_cN (st := []) h (fun o' ho H locs ls hl hr hs => ⟨_, m_runV C (dOf DX4_turnByOne 2 rfl) km_X4_46 ky_X4_pageAt (by decide) ⟨rfl, rfl⟩ (c_X4_pageAt _ G _ _ _ o' ho) hc.1 hc.2 (by decide) rfl rfl rfl (Nat.le_of_ble_eq_true rfl) ⟨Nat.le_refl _, Nat.le_refl _⟩ hl hr hs⟩) (fun a1 h => ?_)
  refine m_astore_n C (dOf DX4_turnByOne 3 rfl) rfl (by decide) (lv' := [(1, .ref (G.1 + a1)), (0, .ref (G.1 + b0))]) rfl ?_
  refine m_iconst C (dOf DX4_turnByOne 4 rfl) (v := 1) ki_1 ?_
  refine m_istore_n C (dOf DX4_turnByOne 5 rfl) rfl (by decide) (lv' := [(2, .int 1), (1, .ref (G.1 + a1)), (0, .ref (G.1 + b0))]) rfl ?_
  refine m_sub [2, 1, 0] rfl (m_lp (J := fun (x2 : Int32 × St) => WM X G 3 0 0 (wQ X G (qV G o) 0 0) 8 [(0, .ref (G.1 + b0)), (1, .ref (G.1 + a1)), (2, .int x2.1)] [] x2.2) h (fun self2 hself2 x2 h => ?_))
  refine m_iload_n C (dOf DX4_turnByOne 6 rfl) rfl 2 rfl ?_
  refine m_aload_n C (dOf DX4_turnByOne 7 rfl) rfl 0 rfl ?_
  refine m_gI C (dOf DX4_turnByOne 8 rfl) kf_X4_62 fg_4_8 h (fun v3 h => ?_)
  refine m_jn (J := fun (x4 : Unit) => WM X G 3 0 0 (wQ X G (qV G o) 0 0) 45 [(0, .ref (G.1 + b0)), (1, .ref (G.1 + a1))] [] x2.2) h (fun x4 h => ?_) (fun j4 hj4 h => ?_)
  · refine m_aload_n C (dOf DX4_turnByOne 27 rfl) rfl 0 rfl ?_
    refine m_gI C (dOf DX4_turnByOne 28 rfl) kf_X4_62 fg_4_8 h (fun v5 h => ?_)
    refine m_iconst C (dOf DX4_turnByOne 29 rfl) (v := 1) ki_1 ?_
    refine m_jn (J := fun (x6 : St) => WM X G 3 0 0 (wQ X G (qV G o) 0 0) 77 [] [] x6) h (fun x6 h => ?_) (fun j6 hj6 h => ?_)
    · exact m_vret C rfl (dOf DX4_turnByOne 45 rfl) h
    refine m_icmplt C (dOf DX4_turnByOne 30 rfl) (tgt := 77) rfl h (fun h => ?_) (fun h => ?_)
    · exact m_sub [] rfl (hj6 _ h)
    · refine m_aload_n C (dOf DX4_turnByOne 31 rfl) rfl 0 rfl ?_
      refine m_gI C (dOf DX4_turnByOne 32 rfl) kf_X4_62 fg_4_8 h (fun v7 h => ?_)
      refine m_aload_n C (dOf DX4_turnByOne 33 rfl) rfl 0 rfl ?_
      refine m_gR C (dOf DX4_turnByOne 34 rfl) kf_X4_11 fg_4_0 h (fun a8 h => ?_)
      refine m_al C (dOf DX4_turnByOne 35 rfl) (by decide) h (fun v9 h => ?_)
      refine m_icmpgt C (dOf DX4_turnByOne 36 rfl) (tgt := 77) rfl h (fun h => ?_) (fun h => ?_)
      · exact m_sub [] rfl (hj6 _ h)
      · refine m_aload_n C (dOf DX4_turnByOne 37 rfl) rfl 0 rfl ?_
        refine m_gR C (dOf DX4_turnByOne 38 rfl) kf_X4_11 fg_4_0 h (fun a10 h => ?_)
        refine m_aload_n C (dOf DX4_turnByOne 39 rfl) rfl 0 rfl ?_
        refine m_gI C (dOf DX4_turnByOne 40 rfl) kf_X4_62 fg_4_8 h (fun v11 h => ?_)
        refine m_iconst C (dOf DX4_turnByOne 41 rfl) (v := 1) ki_1 ?_
        refine m_isub C (dOf DX4_turnByOne 42 rfl) h (fun v12 h => ?_)
        refine m_aload_n C (dOf DX4_turnByOne 43 rfl) rfl 1 rfl ?_
        refine m_sR C (dOf DX4_turnByOne 44 rfl) (by decide) h (fun S13 h => ?_)
        exact m_sub [] rfl (hj6 _ h)
  refine m_icmpge C (dOf DX4_turnByOne 9 rfl) (tgt := 45) rfl h (fun h => ?_) (fun h => ?_)
  · exact m_sub [0, 1] rfl (hj4 _ h)
  · refine m_iload_n C (dOf DX4_turnByOne 10 rfl) rfl 2 rfl ?_
    refine m_aload_n C (dOf DX4_turnByOne 11 rfl) rfl 0 rfl ?_
    refine m_gR C (dOf DX4_turnByOne 12 rfl) kf_X4_11 fg_4_0 h (fun a14 h => ?_)
    refine m_al C (dOf DX4_turnByOne 13 rfl) (by decide) h (fun v15 h => ?_)
    refine m_icmpge C (dOf DX4_turnByOne 14 rfl) (tgt := 45) rfl h (fun h => ?_) (fun h => ?_)
    · exact m_sub [0, 1] rfl (hj4 _ h)
    · refine m_aload_n C (dOf DX4_turnByOne 15 rfl) rfl 0 rfl ?_
      refine m_gR C (dOf DX4_turnByOne 16 rfl) kf_X4_11 fg_4_0 h (fun a16 h => ?_)
      refine m_iload_n C (dOf DX4_turnByOne 17 rfl) rfl 2 rfl ?_
      refine m_iconst C (dOf DX4_turnByOne 18 rfl) (v := 1) ki_1 ?_
      refine m_isub C (dOf DX4_turnByOne 19 rfl) h (fun v17 h => ?_)
      refine m_aload_n C (dOf DX4_turnByOne 20 rfl) rfl 0 rfl ?_
      refine m_gR C (dOf DX4_turnByOne 21 rfl) kf_X4_11 fg_4_0 h (fun a18 h => ?_)
      refine m_iload_n C (dOf DX4_turnByOne 22 rfl) rfl 2 rfl ?_
      refine m_aR C (dOf DX4_turnByOne 23 rfl) (by decide) h (fun a19 h => ?_)
      refine m_sR C (dOf DX4_turnByOne 24 rfl) (by decide) h (fun S20 h => ?_)
      refine m_iinc C (dOf DX4_turnByOne 25 rfl) (w := 1) ki_1 2 rfl (by decide) h (fun v21 h => ⟨[(2, .int v21), (0, .ref (G.1 + b0)), (1, .ref (G.1 + a1))], rfl, ?_⟩)
      refine m_goto C (dOf DX4_turnByOne 26 rfl) (tgt := 8) rfl ?_
      exact m_sub [1, 2, 0] rfl (hself2 _ h)
/-- TraceRing$Ring.changePages(I)I -/
def f_X4_changePages (S : St) (b0 : Nat) (p1 : Int32) : Option (Int32 × St) :=
  jn_ (fun (x1 : Unit) =>
    rt_ ((-1), S)
  ) fun j1 =>
  if p1 < 2 then
    j1 ()
  else
    if 6 < p1 then
      j1 ()
    else
      gI_ S b0 4 8 fun v2 =>
      if p1 = v2 then
        j1 ()
      else
        gI_ S b0 4 15 fun v3 =>
        if v3 ≤ 0 then
          gI_ S b0 4 13 fun v4 =>
          lt_ (v4 - p1 : Int32) fun v5 =>
          lp_ (fun self6 (x6 : Int32 × Int32 × St) =>
            if x6.2.1 ≤ 0 then
              gI_ x6.2.2 b0 4 12 fun v7 =>
              lp_ (fun self8 (x8 : Int32 × St) =>
                if x8.1 ≤ 0 then
                  pI_ x8.2 b0 4 12 0 fun S9 =>
                  pI_ S9 b0 4 8 p1 fun S10 =>
                  rt_ (x6.1, S10)
                else
                  ck_ x8.2 b0 4 <| cV_ (f_X4_turnByOne x8.2 b0) fun S11 =>
                  lt_ (x8.1 + (-1)) fun v12 =>
                  self8 (v12, S11)
              ) FU (v7, x6.2.2)
            else
              ck_ x6.2.2 b0 4 <| cI_ (f_X4_overwriteHead x6.2.2 b0) fun v14 S13 =>
              lt_ (x6.1 + v14 : Int32) fun v15 =>
              lt_ (x6.2.1 + (-1)) fun v16 =>
              self6 (v15, v16, S13)
          ) FU (0, v5, S)
        else
          j1 ()
set_option maxRecDepth 100000 in
set_option maxHeartbeats 4000000 in
theorem c_X4_changePages (l : Launch) (G : Gx) (S : St) (b0 : Nat) (p1 : Int32) (o : (Int32 × St)) (h : f_X4_changePages S b0 p1 = some o) : Met l yX4_changePages (Cond.code yX4_changePages cX4_changePages 4 (some (.int)) :: wAll) ({ frames := 3, cells := 0, slots := 0, locals := 66 } : Room) (va_Pc [.ref (G.1 + b0), .int p1] (wPre G S)) (qI G o) 0 0 (wA G) := by
  refine m_start (by decide +kernel) (Nat.le_of_ble_eq_true rfl) (fun X C => ?_)
  unfold f_X4_changePages at h
  show WM X G 4 0 0 (wQ X G (qI G o) 0 0) 0 [(0, .ref (G.1 + b0)), (1, .int p1)] [] S
  refine m_iload_n C (dOf DX4_changePages 0 rfl) rfl 1 rfl ?_
  refine m_iconst C (dOf DX4_changePages 1 rfl) (v := 2) ki_2 ?_
  refine m_jn (J := fun (x1 : Unit) => WM X G 4 0 0 (wQ X G (qI G o) 0 0) 26 [] [] S) h (fun x1 h => ?_) (fun j1 hj1 h => ?_)
  · refine m_iconst C (dOf DX4_changePages 13 rfl) (v := (-1)) ki_m1 ?_
    exact m_iret C rfl (dOf DX4_changePages 14 rfl) h
  refine m_icmplt C (dOf DX4_changePages 2 rfl) (tgt := 26) rfl h (fun h => ?_) (fun h => ?_)
  · exact m_sub [] rfl (hj1 _ h)
  · refine m_iload_n C (dOf DX4_changePages 3 rfl) rfl 1 rfl ?_
    refine m_bipush C (dOf DX4_changePages 4 rfl) (v := 6) kb_6 ?_
    refine m_icmpgt C (dOf DX4_changePages 5 rfl) (tgt := 26) rfl h (fun h => ?_) (fun h => ?_)
    · exact m_sub [] rfl (hj1 _ h)
    · refine m_iload_n C (dOf DX4_changePages 6 rfl) rfl 1 rfl ?_
      refine m_aload_n C (dOf DX4_changePages 7 rfl) rfl 0 rfl ?_
      refine m_gI C (dOf DX4_changePages 8 rfl) kf_X4_62 fg_4_8 h (fun v2 h => ?_)
      refine m_icmpeq C (dOf DX4_changePages 9 rfl) (tgt := 26) rfl h (fun h => ?_) (fun h => ?_)
      · exact m_sub [] rfl (hj1 _ h)
      · refine m_aload_n C (dOf DX4_changePages 10 rfl) rfl 0 rfl ?_
        refine m_gI C (dOf DX4_changePages 11 rfl) kf_X4_84 fg_4_15 h (fun v3 h => ?_)
        refine m_ifle C (dOf DX4_changePages 12 rfl) (tgt := 28) rfl h (fun h => ?_) (fun h => ?_)
        · refine m_iconst C (dOf DX4_changePages 15 rfl) (v := 0) ki_0 ?_
          refine m_istore_n C (dOf DX4_changePages 16 rfl) rfl (by decide) (lv' := [(2, .int 0), (0, .ref (G.1 + b0)), (1, .int p1)]) rfl ?_
          refine m_aload_n C (dOf DX4_changePages 17 rfl) rfl 1 rfl ?_
          refine m_gI C (dOf DX4_changePages 18 rfl) kf_X4_78 fg_4_13 h (fun v4 h => ?_)
          refine m_iload_n C (dOf DX4_changePages 19 rfl) rfl 2 rfl ?_
          refine m_isub C (dOf DX4_changePages 20 rfl) h (fun v5 h => ?_)
          refine m_istore_n C (dOf DX4_changePages 21 rfl) rfl (by decide) (lv' := [(3, .int v5), (2, .int 0), (0, .ref (G.1 + b0)), (1, .int p1)]) rfl ?_
          refine m_sub [2, 3, 1, 0] rfl (m_lp (J := fun (x6 : Int32 × Int32 × St) => WM X G 4 0 0 (wQ X G (qI G o) 0 0) 37 [(0, .ref (G.1 + b0)), (1, .int p1), (2, .int x6.1), (3, .int x6.2.1)] [] x6.2.2) h (fun self6 hself6 x6 h => ?_))
          refine m_iload_n C (dOf DX4_changePages 22 rfl) rfl 3 rfl ?_
          refine m_ifle C (dOf DX4_changePages 23 rfl) (tgt := 54) rfl h (fun h => ?_) (fun h => ?_)
          · refine m_aload_n C (dOf DX4_changePages 31 rfl) rfl 0 rfl ?_
            refine m_gI C (dOf DX4_changePages 32 rfl) kf_X4_75 fg_4_12 h (fun v7 h => ?_)
            refine m_istore_n C (dOf DX4_changePages 33 rfl) rfl (by decide) (lv' := [(3, .int v7), (0, .ref (G.1 + b0)), (1, .int p1), (2, .int x6.1)]) rfl ?_
            refine m_sub [1, 2, 3, 0] rfl (m_lp (J := fun (x8 : Int32 × St) => WM X G 4 0 0 (wQ X G (qI G o) 0 0) 59 [(0, .ref (G.1 + b0)), (1, .int p1), (2, .int x6.1), (3, .int x8.1)] [] x8.2) h (fun self8 hself8 x8 h => ?_))
            refine m_iload_n C (dOf DX4_changePages 34 rfl) rfl 3 rfl ?_
            refine m_ifle C (dOf DX4_changePages 35 rfl) (tgt := 73) rfl h (fun h => ?_) (fun h => ?_)
            · refine m_aload_n C (dOf DX4_changePages 40 rfl) rfl 0 rfl ?_
              refine m_iconst C (dOf DX4_changePages 41 rfl) (v := 0) ki_0 ?_
              refine m_pI C (dOf DX4_changePages 42 rfl) kf_X4_75 fp_4_12 h (fun S9 h => ?_)
              refine m_aload_n C (dOf DX4_changePages 43 rfl) rfl 0 rfl ?_
              refine m_iload_n C (dOf DX4_changePages 44 rfl) rfl 1 rfl ?_
              refine m_pI C (dOf DX4_changePages 45 rfl) kf_X4_62 fp_4_8 h (fun S10 h => ?_)
              refine m_iload_n C (dOf DX4_changePages 46 rfl) rfl 2 rfl ?_
              exact m_iret C rfl (dOf DX4_changePages 47 rfl) h
            · refine m_aload_n C (dOf DX4_changePages 36 rfl) rfl 0 rfl ?_
              obtain ⟨hc, h⟩ := ck_spec h
              refine m_cV (st := []) h (fun o' ho H locs ls hl hr hs => ⟨_, m_runV C (dOf DX4_changePages 37 rfl) km_X4_209 ky_X4_turnByOne (by decide) ⟨rfl, rfl⟩ (c_X4_turnByOne _ G _ _ o' ho) hc.1 hc.2 (by decide) rfl rfl rfl (Nat.le_of_ble_eq_true rfl) ⟨Nat.le_refl _, Nat.le_refl _⟩ hl hr hs⟩) (fun S11 h => ?_)
              refine m_iinc C (dOf DX4_changePages 38 rfl) (w := (-1)) ki_m1 3 rfl (by decide) h (fun v12 h => ⟨[(3, .int v12), (0, .ref (G.1 + b0)), (1, .int p1), (2, .int x6.1)], rfl, ?_⟩)
              refine m_goto C (dOf DX4_changePages 39 rfl) (tgt := 59) rfl ?_
              exact m_sub [1, 2, 3, 0] rfl (hself8 _ h)
          · refine m_iload_n C (dOf DX4_changePages 24 rfl) rfl 2 rfl ?_
            refine m_aload_n C (dOf DX4_changePages 25 rfl) rfl 0 rfl ?_
            obtain ⟨hc, h⟩ := ck_spec h
            refine m_cI (st := [.int x6.1]) h (fun o' ho H locs ls hl hr hs => ⟨_, m_runV C (dOf DX4_changePages 26 rfl) km_X4_140 ky_X4_overwriteHead (by decide) ⟨rfl, rfl⟩ (c_X4_overwriteHead _ G _ _ o' ho) hc.1 hc.2 (by decide) rfl rfl rfl (Nat.le_of_ble_eq_true rfl) ⟨Nat.le_refl _, Nat.le_refl _⟩ hl hr hs⟩) (fun v14 S13 h => ?_)
            refine m_iadd C (dOf DX4_changePages 27 rfl) h (fun v15 h => ?_)
            refine m_istore_n C (dOf DX4_changePages 28 rfl) rfl (by decide) (lv' := [(2, .int v15), (0, .ref (G.1 + b0)), (1, .int p1), (3, .int x6.2.1)]) rfl ?_
            refine m_iinc C (dOf DX4_changePages 29 rfl) (w := (-1)) ki_m1 3 rfl (by decide) h (fun v16 h => ⟨[(3, .int v16), (2, .int v15), (0, .ref (G.1 + b0)), (1, .int p1)], rfl, ?_⟩)
            refine m_goto C (dOf DX4_changePages 30 rfl) (tgt := 37) rfl ?_
            exact m_sub [2, 3, 1, 0] rfl (hself6 _ h)
        · exact m_sub [] rfl (hj1 _ h)
/-- TraceRing$Lines.doLine(LTraceRing$Ring;I)Z -/
def f_X2_doLine (S : St) (b0 : Nat) (b1 : Nat) (p2 : Int32) : Option (Int32 × St) :=
  gR_ S b0 2 1 fun a1 =>
  cP_ (f_X8_at S a1 p2) fun v2 =>
  gR_ S b0 2 2 fun a3 =>
  cP_ (f_X8_at S a3 p2) fun v4 =>
  gR_ S b0 2 0 fun a5 =>
  cP_ (f_X8_at S a5 p2) fun v6 =>
  if v6 = 4 then
    ck_ S b1 4 <| cI_ (f_X4_goOn S b1 v2) fun v8 S7 =>
    jn_ (fun (x9 : Int32) =>
      rz_ x9 S7
    ) fun j9 =>
    if v8 = (-1) then
      j9 (0)
    else
      j9 (1)
  else
  if v6 = 5 then
    ck_ S b1 4 <| cI_ (f_X4_takeRoom S b1 v2 v4) fun v11 S10 =>
    jn_ (fun (x12 : Int32) =>
      rz_ x12 S10
    ) fun j12 =>
    if v11 = (-2) then
      j12 (0)
    else
      j12 (1)
  else
  if v6 = 6 then
    ck_ S b1 4 <| cI_ (f_X4_putData S b1 v2 v4) fun v14 S13 =>
    jn_ (fun (x15 : Int32) =>
      rz_ x15 S13
    ) fun j15 =>
    if v14 = (-1) then
      j15 (0)
    else
      j15 (1)
  else
  if v6 = 7 then
    ck_ S b1 4 <| cI_ (f_X4_endInnermost S b1 v2) fun v17 S16 =>
    jn_ (fun (x18 : Int32) =>
      rz_ x18 S16
    ) fun j18 =>
    if v17 = (-1) then
      j18 (0)
    else
      j18 (1)
  else
  if v6 = 8 then
    ck_ S b1 4 <| cI_ (f_X4_dropInnermost S b1 v2) fun v20 S19 =>
    jn_ (fun (x21 : Int32) =>
      rz_ x21 S19
    ) fun j21 =>
    if v20 = (-1) then
      j21 (0)
    else
      j21 (1)
  else
  if v6 = 9 then
    ck_ S b1 4 <| cI_ (f_X4_swapHead S b1 0) fun v23 S22 =>
    jn_ (fun (x24 : Int32) =>
      rz_ x24 S22
    ) fun j24 =>
    if v23 = (-1) then
      j24 (0)
    else
      j24 (1)
  else
  if v6 = 10 then
    ck_ S b1 4 <| cI_ (f_X4_swapHead S b1 1) fun v26 S25 =>
    jn_ (fun (x27 : Int32) =>
      rz_ x27 S25
    ) fun j27 =>
    if v26 = (-1) then
      j27 (0)
    else
      j27 (1)
  else
  if v6 = 11 then
    ck_ S b1 4 <| cI_ (f_X4_readSome S b1 v2) fun v29 S28 =>
    rz_ v29 S28
  else
  if v6 = 12 then
    ck_ S b1 4 <| cI_ (f_X4_maskBy S b1 v2) fun v31 S30 =>
    rz_ v31 S30
  else
  ck_ S b1 4 <| cI_ (f_X4_changePages S b1 v2) fun v33 S32 =>
  jn_ (fun (x34 : Int32) =>
    rz_ x34 S32
  ) fun j34 =>
  if v33 = (-1) then
    j34 (0)
  else
    j34 (1)
set_option maxRecDepth 100000 in
set_option maxHeartbeats 4000000 in
theorem c_X2_doLine (l : Launch) (G : Gx) (S : St) (b0 : Nat) (b1 : Nat) (p2 : Int32) (o : (Int32 × St)) (h : f_X2_doLine S b0 b1 p2 = some o) : Met l yX2_doLine (Cond.code yX2_doLine cX2_doLine 5 (some (.boolean)) :: wAll) ({ frames := 4, cells := 0, slots := 0, locals := 97 } : Room) (va_Pc [.ref (G.1 + b0), .ref (G.1 + b1), .int p2] (wPre G S)) (qI G o) 0 0 (wA G) := by
  refine m_start (by decide +kernel) (Nat.le_of_ble_eq_true rfl) (fun X C => ?_)
  unfold f_X2_doLine at h
  show WM X G 5 0 0 (wQ X G (qI G o) 0 0) 0 [(0, .ref (G.1 + b0)), (1, .ref (G.1 + b1)), (2, .int p2)] [] S
  refine m_aload_n C (dOf DX2_doLine 0 rfl) rfl 0 rfl ?_
  refine m_gR C (dOf DX2_doLine 1 rfl) kf_X2_15 fg_2_1 h (fun a1 h => ?_)
  refine m_iload_n C (dOf DX2_doLine 2 rfl) rfl 2 rfl ?_
  refine m_cP (st := []) h (fun o' ho H locs ls hl hr hs => ⟨_, m_runSN C (dOf DX2_doLine 3 rfl) kn_X2_109 ks_X8_at (by decide) ⟨rfl, rfl⟩ (c_X8_at _ G _ _ _ o' ho) rfl rfl (Nat.le_of_ble_eq_true rfl) ⟨Nat.le_refl _, Nat.le_refl _⟩ hl hr hs⟩) (fun v2 h => ?_)
  refine m_istore_n C (dOf DX2_doLine 4 rfl) rfl (by decide) (lv' := [(3, .int v2), (0, .ref (G.1 + b0)), (1, .ref (G.1 + b1)), (2, .int p2)]) rfl ?_
  refine m_aload_n C (dOf DX2_doLine 5 rfl) rfl 1 rfl ?_
  refine m_gR C (dOf DX2_doLine 6 rfl) kf_X2_18 fg_2_2 h (fun a3 h => ?_)
  refine m_iload_n C (dOf DX2_doLine 7 rfl) rfl 3 rfl ?_
  refine m_cP (st := []) h (fun o' ho H locs ls hl hr hs => ⟨_, m_runSN C (dOf DX2_doLine 8 rfl) kn_X2_109 ks_X8_at (by decide) ⟨rfl, rfl⟩ (c_X8_at _ G _ _ _ o' ho) rfl rfl (Nat.le_of_ble_eq_true rfl) ⟨Nat.le_refl _, Nat.le_refl _⟩ hl hr hs⟩) (fun v4 h => ?_)
  refine m_istore C (dOf DX2_doLine 9 rfl) (by decide) (lv' := [(4, .int v4), (3, .int v2), (0, .ref (G.1 + b0)), (1, .ref (G.1 + b1)), (2, .int p2)]) rfl ?_
  refine m_aload_n C (dOf DX2_doLine 10 rfl) rfl 2 rfl ?_
  refine m_gR C (dOf DX2_doLine 11 rfl) kf_X2_9 fg_2_0 h (fun a5 h => ?_)
  refine m_iload_n C (dOf DX2_doLine 12 rfl) rfl 4 rfl ?_
  refine m_cP (st := []) h (fun o' ho H locs ls hl hr hs => ⟨_, m_runSN C (dOf DX2_doLine 13 rfl) kn_X2_109 ks_X8_at (by decide) ⟨rfl, rfl⟩ (c_X8_at _ G _ _ _ o' ho) rfl rfl (Nat.le_of_ble_eq_true rfl) ⟨Nat.le_refl _, Nat.le_refl _⟩ hl hr hs⟩) (fun v6 h => ?_)
  refine m_sw h (fun e h => ?_) (fun n4 h => ?_)
  · refine m_tin C (dOf DX2_doLine 14 rfl) 4 e (by decide) (by decide) (off := 49) rfl (tgt := 76) rfl ?_
    refine m_aload_n C (dOf DX2_doLine 15 rfl) rfl 3 rfl ?_
    refine m_iload_n C (dOf DX2_doLine 16 rfl) rfl 1 rfl ?_
    obtain ⟨hc, h⟩ := ck_spec h
    refine m_cI (st := []) h (fun o' ho H locs ls hl hr hs => ⟨_, m_runV C (dOf DX2_doLine 17 rfl) km_X2_123 ky_X4_goOn (by decide) ⟨rfl, rfl⟩ (c_X4_goOn _ G _ _ _ o' ho) hc.1 hc.2 (by decide) rfl rfl rfl (Nat.le_of_ble_eq_true rfl) ⟨Nat.le_refl _, Nat.le_refl _⟩ hl hr hs⟩) (fun v8 S7 h => ?_)
    refine m_iconst C (dOf DX2_doLine 18 rfl) (v := (-1)) ki_m1 ?_
    refine m_jn (J := fun (x9 : Int32) => WM X G 5 0 0 (wQ X G (qI G o) 0 0) 90 [] [.int x9] S7) h (fun x9 h => ?_) (fun j9 hj9 h => ?_)
    · exact m_zret C rfl (dOf DX2_doLine 23 rfl) h
    refine m_icmpeq C (dOf DX2_doLine 19 rfl) (tgt := 89) rfl h (fun h => ?_) (fun h => ?_)
    · refine m_iconst C (dOf DX2_doLine 22 rfl) (v := 0) ki_0 ?_
      exact m_sub [] rfl (hj9 _ h)
    · refine m_iconst C (dOf DX2_doLine 20 rfl) (v := 1) ki_1 ?_
      refine m_goto C (dOf DX2_doLine 21 rfl) (tgt := 90) rfl ?_
      exact m_sub [] rfl (hj9 _ h)
  refine m_sw h (fun e h => ?_) (fun n5 h => ?_)
  · refine m_tin C (dOf DX2_doLine 14 rfl) 5 e (by decide) (by decide) (off := 64) rfl (tgt := 91) rfl ?_
    refine m_aload_n C (dOf DX2_doLine 24 rfl) rfl 3 rfl ?_
    refine m_iload_n C (dOf DX2_doLine 25 rfl) rfl 1 rfl ?_
    refine m_iload C (dOf DX2_doLine 26 rfl) 0 rfl ?_
    obtain ⟨hc, h⟩ := ck_spec h
    refine m_cI (st := []) h (fun o' ho H locs ls hl hr hs => ⟨_, m_runV C (dOf DX2_doLine 27 rfl) km_X2_126 ky_X4_takeRoom (by decide) ⟨rfl, rfl⟩ (c_X4_takeRoom _ G _ _ _ _ o' ho) hc.1 hc.2 (by decide) rfl rfl rfl (Nat.le_of_ble_eq_true rfl) ⟨Nat.le_refl _, Nat.le_refl _⟩ hl hr hs⟩) (fun v11 S10 h => ?_)
    refine m_bipush C (dOf DX2_doLine 28 rfl) (v := (-2)) kb_m2 ?_
    refine m_jn (J := fun (x12 : Int32) => WM X G 5 0 0 (wQ X G (qI G o) 0 0) 108 [] [.int x12] S10) h (fun x12 h => ?_) (fun j12 hj12 h => ?_)
    · exact m_zret C rfl (dOf DX2_doLine 33 rfl) h
    refine m_icmpeq C (dOf DX2_doLine 29 rfl) (tgt := 107) rfl h (fun h => ?_) (fun h => ?_)
    · refine m_iconst C (dOf DX2_doLine 32 rfl) (v := 0) ki_0 ?_
      exact m_sub [] rfl (hj12 _ h)
    · refine m_iconst C (dOf DX2_doLine 30 rfl) (v := 1) ki_1 ?_
      refine m_goto C (dOf DX2_doLine 31 rfl) (tgt := 108) rfl ?_
      exact m_sub [] rfl (hj12 _ h)
  refine m_sw h (fun e h => ?_) (fun n6 h => ?_)
  · refine m_tin C (dOf DX2_doLine 14 rfl) 6 e (by decide) (by decide) (off := 82) rfl (tgt := 109) rfl ?_
    refine m_aload_n C (dOf DX2_doLine 34 rfl) rfl 3 rfl ?_
    refine m_iload_n C (dOf DX2_doLine 35 rfl) rfl 1 rfl ?_
    refine m_iload C (dOf DX2_doLine 36 rfl) 0 rfl ?_
    obtain ⟨hc, h⟩ := ck_spec h
    refine m_cI (st := []) h (fun o' ho H locs ls hl hr hs => ⟨_, m_runV C (dOf DX2_doLine 37 rfl) km_X2_130 ky_X4_putData (by decide) ⟨rfl, rfl⟩ (c_X4_putData _ G _ _ _ _ o' ho) hc.1 hc.2 (by decide) rfl rfl rfl (Nat.le_of_ble_eq_true rfl) ⟨Nat.le_refl _, Nat.le_refl _⟩ hl hr hs⟩) (fun v14 S13 h => ?_)
    refine m_iconst C (dOf DX2_doLine 38 rfl) (v := (-1)) ki_m1 ?_
    refine m_jn (J := fun (x15 : Int32) => WM X G 5 0 0 (wQ X G (qI G o) 0 0) 125 [] [.int x15] S13) h (fun x15 h => ?_) (fun j15 hj15 h => ?_)
    · exact m_zret C rfl (dOf DX2_doLine 43 rfl) h
    refine m_icmpeq C (dOf DX2_doLine 39 rfl) (tgt := 124) rfl h (fun h => ?_) (fun h => ?_)
    · refine m_iconst C (dOf DX2_doLine 42 rfl) (v := 0) ki_0 ?_
      exact m_sub [] rfl (hj15 _ h)
    · refine m_iconst C (dOf DX2_doLine 40 rfl) (v := 1) ki_1 ?_
      refine m_goto C (dOf DX2_doLine 41 rfl) (tgt := 125) rfl ?_
      exact m_sub [] rfl (hj15 _ h)
  refine m_sw h (fun e h => ?_) (fun n7 h => ?_)
  · refine m_tin C (dOf DX2_doLine 14 rfl) 7 e (by decide) (by decide) (off := 99) rfl (tgt := 126) rfl ?_
    refine m_aload_n C (dOf DX2_doLine 44 rfl) rfl 3 rfl ?_
    refine m_iload_n C (dOf DX2_doLine 45 rfl) rfl 1 rfl ?_
    obtain ⟨hc, h⟩ := ck_spec h
    refine m_cI (st := []) h (fun o' ho H locs ls hl hr hs => ⟨_, m_runV C (dOf DX2_doLine 46 rfl) km_X2_133 ky_X4_endInnermost (by decide) ⟨rfl, rfl⟩ (c_X4_endInnermost _ G _ _ _ o' ho) hc.1 hc.2 (by decide) rfl rfl rfl (Nat.le_of_ble_eq_true rfl) ⟨Nat.le_refl _, Nat.le_refl _⟩ hl hr hs⟩) (fun v17 S16 h => ?_)
    refine m_iconst C (dOf DX2_doLine 47 rfl) (v := (-1)) ki_m1 ?_
    refine m_jn (J := fun (x18 : Int32) => WM X G 5 0 0 (wQ X G (qI G o) 0 0) 140 [] [.int x18] S16) h (fun x18 h => ?_) (fun j18 hj18 h => ?_)
    · exact m_zret C rfl (dOf DX2_doLine 52 rfl) h
    refine m_icmpeq C (dOf DX2_doLine 48 rfl) (tgt := 139) rfl h (fun h => ?_) (fun h => ?_)
    · refine m_iconst C (dOf DX2_doLine 51 rfl) (v := 0) ki_0 ?_
      exact m_sub [] rfl (hj18 _ h)
    · refine m_iconst C (dOf DX2_doLine 49 rfl) (v := 1) ki_1 ?_
      refine m_goto C (dOf DX2_doLine 50 rfl) (tgt := 140) rfl ?_
      exact m_sub [] rfl (hj18 _ h)
  refine m_sw h (fun e h => ?_) (fun n8 h => ?_)
  · refine m_tin C (dOf DX2_doLine 14 rfl) 8 e (by decide) (by decide) (off := 114) rfl (tgt := 141) rfl ?_
    refine m_aload_n C (dOf DX2_doLine 53 rfl) rfl 3 rfl ?_
    refine m_iload_n C (dOf DX2_doLine 54 rfl) rfl 1 rfl ?_
    obtain ⟨hc, h⟩ := ck_spec h
    refine m_cI (st := []) h (fun o' ho H locs ls hl hr hs => ⟨_, m_runV C (dOf DX2_doLine 55 rfl) km_X2_136 ky_X4_dropInnermost (by decide) ⟨rfl, rfl⟩ (c_X4_dropInnermost _ G _ _ _ o' ho) hc.1 hc.2 (by decide) rfl rfl rfl (Nat.le_of_ble_eq_true rfl) ⟨Nat.le_refl _, Nat.le_refl _⟩ hl hr hs⟩) (fun v20 S19 h => ?_)
    refine m_iconst C (dOf DX2_doLine 56 rfl) (v := (-1)) ki_m1 ?_
    refine m_jn (J := fun (x21 : Int32) => WM X G 5 0 0 (wQ X G (qI G o) 0 0) 155 [] [.int x21] S19) h (fun x21 h => ?_) (fun j21 hj21 h => ?_)
    · exact m_zret C rfl (dOf DX2_doLine 61 rfl) h
    refine m_icmpeq C (dOf DX2_doLine 57 rfl) (tgt := 154) rfl h (fun h => ?_) (fun h => ?_)
    · refine m_iconst C (dOf DX2_doLine 60 rfl) (v := 0) ki_0 ?_
      exact m_sub [] rfl (hj21 _ h)
    · refine m_iconst C (dOf DX2_doLine 58 rfl) (v := 1) ki_1 ?_
      refine m_goto C (dOf DX2_doLine 59 rfl) (tgt := 155) rfl ?_
      exact m_sub [] rfl (hj21 _ h)
  refine m_sw h (fun e h => ?_) (fun n9 h => ?_)
  · refine m_tin C (dOf DX2_doLine 14 rfl) 9 e (by decide) (by decide) (off := 129) rfl (tgt := 156) rfl ?_
    refine m_aload_n C (dOf DX2_doLine 62 rfl) rfl 3 rfl ?_
    refine m_iconst C (dOf DX2_doLine 63 rfl) (v := 0) ki_0 ?_
    obtain ⟨hc, h⟩ := ck_spec h
    refine m_cI (st := []) h (fun o' ho H locs ls hl hr hs => ⟨_, m_runV C (dOf DX2_doLine 64 rfl) km_X2_139 ky_X4_swapHead (by decide) ⟨rfl, rfl⟩ (c_X4_swapHead _ G _ _ _ o' ho) hc.1 hc.2 (by decide) rfl rfl rfl (Nat.le_of_ble_eq_true rfl) ⟨Nat.le_refl _, Nat.le_refl _⟩ hl hr hs⟩) (fun v23 S22 h => ?_)
    refine m_iconst C (dOf DX2_doLine 65 rfl) (v := (-1)) ki_m1 ?_
    refine m_jn (J := fun (x24 : Int32) => WM X G 5 0 0 (wQ X G (qI G o) 0 0) 170 [] [.int x24] S22) h (fun x24 h => ?_) (fun j24 hj24 h => ?_)
    · exact m_zret C rfl (dOf DX2_doLine 70 rfl) h
    refine m_icmpeq C (dOf DX2_doLine 66 rfl) (tgt := 169) rfl h (fun h => ?_) (fun h => ?_)
    · refine m_iconst C (dOf DX2_doLine 69 rfl) (v := 0) ki_0 ?_
      exact m_sub [] rfl (hj24 _ h)
    · refine m_iconst C (dOf DX2_doLine 67 rfl) (v := 1) ki_1 ?_
      refine m_goto C (dOf DX2_doLine 68 rfl) (tgt := 170) rfl ?_
      exact m_sub [] rfl (hj24 _ h)
  refine m_sw h (fun e h => ?_) (fun n10 h => ?_)
  · refine m_tin C (dOf DX2_doLine 14 rfl) 10 e (by decide) (by decide) (off := 144) rfl (tgt := 171) rfl ?_
    refine m_aload_n C (dOf DX2_doLine 71 rfl) rfl 3 rfl ?_
    refine m_iconst C (dOf DX2_doLine 72 rfl) (v := 1) ki_1 ?_
    obtain ⟨hc, h⟩ := ck_spec h
    refine m_cI (st := []) h (fun o' ho H locs ls hl hr hs => ⟨_, m_runV C (dOf DX2_doLine 73 rfl) km_X2_139 ky_X4_swapHead (by decide) ⟨rfl, rfl⟩ (c_X4_swapHead _ G _ _ _ o' ho) hc.1 hc.2 (by decide) rfl rfl rfl (Nat.le_of_ble_eq_true rfl) ⟨Nat.le_refl _, Nat.le_refl _⟩ hl hr hs⟩) (fun v26 S25 h => ?_)
    refine m_iconst C (dOf DX2_doLine 74 rfl) (v := (-1)) ki_m1 ?_
    refine m_jn (J := fun (x27 : Int32) => WM X G 5 0 0 (wQ X G (qI G o) 0 0) 185 [] [.int x27] S25) h (fun x27 h => ?_) (fun j27 hj27 h => ?_)
    · exact m_zret C rfl (dOf DX2_doLine 79 rfl) h
    refine m_icmpeq C (dOf DX2_doLine 75 rfl) (tgt := 184) rfl h (fun h => ?_) (fun h => ?_)
    · refine m_iconst C (dOf DX2_doLine 78 rfl) (v := 0) ki_0 ?_
      exact m_sub [] rfl (hj27 _ h)
    · refine m_iconst C (dOf DX2_doLine 76 rfl) (v := 1) ki_1 ?_
      refine m_goto C (dOf DX2_doLine 77 rfl) (tgt := 185) rfl ?_
      exact m_sub [] rfl (hj27 _ h)
  refine m_sw h (fun e h => ?_) (fun n11 h => ?_)
  · refine m_tin C (dOf DX2_doLine 14 rfl) 11 e (by decide) (by decide) (off := 159) rfl (tgt := 186) rfl ?_
    refine m_aload_n C (dOf DX2_doLine 80 rfl) rfl 3 rfl ?_
    refine m_iload_n C (dOf DX2_doLine 81 rfl) rfl 1 rfl ?_
    obtain ⟨hc, h⟩ := ck_spec h
    refine m_cI (st := []) h (fun o' ho H locs ls hl hr hs => ⟨_, m_runV C (dOf DX2_doLine 82 rfl) km_X2_143 ky_X4_readSome (by decide) ⟨rfl, rfl⟩ (c_X4_readSome _ G _ _ _ o' ho) hc.1 hc.2 (by decide) rfl rfl rfl (Nat.le_of_ble_eq_true rfl) ⟨Nat.le_refl _, Nat.le_refl _⟩ hl hr hs⟩) (fun v29 S28 h => ?_)
    exact m_zret C rfl (dOf DX2_doLine 83 rfl) h
  refine m_sw h (fun e h => ?_) (fun n12 h => ?_)
  · refine m_tin C (dOf DX2_doLine 14 rfl) 12 e (by decide) (by decide) (off := 165) rfl (tgt := 192) rfl ?_
    refine m_aload_n C (dOf DX2_doLine 84 rfl) rfl 3 rfl ?_
    refine m_iload_n C (dOf DX2_doLine 85 rfl) rfl 1 rfl ?_
    obtain ⟨hc, h⟩ := ck_spec h
    refine m_cI (st := []) h (fun o' ho H locs ls hl hr hs => ⟨_, m_runV C (dOf DX2_doLine 86 rfl) km_X2_146 ky_X4_maskBy (by decide) ⟨rfl, rfl⟩ (c_X4_maskBy _ G _ _ _ o' ho) hc.1 hc.2 (by decide) rfl rfl rfl (Nat.le_of_ble_eq_true rfl) ⟨Nat.le_refl _, Nat.le_refl _⟩ hl hr hs⟩) (fun v31 S30 h => ?_)
    exact m_zret C rfl (dOf DX2_doLine 87 rfl) h
  have qn4 := neT n4 kt_4
  have qn5 := neT n5 kt_5
  have qn6 := neT n6 kt_6
  have qn7 := neT n7 kt_7
  have qn8 := neT n8 kt_8
  have qn9 := neT n9 kt_9
  have qn10 := neT n10 kt_10
  have qn11 := neT n11 kt_11
  have qn12 := neT n12 kt_12
  refine m_tout C (dOf DX2_doLine 14 rfl) (tgt := 198) (by omega) rfl ?_
  refine m_aload_n C (dOf DX2_doLine 88 rfl) rfl 3 rfl ?_
  refine m_iload_n C (dOf DX2_doLine 89 rfl) rfl 1 rfl ?_
  obtain ⟨hc, h⟩ := ck_spec h
  refine m_cI (st := []) h (fun o' ho H locs ls hl hr hs => ⟨_, m_runV C (dOf DX2_doLine 90 rfl) km_X2_149 ky_X4_changePages (by decide) ⟨rfl, rfl⟩ (c_X4_changePages _ G _ _ _ o' ho) hc.1 hc.2 (by decide) rfl rfl rfl (Nat.le_of_ble_eq_true rfl) ⟨Nat.le_refl _, Nat.le_refl _⟩ hl hr hs⟩) (fun v33 S32 h => ?_)
  refine m_iconst C (dOf DX2_doLine 91 rfl) (v := (-1)) ki_m1 ?_
  refine m_jn (J := fun (x34 : Int32) => WM X G 5 0 0 (wQ X G (qI G o) 0 0) 212 [] [.int x34] S32) h (fun x34 h => ?_) (fun j34 hj34 h => ?_)
  · exact m_zret C rfl (dOf DX2_doLine 96 rfl) h
  refine m_icmpeq C (dOf DX2_doLine 92 rfl) (tgt := 211) rfl h (fun h => ?_) (fun h => ?_)
  · refine m_iconst C (dOf DX2_doLine 95 rfl) (v := 0) ki_0 ?_
    exact m_sub [] rfl (hj34 _ h)
  · refine m_iconst C (dOf DX2_doLine 93 rfl) (v := 1) ki_1 ?_
    refine m_goto C (dOf DX2_doLine 94 rfl) (tgt := 212) rfl ?_
    exact m_sub [] rfl (hj34 _ h)
