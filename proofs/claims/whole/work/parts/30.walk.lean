/-- TraceRingModel.finds(I)Z -/
def f_X9_finds (S : St) (b0 : Nat) (p1 : Int32) : Option (Int32 × St) :=
  lp_ (fun self1 (x1 : Int32 × Int32 × St) =>
    ck_ x1.2.2 b0 9 <| cP_ (f_X9_live x1.2.2 b0) fun v2 =>
    if v2 ≤ x1.2.1 then
      rz_ 0 x1.2.2
    else
      ck_ x1.2.2 b0 9 <| cP_ (f_X9_livePage x1.2.2 b0 x1.2.1) fun v3 =>
      pI_ x1.2.2 b0 9 21 v3 fun S4 =>
      pI_ S4 b0 9 22 0 fun S5 =>
      lp_ (fun self6 (x6 : Int32 × St) =>
        gI_ x6.2 b0 9 22 fun v7 =>
        gI_ x6.2 b0 9 21 fun v8 =>
        ck_ x6.2 b0 9 <| cP_ (f_X9_of x6.2 b0 v8 3) fun v9 =>
        if v9 ≤ v7 then
          lt_ (x1.2.1 + 1) fun v10 =>
          self1 (x6.1, v10, x6.2)
        else
          gI_ x6.2 b0 9 21 fun v11 =>
          gI_ x6.2 b0 9 22 fun v12 =>
          ck_ x6.2 b0 9 <| cP_ (f_X9_isReady x6.2 b0 v11 v12) fun v13 =>
          jn_ (fun (x14 : Unit) =>
            jn_ (fun (x15 : Int32) =>
              lt_ (x6.1 + x15 : Int32) fun v16 =>
              gI_ x6.2 b0 9 22 fun v17 =>
              lt_ (v17 + 1 : Int32) fun v18 =>
              pI_ x6.2 b0 9 22 v18 fun S19 =>
              self6 (v16, S19)
            ) fun j15 =>
            if v13 = 0 then
              j15 (0)
            else
              j15 (1)
          ) fun j14 =>
          if v13 = 0 then
            j14 ()
          else
            if x6.1 = p1 then
              rz_ 1 x6.2
            else
              j14 ()
      ) FU (x1.1, S5)
  ) FU (0, 0, S)
set_option maxRecDepth 100000 in
set_option maxHeartbeats 4000000 in
theorem c_X9_finds (l : Launch) (G : Gx) (S : St) (b0 : Nat) (p1 : Int32) (o : (Int32 × St)) (h : f_X9_finds S b0 p1 = some o) : Met l yX9_finds (Cond.code yX9_finds cX9_finds 5 (some (.boolean)) :: wAll) ({ frames := 4, cells := 0, slots := 0, locals := 89 } : Room) (va_Pc [.ref (G.1 + b0), .int p1] (wPre G S)) (qI G o) 0 0 (wA G) := by
  refine m_start (by decide +kernel) (Nat.le_of_ble_eq_true rfl) (fun X C => ?_)
  unfold f_X9_finds at h
  show WM X G 5 0 0 (wQ X G (qI G o) 0 0) 0 [(0, .ref (G.1 + b0)), (1, .int p1)] [] S
  refine m_iconst C (dOf DX9_finds 0 rfl) (v := 0) ki_0 ?_
  refine m_istore_n C (dOf DX9_finds 1 rfl) rfl (by decide) (lv' := [(2, .int 0), (0, .ref (G.1 + b0)), (1, .int p1)]) rfl ?_
  refine m_iconst C (dOf DX9_finds 2 rfl) (v := 0) ki_0 ?_
  refine m_istore_n C (dOf DX9_finds 3 rfl) rfl (by decide) (lv' := [(3, .int 0), (2, .int 0), (0, .ref (G.1 + b0)), (1, .int p1)]) rfl ?_
  refine m_sub [2, 3, 1, 0] rfl (m_lp (J := fun (x1 : Int32 × Int32 × St) => WM X G 5 0 0 (wQ X G (qI G o) 0 0) 4 [(0, .ref (G.1 + b0)), (1, .int p1), (2, .int x1.1), (3, .int x1.2.1)] [] x1.2.2) h (fun self1 hself1 x1 h => ?_))
  refine m_iload_n C (dOf DX9_finds 4 rfl) rfl 3 rfl ?_
  refine m_aload_n C (dOf DX9_finds 5 rfl) rfl 0 rfl ?_
  obtain ⟨hc, h⟩ := ck_spec h
  refine m_cP (st := [.int x1.2.1]) h (fun o' ho H locs ls hl hr hs => ⟨_, m_runV C (dOf DX9_finds 6 rfl) km_X9_148 ky_X9_live (by decide) ⟨rfl, rfl⟩ (c_X9_live _ G _ _ o' ho) hc.1 hc.2 (by decide) rfl rfl rfl (Nat.le_of_ble_eq_true rfl) ⟨Nat.le_refl _, Nat.le_refl _⟩ hl hr hs⟩) (fun v2 h => ?_)
  refine m_icmpge C (dOf DX9_finds 7 rfl) (tgt := 100) rfl h (fun h => ?_) (fun h => ?_)
  · refine m_iconst C (dOf DX9_finds 55 rfl) (v := 0) ki_0 ?_
    exact m_zret C rfl (dOf DX9_finds 56 rfl) h
  · refine m_aload_n C (dOf DX9_finds 8 rfl) rfl 0 rfl ?_
    refine m_aload_n C (dOf DX9_finds 9 rfl) rfl 0 rfl ?_
    refine m_iload_n C (dOf DX9_finds 10 rfl) rfl 3 rfl ?_
    obtain ⟨hc, h⟩ := ck_spec h
    refine m_cP (st := [.ref (G.1 + b0)]) h (fun o' ho H locs ls hl hr hs => ⟨_, m_runV C (dOf DX9_finds 11 rfl) km_X9_213 ky_X9_livePage (by decide) ⟨rfl, rfl⟩ (c_X9_livePage _ G _ _ _ o' ho) hc.1 hc.2 (by decide) rfl rfl rfl (Nat.le_of_ble_eq_true rfl) ⟨Nat.le_refl _, Nat.le_refl _⟩ hl hr hs⟩) (fun v3 h => ?_)
    refine m_pI C (dOf DX9_finds 12 rfl) kf_X9_286 fp_9_21 h (fun S4 h => ?_)
    refine m_aload_n C (dOf DX9_finds 13 rfl) rfl 0 rfl ?_
    refine m_iconst C (dOf DX9_finds 14 rfl) (v := 0) ki_0 ?_
    refine m_pI C (dOf DX9_finds 15 rfl) kf_X9_289 fp_9_22 h (fun S5 h => ?_)
    refine m_sub [0, 1, 2, 3] rfl (m_lp (J := fun (x6 : Int32 × St) => WM X G 5 0 0 (wQ X G (qI G o) 0 0) 26 [(0, .ref (G.1 + b0)), (1, .int p1), (2, .int x6.1), (3, .int x1.2.1)] [] x6.2) h (fun self6 hself6 x6 h => ?_))
    refine m_aload_n C (dOf DX9_finds 16 rfl) rfl 0 rfl ?_
    refine m_gI C (dOf DX9_finds 17 rfl) kf_X9_289 fg_9_22 h (fun v7 h => ?_)
    refine m_aload_n C (dOf DX9_finds 18 rfl) rfl 0 rfl ?_
    refine m_aload_n C (dOf DX9_finds 19 rfl) rfl 0 rfl ?_
    refine m_gI C (dOf DX9_finds 20 rfl) kf_X9_286 fg_9_21 h (fun v8 h => ?_)
    refine m_iconst C (dOf DX9_finds 21 rfl) (v := 3) ki_3 ?_
    obtain ⟨hc, h⟩ := ck_spec h
    refine m_cP (st := [.int v7]) h (fun o' ho H locs ls hl hr hs => ⟨_, m_runV C (dOf DX9_finds 22 rfl) km_X9_144 ky_X9_of (by decide) ⟨rfl, rfl⟩ (c_X9_of _ G _ _ _ _ o' ho) hc.1 hc.2 (by decide) rfl rfl rfl (Nat.le_of_ble_eq_true rfl) ⟨Nat.le_refl _, Nat.le_refl _⟩ hl hr hs⟩) (fun v9 h => ?_)
    refine m_icmpge C (dOf DX9_finds 23 rfl) (tgt := 94) rfl h (fun h => ?_) (fun h => ?_)
    · refine m_iinc C (dOf DX9_finds 53 rfl) (w := 1) ki_1 3 rfl (by decide) h (fun v10 h => ⟨[(3, .int v10), (0, .ref (G.1 + b0)), (1, .int p1), (2, .int x6.1)], rfl, ?_⟩)
      refine m_goto C (dOf DX9_finds 54 rfl) (tgt := 4) rfl ?_
      exact m_sub [1, 2, 3, 0] rfl (hself1 _ h)
    · refine m_aload_n C (dOf DX9_finds 24 rfl) rfl 0 rfl ?_
      refine m_aload_n C (dOf DX9_finds 25 rfl) rfl 0 rfl ?_
      refine m_gI C (dOf DX9_finds 26 rfl) kf_X9_286 fg_9_21 h (fun v11 h => ?_)
      refine m_aload_n C (dOf DX9_finds 27 rfl) rfl 0 rfl ?_
      refine m_gI C (dOf DX9_finds 28 rfl) kf_X9_289 fg_9_22 h (fun v12 h => ?_)
      obtain ⟨hc, h⟩ := ck_spec h
      refine m_cP (st := []) h (fun o' ho H locs ls hl hr hs => ⟨_, m_runV C (dOf DX9_finds 29 rfl) km_X9_268 ky_X9_isReady (by decide) ⟨rfl, rfl⟩ (c_X9_isReady _ G _ _ _ _ o' ho) hc.1 hc.2 (by decide) rfl rfl rfl (Nat.le_of_ble_eq_true rfl) ⟨Nat.le_refl _, Nat.le_refl _⟩ hl hr hs⟩) (fun v13 h => ?_)
      refine m_istore C (dOf DX9_finds 30 rfl) (by decide) (lv' := [(4, .int v13), (0, .ref (G.1 + b0)), (1, .int p1), (2, .int x6.1), (3, .int x1.2.1)]) rfl ?_
      refine m_iload C (dOf DX9_finds 31 rfl) 0 rfl ?_
      refine m_jn (J := fun (x14 : Unit) => WM X G 5 0 0 (wQ X G (qI G o) 0 0) 68 [(0, .ref (G.1 + b0)), (1, .int p1), (2, .int x6.1), (3, .int x1.2.1), (4, .int v13)] [] x6.2) h (fun x14 h => ?_) (fun j14 hj14 h => ?_)
      · refine m_iload_n C (dOf DX9_finds 38 rfl) rfl 2 rfl ?_
        refine m_iload C (dOf DX9_finds 39 rfl) 4 rfl ?_
        refine m_jn (J := fun (x15 : Int32) => WM X G 5 0 0 (wQ X G (qI G o) 0 0) 79 [(0, .ref (G.1 + b0)), (1, .int p1), (3, .int x1.2.1)] [.int x15, .int x6.1] x6.2) h (fun x15 h => ?_) (fun j15 hj15 h => ?_)
        · refine m_iadd C (dOf DX9_finds 44 rfl) h (fun v16 h => ?_)
          refine m_istore_n C (dOf DX9_finds 45 rfl) rfl (by decide) (lv' := [(2, .int v16), (0, .ref (G.1 + b0)), (1, .int p1), (3, .int x1.2.1)]) rfl ?_
          refine m_aload_n C (dOf DX9_finds 46 rfl) rfl 1 rfl ?_
          refine m_dup C (dOf DX9_finds 47 rfl) rfl ?_
          refine m_gI C (dOf DX9_finds 48 rfl) kf_X9_289 fg_9_22 h (fun v17 h => ?_)
          refine m_iconst C (dOf DX9_finds 49 rfl) (v := 1) ki_1 ?_
          refine m_iadd C (dOf DX9_finds 50 rfl) h (fun v18 h => ?_)
          refine m_pI C (dOf DX9_finds 51 rfl) kf_X9_289 fp_9_22 h (fun S19 h => ?_)
          refine m_goto C (dOf DX9_finds 52 rfl) (tgt := 26) rfl ?_
          exact m_sub [1, 2, 0, 3] rfl (hself6 _ h)
        refine m_ifeq C (dOf DX9_finds 40 rfl) (tgt := 78) rfl h (fun h => ?_) (fun h => ?_)
        · refine m_iconst C (dOf DX9_finds 43 rfl) (v := 0) ki_0 ?_
          exact m_sub [0, 1, 3] rfl (hj15 _ h)
        · refine m_iconst C (dOf DX9_finds 41 rfl) (v := 1) ki_1 ?_
          refine m_goto C (dOf DX9_finds 42 rfl) (tgt := 79) rfl ?_
          exact m_sub [0, 1, 3] rfl (hj15 _ h)
      refine m_ifeq C (dOf DX9_finds 32 rfl) (tgt := 68) rfl h (fun h => ?_) (fun h => ?_)
      · exact m_sub [1, 2, 3, 4, 0] rfl (hj14 _ h)
      · refine m_iload_n C (dOf DX9_finds 33 rfl) rfl 3 rfl ?_
        refine m_iload_n C (dOf DX9_finds 34 rfl) rfl 2 rfl ?_
        refine m_icmpne C (dOf DX9_finds 35 rfl) (tgt := 68) rfl h (fun h => ?_) (fun h => ?_)
        · exact m_sub [1, 2, 3, 4, 0] rfl (hj14 _ h)
        · refine m_iconst C (dOf DX9_finds 36 rfl) (v := 1) ki_1 ?_
          exact m_zret C rfl (dOf DX9_finds 37 rfl) h
/-- TraceRingModel.record(II)I -/
def f_X9_record (S : St) (b0 : Nat) (p1 : Int32) (p2 : Int32) : Option (Int32 × St) :=
  pI_ S b0 9 0 0 fun S1 =>
  jn_ (fun (x2 : St) =>
    rt_ ((-2), x2)
  ) fun j2 =>
  if p1 < 0 then
    j2 (S1)
  else
    ck_ S1 b0 9 <| cI_ (f_X9_finds S1 b0 p1) fun v4 S3 =>
    if v4 = 0 then
      j2 (S3)
    else
      cP_ (f_X9_in S3 p2 0 3) fun v5 =>
      if v5 = 0 then
        lt_ (p2 - 10 : Int32) fun v6 =>
        gI_ S3 b0 9 21 fun v7 =>
        gI_ S3 b0 9 22 fun v8 =>
        ck_ S3 b0 9 <| cP_ (f_X9_item S3 b0 v7 v8 4) fun v9 =>
        lt_ (v9 - 1 : Int32) fun v10 =>
        cP_ (f_X9_in S3 v6 0 v10) fun v11 =>
        jn_ (fun (x12 : Int32) =>
          rt_ (x12, S3)
        ) fun j12 =>
        if v11 = 0 then
          j12 ((-2))
        else
          gI_ S3 b0 9 21 fun v13 =>
          gI_ S3 b0 9 21 fun v14 =>
          gI_ S3 b0 9 22 fun v15 =>
          ck_ S3 b0 9 <| cP_ (f_X9_item S3 b0 v14 v15 5) fun v16 =>
          lt_ (4 + v16 : Int32) fun v17 =>
          lt_ (v17 + 1 : Int32) fun v18 =>
          lt_ (v18 + p2 : Int32) fun v19 =>
          lt_ (v19 - 10 : Int32) fun v20 =>
          ck_ S3 b0 9 <| cP_ (f_X9_of S3 b0 v13 v20) fun v21 =>
          j12 (v21)
      else
        gI_ S3 b0 9 21 fun v22 =>
        gI_ S3 b0 9 22 fun v23 =>
        lt_ (1 + p2 : Int32) fun v24 =>
        ck_ S3 b0 9 <| cP_ (f_X9_item S3 b0 v22 v23 v24) fun v25 =>
        rt_ (v25, S3)
set_option maxRecDepth 100000 in
set_option maxHeartbeats 4000000 in
theorem c_X9_record (l : Launch) (G : Gx) (S : St) (b0 : Nat) (p1 : Int32) (p2 : Int32) (o : (Int32 × St)) (h : f_X9_record S b0 p1 p2 = some o) : Met l yX9_record (Cond.code yX9_record cX9_record 4 (some (.int)) :: wAll) ({ frames := 5, cells := 0, slots := 0, locals := 113 } : Room) (va_Pc [.ref (G.1 + b0), .int p1, .int p2] (wPre G S)) (qI G o) 0 0 (wA G) := by
  refine m_start (by decide +kernel) (Nat.le_of_ble_eq_true rfl) (fun X C => ?_)
  unfold f_X9_record at h
  show WM X G 4 0 0 (wQ X G (qI G o) 0 0) 0 [(0, .ref (G.1 + b0)), (1, .int p1), (2, .int p2)] [] S
  refine m_aload_n C (dOf DX9_record 0 rfl) rfl 0 rfl ?_
  refine m_iconst C (dOf DX9_record 1 rfl) (v := 0) ki_0 ?_
  refine m_pI C (dOf DX9_record 2 rfl) kf_X9_51 fp_9_0 h (fun S1 h => ?_)
  refine m_iload_n C (dOf DX9_record 3 rfl) rfl 1 rfl ?_
  refine m_jn (J := fun (x2 : St) => WM X G 4 0 0 (wQ X G (qI G o) 0 0) 17 [] [] x2) h (fun x2 h => ?_) (fun j2 hj2 h => ?_)
  · refine m_bipush C (dOf DX9_record 9 rfl) (v := (-2)) kb_m2 ?_
    exact m_iret C rfl (dOf DX9_record 10 rfl) h
  refine m_iflt C (dOf DX9_record 4 rfl) (tgt := 17) rfl h (fun h => ?_) (fun h => ?_)
  · exact m_sub [] rfl (hj2 _ h)
  · refine m_aload_n C (dOf DX9_record 5 rfl) rfl 0 rfl ?_
    refine m_iload_n C (dOf DX9_record 6 rfl) rfl 1 rfl ?_
    obtain ⟨hc, h⟩ := ck_spec h
    refine m_cI (st := []) h (fun o' ho H locs ls hl hr hs => ⟨_, m_runV C (dOf DX9_record 7 rfl) km_X9_292 ky_X9_finds (by decide) ⟨rfl, rfl⟩ (c_X9_finds _ G _ _ _ o' ho) hc.1 hc.2 (by decide) rfl rfl rfl (Nat.le_of_ble_eq_true rfl) ⟨Nat.le_refl _, Nat.le_refl _⟩ hl hr hs⟩) (fun v4 S3 h => ?_)
    refine m_ifne C (dOf DX9_record 8 rfl) (tgt := 20) rfl h (fun h => ?_) (fun h => ?_)
    · refine m_iload_n C (dOf DX9_record 11 rfl) rfl 2 rfl ?_
      refine m_iconst C (dOf DX9_record 12 rfl) (v := 0) ki_0 ?_
      refine m_iconst C (dOf DX9_record 13 rfl) (v := 3) ki_3 ?_
      refine m_cP (st := []) h (fun o' ho H locs ls hl hr hs => ⟨_, m_runS C (dOf DX9_record 14 rfl) km_X9_76 ks_X9_in rfl (by decide) ⟨rfl, rfl⟩ (c_X9_in _ G _ _ _ _ o' ho) rfl rfl (Nat.le_of_ble_eq_true rfl) ⟨Nat.le_refl _, Nat.le_refl _⟩ hl hr hs⟩) (fun v5 h => ?_)
      refine m_ifeq C (dOf DX9_record 15 rfl) (tgt := 45) rfl h (fun h => ?_) (fun h => ?_)
      · refine m_iload_n C (dOf DX9_record 26 rfl) rfl 2 rfl ?_
        refine m_bipush C (dOf DX9_record 27 rfl) (v := 10) kb_10 ?_
        refine m_isub C (dOf DX9_record 28 rfl) h (fun v6 h => ?_)
        refine m_iconst C (dOf DX9_record 29 rfl) (v := 0) ki_0 ?_
        refine m_aload_n C (dOf DX9_record 30 rfl) rfl 0 rfl ?_
        refine m_aload_n C (dOf DX9_record 31 rfl) rfl 0 rfl ?_
        refine m_gI C (dOf DX9_record 32 rfl) kf_X9_286 fg_9_21 h (fun v7 h => ?_)
        refine m_aload_n C (dOf DX9_record 33 rfl) rfl 0 rfl ?_
        refine m_gI C (dOf DX9_record 34 rfl) kf_X9_289 fg_9_22 h (fun v8 h => ?_)
        refine m_iconst C (dOf DX9_record 35 rfl) (v := 4) ki_4 ?_
        obtain ⟨hc, h⟩ := ck_spec h
        refine m_cP (st := [.int 0, .int v6]) h (fun o' ho H locs ls hl hr hs => ⟨_, m_runV C (dOf DX9_record 36 rfl) km_X9_155 ky_X9_item (by decide) ⟨rfl, rfl⟩ (c_X9_item _ G _ _ _ _ _ o' ho) hc.1 hc.2 (by decide) rfl rfl rfl (Nat.le_of_ble_eq_true rfl) ⟨Nat.le_refl _, Nat.le_refl _⟩ hl hr hs⟩) (fun v9 h => ?_)
        refine m_iconst C (dOf DX9_record 37 rfl) (v := 1) ki_1 ?_
        refine m_isub C (dOf DX9_record 38 rfl) h (fun v10 h => ?_)
        refine m_cP (st := []) h (fun o' ho H locs ls hl hr hs => ⟨_, m_runS C (dOf DX9_record 39 rfl) km_X9_76 ks_X9_in rfl (by decide) ⟨rfl, rfl⟩ (c_X9_in _ G _ _ _ _ o' ho) rfl rfl (Nat.le_of_ble_eq_true rfl) ⟨Nat.le_refl _, Nat.le_refl _⟩ hl hr hs⟩) (fun v11 h => ?_)
        refine m_istore_n C (dOf DX9_record 40 rfl) rfl (by decide) (lv' := [(3, .int v11), (0, .ref (G.1 + b0)), (1, .int p1), (2, .int p2)]) rfl ?_
        refine m_iload_n C (dOf DX9_record 41 rfl) rfl 0 rfl ?_
        refine m_jn (J := fun (x12 : Int32) => WM X G 4 0 0 (wQ X G (qI G o) 0 0) 108 [] [.int x12] S3) h (fun x12 h => ?_) (fun j12 hj12 h => ?_)
        · exact m_iret C rfl (dOf DX9_record 64 rfl) h
        refine m_ifeq C (dOf DX9_record 42 rfl) (tgt := 106) rfl h (fun h => ?_) (fun h => ?_)
        · refine m_bipush C (dOf DX9_record 63 rfl) (v := (-2)) kb_m2 ?_
          exact m_sub [] rfl (hj12 _ h)
        · refine m_aload_n C (dOf DX9_record 43 rfl) rfl 1 rfl ?_
          refine m_aload_n C (dOf DX9_record 44 rfl) rfl 1 rfl ?_
          refine m_gI C (dOf DX9_record 45 rfl) kf_X9_286 fg_9_21 h (fun v13 h => ?_)
          refine m_iconst C (dOf DX9_record 46 rfl) (v := 4) ki_4 ?_
          refine m_aload_n C (dOf DX9_record 47 rfl) rfl 1 rfl ?_
          refine m_aload_n C (dOf DX9_record 48 rfl) rfl 1 rfl ?_
          refine m_gI C (dOf DX9_record 49 rfl) kf_X9_286 fg_9_21 h (fun v14 h => ?_)
          refine m_aload_n C (dOf DX9_record 50 rfl) rfl 1 rfl ?_
          refine m_gI C (dOf DX9_record 51 rfl) kf_X9_289 fg_9_22 h (fun v15 h => ?_)
          refine m_iconst C (dOf DX9_record 52 rfl) (v := 5) ki_5 ?_
          obtain ⟨hc, h⟩ := ck_spec h
          refine m_cP (st := [.int 4, .int v13, .ref (G.1 + b0)]) h (fun o' ho H locs ls hl hr hs => ⟨_, m_runV C (dOf DX9_record 53 rfl) km_X9_155 ky_X9_item (by decide) ⟨rfl, rfl⟩ (c_X9_item _ G _ _ _ _ _ o' ho) hc.1 hc.2 (by decide) rfl rfl rfl (Nat.le_of_ble_eq_true rfl) ⟨Nat.le_refl _, Nat.le_refl _⟩ hl hr hs⟩) (fun v16 h => ?_)
          refine m_iadd C (dOf DX9_record 54 rfl) h (fun v17 h => ?_)
          refine m_iconst C (dOf DX9_record 55 rfl) (v := 1) ki_1 ?_
          refine m_iadd C (dOf DX9_record 56 rfl) h (fun v18 h => ?_)
          refine m_iload_n C (dOf DX9_record 57 rfl) rfl 3 rfl ?_
          refine m_iadd C (dOf DX9_record 58 rfl) h (fun v19 h => ?_)
          refine m_bipush C (dOf DX9_record 59 rfl) (v := 10) kb_10 ?_
          refine m_isub C (dOf DX9_record 60 rfl) h (fun v20 h => ?_)
          obtain ⟨hc, h⟩ := ck_spec h
          refine m_cP (st := []) h (fun o' ho H locs ls hl hr hs => ⟨_, m_runV C (dOf DX9_record 61 rfl) km_X9_144 ky_X9_of (by decide) ⟨rfl, rfl⟩ (c_X9_of _ G _ _ _ _ o' ho) hc.1 hc.2 (by decide) rfl rfl rfl (Nat.le_of_ble_eq_true rfl) ⟨Nat.le_refl _, Nat.le_refl _⟩ hl hr hs⟩) (fun v21 h => ?_)
          refine m_goto C (dOf DX9_record 62 rfl) (tgt := 108) rfl ?_
          exact m_sub [] rfl (hj12 _ h)
      · refine m_aload_n C (dOf DX9_record 16 rfl) rfl 0 rfl ?_
        refine m_aload_n C (dOf DX9_record 17 rfl) rfl 0 rfl ?_
        refine m_gI C (dOf DX9_record 18 rfl) kf_X9_286 fg_9_21 h (fun v22 h => ?_)
        refine m_aload_n C (dOf DX9_record 19 rfl) rfl 0 rfl ?_
        refine m_gI C (dOf DX9_record 20 rfl) kf_X9_289 fg_9_22 h (fun v23 h => ?_)
        refine m_iconst C (dOf DX9_record 21 rfl) (v := 1) ki_1 ?_
        refine m_iload_n C (dOf DX9_record 22 rfl) rfl 2 rfl ?_
        refine m_iadd C (dOf DX9_record 23 rfl) h (fun v24 h => ?_)
        obtain ⟨hc, h⟩ := ck_spec h
        refine m_cP (st := []) h (fun o' ho H locs ls hl hr hs => ⟨_, m_runV C (dOf DX9_record 24 rfl) km_X9_155 ky_X9_item (by decide) ⟨rfl, rfl⟩ (c_X9_item _ G _ _ _ _ _ o' ho) hc.1 hc.2 (by decide) rfl rfl rfl (Nat.le_of_ble_eq_true rfl) ⟨Nat.le_refl _, Nat.le_refl _⟩ hl hr hs⟩) (fun v25 h => ?_)
        exact m_iret C rfl (dOf DX9_record 25 rfl) h
    · exact m_sub [] rfl (hj2 _ h)
/-- TraceRingModel.notRead()I -/
def f_X9_notRead (S : St) (b0 : Nat) : Option Int32 :=
  gR_ S b0 9 1 fun a1 =>
  aI_ S a1 11 8 fun v2 =>
  lp_ (fun self3 (x3 : Int32 × Int32) =>
    gR_ S b0 9 1 fun a4 =>
    aI_ S a4 11 7 fun v5 =>
    ck_ S b0 9 <| cP_ (f_X9_of S b0 v5 3) fun v6 =>
    if v6 ≤ x3.2 then
      rt_ x3.1
    else
      gR_ S b0 9 1 fun a7 =>
      aI_ S a7 11 7 fun v8 =>
      ck_ S b0 9 <| cP_ (f_X9_item S b0 v8 x3.2 0) fun v9 =>
      jn_ (fun (x10 : Int32) =>
        lt_ (x3.1 + x10 : Int32) fun v11 =>
        lt_ (x3.2 + 1) fun v12 =>
        self3 (v11, v12)
      ) fun j10 =>
      if v9 = 0 then
        j10 (1)
      else
        j10 (0)
  ) FU (0, v2)
set_option maxRecDepth 100000 in
set_option maxHeartbeats 4000000 in
theorem c_X9_notRead (l : Launch) (G : Gx) (S : St) (b0 : Nat) (o : Int32) (h : f_X9_notRead S b0 = some o) : Met l yX9_notRead (Cond.code yX9_notRead cX9_notRead 3 (some (.int)) :: wAll) ({ frames := 2, cells := 0, slots := 0, locals := 45 } : Room) (va_Pc [.ref (G.1 + b0)] (wPre G S)) (qI G (o, S)) 0 0 (wA G) := by
  refine m_start (by decide +kernel) (Nat.le_of_ble_eq_true rfl) (fun X C => ?_)
  unfold f_X9_notRead at h
  show WM X G 3 0 0 (wQ X G (qI G (o, S)) 0 0) 0 [(0, .ref (G.1 + b0))] [] S
  refine m_iconst C (dOf DX9_notRead 0 rfl) (v := 0) ki_0 ?_
  refine m_istore_n C (dOf DX9_notRead 1 rfl) rfl (by decide) (lv' := [(1, .int 0), (0, .ref (G.1 + b0))]) rfl ?_
  refine m_aload_n C (dOf DX9_notRead 2 rfl) rfl 1 rfl ?_
  refine m_gR C (dOf DX9_notRead 3 rfl) kf_X9_7 fg_9_1 h (fun a1 h => ?_)
  refine m_bipush C (dOf DX9_notRead 4 rfl) (v := 8) kb_8 ?_
  refine m_aI C (dOf DX9_notRead 5 rfl) h (fun v2 h => ?_)
  refine m_istore_n C (dOf DX9_notRead 6 rfl) rfl (by decide) (lv' := [(2, .int v2), (1, .int 0), (0, .ref (G.1 + b0))]) rfl ?_
  refine m_sub [2, 1, 0] rfl (m_lp (J := fun (x3 : Int32 × Int32) => WM X G 3 0 0 (wQ X G (qI G (o, S)) 0 0) 10 [(0, .ref (G.1 + b0)), (1, .int x3.1), (2, .int x3.2)] [] S) h (fun self3 hself3 x3 h => ?_))
  refine m_iload_n C (dOf DX9_notRead 7 rfl) rfl 2 rfl ?_
  refine m_aload_n C (dOf DX9_notRead 8 rfl) rfl 0 rfl ?_
  refine m_aload_n C (dOf DX9_notRead 9 rfl) rfl 0 rfl ?_
  refine m_gR C (dOf DX9_notRead 10 rfl) kf_X9_7 fg_9_1 h (fun a4 h => ?_)
  refine m_bipush C (dOf DX9_notRead 11 rfl) (v := 7) kb_7 ?_
  refine m_aI C (dOf DX9_notRead 12 rfl) h (fun v5 h => ?_)
  refine m_iconst C (dOf DX9_notRead 13 rfl) (v := 3) ki_3 ?_
  obtain ⟨hc, h⟩ := ck_spec h
  refine m_cP (st := [.int x3.2]) h (fun o' ho H locs ls hl hr hs => ⟨_, m_runV C (dOf DX9_notRead 14 rfl) km_X9_144 ky_X9_of (by decide) ⟨rfl, rfl⟩ (c_X9_of _ G _ _ _ _ o' ho) hc.1 hc.2 (by decide) rfl rfl rfl (Nat.le_of_ble_eq_true rfl) ⟨Nat.le_refl _, Nat.le_refl _⟩ hl hr hs⟩) (fun v6 h => ?_)
  refine m_icmpge C (dOf DX9_notRead 15 rfl) (tgt := 56) rfl h (fun h => ?_) (fun h => ?_)
  · refine m_iload_n C (dOf DX9_notRead 33 rfl) rfl 1 rfl ?_
    exact m_iretP C rfl (dOf DX9_notRead 34 rfl) h
  · refine m_iload_n C (dOf DX9_notRead 16 rfl) rfl 1 rfl ?_
    refine m_aload_n C (dOf DX9_notRead 17 rfl) rfl 0 rfl ?_
    refine m_aload_n C (dOf DX9_notRead 18 rfl) rfl 0 rfl ?_
    refine m_gR C (dOf DX9_notRead 19 rfl) kf_X9_7 fg_9_1 h (fun a7 h => ?_)
    refine m_bipush C (dOf DX9_notRead 20 rfl) (v := 7) kb_7 ?_
    refine m_aI C (dOf DX9_notRead 21 rfl) h (fun v8 h => ?_)
    refine m_iload_n C (dOf DX9_notRead 22 rfl) rfl 2 rfl ?_
    refine m_iconst C (dOf DX9_notRead 23 rfl) (v := 0) ki_0 ?_
    obtain ⟨hc, h⟩ := ck_spec h
    refine m_cP (st := [.int x3.1]) h (fun o' ho H locs ls hl hr hs => ⟨_, m_runV C (dOf DX9_notRead 24 rfl) km_X9_155 ky_X9_item (by decide) ⟨rfl, rfl⟩ (c_X9_item _ G _ _ _ _ _ o' ho) hc.1 hc.2 (by decide) rfl rfl rfl (Nat.le_of_ble_eq_true rfl) ⟨Nat.le_refl _, Nat.le_refl _⟩ hl hr hs⟩) (fun v9 h => ?_)
    refine m_jn (J := fun (x10 : Int32) => WM X G 3 0 0 (wQ X G (qI G (o, S)) 0 0) 48 [(0, .ref (G.1 + b0)), (2, .int x3.2)] [.int x10, .int x3.1] S) h (fun x10 h => ?_) (fun j10 hj10 h => ?_)
    · refine m_iadd C (dOf DX9_notRead 29 rfl) h (fun v11 h => ?_)
      refine m_istore_n C (dOf DX9_notRead 30 rfl) rfl (by decide) (lv' := [(1, .int v11), (0, .ref (G.1 + b0)), (2, .int x3.2)]) rfl ?_
      refine m_iinc C (dOf DX9_notRead 31 rfl) (w := 1) ki_1 2 rfl (by decide) h (fun v12 h => ⟨[(2, .int v12), (1, .int v11), (0, .ref (G.1 + b0))], rfl, ?_⟩)
      refine m_goto C (dOf DX9_notRead 32 rfl) (tgt := 10) rfl ?_
      exact m_sub [2, 1, 0] rfl (hself3 _ h)
    refine m_ifne C (dOf DX9_notRead 25 rfl) (tgt := 47) rfl h (fun h => ?_) (fun h => ?_)
    · refine m_iconst C (dOf DX9_notRead 28 rfl) (v := 0) ki_0 ?_
      exact m_sub [0, 2] rfl (hj10 _ h)
    · refine m_iconst C (dOf DX9_notRead 26 rfl) (v := 1) ki_1 ?_
      refine m_goto C (dOf DX9_notRead 27 rfl) (tgt := 48) rfl ?_
      exact m_sub [0, 2] rfl (hj10 _ h)
/-- TraceRingModel.latest(I)I -/
def f_X9_latest (S : St) (b0 : Nat) (p1 : Int32) : Option (Int32 × St) :=
  pI_ S b0 9 0 0 fun S1 =>
  if p1 = 5 then
    ck_ S1 b0 9 <| cP_ (f_X9_notRead S1 b0) fun v20 =>
    rt_ (v20, S1)
  else
    gR_ S1 b0 9 1 fun a2 =>
    aI_ S1 a2 11 30 fun v3 =>
    jn_ (fun (x4 : Unit) =>
      rt_ ((-2), S1)
    ) fun j4 =>
    if v3 = 0 then
      j4 ()
    else
      cP_ (f_X9_in S1 p1 0 4) fun v5 =>
      jn_ (fun (x6 : Unit) =>
        jn_ (fun (x7 : Int32) =>
          rt_ (x7, S1)
        ) fun j7 =>
        if 5 ≤ p1 then
          gR_ S1 b0 9 1 fun a8 =>
          lt_ (35 + p1 : Int32) fun v9 =>
          lt_ (v9 - 10 : Int32) fun v10 =>
          aI_ S1 a8 11 v10 fun v11 =>
          j7 (v11)
        else
          gR_ S1 b0 9 1 fun a12 =>
          lt_ (30 + p1 : Int32) fun v13 =>
          aI_ S1 a12 11 v13 fun v14 =>
          j7 (v14)
      ) fun j6 =>
      if v5 = 0 then
        lt_ (p1 - 10 : Int32) fun v15 =>
        gR_ S1 b0 9 1 fun a16 =>
        aI_ S1 a16 11 33 fun v17 =>
        lt_ (v17 - 1 : Int32) fun v18 =>
        cP_ (f_X9_in S1 v15 0 v18) fun v19 =>
        if v19 = 0 then
          j4 ()
        else
          j6 ()
      else
        j6 ()
set_option maxRecDepth 100000 in
set_option maxHeartbeats 4000000 in
theorem c_X9_latest (l : Launch) (G : Gx) (S : St) (b0 : Nat) (p1 : Int32) (o : (Int32 × St)) (h : f_X9_latest S b0 p1 = some o) : Met l yX9_latest (Cond.code yX9_latest cX9_latest 2 (some (.int)) :: wAll) ({ frames := 3, cells := 0, slots := 0, locals := 67 } : Room) (va_Pc [.ref (G.1 + b0), .int p1] (wPre G S)) (qI G o) 0 0 (wA G) := by
  refine m_start (by decide +kernel) (Nat.le_of_ble_eq_true rfl) (fun X C => ?_)
  unfold f_X9_latest at h
  show WM X G 2 0 0 (wQ X G (qI G o) 0 0) 0 [(0, .ref (G.1 + b0)), (1, .int p1)] [] S
  refine m_aload_n C (dOf DX9_latest 0 rfl) rfl 0 rfl ?_
  refine m_iconst C (dOf DX9_latest 1 rfl) (v := 0) ki_0 ?_
  refine m_pI C (dOf DX9_latest 2 rfl) kf_X9_51 fp_9_0 h (fun S1 h => ?_)
  refine m_iload_n C (dOf DX9_latest 3 rfl) rfl 1 rfl ?_
  refine m_iconst C (dOf DX9_latest 4 rfl) (v := 5) ki_5 ?_
  refine m_icmpne C (dOf DX9_latest 5 rfl) (tgt := 15) rfl h (fun h => ?_) (fun h => ?_)
  · refine m_aload_n C (dOf DX9_latest 9 rfl) rfl 0 rfl ?_
    refine m_gR C (dOf DX9_latest 10 rfl) kf_X9_7 fg_9_1 h (fun a2 h => ?_)
    refine m_bipush C (dOf DX9_latest 11 rfl) (v := 30) kb_30 ?_
    refine m_aI C (dOf DX9_latest 12 rfl) h (fun v3 h => ?_)
    refine m_jn (J := fun (x4 : Unit) => WM X G 2 0 0 (wQ X G (qI G o) 0 0) 54 [] [] S1) h (fun x4 h => ?_) (fun j4 hj4 h => ?_)
    · refine m_bipush C (dOf DX9_latest 31 rfl) (v := (-2)) kb_m2 ?_
      exact m_iret C rfl (dOf DX9_latest 32 rfl) h
    refine m_ifeq C (dOf DX9_latest 13 rfl) (tgt := 54) rfl h (fun h => ?_) (fun h => ?_)
    · exact m_sub [] rfl (hj4 _ h)
    · refine m_iload_n C (dOf DX9_latest 14 rfl) rfl 1 rfl ?_
      refine m_iconst C (dOf DX9_latest 15 rfl) (v := 0) ki_0 ?_
      refine m_iconst C (dOf DX9_latest 16 rfl) (v := 4) ki_4 ?_
      refine m_cP (st := []) h (fun o' ho H locs ls hl hr hs => ⟨_, m_runS C (dOf DX9_latest 17 rfl) km_X9_76 ks_X9_in rfl (by decide) ⟨rfl, rfl⟩ (c_X9_in _ G _ _ _ _ o' ho) rfl rfl (Nat.le_of_ble_eq_true rfl) ⟨Nat.le_refl _, Nat.le_refl _⟩ hl hr hs⟩) (fun v5 h => ?_)
      refine m_jn (J := fun (x6 : Unit) => WM X G 2 0 0 (wQ X G (qI G o) 0 0) 57 [(0, .ref (G.1 + b0)), (1, .int p1)] [] S1) h (fun x6 h => ?_) (fun j6 hj6 h => ?_)
      · refine m_iload_n C (dOf DX9_latest 33 rfl) rfl 1 rfl ?_
        refine m_iconst C (dOf DX9_latest 34 rfl) (v := 5) ki_5 ?_
        refine m_jn (J := fun (x7 : Int32) => WM X G 2 0 0 (wQ X G (qI G o) 0 0) 86 [] [.int x7] S1) h (fun x7 h => ?_) (fun j7 hj7 h => ?_)
        · exact m_iret C rfl (dOf DX9_latest 51 rfl) h
        refine m_icmpge C (dOf DX9_latest 35 rfl) (tgt := 74) rfl h (fun h => ?_) (fun h => ?_)
        · refine m_aload_n C (dOf DX9_latest 43 rfl) rfl 0 rfl ?_
          refine m_gR C (dOf DX9_latest 44 rfl) kf_X9_7 fg_9_1 h (fun a8 h => ?_)
          refine m_bipush C (dOf DX9_latest 45 rfl) (v := 35) kb_35 ?_
          refine m_iload_n C (dOf DX9_latest 46 rfl) rfl 1 rfl ?_
          refine m_iadd C (dOf DX9_latest 47 rfl) h (fun v9 h => ?_)
          refine m_bipush C (dOf DX9_latest 48 rfl) (v := 10) kb_10 ?_
          refine m_isub C (dOf DX9_latest 49 rfl) h (fun v10 h => ?_)
          refine m_aI C (dOf DX9_latest 50 rfl) h (fun v11 h => ?_)
          exact m_sub [] rfl (hj7 _ h)
        · refine m_aload_n C (dOf DX9_latest 36 rfl) rfl 0 rfl ?_
          refine m_gR C (dOf DX9_latest 37 rfl) kf_X9_7 fg_9_1 h (fun a12 h => ?_)
          refine m_bipush C (dOf DX9_latest 38 rfl) (v := 30) kb_30 ?_
          refine m_iload_n C (dOf DX9_latest 39 rfl) rfl 1 rfl ?_
          refine m_iadd C (dOf DX9_latest 40 rfl) h (fun v13 h => ?_)
          refine m_aI C (dOf DX9_latest 41 rfl) h (fun v14 h => ?_)
          refine m_goto C (dOf DX9_latest 42 rfl) (tgt := 86) rfl ?_
          exact m_sub [] rfl (hj7 _ h)
      refine m_ifne C (dOf DX9_latest 18 rfl) (tgt := 57) rfl h (fun h => ?_) (fun h => ?_)
      · exact m_sub [0, 1] rfl (hj6 _ h)
      · refine m_iload_n C (dOf DX9_latest 19 rfl) rfl 1 rfl ?_
        refine m_bipush C (dOf DX9_latest 20 rfl) (v := 10) kb_10 ?_
        refine m_isub C (dOf DX9_latest 21 rfl) h (fun v15 h => ?_)
        refine m_iconst C (dOf DX9_latest 22 rfl) (v := 0) ki_0 ?_
        refine m_aload_n C (dOf DX9_latest 23 rfl) rfl 0 rfl ?_
        refine m_gR C (dOf DX9_latest 24 rfl) kf_X9_7 fg_9_1 h (fun a16 h => ?_)
        refine m_bipush C (dOf DX9_latest 25 rfl) (v := 33) kb_33 ?_
        refine m_aI C (dOf DX9_latest 26 rfl) h (fun v17 h => ?_)
        refine m_iconst C (dOf DX9_latest 27 rfl) (v := 1) ki_1 ?_
        refine m_isub C (dOf DX9_latest 28 rfl) h (fun v18 h => ?_)
        refine m_cP (st := []) h (fun o' ho H locs ls hl hr hs => ⟨_, m_runS C (dOf DX9_latest 29 rfl) km_X9_76 ks_X9_in rfl (by decide) ⟨rfl, rfl⟩ (c_X9_in _ G _ _ _ _ o' ho) rfl rfl (Nat.le_of_ble_eq_true rfl) ⟨Nat.le_refl _, Nat.le_refl _⟩ hl hr hs⟩) (fun v19 h => ?_)
        refine m_ifne C (dOf DX9_latest 30 rfl) (tgt := 57) rfl h (fun h => ?_) (fun h => ?_)
        · exact m_sub [0, 1] rfl (hj6 _ h)
        · exact m_sub [] rfl (hj4 _ h)
  · refine m_aload_n C (dOf DX9_latest 6 rfl) rfl 0 rfl ?_
    obtain ⟨hc, h⟩ := ck_spec h
    refine m_cP (st := []) h (fun o' ho H locs ls hl hr hs => ⟨_, m_runV C (dOf DX9_latest 7 rfl) km_X9_295 ky_X9_notRead (by decide) ⟨rfl, rfl⟩ (c_X9_notRead _ G _ _ o' ho) hc.1 hc.2 (by decide) rfl rfl rfl (Nat.le_of_ble_eq_true rfl) ⟨Nat.le_refl _, Nat.le_refl _⟩ hl hr hs⟩) (fun v20 h => ?_)
    exact m_iret C rfl (dOf DX9_latest 8 rfl) h
/-- TraceRingModel.parses(II)V -/
def f_X9_parses (S : St) (b0 : Nat) (p1 : Int32) (p2 : Int32) : Option St :=
  ck_ S b0 9 <| cP_ (f_X9_of S b0 p1 0) fun v1 =>
  pI_ S b0 9 23 0 fun S2 =>
  lp_ (fun self3 (x3 : Int32 × Int32 × Int32 × St) =>
    ck_ x3.2.2.2 b0 9 <| cP_ (f_X9_of x3.2.2.2 b0 p1 1) fun v4 =>
    jn_ (fun (x5 : Unit) =>
      rt_ x3.2.2.2
    ) fun j5 =>
    if v4 ≤ x3.1 then
      j5 ()
    else
      gI_ x3.2.2.2 b0 9 23 fun v6 =>
      lt_ (p2 + 1 : Int32) fun v7 =>
      if v6 = v7 then
        j5 ()
      else
        lt_ (4 + x3.1 : Int32) fun v8 =>
        ck_ x3.2.2.2 b0 9 <| cP_ (f_X9_of x3.2.2.2 b0 p1 v8) fun v9 =>
        pI_ x3.2.2.2 b0 9 25 x3.1 fun S10 =>
        jn_ (fun (x11 : Int32) =>
          pI_ S10 b0 9 24 x11 fun S12 =>
          gI_ S12 b0 9 24 fun v13 =>
          jn_ (fun (x14 : Int32 × Int32 × St) =>
            gI_ x14.2.2 b0 9 26 fun v15 =>
            lt_ (x3.1 + v15 : Int32) fun v16 =>
            gI_ x14.2.2 b0 9 23 fun v17 =>
            lt_ (v17 + 1 : Int32) fun v18 =>
            pI_ x14.2.2 b0 9 23 v18 fun S19 =>
            self3 (v16, x14.1, x14.2.1, S19)
          ) fun j14 =>
          if v13 = 2 then
            rm_ v9 16 fun v34 =>
            lt_ (4 + x3.1 : Int32) fun v35 =>
            lt_ (v35 + 1 : Int32) fun v36 =>
            ck_ S12 b0 9 <| cP_ (f_X9_of S12 b0 p1 v36) fun v37 =>
            lt_ (16 * v37 : Int32) fun v38 =>
            lt_ (v34 + v38 : Int32) fun v39 =>
            lt_ (4 + x3.1 : Int32) fun v40 =>
            lt_ (v40 + 2 : Int32) fun v41 =>
            ck_ S12 b0 9 <| cP_ (f_X9_of S12 b0 p1 v41) fun v42 =>
            lt_ (4096 * v42 : Int32) fun v43 =>
            lt_ (v39 + v43 : Int32) fun v44 =>
            pI_ S12 b0 9 26 3 fun S45 =>
            pI_ S45 b0 9 27 v44 fun S46 =>
            pI_ S46 b0 9 28 0 fun S47 =>
            j14 (x3.2.1, v44, S47)
          else
            rm_ v9 16 fun v20 =>
            lt_ (x3.2.2.1 + v20 : Int32) fun v21 =>
            lt_ (x3.2.1 + v21 : Int32) fun v22 =>
            gI_ S12 b0 9 24 fun v23 =>
            jn_ (fun (x24 : Int32) =>
              pI_ S12 b0 9 28 x24 fun S25 =>
              gI_ S25 b0 9 28 fun v26 =>
              lt_ (1 + v26 : Int32) fun v27 =>
              pI_ S25 b0 9 26 v27 fun S28 =>
              pI_ S28 b0 9 27 v22 fun S29 =>
              j14 (v22, 0, S29)
            ) fun j24 =>
            if v23 = 1 then
              lt_ (4 + x3.1 : Int32) fun v31 =>
              lt_ (v31 + 1 : Int32) fun v32 =>
              ck_ S12 b0 9 <| cP_ (f_X9_of S12 b0 p1 v32) fun v33 =>
              j24 (v33)
            else
              dv_ v9 16 fun v30 =>
              j24 (v30)
        ) fun j11 =>
        if v9 < 240 then
          if v9 < 224 then
            j11 (0)
          else
            j11 (1)
        else
          j11 (2)
  ) FU (0, v1, 0, S2)
set_option maxRecDepth 100000 in
set_option maxHeartbeats 4000000 in
theorem c_X9_parses (l : Launch) (G : Gx) (S : St) (b0 : Nat) (p1 : Int32) (p2 : Int32) (o : St) (h : f_X9_parses S b0 p1 p2 = some o) : Met l yX9_parses (Cond.code yX9_parses cX9_parses 7 none :: wAll) ({ frames := 1, cells := 0, slots := 0, locals := 22 } : Room) (va_Pc [.ref (G.1 + b0), .int p1, .int p2] (wPre G S)) (qV G o) 0 0 (wA G) := by
  refine m_start (by decide +kernel) (Nat.le_of_ble_eq_true rfl) (fun X C => ?_)
  unfold f_X9_parses at h
  show WM X G 7 0 0 (wQ X G (qV G o) 0 0) 0 [(0, .ref (G.1 + b0)), (1, .int p1), (2, .int p2)] [] S
  refine m_iconst C (dOf DX9_parses 0 rfl) (v := 0) ki_0 ?_
  refine m_istore_n C (dOf DX9_parses 1 rfl) rfl (by decide) (lv' := [(3, .int 0), (0, .ref (G.1 + b0)), (1, .int p1), (2, .int p2)]) rfl ?_
  refine m_aload_n C (dOf DX9_parses 2 rfl) rfl 1 rfl ?_
  refine m_iload_n C (dOf DX9_parses 3 rfl) rfl 2 rfl ?_
  refine m_iconst C (dOf DX9_parses 4 rfl) (v := 0) ki_0 ?_
  obtain ⟨hc, h⟩ := ck_spec h
  refine m_cP (st := []) h (fun o' ho H locs ls hl hr hs => ⟨_, m_runV C (dOf DX9_parses 5 rfl) km_X9_144 ky_X9_of (by decide) ⟨rfl, rfl⟩ (c_X9_of _ G _ _ _ _ o' ho) hc.1 hc.2 (by decide) rfl rfl rfl (Nat.le_of_ble_eq_true rfl) ⟨Nat.le_refl _, Nat.le_refl _⟩ hl hr hs⟩) (fun v1 h => ?_)
  refine m_istore C (dOf DX9_parses 6 rfl) (by decide) (lv' := [(4, .int v1), (3, .int 0), (0, .ref (G.1 + b0)), (1, .int p1), (2, .int p2)]) rfl ?_
  refine m_iconst C (dOf DX9_parses 7 rfl) (v := 0) ki_0 ?_
  refine m_istore C (dOf DX9_parses 8 rfl) (by decide) (lv' := [(5, .int 0), (4, .int v1), (3, .int 0), (0, .ref (G.1 + b0)), (1, .int p1), (2, .int p2)]) rfl ?_
  refine m_aload_n C (dOf DX9_parses 9 rfl) rfl 3 rfl ?_
  refine m_iconst C (dOf DX9_parses 10 rfl) (v := 0) ki_0 ?_
  refine m_pI C (dOf DX9_parses 11 rfl) kf_X9_298 fp_9_23 h (fun S2 h => ?_)
  refine m_sub [3, 4, 5, 2, 1, 0] rfl (m_lp (J := fun (x3 : Int32 × Int32 × Int32 × St) => WM X G 7 0 0 (wQ X G (qV G o) 0 0) 18 [(0, .ref (G.1 + b0)), (1, .int p1), (2, .int p2), (3, .int x3.1), (4, .int x3.2.1), (5, .int x3.2.2.1)] [] x3.2.2.2) h (fun self3 hself3 x3 h => ?_))
  refine m_iload_n C (dOf DX9_parses 12 rfl) rfl 3 rfl ?_
  refine m_aload_n C (dOf DX9_parses 13 rfl) rfl 0 rfl ?_
  refine m_iload_n C (dOf DX9_parses 14 rfl) rfl 1 rfl ?_
  refine m_iconst C (dOf DX9_parses 15 rfl) (v := 1) ki_1 ?_
  obtain ⟨hc, h⟩ := ck_spec h
  refine m_cP (st := [.int x3.1]) h (fun o' ho H locs ls hl hr hs => ⟨_, m_runV C (dOf DX9_parses 16 rfl) km_X9_144 ky_X9_of (by decide) ⟨rfl, rfl⟩ (c_X9_of _ G _ _ _ _ o' ho) hc.1 hc.2 (by decide) rfl rfl rfl (Nat.le_of_ble_eq_true rfl) ⟨Nat.le_refl _, Nat.le_refl _⟩ hl hr hs⟩) (fun v4 h => ?_)
  refine m_jn (J := fun (x5 : Unit) => WM X G 7 0 0 (wQ X G (qV G o) 0 0) 227 [] [] x3.2.2.2) h (fun x5 h => ?_) (fun j5 hj5 h => ?_)
  · exact m_vret C rfl (dOf DX9_parses_1 16 rfl) h
  refine m_icmpge C (dOf DX9_parses 17 rfl) (tgt := 227) rfl h (fun h => ?_) (fun h => ?_)
  · exact m_sub [] rfl (hj5 _ h)
  · refine m_aload_n C (dOf DX9_parses 18 rfl) rfl 0 rfl ?_
    refine m_gI C (dOf DX9_parses 19 rfl) kf_X9_298 fg_9_23 h (fun v6 h => ?_)
    refine m_iload_n C (dOf DX9_parses 20 rfl) rfl 2 rfl ?_
    refine m_iconst C (dOf DX9_parses 21 rfl) (v := 1) ki_1 ?_
    refine m_iadd C (dOf DX9_parses 22 rfl) h (fun v7 h => ?_)
    refine m_icmpeq C (dOf DX9_parses 23 rfl) (tgt := 227) rfl h (fun h => ?_) (fun h => ?_)
    · exact m_sub [] rfl (hj5 _ h)
    · refine m_aload_n C (dOf DX9_parses 24 rfl) rfl 0 rfl ?_
      refine m_iload_n C (dOf DX9_parses 25 rfl) rfl 1 rfl ?_
      refine m_iconst C (dOf DX9_parses 26 rfl) (v := 4) ki_4 ?_
      refine m_iload_n C (dOf DX9_parses 27 rfl) rfl 3 rfl ?_
      refine m_iadd C (dOf DX9_parses 28 rfl) h (fun v8 h => ?_)
      obtain ⟨hc, h⟩ := ck_spec h
      refine m_cP (st := []) h (fun o' ho H locs ls hl hr hs => ⟨_, m_runV C (dOf DX9_parses 29 rfl) km_X9_144 ky_X9_of (by decide) ⟨rfl, rfl⟩ (c_X9_of _ G _ _ _ _ o' ho) hc.1 hc.2 (by decide) rfl rfl rfl (Nat.le_of_ble_eq_true rfl) ⟨Nat.le_refl _, Nat.le_refl _⟩ hl hr hs⟩) (fun v9 h => ?_)
      refine m_istore C (dOf DX9_parses 30 rfl) (by decide) (lv' := [(6, .int v9), (0, .ref (G.1 + b0)), (1, .int p1), (2, .int p2), (3, .int x3.1), (4, .int x3.2.1), (5, .int x3.2.2.1)]) rfl ?_
      refine m_aload_n C (dOf DX9_parses 31 rfl) rfl 1 rfl ?_
      refine m_iload_n C (dOf DX9_parses 32 rfl) rfl 4 rfl ?_
      refine m_pI C (dOf DX9_parses 33 rfl) kf_X9_301 fp_9_25 h (fun S10 h => ?_)
      refine m_aload_n C (dOf DX9_parses 34 rfl) rfl 1 rfl ?_
      refine m_iload C (dOf DX9_parses 35 rfl) 0 rfl ?_
      refine m_sipush C (dOf DX9_parses 36 rfl) (v := 240) ks_240 ?_
      refine m_jn (J := fun (x11 : Int32) => WM X G 7 0 0 (wQ X G (qV G o) 0 0) 79 [(0, .ref (G.1 + b0)), (1, .int p1), (2, .int p2), (3, .int x3.1), (4, .int x3.2.1), (5, .int x3.2.2.1), (6, .int v9)] [.int x11, .ref (G.1 + b0)] S10) h (fun x11 h => ?_) (fun j11 hj11 h => ?_)
      · refine m_pI C (dOf DX9_parses 46 rfl) kf_X9_304 fp_9_24 h (fun S12 h => ?_)
        refine m_aload_n C (dOf DX9_parses 47 rfl) rfl 0 rfl ?_
        refine m_gI C (dOf DX9_parses 48 rfl) kf_X9_304 fg_9_24 h (fun v13 h => ?_)
        refine m_iconst C (dOf DX9_parses 49 rfl) (v := 2) ki_2 ?_
        refine m_jn (J := fun (x14 : Int32 × Int32 × St) => WM X G 7 0 0 (wQ X G (qV G o) 0 0) 207 [(0, .ref (G.1 + b0)), (1, .int p1), (2, .int p2), (3, .int x3.1), (4, .int x14.1), (5, .int x14.2.1)] [] x14.2.2) h (fun x14 h => ?_) (fun j14 hj14 h => ?_)
        · refine m_iload_n C (dOf DX9_parses_1 4 rfl) rfl 3 rfl ?_
          refine m_aload_n C (dOf DX9_parses_1 5 rfl) rfl 0 rfl ?_
          refine m_gI C (dOf DX9_parses_1 6 rfl) kf_X9_307 fg_9_26 h (fun v15 h => ?_)
          refine m_iadd C (dOf DX9_parses_1 7 rfl) h (fun v16 h => ?_)
          refine m_istore_n C (dOf DX9_parses_1 8 rfl) rfl (by decide) (lv' := [(3, .int v16), (0, .ref (G.1 + b0)), (1, .int p1), (2, .int p2), (4, .int x14.1), (5, .int x14.2.1)]) rfl ?_
          refine m_aload_n C (dOf DX9_parses_1 9 rfl) rfl 1 rfl ?_
          refine m_dup C (dOf DX9_parses_1 10 rfl) rfl ?_
          refine m_gI C (dOf DX9_parses_1 11 rfl) kf_X9_298 fg_9_23 h (fun v17 h => ?_)
          refine m_iconst C (dOf DX9_parses_1 12 rfl) (v := 1) ki_1 ?_
          refine m_iadd C (dOf DX9_parses_1 13 rfl) h (fun v18 h => ?_)
          refine m_pI C (dOf DX9_parses_1 14 rfl) kf_X9_298 fp_9_23 h (fun S19 h => ?_)
          refine m_goto C (dOf DX9_parses_1 15 rfl) (tgt := 18) rfl ?_
          exact m_sub [1, 2, 3, 0, 4, 5] rfl (hself3 _ h)
        refine m_icmpne C (dOf DX9_parses 50 rfl) (tgt := 145) rfl h (fun h => ?_) (fun h => ?_)
        · refine m_iload C (dOf DX9_parses 87 rfl) 4 rfl ?_
          refine m_iload C (dOf DX9_parses 88 rfl) 5 rfl ?_
          refine m_iload C (dOf DX9_parses 89 rfl) 6 rfl ?_
          refine m_bipush C (dOf DX9_parses 90 rfl) (v := 16) kb_16 ?_
          refine m_irem C (dOf DX9_parses 91 rfl) h (fun v20 h => ?_)
          refine m_iadd C (dOf DX9_parses 92 rfl) h (fun v21 h => ?_)
          refine m_iadd C (dOf DX9_parses 93 rfl) h (fun v22 h => ?_)
          refine m_istore C (dOf DX9_parses 94 rfl) (by decide) (lv' := [(4, .int v22), (0, .ref (G.1 + b0)), (1, .int p1), (2, .int p2), (3, .int x3.1), (5, .int x3.2.2.1), (6, .int v9)]) rfl ?_
          refine m_iconst C (dOf DX9_parses 95 rfl) (v := 0) ki_0 ?_
          refine m_istore C (dOf DX9_parses 96 rfl) (by decide) (lv' := [(5, .int 0), (4, .int v22), (0, .ref (G.1 + b0)), (1, .int p1), (2, .int p2), (3, .int x3.1), (6, .int v9)]) rfl ?_
          refine m_aload_n C (dOf DX9_parses 97 rfl) rfl 2 rfl ?_
          refine m_aload_n C (dOf DX9_parses 98 rfl) rfl 2 rfl ?_
          refine m_gI C (dOf DX9_parses 99 rfl) kf_X9_304 fg_9_24 h (fun v23 h => ?_)
          refine m_iconst C (dOf DX9_parses 100 rfl) (v := 1) ki_1 ?_
          refine m_jn (J := fun (x24 : Int32) => WM X G 7 0 0 (wQ X G (qV G o) 0 0) 188 [(0, .ref (G.1 + b0)), (1, .int p1), (2, .int p2), (3, .int x3.1), (4, .int v22), (5, .int 0)] [.int x24, .ref (G.1 + b0)] S12) h (fun x24 h => ?_) (fun j24 hj24 h => ?_)
          · refine m_pI C (dOf DX9_parses 114 rfl) kf_X9_313 fp_9_28 h (fun S25 h => ?_)
            refine m_aload_n C (dOf DX9_parses 115 rfl) rfl 0 rfl ?_
            refine m_iconst C (dOf DX9_parses 116 rfl) (v := 1) ki_1 ?_
            refine m_aload_n C (dOf DX9_parses 117 rfl) rfl 0 rfl ?_
            refine m_gI C (dOf DX9_parses 118 rfl) kf_X9_313 fg_9_28 h (fun v26 h => ?_)
            refine m_iadd C (dOf DX9_parses 119 rfl) h (fun v27 h => ?_)
            refine m_pI C (dOf DX9_parses_1 0 rfl) kf_X9_307 fp_9_26 h (fun S28 h => ?_)
            refine m_aload_n C (dOf DX9_parses_1 1 rfl) rfl 0 rfl ?_
            refine m_iload C (dOf DX9_parses_1 2 rfl) 4 rfl ?_
            refine m_pI C (dOf DX9_parses_1 3 rfl) kf_X9_310 fp_9_27 h (fun S29 h => ?_)
            exact m_sub [0, 1, 2, 3, 4, 5] rfl (hj14 _ h)
          refine m_icmpne C (dOf DX9_parses 101 rfl) (tgt := 183) rfl h (fun h => ?_) (fun h => ?_)
          · refine m_iload C (dOf DX9_parses 111 rfl) 6 rfl ?_
            refine m_bipush C (dOf DX9_parses 112 rfl) (v := 16) kb_16 ?_
            refine m_idiv C (dOf DX9_parses 113 rfl) h (fun v30 h => ?_)
            exact m_sub [2, 3, 4, 5, 1, 0] rfl (hj24 _ h)
          · refine m_aload_n C (dOf DX9_parses 102 rfl) rfl 2 rfl ?_
            refine m_iload_n C (dOf DX9_parses 103 rfl) rfl 3 rfl ?_
            refine m_iconst C (dOf DX9_parses 104 rfl) (v := 4) ki_4 ?_
            refine m_iload_n C (dOf DX9_parses 105 rfl) rfl 5 rfl ?_
            refine m_iadd C (dOf DX9_parses 106 rfl) h (fun v31 h => ?_)
            refine m_iconst C (dOf DX9_parses 107 rfl) (v := 1) ki_1 ?_
            refine m_iadd C (dOf DX9_parses 108 rfl) h (fun v32 h => ?_)
            obtain ⟨hc, h⟩ := ck_spec h
            refine m_cP (st := [.ref (G.1 + b0)]) h (fun o' ho H locs ls hl hr hs => ⟨_, m_runV C (dOf DX9_parses 109 rfl) km_X9_144 ky_X9_of (by decide) ⟨rfl, rfl⟩ (c_X9_of _ G _ _ _ _ o' ho) hc.1 hc.2 (by decide) rfl rfl rfl (Nat.le_of_ble_eq_true rfl) ⟨Nat.le_refl _, Nat.le_refl _⟩ hl hr hs⟩) (fun v33 h => ?_)
            refine m_goto C (dOf DX9_parses 110 rfl) (tgt := 188) rfl ?_
            exact m_sub [2, 3, 4, 5, 1, 0] rfl (hj24 _ h)
        · refine m_iload C (dOf DX9_parses 51 rfl) 6 rfl ?_
          refine m_bipush C (dOf DX9_parses 52 rfl) (v := 16) kb_16 ?_
          refine m_irem C (dOf DX9_parses 53 rfl) h (fun v34 h => ?_)
          refine m_bipush C (dOf DX9_parses 54 rfl) (v := 16) kb_16 ?_
          refine m_aload_n C (dOf DX9_parses 55 rfl) rfl 0 rfl ?_
          refine m_iload_n C (dOf DX9_parses 56 rfl) rfl 1 rfl ?_
          refine m_iconst C (dOf DX9_parses 57 rfl) (v := 4) ki_4 ?_
          refine m_iload_n C (dOf DX9_parses 58 rfl) rfl 3 rfl ?_
          refine m_iadd C (dOf DX9_parses 59 rfl) h (fun v35 h => ?_)
          refine m_iconst C (dOf DX9_parses 60 rfl) (v := 1) ki_1 ?_
          refine m_iadd C (dOf DX9_parses 61 rfl) h (fun v36 h => ?_)
          obtain ⟨hc, h⟩ := ck_spec h
          refine m_cP (st := [.int 16, .int v34]) h (fun o' ho H locs ls hl hr hs => ⟨_, m_runV C (dOf DX9_parses 62 rfl) km_X9_144 ky_X9_of (by decide) ⟨rfl, rfl⟩ (c_X9_of _ G _ _ _ _ o' ho) hc.1 hc.2 (by decide) rfl rfl rfl (Nat.le_of_ble_eq_true rfl) ⟨Nat.le_refl _, Nat.le_refl _⟩ hl hr hs⟩) (fun v37 h => ?_)
          refine m_imul C (dOf DX9_parses 63 rfl) h (fun v38 h => ?_)
          refine m_iadd C (dOf DX9_parses 64 rfl) h (fun v39 h => ?_)
          refine m_sipush C (dOf DX9_parses 65 rfl) (v := 4096) ks_4096 ?_
          refine m_aload_n C (dOf DX9_parses 66 rfl) rfl 0 rfl ?_
          refine m_iload_n C (dOf DX9_parses 67 rfl) rfl 1 rfl ?_
          refine m_iconst C (dOf DX9_parses 68 rfl) (v := 4) ki_4 ?_
          refine m_iload_n C (dOf DX9_parses 69 rfl) rfl 3 rfl ?_
          refine m_iadd C (dOf DX9_parses 70 rfl) h (fun v40 h => ?_)
          refine m_iconst C (dOf DX9_parses 71 rfl) (v := 2) ki_2 ?_
          refine m_iadd C (dOf DX9_parses 72 rfl) h (fun v41 h => ?_)
          obtain ⟨hc, h⟩ := ck_spec h
          refine m_cP (st := [.int 4096, .int v39]) h (fun o' ho H locs ls hl hr hs => ⟨_, m_runV C (dOf DX9_parses 73 rfl) km_X9_144 ky_X9_of (by decide) ⟨rfl, rfl⟩ (c_X9_of _ G _ _ _ _ o' ho) hc.1 hc.2 (by decide) rfl rfl rfl (Nat.le_of_ble_eq_true rfl) ⟨Nat.le_refl _, Nat.le_refl _⟩ hl hr hs⟩) (fun v42 h => ?_)
          refine m_imul C (dOf DX9_parses 74 rfl) h (fun v43 h => ?_)
          refine m_iadd C (dOf DX9_parses 75 rfl) h (fun v44 h => ?_)
          refine m_istore C (dOf DX9_parses 76 rfl) (by decide) (lv' := [(5, .int v44), (0, .ref (G.1 + b0)), (1, .int p1), (2, .int p2), (3, .int x3.1), (4, .int x3.2.1), (6, .int v9)]) rfl ?_
          refine m_aload_n C (dOf DX9_parses 77 rfl) rfl 1 rfl ?_
          refine m_iconst C (dOf DX9_parses 78 rfl) (v := 3) ki_3 ?_
          refine m_pI C (dOf DX9_parses 79 rfl) kf_X9_307 fp_9_26 h (fun S45 h => ?_)
          refine m_aload_n C (dOf DX9_parses 80 rfl) rfl 1 rfl ?_
          refine m_iload C (dOf DX9_parses 81 rfl) 0 rfl ?_
          refine m_pI C (dOf DX9_parses 82 rfl) kf_X9_310 fp_9_27 h (fun S46 h => ?_)
          refine m_aload_n C (dOf DX9_parses 83 rfl) rfl 1 rfl ?_
          refine m_iconst C (dOf DX9_parses 84 rfl) (v := 0) ki_0 ?_
          refine m_pI C (dOf DX9_parses 85 rfl) kf_X9_313 fp_9_28 h (fun S47 h => ?_)
          refine m_goto C (dOf DX9_parses 86 rfl) (tgt := 207) rfl ?_
          exact m_sub [1, 2, 3, 4, 5, 0] rfl (hj14 _ h)
      refine m_icmplt C (dOf DX9_parses 37 rfl) (tgt := 66) rfl h (fun h => ?_) (fun h => ?_)
      · refine m_iload C (dOf DX9_parses 40 rfl) 0 rfl ?_
        refine m_sipush C (dOf DX9_parses 41 rfl) (v := 224) ks_224 ?_
        refine m_icmplt C (dOf DX9_parses 42 rfl) (tgt := 78) rfl h (fun h => ?_) (fun h => ?_)
        · refine m_iconst C (dOf DX9_parses 45 rfl) (v := 0) ki_0 ?_
          exact m_sub [1, 2, 3, 4, 5, 6, 0] rfl (hj11 _ h)
        · refine m_iconst C (dOf DX9_parses 43 rfl) (v := 1) ki_1 ?_
          refine m_goto C (dOf DX9_parses 44 rfl) (tgt := 79) rfl ?_
          exact m_sub [1, 2, 3, 4, 5, 6, 0] rfl (hj11 _ h)
      · refine m_iconst C (dOf DX9_parses 38 rfl) (v := 2) ki_2 ?_
        refine m_goto C (dOf DX9_parses 39 rfl) (tgt := 79) rfl ?_
        exact m_sub [1, 2, 3, 4, 5, 6, 0] rfl (hj11 _ h)
/-- TraceRingModel.parsed(III)I -/
def f_X9_parsed (S : St) (b0 : Nat) (p1 : Int32) (p2 : Int32) (p3 : Int32) : Option (Int32 × St) :=
  pI_ S b0 9 0 0 fun S1 =>
  ck_ S1 b0 9 <| cP_ (f_X9_livePage S1 b0 p1) fun v2 =>
  jn_ (fun (x3 : Unit) =>
    rt_ ((-2), S1)
  ) fun j3 =>
  if v2 = (-2) then
    j3 ()
  else
    if (-1) ≤ p2 then
      jn_ (fun (x4 : Int32) =>
        ck_ S1 b0 9 <| cV_ (f_X9_parses S1 b0 v2 x4) fun S5 =>
        if p2 = (-1) then
          jn_ (fun (x13 : Int32) =>
            rt_ (x13, S5)
          ) fun j13 =>
          if p3 = 0 then
            gI_ S5 b0 9 23 fun v14 =>
            j13 (v14)
          else
            j13 ((-2))
        else
          gI_ S5 b0 9 23 fun v6 =>
          lt_ (p2 + 1 : Int32) fun v7 =>
          if v6 = v7 then
            if p3 = 0 then
              gI_ S5 b0 9 24 fun v8 =>
              rt_ (v8, S5)
            else
            if p3 = 1 then
              gI_ S5 b0 9 25 fun v9 =>
              rt_ (v9, S5)
            else
            if p3 = 2 then
              gI_ S5 b0 9 26 fun v10 =>
              rt_ (v10, S5)
            else
            if p3 = 3 then
              gI_ S5 b0 9 27 fun v11 =>
              rt_ (v11, S5)
            else
            if p3 = 4 then
              gI_ S5 b0 9 28 fun v12 =>
              rt_ (v12, S5)
            else
            rt_ ((-2), S5)
          else
            rt_ ((-2), S5)
      ) fun j4 =>
      if p2 = (-1) then
        j4 (32)
      else
        j4 (p2)
    else
      j3 ()
set_option maxRecDepth 100000 in
set_option maxHeartbeats 4000000 in
theorem c_X9_parsed (l : Launch) (G : Gx) (S : St) (b0 : Nat) (p1 : Int32) (p2 : Int32) (p3 : Int32) (o : (Int32 × St)) (h : f_X9_parsed S b0 p1 p2 p3 = some o) : Met l yX9_parsed (Cond.code yX9_parsed cX9_parsed 5 (some (.int)) :: wAll) ({ frames := 2, cells := 0, slots := 0, locals := 48 } : Room) (va_Pc [.ref (G.1 + b0), .int p1, .int p2, .int p3] (wPre G S)) (qI G o) 0 0 (wA G) := by
  refine m_start (by decide +kernel) (Nat.le_of_ble_eq_true rfl) (fun X C => ?_)
  unfold f_X9_parsed at h
  show WM X G 5 0 0 (wQ X G (qI G o) 0 0) 0 [(0, .ref (G.1 + b0)), (1, .int p1), (2, .int p2), (3, .int p3)] [] S
  refine m_aload_n C (dOf DX9_parsed 0 rfl) rfl 0 rfl ?_
  refine m_iconst C (dOf DX9_parsed 1 rfl) (v := 0) ki_0 ?_
  refine m_pI C (dOf DX9_parsed 2 rfl) kf_X9_51 fp_9_0 h (fun S1 h => ?_)
  refine m_aload_n C (dOf DX9_parsed 3 rfl) rfl 0 rfl ?_
  refine m_iload_n C (dOf DX9_parsed 4 rfl) rfl 1 rfl ?_
  obtain ⟨hc, h⟩ := ck_spec h
  refine m_cP (st := []) h (fun o' ho H locs ls hl hr hs => ⟨_, m_runV C (dOf DX9_parsed 5 rfl) km_X9_213 ky_X9_livePage (by decide) ⟨rfl, rfl⟩ (c_X9_livePage _ G _ _ _ o' ho) hc.1 hc.2 (by decide) rfl rfl rfl (Nat.le_of_ble_eq_true rfl) ⟨Nat.le_refl _, Nat.le_refl _⟩ hl hr hs⟩) (fun v2 h => ?_)
  refine m_istore C (dOf DX9_parsed 6 rfl) (by decide) (lv' := [(4, .int v2), (0, .ref (G.1 + b0)), (1, .int p1), (2, .int p2), (3, .int p3)]) rfl ?_
  refine m_iload C (dOf DX9_parsed 7 rfl) 0 rfl ?_
  refine m_bipush C (dOf DX9_parsed 8 rfl) (v := (-2)) kb_m2 ?_
  refine m_jn (J := fun (x3 : Unit) => WM X G 5 0 0 (wQ X G (qI G o) 0 0) 24 [] [] S1) h (fun x3 h => ?_) (fun j3 hj3 h => ?_)
  · refine m_bipush C (dOf DX9_parsed 13 rfl) (v := (-2)) kb_m2 ?_
    exact m_iret C rfl (dOf DX9_parsed 14 rfl) h
  refine m_icmpeq C (dOf DX9_parsed 9 rfl) (tgt := 24) rfl h (fun h => ?_) (fun h => ?_)
  · exact m_sub [] rfl (hj3 _ h)
  · refine m_iload_n C (dOf DX9_parsed 10 rfl) rfl 3 rfl ?_
    refine m_iconst C (dOf DX9_parsed 11 rfl) (v := (-1)) ki_m1 ?_
    refine m_icmpge C (dOf DX9_parsed 12 rfl) (tgt := 27) rfl h (fun h => ?_) (fun h => ?_)
    · refine m_aload_n C (dOf DX9_parsed 15 rfl) rfl 1 rfl ?_
      refine m_iload C (dOf DX9_parsed 16 rfl) 0 rfl ?_
      refine m_iload_n C (dOf DX9_parsed 17 rfl) rfl 3 rfl ?_
      refine m_iconst C (dOf DX9_parsed 18 rfl) (v := (-1)) ki_m1 ?_
      refine m_jn (J := fun (x4 : Int32) => WM X G 5 0 0 (wQ X G (qI G o) 0 0) 41 [(0, .ref (G.1 + b0)), (2, .int p2), (3, .int p3)] [.int x4, .int v2, .ref (G.1 + b0)] S1) h (fun x4 h => ?_) (fun j4 hj4 h => ?_)
      · obtain ⟨hc, h⟩ := ck_spec h
        refine m_cV (st := []) h (fun o' ho H locs ls hl hr hs => ⟨_, m_runV C (dOf DX9_parsed 23 rfl) km_X9_316 ky_X9_parses (by decide) ⟨rfl, rfl⟩ (c_X9_parses _ G _ _ _ _ o' ho) hc.1 hc.2 (by decide) rfl rfl rfl (Nat.le_of_ble_eq_true rfl) ⟨Nat.le_refl _, Nat.le_refl _⟩ hl hr hs⟩) (fun S5 h => ?_)
        refine m_iload_n C (dOf DX9_parsed 24 rfl) rfl 1 rfl ?_
        refine m_iconst C (dOf DX9_parsed 25 rfl) (v := (-1)) ki_m1 ?_
        refine m_icmpne C (dOf DX9_parsed 26 rfl) (tgt := 63) rfl h (fun h => ?_) (fun h => ?_)
        · refine m_aload_n C (dOf DX9_parsed 34 rfl) rfl 0 rfl ?_
          refine m_gI C (dOf DX9_parsed 35 rfl) kf_X9_298 fg_9_23 h (fun v6 h => ?_)
          refine m_iload_n C (dOf DX9_parsed 36 rfl) rfl 1 rfl ?_
          refine m_iconst C (dOf DX9_parsed 37 rfl) (v := 1) ki_1 ?_
          refine m_iadd C (dOf DX9_parsed 38 rfl) h (fun v7 h => ?_)
          refine m_icmpeq C (dOf DX9_parsed 39 rfl) (tgt := 76) rfl h (fun h => ?_) (fun h => ?_)
          · refine m_iload_n C (dOf DX9_parsed 42 rfl) rfl 2 rfl ?_
            refine m_sw h (fun e h => ?_) (fun n0 h => ?_)
            · refine m_tin C (dOf DX9_parsed 43 rfl) 0 e (by decide) (by decide) (off := 35) rfl (tgt := 112) rfl ?_
              refine m_aload_n C (dOf DX9_parsed 44 rfl) rfl 0 rfl ?_
              refine m_gI C (dOf DX9_parsed 45 rfl) kf_X9_304 fg_9_24 h (fun v8 h => ?_)
              exact m_iret C rfl (dOf DX9_parsed 46 rfl) h
            refine m_sw h (fun e h => ?_) (fun n1 h => ?_)
            · refine m_tin C (dOf DX9_parsed 43 rfl) 1 e (by decide) (by decide) (off := 40) rfl (tgt := 117) rfl ?_
              refine m_aload_n C (dOf DX9_parsed 47 rfl) rfl 0 rfl ?_
              refine m_gI C (dOf DX9_parsed 48 rfl) kf_X9_301 fg_9_25 h (fun v9 h => ?_)
              exact m_iret C rfl (dOf DX9_parsed 49 rfl) h
            refine m_sw h (fun e h => ?_) (fun n2 h => ?_)
            · refine m_tin C (dOf DX9_parsed 43 rfl) 2 e (by decide) (by decide) (off := 45) rfl (tgt := 122) rfl ?_
              refine m_aload_n C (dOf DX9_parsed 50 rfl) rfl 0 rfl ?_
              refine m_gI C (dOf DX9_parsed 51 rfl) kf_X9_307 fg_9_26 h (fun v10 h => ?_)
              exact m_iret C rfl (dOf DX9_parsed 52 rfl) h
            refine m_sw h (fun e h => ?_) (fun n3 h => ?_)
            · refine m_tin C (dOf DX9_parsed 43 rfl) 3 e (by decide) (by decide) (off := 50) rfl (tgt := 127) rfl ?_
              refine m_aload_n C (dOf DX9_parsed 53 rfl) rfl 0 rfl ?_
              refine m_gI C (dOf DX9_parsed 54 rfl) kf_X9_310 fg_9_27 h (fun v11 h => ?_)
              exact m_iret C rfl (dOf DX9_parsed 55 rfl) h
            refine m_sw h (fun e h => ?_) (fun n4 h => ?_)
            · refine m_tin C (dOf DX9_parsed 43 rfl) 4 e (by decide) (by decide) (off := 55) rfl (tgt := 132) rfl ?_
              refine m_aload_n C (dOf DX9_parsed 56 rfl) rfl 0 rfl ?_
              refine m_gI C (dOf DX9_parsed 57 rfl) kf_X9_313 fg_9_28 h (fun v12 h => ?_)
              exact m_iret C rfl (dOf DX9_parsed 58 rfl) h
            have qn0 := neT n0 kt_0
            have qn1 := neT n1 kt_1
            have qn2 := neT n2 kt_2
            have qn3 := neT n3 kt_3
            have qn4 := neT n4 kt_4
            refine m_tout C (dOf DX9_parsed 43 rfl) (tgt := 137) (by omega) rfl ?_
            refine m_bipush C (dOf DX9_parsed 59 rfl) (v := (-2)) kb_m2 ?_
            exact m_iret C rfl (dOf DX9_parsed 60 rfl) h
          · refine m_bipush C (dOf DX9_parsed 40 rfl) (v := (-2)) kb_m2 ?_
            exact m_iret C rfl (dOf DX9_parsed 41 rfl) h
        · refine m_iload_n C (dOf DX9_parsed 27 rfl) rfl 2 rfl ?_
          refine m_jn (J := fun (x13 : Int32) => WM X G 5 0 0 (wQ X G (qI G o) 0 0) 62 [] [.int x13] S5) h (fun x13 h => ?_) (fun j13 hj13 h => ?_)
          · exact m_iret C rfl (dOf DX9_parsed 33 rfl) h
          refine m_ifne C (dOf DX9_parsed 28 rfl) (tgt := 60) rfl h (fun h => ?_) (fun h => ?_)
          · refine m_bipush C (dOf DX9_parsed 32 rfl) (v := (-2)) kb_m2 ?_
            exact m_sub [] rfl (hj13 _ h)
          · refine m_aload_n C (dOf DX9_parsed 29 rfl) rfl 0 rfl ?_
            refine m_gI C (dOf DX9_parsed 30 rfl) kf_X9_298 fg_9_23 h (fun v14 h => ?_)
            refine m_goto C (dOf DX9_parsed 31 rfl) (tgt := 62) rfl ?_
            exact m_sub [] rfl (hj13 _ h)
      refine m_icmpne C (dOf DX9_parsed 19 rfl) (tgt := 40) rfl h (fun h => ?_) (fun h => ?_)
      · refine m_iload_n C (dOf DX9_parsed 22 rfl) rfl 3 rfl ?_
        exact m_sub [1, 3, 4] rfl (hj4 _ h)
      · refine m_bipush C (dOf DX9_parsed 20 rfl) (v := 32) kb_32 ?_
        refine m_goto C (dOf DX9_parsed 21 rfl) (tgt := 41) rfl ?_
        exact m_sub [1, 3, 4] rfl (hj4 _ h)
    · exact m_sub [] rfl (hj3 _ h)
/-- TraceRingModel.between(IIZ)I -/
def f_X9_between (S : St) (b0 : Nat) (p1 : Int32) (p2 : Int32) (p3 : Int32) : Option (Int32 × St) :=
  pI_ S b0 9 0 0 fun S1 =>
  lp_ (fun self2 (x2 : Int32 × Int32 × St) =>
    ck_ x2.2.2 b0 9 <| cI_ (f_X9_finds x2.2.2 b0 x2.2.1) fun v4 S3 =>
    if v4 = 0 then
      jn_ (fun (x5 : Int32) =>
        rt_ (x5, S3)
      ) fun j5 =>
      if p3 = 0 then
        j5 (x2.1)
      else
        j5 ((-1))
    else
      gI_ S3 b0 9 21 fun v6 =>
      gI_ S3 b0 9 22 fun v7 =>
      ck_ S3 b0 9 <| cP_ (f_X9_item S3 b0 v6 v7 3) fun v8 =>
      cP_ (f_X9_in S3 v8 p1 p2) fun v9 =>
      jn_ (fun (x10 : Int32) =>
        lt_ (x2.2.1 + 1) fun v11 =>
        self2 (x10, v11, S3)
      ) fun j10 =>
      if v9 = 0 then
        j10 (x2.1)
      else
        if p3 = 0 then
          lt_ (x2.1 + 1) fun v12 =>
          j10 (v12)
        else
          rt_ (x2.2.1, S3)
  ) FU (0, 0, S1)
set_option maxRecDepth 100000 in
set_option maxHeartbeats 4000000 in
theorem c_X9_between (l : Launch) (G : Gx) (S : St) (b0 : Nat) (p1 : Int32) (p2 : Int32) (p3 : Int32) (o : (Int32 × St)) (h : f_X9_between S b0 p1 p2 p3 = some o) : Met l yX9_between (Cond.code yX9_between cX9_between 6 (some (.int)) :: wAll) ({ frames := 5, cells := 0, slots := 0, locals := 113 } : Room) (va_Pc [.ref (G.1 + b0), .int p1, .int p2, .int p3] (wPre G S)) (qI G o) 0 0 (wA G) := by
  refine m_start (by decide +kernel) (Nat.le_of_ble_eq_true rfl) (fun X C => ?_)
  unfold f_X9_between at h
  show WM X G 6 0 0 (wQ X G (qI G o) 0 0) 0 [(0, .ref (G.1 + b0)), (1, .int p1), (2, .int p2), (3, .int p3)] [] S
  refine m_aload_n C (dOf DX9_between 0 rfl) rfl 0 rfl ?_
  refine m_iconst C (dOf DX9_between 1 rfl) (v := 0) ki_0 ?_
  refine m_pI C (dOf DX9_between 2 rfl) kf_X9_51 fp_9_0 h (fun S1 h => ?_)
  refine m_iconst C (dOf DX9_between 3 rfl) (v := 0) ki_0 ?_
  refine m_istore C (dOf DX9_between 4 rfl) (by decide) (lv' := [(4, .int 0), (0, .ref (G.1 + b0)), (1, .int p1), (2, .int p2), (3, .int p3)]) rfl ?_
  refine m_iconst C (dOf DX9_between 5 rfl) (v := 0) ki_0 ?_
  refine m_istore C (dOf DX9_between 6 rfl) (by decide) (lv' := [(5, .int 0), (4, .int 0), (0, .ref (G.1 + b0)), (1, .int p1), (2, .int p2), (3, .int p3)]) rfl ?_
  refine m_sub [2, 3, 4, 5, 1, 0] rfl (m_lp (J := fun (x2 : Int32 × Int32 × St) => WM X G 6 0 0 (wQ X G (qI G o) 0 0) 11 [(0, .ref (G.1 + b0)), (1, .int p1), (2, .int p2), (3, .int p3), (4, .int x2.1), (5, .int x2.2.1)] [] x2.2.2) h (fun self2 hself2 x2 h => ?_))
  refine m_aload_n C (dOf DX9_between 7 rfl) rfl 0 rfl ?_
  refine m_iload C (dOf DX9_between 8 rfl) 5 rfl ?_
  obtain ⟨hc, h⟩ := ck_spec h
  refine m_cI (st := []) h (fun o' ho H locs ls hl hr hs => ⟨_, m_runV C (dOf DX9_between 9 rfl) km_X9_292 ky_X9_finds (by decide) ⟨rfl, rfl⟩ (c_X9_finds _ G _ _ _ o' ho) hc.1 hc.2 (by decide) rfl rfl rfl (Nat.le_of_ble_eq_true rfl) ⟨Nat.le_refl _, Nat.le_refl _⟩ hl hr hs⟩) (fun v4 S3 h => ?_)
  refine m_ifeq C (dOf DX9_between 10 rfl) (tgt := 57) rfl h (fun h => ?_) (fun h => ?_)
  · refine m_iload_n C (dOf DX9_between 29 rfl) rfl 3 rfl ?_
    refine m_jn (J := fun (x5 : Int32) => WM X G 6 0 0 (wQ X G (qI G o) 0 0) 67 [] [.int x5] S3) h (fun x5 h => ?_) (fun j5 hj5 h => ?_)
    · exact m_iret C rfl (dOf DX9_between 34 rfl) h
    refine m_ifeq C (dOf DX9_between 30 rfl) (tgt := 65) rfl h (fun h => ?_) (fun h => ?_)
    · refine m_iload C (dOf DX9_between 33 rfl) 4 rfl ?_
      exact m_sub [] rfl (hj5 _ h)
    · refine m_iconst C (dOf DX9_between 31 rfl) (v := (-1)) ki_m1 ?_
      refine m_goto C (dOf DX9_between 32 rfl) (tgt := 67) rfl ?_
      exact m_sub [] rfl (hj5 _ h)
  · refine m_aload_n C (dOf DX9_between 11 rfl) rfl 0 rfl ?_
    refine m_aload_n C (dOf DX9_between 12 rfl) rfl 0 rfl ?_
    refine m_gI C (dOf DX9_between 13 rfl) kf_X9_286 fg_9_21 h (fun v6 h => ?_)
    refine m_aload_n C (dOf DX9_between 14 rfl) rfl 0 rfl ?_
    refine m_gI C (dOf DX9_between 15 rfl) kf_X9_289 fg_9_22 h (fun v7 h => ?_)
    refine m_iconst C (dOf DX9_between 16 rfl) (v := 3) ki_3 ?_
    obtain ⟨hc, h⟩ := ck_spec h
    refine m_cP (st := []) h (fun o' ho H locs ls hl hr hs => ⟨_, m_runV C (dOf DX9_between 17 rfl) km_X9_155 ky_X9_item (by decide) ⟨rfl, rfl⟩ (c_X9_item _ G _ _ _ _ _ o' ho) hc.1 hc.2 (by decide) rfl rfl rfl (Nat.le_of_ble_eq_true rfl) ⟨Nat.le_refl _, Nat.le_refl _⟩ hl hr hs⟩) (fun v8 h => ?_)
    refine m_iload_n C (dOf DX9_between 18 rfl) rfl 1 rfl ?_
    refine m_iload_n C (dOf DX9_between 19 rfl) rfl 2 rfl ?_
    refine m_cP (st := []) h (fun o' ho H locs ls hl hr hs => ⟨_, m_runS C (dOf DX9_between 20 rfl) km_X9_76 ks_X9_in rfl (by decide) ⟨rfl, rfl⟩ (c_X9_in _ G _ _ _ _ o' ho) rfl rfl (Nat.le_of_ble_eq_true rfl) ⟨Nat.le_refl _, Nat.le_refl _⟩ hl hr hs⟩) (fun v9 h => ?_)
    refine m_jn (J := fun (x10 : Int32) => WM X G 6 0 0 (wQ X G (qI G o) 0 0) 51 [(0, .ref (G.1 + b0)), (1, .int p1), (2, .int p2), (3, .int p3), (4, .int x10), (5, .int x2.2.1)] [] S3) h (fun x10 h => ?_) (fun j10 hj10 h => ?_)
    · refine m_iinc C (dOf DX9_between 27 rfl) (w := 1) ki_1 5 rfl (by decide) h (fun v11 h => ⟨[(5, .int v11), (0, .ref (G.1 + b0)), (1, .int p1), (2, .int p2), (3, .int p3), (4, .int x10)], rfl, ?_⟩)
      refine m_goto C (dOf DX9_between 28 rfl) (tgt := 11) rfl ?_
      exact m_sub [1, 2, 3, 4, 5, 0] rfl (hself2 _ h)
    refine m_ifeq C (dOf DX9_between 21 rfl) (tgt := 51) rfl h (fun h => ?_) (fun h => ?_)
    · exact m_sub [0, 1, 2, 3, 4, 5] rfl (hj10 _ h)
    · refine m_iload_n C (dOf DX9_between 22 rfl) rfl 3 rfl ?_
      refine m_ifeq C (dOf DX9_between 23 rfl) (tgt := 48) rfl h (fun h => ?_) (fun h => ?_)
      · refine m_iinc C (dOf DX9_between 26 rfl) (w := 1) ki_1 4 rfl (by decide) h (fun v12 h => ⟨[(4, .int v12), (0, .ref (G.1 + b0)), (1, .int p1), (2, .int p2), (3, .int p3), (5, .int x2.2.1)], rfl, ?_⟩)
        exact m_sub [1, 2, 3, 4, 0, 5] rfl (hj10 _ h)
      · refine m_iload C (dOf DX9_between 24 rfl) 5 rfl ?_
        exact m_iret C rfl (dOf DX9_between 25 rfl) h
/-- TraceRingModel.sum(III)I -/
def f_X9_sum (S : St) (b0 : Nat) (p1 : Int32) (p2 : Int32) (p3 : Int32) : Option (Int32 × St) :=
  pI_ S b0 9 0 0 fun S1 =>
  ck_ S1 b0 9 <| cP_ (f_X9_livePage S1 b0 p1) fun v2 =>
  jn_ (fun (x3 : Unit) =>
    rt_ ((-1), S1)
  ) fun j3 =>
  if v2 = (-2) then
    j3 ()
  else
    if p2 < 0 then
      j3 ()
    else
      if p3 < 0 then
        j3 ()
      else
        gR_ S1 b0 9 1 fun a4 =>
        aI_ S1 a4 11 1 fun v5 =>
        if v5 < p2 then
          j3 ()
        else
          gR_ S1 b0 9 1 fun a6 =>
          aI_ S1 a6 11 1 fun v7 =>
          lt_ (v7 - p2 : Int32) fun v8 =>
          if p3 ≤ v8 then
            lp_ (fun self9 (x9 : Int32 × Int32) =>
              lt_ (p2 + p3 : Int32) fun v10 =>
              if v10 ≤ x9.2 then
                rt_ (x9.1, S1)
              else
                lt_ (4 + x9.2 : Int32) fun v11 =>
                ck_ S1 b0 9 <| cP_ (f_X9_of S1 b0 v2 v11) fun v12 =>
                lt_ (x9.1 + v12 : Int32) fun v13 =>
                lt_ (x9.2 + 1) fun v14 =>
                self9 (v13, v14)
            ) FU (0, p2)
          else
            j3 ()
set_option maxRecDepth 100000 in
set_option maxHeartbeats 4000000 in
theorem c_X9_sum (l : Launch) (G : Gx) (S : St) (b0 : Nat) (p1 : Int32) (p2 : Int32) (p3 : Int32) (o : (Int32 × St)) (h : f_X9_sum S b0 p1 p2 p3 = some o) : Met l yX9_sum (Cond.code yX9_sum cX9_sum 7 (some (.int)) :: wAll) ({ frames := 2, cells := 0, slots := 0, locals := 43 } : Room) (va_Pc [.ref (G.1 + b0), .int p1, .int p2, .int p3] (wPre G S)) (qI G o) 0 0 (wA G) := by
  refine m_start (by decide +kernel) (Nat.le_of_ble_eq_true rfl) (fun X C => ?_)
  unfold f_X9_sum at h
  show WM X G 7 0 0 (wQ X G (qI G o) 0 0) 0 [(0, .ref (G.1 + b0)), (1, .int p1), (2, .int p2), (3, .int p3)] [] S
  refine m_aload_n C (dOf DX9_sum 0 rfl) rfl 0 rfl ?_
  refine m_iconst C (dOf DX9_sum 1 rfl) (v := 0) ki_0 ?_
  refine m_pI C (dOf DX9_sum 2 rfl) kf_X9_51 fp_9_0 h (fun S1 h => ?_)
  refine m_aload_n C (dOf DX9_sum 3 rfl) rfl 0 rfl ?_
  refine m_iload_n C (dOf DX9_sum 4 rfl) rfl 1 rfl ?_
  obtain ⟨hc, h⟩ := ck_spec h
  refine m_cP (st := []) h (fun o' ho H locs ls hl hr hs => ⟨_, m_runV C (dOf DX9_sum 5 rfl) km_X9_213 ky_X9_livePage (by decide) ⟨rfl, rfl⟩ (c_X9_livePage _ G _ _ _ o' ho) hc.1 hc.2 (by decide) rfl rfl rfl (Nat.le_of_ble_eq_true rfl) ⟨Nat.le_refl _, Nat.le_refl _⟩ hl hr hs⟩) (fun v2 h => ?_)
  refine m_istore C (dOf DX9_sum 6 rfl) (by decide) (lv' := [(4, .int v2), (0, .ref (G.1 + b0)), (1, .int p1), (2, .int p2), (3, .int p3)]) rfl ?_
  refine m_iload C (dOf DX9_sum 7 rfl) 0 rfl ?_
  refine m_bipush C (dOf DX9_sum 8 rfl) (v := (-2)) kb_m2 ?_
  refine m_jn (J := fun (x3 : Unit) => WM X G 7 0 0 (wQ X G (qI G o) 0 0) 49 [] [] S1) h (fun x3 h => ?_) (fun j3 hj3 h => ?_)
  · refine m_iconst C (dOf DX9_sum 28 rfl) (v := (-1)) ki_m1 ?_
    exact m_iret C rfl (dOf DX9_sum 29 rfl) h
  refine m_icmpeq C (dOf DX9_sum 9 rfl) (tgt := 49) rfl h (fun h => ?_) (fun h => ?_)
  · exact m_sub [] rfl (hj3 _ h)
  · refine m_iload_n C (dOf DX9_sum 10 rfl) rfl 3 rfl ?_
    refine m_iflt C (dOf DX9_sum 11 rfl) (tgt := 49) rfl h (fun h => ?_) (fun h => ?_)
    · exact m_sub [] rfl (hj3 _ h)
    · refine m_iload_n C (dOf DX9_sum 12 rfl) rfl 4 rfl ?_
      refine m_iflt C (dOf DX9_sum 13 rfl) (tgt := 49) rfl h (fun h => ?_) (fun h => ?_)
      · exact m_sub [] rfl (hj3 _ h)
      · refine m_iload_n C (dOf DX9_sum 14 rfl) rfl 3 rfl ?_
        refine m_aload_n C (dOf DX9_sum 15 rfl) rfl 1 rfl ?_
        refine m_gR C (dOf DX9_sum 16 rfl) kf_X9_7 fg_9_1 h (fun a4 h => ?_)
        refine m_iconst C (dOf DX9_sum 17 rfl) (v := 1) ki_1 ?_
        refine m_aI C (dOf DX9_sum 18 rfl) h (fun v5 h => ?_)
        refine m_icmpgt C (dOf DX9_sum 19 rfl) (tgt := 49) rfl h (fun h => ?_) (fun h => ?_)
        · exact m_sub [] rfl (hj3 _ h)
        · refine m_iload_n C (dOf DX9_sum 20 rfl) rfl 4 rfl ?_
          refine m_aload_n C (dOf DX9_sum 21 rfl) rfl 1 rfl ?_
          refine m_gR C (dOf DX9_sum 22 rfl) kf_X9_7 fg_9_1 h (fun a6 h => ?_)
          refine m_iconst C (dOf DX9_sum 23 rfl) (v := 1) ki_1 ?_
          refine m_aI C (dOf DX9_sum 24 rfl) h (fun v7 h => ?_)
          refine m_iload_n C (dOf DX9_sum 25 rfl) rfl 3 rfl ?_
          refine m_isub C (dOf DX9_sum 26 rfl) h (fun v8 h => ?_)
          refine m_icmple C (dOf DX9_sum 27 rfl) (tgt := 51) rfl h (fun h => ?_) (fun h => ?_)
          · refine m_iconst C (dOf DX9_sum 30 rfl) (v := 0) ki_0 ?_
            refine m_istore C (dOf DX9_sum 31 rfl) (by decide) (lv' := [(5, .int 0), (4, .int v2), (0, .ref (G.1 + b0)), (1, .int p1), (2, .int p2), (3, .int p3)]) rfl ?_
            refine m_iload_n C (dOf DX9_sum 32 rfl) rfl 4 rfl ?_
            refine m_istore C (dOf DX9_sum 33 rfl) (by decide) (lv' := [(6, .int p2), (5, .int 0), (4, .int v2), (0, .ref (G.1 + b0)), (1, .int p1), (2, .int p2), (3, .int p3)]) rfl ?_
            refine m_sub [3, 5, 6, 2, 1, 0] rfl (m_lp (J := fun (x9 : Int32 × Int32) => WM X G 7 0 0 (wQ X G (qI G o) 0 0) 57 [(0, .ref (G.1 + b0)), (2, .int p2), (3, .int p3), (4, .int v2), (5, .int x9.1), (6, .int x9.2)] [] S1) h (fun self9 hself9 x9 h => ?_))
            refine m_iload C (dOf DX9_sum 34 rfl) 5 rfl ?_
            refine m_iload_n C (dOf DX9_sum 35 rfl) rfl 1 rfl ?_
            refine m_iload_n C (dOf DX9_sum 36 rfl) rfl 2 rfl ?_
            refine m_iadd C (dOf DX9_sum 37 rfl) h (fun v10 h => ?_)
            refine m_icmpge C (dOf DX9_sum 38 rfl) (tgt := 86) rfl h (fun h => ?_) (fun h => ?_)
            · refine m_iload C (dOf DX9_sum 50 rfl) 4 rfl ?_
              exact m_iret C rfl (dOf DX9_sum 51 rfl) h
            · refine m_iload C (dOf DX9_sum 39 rfl) 4 rfl ?_
              refine m_aload_n C (dOf DX9_sum 40 rfl) rfl 0 rfl ?_
              refine m_iload C (dOf DX9_sum 41 rfl) 3 rfl ?_
              refine m_iconst C (dOf DX9_sum 42 rfl) (v := 4) ki_4 ?_
              refine m_iload C (dOf DX9_sum 43 rfl) 5 rfl ?_
              refine m_iadd C (dOf DX9_sum 44 rfl) h (fun v11 h => ?_)
              obtain ⟨hc, h⟩ := ck_spec h
              refine m_cP (st := [.int x9.1]) h (fun o' ho H locs ls hl hr hs => ⟨_, m_runV C (dOf DX9_sum 45 rfl) km_X9_144 ky_X9_of (by decide) ⟨rfl, rfl⟩ (c_X9_of _ G _ _ _ _ o' ho) hc.1 hc.2 (by decide) rfl rfl rfl (Nat.le_of_ble_eq_true rfl) ⟨Nat.le_refl _, Nat.le_refl _⟩ hl hr hs⟩) (fun v12 h => ?_)
              refine m_iadd C (dOf DX9_sum 46 rfl) h (fun v13 h => ?_)
              refine m_istore C (dOf DX9_sum 47 rfl) (by decide) (lv' := [(5, .int v13), (0, .ref (G.1 + b0)), (2, .int p2), (3, .int p3), (4, .int v2), (6, .int x9.2)]) rfl ?_
              refine m_iinc C (dOf DX9_sum 48 rfl) (w := 1) ki_1 5 rfl (by decide) h (fun v14 h => ⟨[(6, .int v14), (5, .int v13), (0, .ref (G.1 + b0)), (2, .int p2), (3, .int p3), (4, .int v2)], rfl, ?_⟩)
              refine m_goto C (dOf DX9_sum 49 rfl) (tgt := 57) rfl ?_
              exact m_sub [2, 3, 4, 5, 1, 0] rfl (hself9 _ h)
          · exact m_sub [] rfl (hj3 _ h)
/-- TraceRingModel.would(II)I -/
def f_X9_would (S : St) (b0 : Nat) (p1 : Int32) (p2 : Int32) : Option (Int32 × St) :=
  pI_ S b0 9 0 0 fun S1 =>
  cP_ (f_X9_isTake S1 p1 p2) fun v2 =>
  jn_ (fun (x3 : Int32) =>
    rt_ (x3, S1)
  ) fun j3 =>
  if v2 = 0 then
    j3 ((-1))
  else
    ck_ S1 b0 9 <| cP_ (f_X9_comes S1 b0 p1 p2) fun v4 =>
    j3 (v4)
set_option maxRecDepth 100000 in
set_option maxHeartbeats 4000000 in
theorem c_X9_would (l : Launch) (G : Gx) (S : St) (b0 : Nat) (p1 : Int32) (p2 : Int32) (o : (Int32 × St)) (h : f_X9_would S b0 p1 p2 = some o) : Met l yX9_would (Cond.code yX9_would cX9_would 3 (some (.int)) :: wAll) ({ frames := 5, cells := 0, slots := 0, locals := 111 } : Room) (va_Pc [.ref (G.1 + b0), .int p1, .int p2] (wPre G S)) (qI G o) 0 0 (wA G) := by
  refine m_start (by decide +kernel) (Nat.le_of_ble_eq_true rfl) (fun X C => ?_)
  unfold f_X9_would at h
  show WM X G 3 0 0 (wQ X G (qI G o) 0 0) 0 [(0, .ref (G.1 + b0)), (1, .int p1), (2, .int p2)] [] S
  refine m_aload_n C (dOf DX9_would 0 rfl) rfl 0 rfl ?_
  refine m_iconst C (dOf DX9_would 1 rfl) (v := 0) ki_0 ?_
  refine m_pI C (dOf DX9_would 2 rfl) kf_X9_51 fp_9_0 h (fun S1 h => ?_)
  refine m_iload_n C (dOf DX9_would 3 rfl) rfl 1 rfl ?_
  refine m_iload_n C (dOf DX9_would 4 rfl) rfl 2 rfl ?_
  refine m_cP (st := []) h (fun o' ho H locs ls hl hr hs => ⟨_, m_runS C (dOf DX9_would 5 rfl) km_X9_262 ks_X9_isTake rfl (by decide) ⟨rfl, rfl⟩ (c_X9_isTake _ G _ _ _ o' ho) rfl rfl (Nat.le_of_ble_eq_true rfl) ⟨Nat.le_refl _, Nat.le_refl _⟩ hl hr hs⟩) (fun v2 h => ?_)
  refine m_jn (J := fun (x3 : Int32) => WM X G 3 0 0 (wQ X G (qI G o) 0 0) 23 [] [.int x3] S1) h (fun x3 h => ?_) (fun j3 hj3 h => ?_)
  · exact m_iret C rfl (dOf DX9_would 13 rfl) h
  refine m_ifeq C (dOf DX9_would 6 rfl) (tgt := 22) rfl h (fun h => ?_) (fun h => ?_)
  · refine m_iconst C (dOf DX9_would 12 rfl) (v := (-1)) ki_m1 ?_
    exact m_sub [] rfl (hj3 _ h)
  · refine m_aload_n C (dOf DX9_would 7 rfl) rfl 0 rfl ?_
    refine m_iload_n C (dOf DX9_would 8 rfl) rfl 1 rfl ?_
    refine m_iload_n C (dOf DX9_would 9 rfl) rfl 2 rfl ?_
    obtain ⟨hc, h⟩ := ck_spec h
    refine m_cP (st := []) h (fun o' ho H locs ls hl hr hs => ⟨_, m_runV C (dOf DX9_would 10 rfl) km_X9_198 ky_X9_comes (by decide) ⟨rfl, rfl⟩ (c_X9_comes _ G _ _ _ _ o' ho) hc.1 hc.2 (by decide) rfl rfl rfl (Nat.le_of_ble_eq_true rfl) ⟨Nat.le_refl _, Nat.le_refl _⟩ hl hr hs⟩) (fun v4 h => ?_)
    refine m_goto C (dOf DX9_would 11 rfl) (tgt := 23) rfl ?_
    exact m_sub [] rfl (hj3 _ h)
/-- TraceRingModel.copies(II)V -/
def f_X9_copies (S : St) (b0 : Nat) (p1 : Int32) (p2 : Int32) : Option St :=
  lp_ (fun self1 (x1 : Int32 × St) =>
    if 988 ≤ x1.1 then
      rt_ x1.2
    else
      gR_ x1.2 b0 9 1 fun a2 =>
      lt_ (988 * p2 : Int32) fun v3 =>
      lt_ (v3 + x1.1 : Int32) fun v4 =>
      gR_ x1.2 b0 9 1 fun a5 =>
      lt_ (988 * p1 : Int32) fun v6 =>
      lt_ (v6 + x1.1 : Int32) fun v7 =>
      aI_ x1.2 a5 11 v7 fun v8 =>
      sI_ x1.2 a2 v4 v8 fun S9 =>
      lt_ (x1.1 + 1) fun v10 =>
      self1 (v10, S9)
  ) FU (0, S)
set_option maxRecDepth 100000 in
set_option maxHeartbeats 4000000 in
theorem c_X9_copies (l : Launch) (G : Gx) (S : St) (b0 : Nat) (p1 : Int32) (p2 : Int32) (o : St) (h : f_X9_copies S b0 p1 p2 = some o) : Met l yX9_copies (Cond.code yX9_copies cX9_copies 4 none :: wAll) ({ frames := 0, cells := 0, slots := 0, locals := 0 } : Room) (va_Pc [.ref (G.1 + b0), .int p1, .int p2] (wPre G S)) (qV G o) 0 0 (wA G) := by
  refine m_start (by decide +kernel) (Nat.le_of_ble_eq_true rfl) (fun X C => ?_)
  unfold f_X9_copies at h
  show WM X G 4 0 0 (wQ X G (qV G o) 0 0) 0 [(0, .ref (G.1 + b0)), (1, .int p1), (2, .int p2)] [] S
  refine m_iconst C (dOf DX9_copies 0 rfl) (v := 0) ki_0 ?_
  refine m_istore_n C (dOf DX9_copies 1 rfl) rfl (by decide) (lv' := [(3, .int 0), (0, .ref (G.1 + b0)), (1, .int p1), (2, .int p2)]) rfl ?_
  refine m_sub [1, 2, 3, 0] rfl (m_lp (J := fun (x1 : Int32 × St) => WM X G 4 0 0 (wQ X G (qV G o) 0 0) 2 [(0, .ref (G.1 + b0)), (1, .int p1), (2, .int p2), (3, .int x1.1)] [] x1.2) h (fun self1 hself1 x1 h => ?_))
  refine m_iload_n C (dOf DX9_copies 2 rfl) rfl 3 rfl ?_
  refine m_sipush C (dOf DX9_copies 3 rfl) (v := 988) ks_988 ?_
  refine m_icmpge C (dOf DX9_copies 4 rfl) (tgt := 39) rfl h (fun h => ?_) (fun h => ?_)
  · exact m_vret C rfl (dOf DX9_copies 23 rfl) h
  · refine m_aload_n C (dOf DX9_copies 5 rfl) rfl 0 rfl ?_
    refine m_gR C (dOf DX9_copies 6 rfl) kf_X9_7 fg_9_1 h (fun a2 h => ?_)
    refine m_sipush C (dOf DX9_copies 7 rfl) (v := 988) ks_988 ?_
    refine m_iload_n C (dOf DX9_copies 8 rfl) rfl 2 rfl ?_
    refine m_imul C (dOf DX9_copies 9 rfl) h (fun v3 h => ?_)
    refine m_iload_n C (dOf DX9_copies 10 rfl) rfl 3 rfl ?_
    refine m_iadd C (dOf DX9_copies 11 rfl) h (fun v4 h => ?_)
    refine m_aload_n C (dOf DX9_copies 12 rfl) rfl 0 rfl ?_
    refine m_gR C (dOf DX9_copies 13 rfl) kf_X9_7 fg_9_1 h (fun a5 h => ?_)
    refine m_sipush C (dOf DX9_copies 14 rfl) (v := 988) ks_988 ?_
    refine m_iload_n C (dOf DX9_copies 15 rfl) rfl 1 rfl ?_
    refine m_imul C (dOf DX9_copies 16 rfl) h (fun v6 h => ?_)
    refine m_iload_n C (dOf DX9_copies 17 rfl) rfl 3 rfl ?_
    refine m_iadd C (dOf DX9_copies 18 rfl) h (fun v7 h => ?_)
    refine m_aI C (dOf DX9_copies 19 rfl) h (fun v8 h => ?_)
    refine m_sI C (dOf DX9_copies 20 rfl) h (fun S9 h => ?_)
    refine m_iinc C (dOf DX9_copies 21 rfl) (w := 1) ki_1 3 rfl (by decide) h (fun v10 h => ⟨[(3, .int v10), (0, .ref (G.1 + b0)), (1, .int p1), (2, .int p2)], rfl, ?_⟩)
    refine m_goto C (dOf DX9_copies 22 rfl) (tgt := 2) rfl ?_
    exact m_sub [1, 2, 3, 0] rfl (hself1 _ h)
/-- TraceRingModel.back(I)I -/
def f_X9_back (S : St) (b0 : Nat) (p1 : Int32) : Option (Int32 × St) :=
  ck_ S b0 9 <| cV_ (f_X9_copies S b0 4 0) fun S1 =>
  rt_ (p1, S1)
set_option maxRecDepth 100000 in
set_option maxHeartbeats 4000000 in
theorem c_X9_back (l : Launch) (G : Gx) (S : St) (b0 : Nat) (p1 : Int32) (o : (Int32 × St)) (h : f_X9_back S b0 p1 = some o) : Met l yX9_back (Cond.code yX9_back cX9_back 2 (some (.int)) :: wAll) ({ frames := 1, cells := 0, slots := 0, locals := 23 } : Room) (va_Pc [.ref (G.1 + b0), .int p1] (wPre G S)) (qI G o) 0 0 (wA G) := by
  refine m_start (by decide +kernel) (Nat.le_of_ble_eq_true rfl) (fun X C => ?_)
  unfold f_X9_back at h
  show WM X G 2 0 0 (wQ X G (qI G o) 0 0) 0 [(0, .ref (G.1 + b0)), (1, .int p1)] [] S
  refine m_aload_n C (dOf DX9_back 0 rfl) rfl 0 rfl ?_
  refine m_iconst C (dOf DX9_back 1 rfl) (v := 4) ki_4 ?_
  refine m_iconst C (dOf DX9_back 2 rfl) (v := 0) ki_0 ?_
  obtain ⟨hc, h⟩ := ck_spec h
  refine m_cV (st := []) h (fun o' ho H locs ls hl hr hs => ⟨_, m_runV C (dOf DX9_back 3 rfl) km_X9_320 ky_X9_copies (by decide) ⟨rfl, rfl⟩ (c_X9_copies _ G _ _ _ _ o' ho) hc.1 hc.2 (by decide) rfl rfl rfl (Nat.le_of_ble_eq_true rfl) ⟨Nat.le_refl _, Nat.le_refl _⟩ hl hr hs⟩) (fun S1 h => ?_)
  refine m_iload_n C (dOf DX9_back 4 rfl) rfl 1 rfl ?_
  exact m_iret C rfl (dOf DX9_back 5 rfl) h
/-- TraceRingModel.room(I)I -/
def f_X9_room (S : St) (b0 : Nat) (p1 : Int32) : Option (Int32 × St) :=
  pI_ S b0 9 0 0 fun S1 =>
  cP_ (f_X9_in S1 p1 1 8) fun v2 =>
  jn_ (fun (x3 : Unit) =>
    rt_ ((-1), S1)
  ) fun j3 =>
  if v2 = 0 then
    j3 ()
  else
    ck_ S1 b0 9 <| cP_ (f_X9_innermost S1 b0) fun v4 =>
    if v4 = 3 then
      j3 ()
    else
      ck_ S1 b0 9 <| cV_ (f_X9_copies S1 b0 0 4) fun S5 =>
      ck_ S5 b0 9 <| cP_ (f_X9_comes S5 b0 3 p1) fun v6 =>
      lp_ (fun self7 (x7 : Int32 × Int32 × St) =>
        jn_ (fun (x8 : Unit) =>
          ck_ x7.2.2 b0 9 <| cI_ (f_X9_taken x7.2.2 b0 3 p1) fun v10 S9 =>
          ck_ S9 b0 9 <| cI_ (f_X9_ended S9 b0 3) fun v12 S11 =>
          lt_ (x7.1 + 1) fun v13 =>
          ck_ S11 b0 9 <| cP_ (f_X9_comes S11 b0 3 p1) fun v14 =>
          self7 (v13, v14, S11)
        ) fun j8 =>
        if x7.2.1 = 0 then
          j8 ()
        else
          if x7.2.1 = 1 then
            j8 ()
          else
            ck_ x7.2.2 b0 9 <| cI_ (f_X9_back x7.2.2 b0 x7.1) fun v16 S15 =>
            rt_ (v16, S15)
      ) FU (0, v6, S5)
set_option maxRecDepth 100000 in
set_option maxHeartbeats 4000000 in
theorem c_X9_room (l : Launch) (G : Gx) (S : St) (b0 : Nat) (p1 : Int32) (o : (Int32 × St)) (h : f_X9_room S b0 p1 = some o) : Met l yX9_room (Cond.code yX9_room cX9_room 6 (some (.int)) :: wAll) ({ frames := 6, cells := 0, slots := 0, locals := 134 } : Room) (va_Pc [.ref (G.1 + b0), .int p1] (wPre G S)) (qI G o) 0 0 (wA G) := by
  refine m_start (by decide +kernel) (Nat.le_of_ble_eq_true rfl) (fun X C => ?_)
  unfold f_X9_room at h
  show WM X G 6 0 0 (wQ X G (qI G o) 0 0) 0 [(0, .ref (G.1 + b0)), (1, .int p1)] [] S
  refine m_aload_n C (dOf DX9_room 0 rfl) rfl 0 rfl ?_
  refine m_iconst C (dOf DX9_room 1 rfl) (v := 0) ki_0 ?_
  refine m_pI C (dOf DX9_room 2 rfl) kf_X9_51 fp_9_0 h (fun S1 h => ?_)
  refine m_iload_n C (dOf DX9_room 3 rfl) rfl 1 rfl ?_
  refine m_iconst C (dOf DX9_room 4 rfl) (v := 1) ki_1 ?_
  refine m_bipush C (dOf DX9_room 5 rfl) (v := 8) kb_8 ?_
  refine m_cP (st := []) h (fun o' ho H locs ls hl hr hs => ⟨_, m_runS C (dOf DX9_room 6 rfl) km_X9_76 ks_X9_in rfl (by decide) ⟨rfl, rfl⟩ (c_X9_in _ G _ _ _ _ o' ho) rfl rfl (Nat.le_of_ble_eq_true rfl) ⟨Nat.le_refl _, Nat.le_refl _⟩ hl hr hs⟩) (fun v2 h => ?_)
  refine m_jn (J := fun (x3 : Unit) => WM X G 6 0 0 (wQ X G (qI G o) 0 0) 23 [] [] S1) h (fun x3 h => ?_) (fun j3 hj3 h => ?_)
  · refine m_iconst C (dOf DX9_room 12 rfl) (v := (-1)) ki_m1 ?_
    exact m_iret C rfl (dOf DX9_room 13 rfl) h
  refine m_ifeq C (dOf DX9_room 7 rfl) (tgt := 23) rfl h (fun h => ?_) (fun h => ?_)
  · exact m_sub [] rfl (hj3 _ h)
  · refine m_aload_n C (dOf DX9_room 8 rfl) rfl 0 rfl ?_
    obtain ⟨hc, h⟩ := ck_spec h
    refine m_cP (st := []) h (fun o' ho H locs ls hl hr hs => ⟨_, m_runV C (dOf DX9_room 9 rfl) km_X9_177 ky_X9_innermost (by decide) ⟨rfl, rfl⟩ (c_X9_innermost _ G _ _ o' ho) hc.1 hc.2 (by decide) rfl rfl rfl (Nat.le_of_ble_eq_true rfl) ⟨Nat.le_refl _, Nat.le_refl _⟩ hl hr hs⟩) (fun v4 h => ?_)
    refine m_iconst C (dOf DX9_room 10 rfl) (v := 3) ki_3 ?_
    refine m_icmpne C (dOf DX9_room 11 rfl) (tgt := 25) rfl h (fun h => ?_) (fun h => ?_)
    · refine m_aload_n C (dOf DX9_room 14 rfl) rfl 0 rfl ?_
      refine m_iconst C (dOf DX9_room 15 rfl) (v := 0) ki_0 ?_
      refine m_iconst C (dOf DX9_room 16 rfl) (v := 4) ki_4 ?_
      obtain ⟨hc, h⟩ := ck_spec h
      refine m_cV (st := []) h (fun o' ho H locs ls hl hr hs => ⟨_, m_runV C (dOf DX9_room 17 rfl) km_X9_320 ky_X9_copies (by decide) ⟨rfl, rfl⟩ (c_X9_copies _ G _ _ _ _ o' ho) hc.1 hc.2 (by decide) rfl rfl rfl (Nat.le_of_ble_eq_true rfl) ⟨Nat.le_refl _, Nat.le_refl _⟩ hl hr hs⟩) (fun S5 h => ?_)
      refine m_iconst C (dOf DX9_room 18 rfl) (v := 0) ki_0 ?_
      refine m_istore_n C (dOf DX9_room 19 rfl) rfl (by decide) (lv' := [(2, .int 0), (0, .ref (G.1 + b0)), (1, .int p1)]) rfl ?_
      refine m_aload_n C (dOf DX9_room 20 rfl) rfl 1 rfl ?_
      refine m_iconst C (dOf DX9_room 21 rfl) (v := 3) ki_3 ?_
      refine m_iload_n C (dOf DX9_room 22 rfl) rfl 2 rfl ?_
      obtain ⟨hc, h⟩ := ck_spec h
      refine m_cP (st := []) h (fun o' ho H locs ls hl hr hs => ⟨_, m_runV C (dOf DX9_room 23 rfl) km_X9_198 ky_X9_comes (by decide) ⟨rfl, rfl⟩ (c_X9_comes _ G _ _ _ _ o' ho) hc.1 hc.2 (by decide) rfl rfl rfl (Nat.le_of_ble_eq_true rfl) ⟨Nat.le_refl _, Nat.le_refl _⟩ hl hr hs⟩) (fun v6 h => ?_)
      refine m_istore_n C (dOf DX9_room 24 rfl) rfl (by decide) (lv' := [(3, .int v6), (2, .int 0), (0, .ref (G.1 + b0)), (1, .int p1)]) rfl ?_
      refine m_sub [2, 3, 1, 0] rfl (m_lp (J := fun (x7 : Int32 × Int32 × St) => WM X G 6 0 0 (wQ X G (qI G o) 0 0) 40 [(0, .ref (G.1 + b0)), (1, .int p1), (2, .int x7.1), (3, .int x7.2.1)] [] x7.2.2) h (fun self7 hself7 x7 h => ?_))
      refine m_iload_n C (dOf DX9_room 25 rfl) rfl 3 rfl ?_
      refine m_jn (J := fun (x8 : Unit) => WM X G 6 0 0 (wQ X G (qI G o) 0 0) 49 [(0, .ref (G.1 + b0)), (1, .int p1), (2, .int x7.1)] [] x7.2.2) h (fun x8 h => ?_) (fun j8 hj8 h => ?_)
      · refine m_aload_n C (dOf DX9_room 30 rfl) rfl 0 rfl ?_
        refine m_iconst C (dOf DX9_room 31 rfl) (v := 3) ki_3 ?_
        refine m_iload_n C (dOf DX9_room 32 rfl) rfl 1 rfl ?_
        obtain ⟨hc, h⟩ := ck_spec h
        refine m_cI (st := []) h (fun o' ho H locs ls hl hr hs => ⟨_, m_runV C (dOf DX9_room 33 rfl) km_X9_223 ky_X9_taken (by decide) ⟨rfl, rfl⟩ (c_X9_taken _ G _ _ _ _ o' ho) hc.1 hc.2 (by decide) rfl rfl rfl (Nat.le_of_ble_eq_true rfl) ⟨Nat.le_refl _, Nat.le_refl _⟩ hl hr hs⟩) (fun v10 S9 h => ?_)
        refine m_istore C (dOf DX9_room 34 rfl) (by decide) (lv' := [(4, .int v10), (0, .ref (G.1 + b0)), (1, .int p1), (2, .int x7.1)]) rfl ?_
        refine m_aload_n C (dOf DX9_room 35 rfl) rfl 1 rfl ?_
        refine m_iconst C (dOf DX9_room 36 rfl) (v := 3) ki_3 ?_
        obtain ⟨hc, h⟩ := ck_spec h
        refine m_cI (st := []) h (fun o' ho H locs ls hl hr hs => ⟨_, m_runV C (dOf DX9_room 37 rfl) km_X9_229 ky_X9_ended (by decide) ⟨rfl, rfl⟩ (c_X9_ended _ G _ _ _ o' ho) hc.1 hc.2 (by decide) rfl rfl rfl (Nat.le_of_ble_eq_true rfl) ⟨Nat.le_refl _, Nat.le_refl _⟩ hl hr hs⟩) (fun v12 S11 h => ?_)
        refine m_istore C (dOf DX9_room 38 rfl) (by decide) (lv' := [(5, .int v12), (4, .int v10), (0, .ref (G.1 + b0)), (1, .int p1), (2, .int x7.1)]) rfl ?_
        refine m_iinc C (dOf DX9_room 39 rfl) (w := 1) ki_1 4 rfl (by decide) h (fun v13 h => ⟨[(2, .int v13), (5, .int v12), (4, .int v10), (0, .ref (G.1 + b0)), (1, .int p1)], rfl, ?_⟩)
        refine m_aload_n C (dOf DX9_room 40 rfl) rfl 3 rfl ?_
        refine m_iconst C (dOf DX9_room 41 rfl) (v := 3) ki_3 ?_
        refine m_iload_n C (dOf DX9_room 42 rfl) rfl 4 rfl ?_
        obtain ⟨hc, h⟩ := ck_spec h
        refine m_cP (st := []) h (fun o' ho H locs ls hl hr hs => ⟨_, m_runV C (dOf DX9_room 43 rfl) km_X9_198 ky_X9_comes (by decide) ⟨rfl, rfl⟩ (c_X9_comes _ G _ _ _ _ o' ho) hc.1 hc.2 (by decide) rfl rfl rfl (Nat.le_of_ble_eq_true rfl) ⟨Nat.le_refl _, Nat.le_refl _⟩ hl hr hs⟩) (fun v14 h => ?_)
        refine m_istore_n C (dOf DX9_room 44 rfl) rfl (by decide) (lv' := [(3, .int v14), (2, .int v13), (5, .int v12), (4, .int v10), (0, .ref (G.1 + b0)), (1, .int p1)]) rfl ?_
        refine m_goto C (dOf DX9_room 45 rfl) (tgt := 40) rfl ?_
        exact m_sub [4, 5, 1, 0] rfl (hself7 _ h)
      refine m_ifeq C (dOf DX9_room 26 rfl) (tgt := 49) rfl h (fun h => ?_) (fun h => ?_)
      · exact m_sub [0, 1, 2] rfl (hj8 _ h)
      · refine m_iload_n C (dOf DX9_room 27 rfl) rfl 3 rfl ?_
        refine m_iconst C (dOf DX9_room 28 rfl) (v := 1) ki_1 ?_
        refine m_icmpne C (dOf DX9_room 29 rfl) (tgt := 77) rfl h (fun h => ?_) (fun h => ?_)
        · refine m_aload_n C (dOf DX9_room 46 rfl) rfl 0 rfl ?_
          refine m_iload_n C (dOf DX9_room 47 rfl) rfl 2 rfl ?_
          obtain ⟨hc, h⟩ := ck_spec h
          refine m_cI (st := []) h (fun o' ho H locs ls hl hr hs => ⟨_, m_runV C (dOf DX9_room 48 rfl) km_X9_323 ky_X9_back (by decide) ⟨rfl, rfl⟩ (c_X9_back _ G _ _ _ o' ho) hc.1 hc.2 (by decide) rfl rfl rfl (Nat.le_of_ble_eq_true rfl) ⟨Nat.le_refl _, Nat.le_refl _⟩ hl hr hs⟩) (fun v16 S15 h => ?_)
          exact m_iret C rfl (dOf DX9_room 49 rfl) h
        · exact m_sub [0, 1, 2] rfl (hj8 _ h)
    · exact m_sub [] rfl (hj3 _ h)
/-- TraceRingModel.after(III)I -/
def f_X9_after (S : St) (b0 : Nat) (p1 : Int32) (p2 : Int32) (p3 : Int32) : Option (Int32 × St) :=
  pI_ S b0 9 0 0 fun S1 =>
  cP_ (f_X9_in S1 p2 1 60) fun v2 =>
  jn_ (fun (x3 : Unit) =>
    rt_ ((-1), S1)
  ) fun j3 =>
  if v2 = 0 then
    j3 ()
  else
    ck_ S1 b0 9 <| cP_ (f_X9_isCount S1 b0 p3) fun v4 =>
    if v4 = 0 then
      j3 ()
    else
      ck_ S1 b0 9 <| cV_ (f_X9_copies S1 b0 0 4) fun S5 =>
      ck_ S5 b0 9 <| cI_ (f_X9_storms S5 b0 p1 p2) fun v7 S6 =>
      ck_ S6 b0 9 <| cP_ (f_X9_told S6 b0 p3) fun v8 =>
      ck_ S6 b0 9 <| cI_ (f_X9_back S6 b0 v8) fun v10 S9 =>
      rt_ (v10, S9)
set_option maxRecDepth 100000 in
set_option maxHeartbeats 4000000 in
theorem c_X9_after (l : Launch) (G : Gx) (S : St) (b0 : Nat) (p1 : Int32) (p2 : Int32) (p3 : Int32) (o : (Int32 × St)) (h : f_X9_after S b0 p1 p2 p3 = some o) : Met l yX9_after (Cond.code yX9_after cX9_after 5 (some (.int)) :: wAll) ({ frames := 8, cells := 0, slots := 0, locals := 182 } : Room) (va_Pc [.ref (G.1 + b0), .int p1, .int p2, .int p3] (wPre G S)) (qI G o) 0 0 (wA G) := by
  refine m_start (by decide +kernel) (Nat.le_of_ble_eq_true rfl) (fun X C => ?_)
  unfold f_X9_after at h
  show WM X G 5 0 0 (wQ X G (qI G o) 0 0) 0 [(0, .ref (G.1 + b0)), (1, .int p1), (2, .int p2), (3, .int p3)] [] S
  refine m_aload_n C (dOf DX9_after 0 rfl) rfl 0 rfl ?_
  refine m_iconst C (dOf DX9_after 1 rfl) (v := 0) ki_0 ?_
  refine m_pI C (dOf DX9_after 2 rfl) kf_X9_51 fp_9_0 h (fun S1 h => ?_)
  refine m_iload_n C (dOf DX9_after 3 rfl) rfl 2 rfl ?_
  refine m_iconst C (dOf DX9_after 4 rfl) (v := 1) ki_1 ?_
  refine m_bipush C (dOf DX9_after 5 rfl) (v := 60) kb_60 ?_
  refine m_cP (st := []) h (fun o' ho H locs ls hl hr hs => ⟨_, m_runS C (dOf DX9_after 6 rfl) km_X9_76 ks_X9_in rfl (by decide) ⟨rfl, rfl⟩ (c_X9_in _ G _ _ _ _ o' ho) rfl rfl (Nat.le_of_ble_eq_true rfl) ⟨Nat.le_refl _, Nat.le_refl _⟩ hl hr hs⟩) (fun v2 h => ?_)
  refine m_jn (J := fun (x3 : Unit) => WM X G 5 0 0 (wQ X G (qI G o) 0 0) 23 [] [] S1) h (fun x3 h => ?_) (fun j3 hj3 h => ?_)
  · refine m_iconst C (dOf DX9_after 12 rfl) (v := (-1)) ki_m1 ?_
    exact m_iret C rfl (dOf DX9_after 13 rfl) h
  refine m_ifeq C (dOf DX9_after 7 rfl) (tgt := 23) rfl h (fun h => ?_) (fun h => ?_)
  · exact m_sub [] rfl (hj3 _ h)
  · refine m_aload_n C (dOf DX9_after 8 rfl) rfl 0 rfl ?_
    refine m_iload_n C (dOf DX9_after 9 rfl) rfl 3 rfl ?_
    obtain ⟨hc, h⟩ := ck_spec h
    refine m_cP (st := []) h (fun o' ho H locs ls hl hr hs => ⟨_, m_runV C (dOf DX9_after 10 rfl) km_X9_274 ky_X9_isCount (by decide) ⟨rfl, rfl⟩ (c_X9_isCount _ G _ _ _ o' ho) hc.1 hc.2 (by decide) rfl rfl rfl (Nat.le_of_ble_eq_true rfl) ⟨Nat.le_refl _, Nat.le_refl _⟩ hl hr hs⟩) (fun v4 h => ?_)
    refine m_ifne C (dOf DX9_after 11 rfl) (tgt := 25) rfl h (fun h => ?_) (fun h => ?_)
    · refine m_aload_n C (dOf DX9_after 14 rfl) rfl 0 rfl ?_
      refine m_iconst C (dOf DX9_after 15 rfl) (v := 0) ki_0 ?_
      refine m_iconst C (dOf DX9_after 16 rfl) (v := 4) ki_4 ?_
      obtain ⟨hc, h⟩ := ck_spec h
      refine m_cV (st := []) h (fun o' ho H locs ls hl hr hs => ⟨_, m_runV C (dOf DX9_after 17 rfl) km_X9_320 ky_X9_copies (by decide) ⟨rfl, rfl⟩ (c_X9_copies _ G _ _ _ _ o' ho) hc.1 hc.2 (by decide) rfl rfl rfl (Nat.le_of_ble_eq_true rfl) ⟨Nat.le_refl _, Nat.le_refl _⟩ hl hr hs⟩) (fun S5 h => ?_)
      refine m_aload_n C (dOf DX9_after 18 rfl) rfl 0 rfl ?_
      refine m_iload_n C (dOf DX9_after 19 rfl) rfl 1 rfl ?_
      refine m_iload_n C (dOf DX9_after 20 rfl) rfl 2 rfl ?_
      obtain ⟨hc, h⟩ := ck_spec h
      refine m_cI (st := []) h (fun o' ho H locs ls hl hr hs => ⟨_, m_runV C (dOf DX9_after 21 rfl) km_X9_265 ky_X9_storms (by decide) ⟨rfl, rfl⟩ (c_X9_storms _ G _ _ _ _ o' ho) hc.1 hc.2 (by decide) rfl rfl rfl (Nat.le_of_ble_eq_true rfl) ⟨Nat.le_refl _, Nat.le_refl _⟩ hl hr hs⟩) (fun v7 S6 h => ?_)
      refine m_istore C (dOf DX9_after 22 rfl) (by decide) (lv' := [(4, .int v7), (0, .ref (G.1 + b0)), (1, .int p1), (2, .int p2), (3, .int p3)]) rfl ?_
      refine m_aload_n C (dOf DX9_after 23 rfl) rfl 1 rfl ?_
      refine m_aload_n C (dOf DX9_after 24 rfl) rfl 1 rfl ?_
      refine m_iload_n C (dOf DX9_after 25 rfl) rfl 4 rfl ?_
      obtain ⟨hc, h⟩ := ck_spec h
      refine m_cP (st := [.ref (G.1 + b0)]) h (fun o' ho H locs ls hl hr hs => ⟨_, m_runV C (dOf DX9_after 26 rfl) km_X9_277 ky_X9_told (by decide) ⟨rfl, rfl⟩ (c_X9_told _ G _ _ _ o' ho) hc.1 hc.2 (by decide) rfl rfl rfl (Nat.le_of_ble_eq_true rfl) ⟨Nat.le_refl _, Nat.le_refl _⟩ hl hr hs⟩) (fun v8 h => ?_)
      obtain ⟨hc, h⟩ := ck_spec h
      refine m_cI (st := []) h (fun o' ho H locs ls hl hr hs => ⟨_, m_runV C (dOf DX9_after 27 rfl) km_X9_323 ky_X9_back (by decide) ⟨rfl, rfl⟩ (c_X9_back _ G _ _ _ o' ho) hc.1 hc.2 (by decide) rfl rfl rfl (Nat.le_of_ble_eq_true rfl) ⟨Nat.le_refl _, Nat.le_refl _⟩ hl hr hs⟩) (fun v10 S9 h => ?_)
      exact m_iret C rfl (dOf DX9_after 28 rfl) h
    · exact m_sub [] rfl (hj3 _ h)
/-- TraceRingModel.fewest(II)I -/
def f_X9_fewest (S : St) (b0 : Nat) (p1 : Int32) (p2 : Int32) : Option (Int32 × St) :=
  pI_ S b0 9 0 0 fun S1 =>
  cP_ (f_X9_in S1 p2 1 60) fun v2 =>
  if v2 = 0 then
    rt_ ((-1), S1)
  else
    ck_ S1 b0 9 <| cV_ (f_X9_copies S1 b0 0 4) fun S3 =>
    gR_ S3 b0 9 1 fun a4 =>
    aI_ S3 a4 11 1 fun v5 =>
    gR_ S3 b0 9 1 fun a6 =>
    aI_ S3 a6 11 2 fun v7 =>
    lp_ (fun self8 (x8 : Int32 × St) =>
      if 6 < x8.1 then
        ck_ x8.2 b0 9 <| cI_ (f_X9_back x8.2 b0 (-1)) fun v10 S9 =>
        rt_ (v10, S9)
      else
        ck_ x8.2 b0 9 <| cV_ (f_X9_begins x8.2 b0 x8.1 v5 v7) fun S11 =>
        ck_ S11 b0 9 <| cI_ (f_X9_storms S11 b0 p1 p2) fun v13 S12 =>
        jn_ (fun (x14 : Unit) =>
          lt_ (x8.1 + 1) fun v15 =>
          self8 (v15, S12)
        ) fun j14 =>
        if v13 = 0 then
          gR_ S12 b0 9 1 fun a16 =>
          aI_ S12 a16 11 12 fun v17 =>
          if v17 = 0 then
            ck_ S12 b0 9 <| cI_ (f_X9_back S12 b0 x8.1) fun v19 S18 =>
            rt_ (v19, S18)
          else
            j14 ()
        else
          j14 ()
    ) FU (2, S3)
set_option maxRecDepth 100000 in
set_option maxHeartbeats 4000000 in
theorem c_X9_fewest (l : Launch) (G : Gx) (S : St) (b0 : Nat) (p1 : Int32) (p2 : Int32) (o : (Int32 × St)) (h : f_X9_fewest S b0 p1 p2 = some o) : Met l yX9_fewest (Cond.code yX9_fewest cX9_fewest 6 (some (.int)) :: wAll) ({ frames := 8, cells := 0, slots := 0, locals := 182 } : Room) (va_Pc [.ref (G.1 + b0), .int p1, .int p2] (wPre G S)) (qI G o) 0 0 (wA G) := by
  refine m_start (by decide +kernel) (Nat.le_of_ble_eq_true rfl) (fun X C => ?_)
  unfold f_X9_fewest at h
  show WM X G 6 0 0 (wQ X G (qI G o) 0 0) 0 [(0, .ref (G.1 + b0)), (1, .int p1), (2, .int p2)] [] S
  refine m_aload_n C (dOf DX9_fewest 0 rfl) rfl 0 rfl ?_
  refine m_iconst C (dOf DX9_fewest 1 rfl) (v := 0) ki_0 ?_
  refine m_pI C (dOf DX9_fewest 2 rfl) kf_X9_51 fp_9_0 h (fun S1 h => ?_)
  refine m_iload_n C (dOf DX9_fewest 3 rfl) rfl 2 rfl ?_
  refine m_iconst C (dOf DX9_fewest 4 rfl) (v := 1) ki_1 ?_
  refine m_bipush C (dOf DX9_fewest 5 rfl) (v := 60) kb_60 ?_
  refine m_cP (st := []) h (fun o' ho H locs ls hl hr hs => ⟨_, m_runS C (dOf DX9_fewest 6 rfl) km_X9_76 ks_X9_in rfl (by decide) ⟨rfl, rfl⟩ (c_X9_in _ G _ _ _ _ o' ho) rfl rfl (Nat.le_of_ble_eq_true rfl) ⟨Nat.le_refl _, Nat.le_refl _⟩ hl hr hs⟩) (fun v2 h => ?_)
  refine m_ifne C (dOf DX9_fewest 7 rfl) (tgt := 17) rfl h (fun h => ?_) (fun h => ?_)
  · refine m_aload_n C (dOf DX9_fewest 10 rfl) rfl 0 rfl ?_
    refine m_iconst C (dOf DX9_fewest 11 rfl) (v := 0) ki_0 ?_
    refine m_iconst C (dOf DX9_fewest 12 rfl) (v := 4) ki_4 ?_
    obtain ⟨hc, h⟩ := ck_spec h
    refine m_cV (st := []) h (fun o' ho H locs ls hl hr hs => ⟨_, m_runV C (dOf DX9_fewest 13 rfl) km_X9_320 ky_X9_copies (by decide) ⟨rfl, rfl⟩ (c_X9_copies _ G _ _ _ _ o' ho) hc.1 hc.2 (by decide) rfl rfl rfl (Nat.le_of_ble_eq_true rfl) ⟨Nat.le_refl _, Nat.le_refl _⟩ hl hr hs⟩) (fun S3 h => ?_)
    refine m_aload_n C (dOf DX9_fewest 14 rfl) rfl 0 rfl ?_
    refine m_gR C (dOf DX9_fewest 15 rfl) kf_X9_7 fg_9_1 h (fun a4 h => ?_)
    refine m_iconst C (dOf DX9_fewest 16 rfl) (v := 1) ki_1 ?_
    refine m_aI C (dOf DX9_fewest 17 rfl) h (fun v5 h => ?_)
    refine m_istore_n C (dOf DX9_fewest 18 rfl) rfl (by decide) (lv' := [(3, .int v5), (0, .ref (G.1 + b0)), (1, .int p1), (2, .int p2)]) rfl ?_
    refine m_aload_n C (dOf DX9_fewest 19 rfl) rfl 1 rfl ?_
    refine m_gR C (dOf DX9_fewest 20 rfl) kf_X9_7 fg_9_1 h (fun a6 h => ?_)
    refine m_iconst C (dOf DX9_fewest 21 rfl) (v := 2) ki_2 ?_
    refine m_aI C (dOf DX9_fewest 22 rfl) h (fun v7 h => ?_)
    refine m_istore C (dOf DX9_fewest 23 rfl) (by decide) (lv' := [(4, .int v7), (3, .int v5), (0, .ref (G.1 + b0)), (1, .int p1), (2, .int p2)]) rfl ?_
    refine m_iconst C (dOf DX9_fewest 24 rfl) (v := 2) ki_2 ?_
    refine m_istore C (dOf DX9_fewest 25 rfl) (by decide) (lv' := [(5, .int 2), (4, .int v7), (3, .int v5), (0, .ref (G.1 + b0)), (1, .int p1), (2, .int p2)]) rfl ?_
    refine m_sub [3, 4, 5, 2, 1, 0] rfl (m_lp (J := fun (x8 : Int32 × St) => WM X G 6 0 0 (wQ X G (qI G o) 0 0) 41 [(0, .ref (G.1 + b0)), (1, .int p1), (2, .int p2), (3, .int v5), (4, .int v7), (5, .int x8.1)] [] x8.2) h (fun self8 hself8 x8 h => ?_))
    refine m_iload C (dOf DX9_fewest 26 rfl) 5 rfl ?_
    refine m_bipush C (dOf DX9_fewest 27 rfl) (v := 6) kb_6 ?_
    refine m_icmpgt C (dOf DX9_fewest 28 rfl) (tgt := 89) rfl h (fun h => ?_) (fun h => ?_)
    · refine m_aload_n C (dOf DX9_fewest 50 rfl) rfl 0 rfl ?_
      refine m_iconst C (dOf DX9_fewest 51 rfl) (v := (-1)) ki_m1 ?_
      obtain ⟨hc, h⟩ := ck_spec h
      refine m_cI (st := []) h (fun o' ho H locs ls hl hr hs => ⟨_, m_runV C (dOf DX9_fewest 52 rfl) km_X9_323 ky_X9_back (by decide) ⟨rfl, rfl⟩ (c_X9_back _ G _ _ _ o' ho) hc.1 hc.2 (by decide) rfl rfl rfl (Nat.le_of_ble_eq_true rfl) ⟨Nat.le_refl _, Nat.le_refl _⟩ hl hr hs⟩) (fun v10 S9 h => ?_)
      exact m_iret C rfl (dOf DX9_fewest 53 rfl) h
    · refine m_aload_n C (dOf DX9_fewest 29 rfl) rfl 0 rfl ?_
      refine m_iload C (dOf DX9_fewest 30 rfl) 5 rfl ?_
      refine m_iload_n C (dOf DX9_fewest 31 rfl) rfl 3 rfl ?_
      refine m_iload C (dOf DX9_fewest 32 rfl) 4 rfl ?_
      obtain ⟨hc, h⟩ := ck_spec h
      refine m_cV (st := []) h (fun o' ho H locs ls hl hr hs => ⟨_, m_runV C (dOf DX9_fewest 33 rfl) km_X9_47 ky_X9_begins (by decide) ⟨rfl, rfl⟩ (c_X9_begins _ G _ _ _ _ _ o' ho) hc.1 hc.2 (by decide) rfl rfl rfl (Nat.le_of_ble_eq_true rfl) ⟨Nat.le_refl _, Nat.le_refl _⟩ hl hr hs⟩) (fun S11 h => ?_)
      refine m_aload_n C (dOf DX9_fewest 34 rfl) rfl 0 rfl ?_
      refine m_iload_n C (dOf DX9_fewest 35 rfl) rfl 1 rfl ?_
      refine m_iload_n C (dOf DX9_fewest 36 rfl) rfl 2 rfl ?_
      obtain ⟨hc, h⟩ := ck_spec h
      refine m_cI (st := []) h (fun o' ho H locs ls hl hr hs => ⟨_, m_runV C (dOf DX9_fewest 37 rfl) km_X9_265 ky_X9_storms (by decide) ⟨rfl, rfl⟩ (c_X9_storms _ G _ _ _ _ o' ho) hc.1 hc.2 (by decide) rfl rfl rfl (Nat.le_of_ble_eq_true rfl) ⟨Nat.le_refl _, Nat.le_refl _⟩ hl hr hs⟩) (fun v13 S12 h => ?_)
      refine m_jn (J := fun (x14 : Unit) => WM X G 6 0 0 (wQ X G (qI G o) 0 0) 83 [(0, .ref (G.1 + b0)), (1, .int p1), (2, .int p2), (3, .int v5), (4, .int v7), (5, .int x8.1)] [] S12) h (fun x14 h => ?_) (fun j14 hj14 h => ?_)
      · refine m_iinc C (dOf DX9_fewest 48 rfl) (w := 1) ki_1 5 rfl (by decide) h (fun v15 h => ⟨[(5, .int v15), (0, .ref (G.1 + b0)), (1, .int p1), (2, .int p2), (3, .int v5), (4, .int v7)], rfl, ?_⟩)
        refine m_goto C (dOf DX9_fewest 49 rfl) (tgt := 41) rfl ?_
        exact m_sub [1, 2, 3, 4, 5, 0] rfl (hself8 _ h)
      refine m_ifne C (dOf DX9_fewest 38 rfl) (tgt := 83) rfl h (fun h => ?_) (fun h => ?_)
      · exact m_sub [0, 1, 2, 3, 4, 5] rfl (hj14 _ h)
      · refine m_aload_n C (dOf DX9_fewest 39 rfl) rfl 0 rfl ?_
        refine m_gR C (dOf DX9_fewest 40 rfl) kf_X9_7 fg_9_1 h (fun a16 h => ?_)
        refine m_bipush C (dOf DX9_fewest 41 rfl) (v := 12) kb_12 ?_
        refine m_aI C (dOf DX9_fewest 42 rfl) h (fun v17 h => ?_)
        refine m_ifne C (dOf DX9_fewest 43 rfl) (tgt := 83) rfl h (fun h => ?_) (fun h => ?_)
        · exact m_sub [0, 1, 2, 3, 4, 5] rfl (hj14 _ h)
        · refine m_aload_n C (dOf DX9_fewest 44 rfl) rfl 0 rfl ?_
          refine m_iload C (dOf DX9_fewest 45 rfl) 5 rfl ?_
          obtain ⟨hc, h⟩ := ck_spec h
          refine m_cI (st := []) h (fun o' ho H locs ls hl hr hs => ⟨_, m_runV C (dOf DX9_fewest 46 rfl) km_X9_323 ky_X9_back (by decide) ⟨rfl, rfl⟩ (c_X9_back _ G _ _ _ o' ho) hc.1 hc.2 (by decide) rfl rfl rfl (Nat.le_of_ble_eq_true rfl) ⟨Nat.le_refl _, Nat.le_refl _⟩ hl hr hs⟩) (fun v19 S18 h => ?_)
          exact m_iret C rfl (dOf DX9_fewest 47 rfl) h
  · refine m_iconst C (dOf DX9_fewest 8 rfl) (v := (-1)) ki_m1 ?_
    exact m_iret C rfl (dOf DX9_fewest 9 rfl) h
