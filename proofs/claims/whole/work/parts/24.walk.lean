/-- TraceRing$Ring.readyFigure(II)I -/
def f_X4_readyFigure (S : St) (b0 : Nat) (p1 : Int32) (p2 : Int32) : Option Int32 :=
  if 0 ≤ p1 then
    lp_ (fun self1 (x1 : Int32 × Int32) =>
      gI_ S b0 4 13 fun v2 =>
      if v2 ≤ x1.2 then
        rt_ (-2)
      else
        ck_ S b0 4 <| cP_ (f_X4_placeOf S b0 x1.2) fun v3 =>
        ck_ S b0 4 <| cP_ (f_X4_pageAt S b0 v3) fun a4 =>
        ck_ S a4 3 <| cP_ (f_X3_readyRecords S a4) fun v5 =>
        if v5 ≤ x1.1 then
          lt_ (x1.1 - v5 : Int32) fun v6 =>
          lt_ (x1.2 + 1) fun v7 =>
          self1 (v6, v7)
        else
          ck_ S a4 3 <| cP_ (f_X3_itemOfRecord S a4 x1.1) fun v8 =>
          jn_ (fun (x9 : Int32) =>
            jn_ (fun (x10 : Int32) =>
              rt_ x10
            ) fun j10 =>
            if x9 = 0 then
              ck_ S a4 3 <| cP_ (f_X3_itemFigure S a4 v8 p2) fun v11 =>
              j10 (v11)
            else
              lt_ (p2 - 10 : Int32) fun v12 =>
              ck_ S a4 3 <| cP_ (f_X3_dataOf S a4 v8 v12) fun v13 =>
              j10 (v13)
          ) fun j9 =>
          jn_ (fun (x14 : Unit) =>
            j9 (0)
          ) fun j14 =>
          if p2 < 10 then
            j14 ()
          else
            lt_ (p2 - 10 : Int32) fun v15 =>
            gR_ S a4 3 6 fun a16 =>
            cP_ (f_X8_at S a16 v8) fun v17 =>
            if v17 ≤ v15 then
              j14 ()
            else
              j9 (1)
    ) FU (p1, 0)
  else
    rt_ (-2)
set_option maxRecDepth 100000 in
set_option maxHeartbeats 4000000 in
theorem c_X4_readyFigure (l : Launch) (G : Gx) (S : St) (b0 : Nat) (p1 : Int32) (p2 : Int32) (o : Int32) (h : f_X4_readyFigure S b0 p1 p2 = some o) : Met l yX4_readyFigure (Cond.code yX4_readyFigure cX4_readyFigure 9 (some (.int)) :: wAll) ({ frames := 3, cells := 0, slots := 0, locals := 64 } : Room) (va_Pc [.ref (G.1 + b0), .int p1, .int p2] (wPre G S)) (qI G (o, S)) 0 0 (wA G) := by
  refine m_start (by decide +kernel) (Nat.le_of_ble_eq_true rfl) (fun X C => ?_)
  unfold f_X4_readyFigure at h
  show WM X G 9 0 0 (wQ X G (qI G (o, S)) 0 0) 0 [(0, .ref (G.1 + b0)), (1, .int p1), (2, .int p2)] [] S
  refine m_iload_n C (dOf DX4_readyFigure 0 rfl) rfl 1 rfl ?_
  refine m_ifge C (dOf DX4_readyFigure 1 rfl) (tgt := 7) rfl h (fun h => ?_) (fun h => ?_)
  · refine m_iload_n C (dOf DX4_readyFigure 4 rfl) rfl 1 rfl ?_
    refine m_istore_n C (dOf DX4_readyFigure 5 rfl) rfl (by decide) (lv' := [(3, .int p1), (0, .ref (G.1 + b0)), (1, .int p1), (2, .int p2)]) rfl ?_
    refine m_iconst C (dOf DX4_readyFigure 6 rfl) (v := 0) ki_0 ?_
    refine m_istore C (dOf DX4_readyFigure 7 rfl) (by decide) (lv' := [(4, .int 0), (3, .int p1), (0, .ref (G.1 + b0)), (1, .int p1), (2, .int p2)]) rfl ?_
    refine m_sub [2, 4, 1, 0] rfl (m_lp (J := fun (x1 : Int32 × Int32) => WM X G 9 0 0 (wQ X G (qI G (o, S)) 0 0) 12 [(0, .ref (G.1 + b0)), (2, .int p2), (3, .int x1.1), (4, .int x1.2)] [] S) h (fun self1 hself1 x1 h => ?_))
    refine m_iload C (dOf DX4_readyFigure 8 rfl) 3 rfl ?_
    refine m_aload_n C (dOf DX4_readyFigure 9 rfl) rfl 0 rfl ?_
    refine m_gI C (dOf DX4_readyFigure 10 rfl) kf_X4_78 fg_4_13 h (fun v2 h => ?_)
    refine m_icmpge C (dOf DX4_readyFigure 11 rfl) (tgt := 123) rfl h (fun h => ?_) (fun h => ?_)
    · refine m_bipush C (dOf DX4_readyFigure 63 rfl) (v := (-2)) kb_m2 ?_
      exact m_iretP C rfl (dOf DX4_readyFigure 64 rfl) h
    · refine m_aload_n C (dOf DX4_readyFigure 12 rfl) rfl 0 rfl ?_
      refine m_aload_n C (dOf DX4_readyFigure 13 rfl) rfl 0 rfl ?_
      refine m_iload C (dOf DX4_readyFigure 14 rfl) 3 rfl ?_
      obtain ⟨hc, h⟩ := ck_spec h
      refine m_cP (st := [.ref (G.1 + b0)]) h (fun o' ho H locs ls hl hr hs => ⟨_, m_runV C (dOf DX4_readyFigure 15 rfl) km_X4_98 ky_X4_placeOf (by decide) ⟨rfl, rfl⟩ (c_X4_placeOf _ G _ _ _ o' ho) hc.1 hc.2 (by decide) rfl rfl rfl (Nat.le_of_ble_eq_true rfl) ⟨Nat.le_refl _, Nat.le_refl _⟩ hl hr hs⟩) (fun v3 h => ?_)
      obtain ⟨hc, h⟩ := ck_spec h
      refine m_cN (st := []) h (fun o' ho H locs ls hl hr hs => ⟨_, m_runV C (dOf DX4_readyFigure 16 rfl) km_X4_46 ky_X4_pageAt (by decide) ⟨rfl, rfl⟩ (c_X4_pageAt _ G _ _ _ o' ho) hc.1 hc.2 (by decide) rfl rfl rfl (Nat.le_of_ble_eq_true rfl) ⟨Nat.le_refl _, Nat.le_refl _⟩ hl hr hs⟩) (fun a4 h => ?_)
      refine m_astore C (dOf DX4_readyFigure 17 rfl) (by decide) (lv' := [(5, .ref (G.1 + a4)), (0, .ref (G.1 + b0)), (2, .int p2), (3, .int x1.1), (4, .int x1.2)]) rfl ?_
      refine m_aload C (dOf DX4_readyFigure 18 rfl) 0 rfl ?_
      obtain ⟨hc, h⟩ := ck_spec h
      refine m_cP (st := []) h (fun o' ho H locs ls hl hr hs => ⟨_, m_runV C (dOf DX4_readyFigure 19 rfl) km_X4_218 ky_X3_readyRecords (by decide) ⟨rfl, rfl⟩ (c_X3_readyRecords _ G _ _ o' ho) hc.1 hc.2 (by decide) rfl rfl rfl (Nat.le_of_ble_eq_true rfl) ⟨Nat.le_refl _, Nat.le_refl _⟩ hl hr hs⟩) (fun v5 h => ?_)
      refine m_istore C (dOf DX4_readyFigure 20 rfl) (by decide) (lv' := [(6, .int v5), (5, .ref (G.1 + a4)), (0, .ref (G.1 + b0)), (2, .int p2), (3, .int x1.1), (4, .int x1.2)]) rfl ?_
      refine m_iload_n C (dOf DX4_readyFigure 21 rfl) rfl 4 rfl ?_
      refine m_iload C (dOf DX4_readyFigure 22 rfl) 0 rfl ?_
      refine m_icmpge C (dOf DX4_readyFigure 23 rfl) (tgt := 112) rfl h (fun h => ?_) (fun h => ?_)
      · refine m_iload_n C (dOf DX4_readyFigure 57 rfl) rfl 4 rfl ?_
        refine m_iload C (dOf DX4_readyFigure 58 rfl) 0 rfl ?_
        refine m_isub C (dOf DX4_readyFigure 59 rfl) h (fun v6 h => ?_)
        refine m_istore_n C (dOf DX4_readyFigure 60 rfl) rfl (by decide) (lv' := [(3, .int v6), (6, .int v5), (5, .ref (G.1 + a4)), (0, .ref (G.1 + b0)), (2, .int p2), (4, .int x1.2)]) rfl ?_
        refine m_iinc C (dOf DX4_readyFigure 61 rfl) (w := 1) ki_1 5 rfl (by decide) h (fun v7 h => ⟨[(4, .int v7), (3, .int v6), (6, .int v5), (5, .ref (G.1 + a4)), (0, .ref (G.1 + b0)), (2, .int p2)], rfl, ?_⟩)
        refine m_goto C (dOf DX4_readyFigure 62 rfl) (tgt := 12) rfl ?_
        exact m_sub [4, 5, 1, 0] rfl (hself1 _ h)
      · refine m_aload C (dOf DX4_readyFigure 24 rfl) 1 rfl ?_
        refine m_iload_n C (dOf DX4_readyFigure 25 rfl) rfl 4 rfl ?_
        obtain ⟨hc, h⟩ := ck_spec h
        refine m_cP (st := []) h (fun o' ho H locs ls hl hr hs => ⟨_, m_runV C (dOf DX4_readyFigure 26 rfl) km_X4_222 ky_X3_itemOfRecord (by decide) ⟨rfl, rfl⟩ (c_X3_itemOfRecord _ G _ _ _ o' ho) hc.1 hc.2 (by decide) rfl rfl rfl (Nat.le_of_ble_eq_true rfl) ⟨Nat.le_refl _, Nat.le_refl _⟩ hl hr hs⟩) (fun v8 h => ?_)
        refine m_istore C (dOf DX4_readyFigure 27 rfl) (by decide) (lv' := [(7, .int v8), (6, .int v5), (5, .ref (G.1 + a4)), (0, .ref (G.1 + b0)), (2, .int p2), (3, .int x1.1), (4, .int x1.2)]) rfl ?_
        refine m_iload_n C (dOf DX4_readyFigure 28 rfl) rfl 4 rfl ?_
        refine m_bipush C (dOf DX4_readyFigure 29 rfl) (v := 10) kb_10 ?_
        refine m_jn (J := fun (x9 : Int32) => WM X G 9 0 0 (wQ X G (qI G (o, S)) 0 0) 82 [(2, .int p2), (5, .ref (G.1 + a4)), (7, .int v8)] [.int x9] S) h (fun x9 h => ?_) (fun j9 hj9 h => ?_)
        · refine m_istore C (dOf DX4_readyFigure 42 rfl) (by decide) (lv' := [(8, .int x9), (2, .int p2), (5, .ref (G.1 + a4)), (7, .int v8)]) rfl ?_
          refine m_iload C (dOf DX4_readyFigure 43 rfl) 0 rfl ?_
          refine m_jn (J := fun (x10 : Int32) => WM X G 9 0 0 (wQ X G (qI G (o, S)) 0 0) 111 [] [.int x10] S) h (fun x10 h => ?_) (fun j10 hj10 h => ?_)
          · exact m_iretP C rfl (dOf DX4_readyFigure 56 rfl) h
          refine m_ifeq C (dOf DX4_readyFigure 44 rfl) (tgt := 103) rfl h (fun h => ?_) (fun h => ?_)
          · refine m_aload C (dOf DX4_readyFigure 52 rfl) 2 rfl ?_
            refine m_iload C (dOf DX4_readyFigure 53 rfl) 3 rfl ?_
            refine m_iload_n C (dOf DX4_readyFigure 54 rfl) rfl 1 rfl ?_
            obtain ⟨hc, h⟩ := ck_spec h
            refine m_cP (st := []) h (fun o' ho H locs ls hl hr hs => ⟨_, m_runV C (dOf DX4_readyFigure 55 rfl) km_X4_219 ky_X3_itemFigure (by decide) ⟨rfl, rfl⟩ (c_X3_itemFigure _ G _ _ _ _ o' ho) hc.1 hc.2 (by decide) rfl rfl rfl (Nat.le_of_ble_eq_true rfl) ⟨Nat.le_refl _, Nat.le_refl _⟩ hl hr hs⟩) (fun v11 h => ?_)
            exact m_sub [] rfl (hj10 _ h)
          · refine m_aload C (dOf DX4_readyFigure 45 rfl) 2 rfl ?_
            refine m_iload C (dOf DX4_readyFigure 46 rfl) 3 rfl ?_
            refine m_iload_n C (dOf DX4_readyFigure 47 rfl) rfl 1 rfl ?_
            refine m_bipush C (dOf DX4_readyFigure 48 rfl) (v := 10) kb_10 ?_
            refine m_isub C (dOf DX4_readyFigure 49 rfl) h (fun v12 h => ?_)
            obtain ⟨hc, h⟩ := ck_spec h
            refine m_cP (st := []) h (fun o' ho H locs ls hl hr hs => ⟨_, m_runV C (dOf DX4_readyFigure 50 rfl) km_X4_225 ky_X3_dataOf (by decide) ⟨rfl, rfl⟩ (c_X3_dataOf _ G _ _ _ _ o' ho) hc.1 hc.2 (by decide) rfl rfl rfl (Nat.le_of_ble_eq_true rfl) ⟨Nat.le_refl _, Nat.le_refl _⟩ hl hr hs⟩) (fun v13 h => ?_)
            refine m_goto C (dOf DX4_readyFigure 51 rfl) (tgt := 111) rfl ?_
            exact m_sub [] rfl (hj10 _ h)
        refine m_jn (J := fun (x14 : Unit) => WM X G 9 0 0 (wQ X G (qI G (o, S)) 0 0) 81 [(2, .int p2), (5, .ref (G.1 + a4)), (7, .int v8)] [] S) h (fun x14 h => ?_) (fun j14 hj14 h => ?_)
        · refine m_iconst C (dOf DX4_readyFigure 41 rfl) (v := 0) ki_0 ?_
          exact m_sub [0, 1, 2] rfl (hj9 _ h)
        refine m_icmplt C (dOf DX4_readyFigure 30 rfl) (tgt := 81) rfl h (fun h => ?_) (fun h => ?_)
        · exact m_sub [4, 2, 0] rfl (hj14 _ h)
        · refine m_iload_n C (dOf DX4_readyFigure 31 rfl) rfl 4 rfl ?_
          refine m_bipush C (dOf DX4_readyFigure 32 rfl) (v := 10) kb_10 ?_
          refine m_isub C (dOf DX4_readyFigure 33 rfl) h (fun v15 h => ?_)
          refine m_aload C (dOf DX4_readyFigure 34 rfl) 2 rfl ?_
          refine m_gR C (dOf DX4_readyFigure 35 rfl) kf_X4_162 fg_3_6 h (fun a16 h => ?_)
          refine m_iload C (dOf DX4_readyFigure 36 rfl) 0 rfl ?_
          refine m_cP (st := [.int v15]) h (fun o' ho H locs ls hl hr hs => ⟨_, m_runSN C (dOf DX4_readyFigure 37 rfl) kn_X4_102 ks_X8_at (by decide) ⟨rfl, rfl⟩ (c_X8_at _ G _ _ _ o' ho) rfl rfl (Nat.le_of_ble_eq_true rfl) ⟨Nat.le_refl _, Nat.le_refl _⟩ hl hr hs⟩) (fun v17 h => ?_)
          refine m_icmpge C (dOf DX4_readyFigure 38 rfl) (tgt := 81) rfl h (fun h => ?_) (fun h => ?_)
          · exact m_sub [4, 2, 0] rfl (hj14 _ h)
          · refine m_iconst C (dOf DX4_readyFigure 39 rfl) (v := 1) ki_1 ?_
            refine m_goto C (dOf DX4_readyFigure 40 rfl) (tgt := 82) rfl ?_
            exact m_sub [4, 2, 0] rfl (hj9 _ h)
  · refine m_bipush C (dOf DX4_readyFigure 2 rfl) (v := (-2)) kb_m2 ?_
    exact m_iretP C rfl (dOf DX4_readyFigure 3 rfl) h
/-- TraceRing$Ring.isWithin(LTraceRing$Page;III)Z -/
def f_X4_isWithin (S : St) (b0 : Nat) (b1 : Nat) (p2 : Int32) (p3 : Int32) (p4 : Int32) : Option Int32 :=
  gR_ S b1 3 3 fun a1 =>
  cP_ (f_X8_at S a1 p2) fun v2 =>
  jn_ (fun (x3 : Int32) =>
    rzP_ x3
  ) fun j3 =>
  jn_ (fun (x4 : Unit) =>
    j3 (0)
  ) fun j4 =>
  if v2 < p3 then
    j4 ()
  else
    if p4 < v2 then
      j4 ()
    else
      j3 (1)
set_option maxRecDepth 100000 in
set_option maxHeartbeats 4000000 in
theorem c_X4_isWithin (l : Launch) (G : Gx) (S : St) (b0 : Nat) (b1 : Nat) (p2 : Int32) (p3 : Int32) (p4 : Int32) (o : Int32) (h : f_X4_isWithin S b0 b1 p2 p3 p4 = some o) : Met l yX4_isWithin (Cond.code yX4_isWithin cX4_isWithin 6 (some (.boolean)) :: wAll) ({ frames := 1, cells := 0, slots := 0, locals := 21 } : Room) (va_Pc [.ref (G.1 + b0), .ref (G.1 + b1), .int p2, .int p3, .int p4] (wPre G S)) (qI G (o, S)) 0 0 (wA G) := by
  refine m_start (by decide +kernel) (Nat.le_of_ble_eq_true rfl) (fun X C => ?_)
  unfold f_X4_isWithin at h
  show WM X G 6 0 0 (wQ X G (qI G (o, S)) 0 0) 0 [(0, .ref (G.1 + b0)), (1, .ref (G.1 + b1)), (2, .int p2), (3, .int p3), (4, .int p4)] [] S
  refine m_aload_n C (dOf DX4_isWithin 0 rfl) rfl 1 rfl ?_
  refine m_gR C (dOf DX4_isWithin 1 rfl) kf_X4_171 fg_3_3 h (fun a1 h => ?_)
  refine m_iload_n C (dOf DX4_isWithin 2 rfl) rfl 2 rfl ?_
  refine m_cP (st := []) h (fun o' ho H locs ls hl hr hs => ⟨_, m_runSN C (dOf DX4_isWithin 3 rfl) kn_X4_102 ks_X8_at (by decide) ⟨rfl, rfl⟩ (c_X8_at _ G _ _ _ o' ho) rfl rfl (Nat.le_of_ble_eq_true rfl) ⟨Nat.le_refl _, Nat.le_refl _⟩ hl hr hs⟩) (fun v2 h => ?_)
  refine m_istore C (dOf DX4_isWithin 4 rfl) (by decide) (lv' := [(5, .int v2), (0, .ref (G.1 + b0)), (1, .ref (G.1 + b1)), (2, .int p2), (3, .int p3), (4, .int p4)]) rfl ?_
  refine m_iload C (dOf DX4_isWithin 5 rfl) 0 rfl ?_
  refine m_iload_n C (dOf DX4_isWithin 6 rfl) rfl 4 rfl ?_
  refine m_jn (J := fun (x3 : Int32) => WM X G 6 0 0 (wQ X G (qI G (o, S)) 0 0) 28 [] [.int x3] S) h (fun x3 h => ?_) (fun j3 hj3 h => ?_)
  · exact m_zretP C rfl (dOf DX4_isWithin 14 rfl) h
  refine m_jn (J := fun (x4 : Unit) => WM X G 6 0 0 (wQ X G (qI G (o, S)) 0 0) 27 [] [] S) h (fun x4 h => ?_) (fun j4 hj4 h => ?_)
  · refine m_iconst C (dOf DX4_isWithin 13 rfl) (v := 0) ki_0 ?_
    exact m_sub [] rfl (hj3 _ h)
  refine m_icmplt C (dOf DX4_isWithin 7 rfl) (tgt := 27) rfl h (fun h => ?_) (fun h => ?_)
  · exact m_sub [] rfl (hj4 _ h)
  · refine m_iload C (dOf DX4_isWithin 8 rfl) 0 rfl ?_
    refine m_iload C (dOf DX4_isWithin 9 rfl) 5 rfl ?_
    refine m_icmpgt C (dOf DX4_isWithin 10 rfl) (tgt := 27) rfl h (fun h => ?_) (fun h => ?_)
    · exact m_sub [] rfl (hj4 _ h)
    · refine m_iconst C (dOf DX4_isWithin 11 rfl) (v := 1) ki_1 ?_
      refine m_goto C (dOf DX4_isWithin 12 rfl) (tgt := 28) rfl ?_
      exact m_sub [] rfl (hj3 _ h)
/-- TraceRing$Ring.howManyWithin(II)I -/
def f_X4_howManyWithin (S : St) (b0 : Nat) (p1 : Int32) (p2 : Int32) : Option Int32 :=
  lp_ (fun self1 (x1 : Int32 × Int32) =>
    gI_ S b0 4 13 fun v2 =>
    if v2 ≤ x1.2 then
      rt_ x1.1
    else
      ck_ S b0 4 <| cP_ (f_X4_placeOf S b0 x1.2) fun v3 =>
      ck_ S b0 4 <| cP_ (f_X4_pageAt S b0 v3) fun a4 =>
      lp_ (fun self5 (x5 : Int32 × Int32) =>
        gI_ S a4 3 8 fun v6 =>
        if v6 ≤ x5.2 then
          lt_ (x1.2 + 1) fun v7 =>
          self1 (x5.1, v7)
        else
          ck_ S a4 3 <| cP_ (f_X3_isReady S a4 x5.2) fun v8 =>
          jn_ (fun (x9 : Int32) =>
            lt_ (x5.2 + 1) fun v10 =>
            self5 (x9, v10)
          ) fun j9 =>
          if v8 = 0 then
            j9 (x5.1)
          else
            ck_ S b0 4 <| cP_ (f_X4_isWithin S b0 a4 x5.2 p1 p2) fun v11 =>
            if v11 = 0 then
              j9 (x5.1)
            else
              lt_ (x5.1 + 1) fun v12 =>
              j9 (v12)
      ) FU (x1.1, 0)
  ) FU (0, 0)
set_option maxRecDepth 100000 in
set_option maxHeartbeats 4000000 in
theorem c_X4_howManyWithin (l : Launch) (G : Gx) (S : St) (b0 : Nat) (p1 : Int32) (p2 : Int32) (o : Int32) (h : f_X4_howManyWithin S b0 p1 p2 = some o) : Met l yX4_howManyWithin (Cond.code yX4_howManyWithin cX4_howManyWithin 7 (some (.int)) :: wAll) ({ frames := 2, cells := 0, slots := 0, locals := 46 } : Room) (va_Pc [.ref (G.1 + b0), .int p1, .int p2] (wPre G S)) (qI G (o, S)) 0 0 (wA G) := by
  refine m_start (by decide +kernel) (Nat.le_of_ble_eq_true rfl) (fun X C => ?_)
  unfold f_X4_howManyWithin at h
  show WM X G 7 0 0 (wQ X G (qI G (o, S)) 0 0) 0 [(0, .ref (G.1 + b0)), (1, .int p1), (2, .int p2)] [] S
  refine m_iconst C (dOf DX4_howManyWithin 0 rfl) (v := 0) ki_0 ?_
  refine m_istore_n C (dOf DX4_howManyWithin 1 rfl) rfl (by decide) (lv' := [(3, .int 0), (0, .ref (G.1 + b0)), (1, .int p1), (2, .int p2)]) rfl ?_
  refine m_iconst C (dOf DX4_howManyWithin 2 rfl) (v := 0) ki_0 ?_
  refine m_istore C (dOf DX4_howManyWithin 3 rfl) (by decide) (lv' := [(4, .int 0), (3, .int 0), (0, .ref (G.1 + b0)), (1, .int p1), (2, .int p2)]) rfl ?_
  refine m_sub [2, 3, 4, 1, 0] rfl (m_lp (J := fun (x1 : Int32 × Int32) => WM X G 7 0 0 (wQ X G (qI G (o, S)) 0 0) 5 [(0, .ref (G.1 + b0)), (1, .int p1), (2, .int p2), (3, .int x1.1), (4, .int x1.2)] [] S) h (fun self1 hself1 x1 h => ?_))
  refine m_iload C (dOf DX4_howManyWithin 4 rfl) 4 rfl ?_
  refine m_aload_n C (dOf DX4_howManyWithin 5 rfl) rfl 0 rfl ?_
  refine m_gI C (dOf DX4_howManyWithin 6 rfl) kf_X4_78 fg_4_13 h (fun v2 h => ?_)
  refine m_icmpge C (dOf DX4_howManyWithin 7 rfl) (tgt := 77) rfl h (fun h => ?_) (fun h => ?_)
  · refine m_iload_n C (dOf DX4_howManyWithin 36 rfl) rfl 3 rfl ?_
    exact m_iretP C rfl (dOf DX4_howManyWithin 37 rfl) h
  · refine m_aload_n C (dOf DX4_howManyWithin 8 rfl) rfl 0 rfl ?_
    refine m_aload_n C (dOf DX4_howManyWithin 9 rfl) rfl 0 rfl ?_
    refine m_iload C (dOf DX4_howManyWithin 10 rfl) 4 rfl ?_
    obtain ⟨hc, h⟩ := ck_spec h
    refine m_cP (st := [.ref (G.1 + b0)]) h (fun o' ho H locs ls hl hr hs => ⟨_, m_runV C (dOf DX4_howManyWithin 11 rfl) km_X4_98 ky_X4_placeOf (by decide) ⟨rfl, rfl⟩ (c_X4_placeOf _ G _ _ _ o' ho) hc.1 hc.2 (by decide) rfl rfl rfl (Nat.le_of_ble_eq_true rfl) ⟨Nat.le_refl _, Nat.le_refl _⟩ hl hr hs⟩) (fun v3 h => ?_)
    obtain ⟨hc, h⟩ := ck_spec h
    refine m_cN (st := []) h (fun o' ho H locs ls hl hr hs => ⟨_, m_runV C (dOf DX4_howManyWithin 12 rfl) km_X4_46 ky_X4_pageAt (by decide) ⟨rfl, rfl⟩ (c_X4_pageAt _ G _ _ _ o' ho) hc.1 hc.2 (by decide) rfl rfl rfl (Nat.le_of_ble_eq_true rfl) ⟨Nat.le_refl _, Nat.le_refl _⟩ hl hr hs⟩) (fun a4 h => ?_)
    refine m_astore C (dOf DX4_howManyWithin 13 rfl) (by decide) (lv' := [(5, .ref (G.1 + a4)), (0, .ref (G.1 + b0)), (1, .int p1), (2, .int p2), (3, .int x1.1), (4, .int x1.2)]) rfl ?_
    refine m_iconst C (dOf DX4_howManyWithin 14 rfl) (v := 0) ki_0 ?_
    refine m_istore C (dOf DX4_howManyWithin 15 rfl) (by decide) (lv' := [(6, .int 0), (5, .ref (G.1 + a4)), (0, .ref (G.1 + b0)), (1, .int p1), (2, .int p2), (3, .int x1.1), (4, .int x1.2)]) rfl ?_
    refine m_sub [2, 3, 4, 5, 6, 1, 0] rfl (m_lp (J := fun (x5 : Int32 × Int32) => WM X G 7 0 0 (wQ X G (qI G (o, S)) 0 0) 29 [(0, .ref (G.1 + b0)), (1, .int p1), (2, .int p2), (3, .int x5.1), (4, .int x1.2), (5, .ref (G.1 + a4)), (6, .int x5.2)] [] S) h (fun self5 hself5 x5 h => ?_))
    refine m_iload C (dOf DX4_howManyWithin 16 rfl) 6 rfl ?_
    refine m_aload C (dOf DX4_howManyWithin 17 rfl) 5 rfl ?_
    refine m_gI C (dOf DX4_howManyWithin 18 rfl) kf_X4_180 fg_3_8 h (fun v6 h => ?_)
    refine m_icmpge C (dOf DX4_howManyWithin 19 rfl) (tgt := 71) rfl h (fun h => ?_) (fun h => ?_)
    · refine m_iinc C (dOf DX4_howManyWithin 34 rfl) (w := 1) ki_1 4 rfl (by decide) h (fun v7 h => ⟨[(4, .int v7), (0, .ref (G.1 + b0)), (1, .int p1), (2, .int p2), (3, .int x5.1), (5, .ref (G.1 + a4)), (6, .int x5.2)], rfl, ?_⟩)
      refine m_goto C (dOf DX4_howManyWithin 35 rfl) (tgt := 5) rfl ?_
      exact m_sub [1, 2, 3, 4, 0] rfl (hself1 _ h)
    · refine m_aload C (dOf DX4_howManyWithin 20 rfl) 5 rfl ?_
      refine m_iload C (dOf DX4_howManyWithin 21 rfl) 6 rfl ?_
      obtain ⟨hc, h⟩ := ck_spec h
      refine m_cP (st := []) h (fun o' ho H locs ls hl hr hs => ⟨_, m_runV C (dOf DX4_howManyWithin 22 rfl) km_X4_228 ky_X3_isReady (by decide) ⟨rfl, rfl⟩ (c_X3_isReady _ G _ _ _ o' ho) hc.1 hc.2 (by decide) rfl rfl rfl (Nat.le_of_ble_eq_true rfl) ⟨Nat.le_refl _, Nat.le_refl _⟩ hl hr hs⟩) (fun v8 h => ?_)
      refine m_jn (J := fun (x9 : Int32) => WM X G 7 0 0 (wQ X G (qI G (o, S)) 0 0) 65 [(0, .ref (G.1 + b0)), (1, .int p1), (2, .int p2), (3, .int x9), (4, .int x1.2), (5, .ref (G.1 + a4)), (6, .int x5.2)] [] S) h (fun x9 h => ?_) (fun j9 hj9 h => ?_)
      · refine m_iinc C (dOf DX4_howManyWithin 32 rfl) (w := 1) ki_1 6 rfl (by decide) h (fun v10 h => ⟨[(6, .int v10), (0, .ref (G.1 + b0)), (1, .int p1), (2, .int p2), (3, .int x9), (4, .int x1.2), (5, .ref (G.1 + a4))], rfl, ?_⟩)
        refine m_goto C (dOf DX4_howManyWithin 33 rfl) (tgt := 29) rfl ?_
        exact m_sub [1, 2, 3, 4, 5, 6, 0] rfl (hself5 _ h)
      refine m_ifeq C (dOf DX4_howManyWithin 23 rfl) (tgt := 65) rfl h (fun h => ?_) (fun h => ?_)
      · exact m_sub [0, 1, 2, 3, 4, 5, 6] rfl (hj9 _ h)
      · refine m_aload_n C (dOf DX4_howManyWithin 24 rfl) rfl 0 rfl ?_
        refine m_aload C (dOf DX4_howManyWithin 25 rfl) 5 rfl ?_
        refine m_iload C (dOf DX4_howManyWithin 26 rfl) 6 rfl ?_
        refine m_iload_n C (dOf DX4_howManyWithin 27 rfl) rfl 1 rfl ?_
        refine m_iload_n C (dOf DX4_howManyWithin 28 rfl) rfl 2 rfl ?_
        obtain ⟨hc, h⟩ := ck_spec h
        refine m_cP (st := []) h (fun o' ho H locs ls hl hr hs => ⟨_, m_runV C (dOf DX4_howManyWithin 29 rfl) km_X4_231 ky_X4_isWithin (by decide) ⟨rfl, rfl⟩ (c_X4_isWithin _ G _ _ _ _ _ _ o' ho) hc.1 hc.2 (by decide) rfl rfl rfl (Nat.le_of_ble_eq_true rfl) ⟨Nat.le_refl _, Nat.le_refl _⟩ hl hr hs⟩) (fun v11 h => ?_)
        refine m_ifeq C (dOf DX4_howManyWithin 30 rfl) (tgt := 65) rfl h (fun h => ?_) (fun h => ?_)
        · exact m_sub [0, 1, 2, 3, 4, 5, 6] rfl (hj9 _ h)
        · refine m_iinc C (dOf DX4_howManyWithin 31 rfl) (w := 1) ki_1 3 rfl (by decide) h (fun v12 h => ⟨[(3, .int v12), (0, .ref (G.1 + b0)), (1, .int p1), (2, .int p2), (4, .int x1.2), (5, .ref (G.1 + a4)), (6, .int x5.2)], rfl, ?_⟩)
          exact m_sub [1, 2, 3, 0, 4, 5, 6] rfl (hj9 _ h)
/-- TraceRing$Ring.firstWithin(II)I -/
def f_X4_firstWithin (S : St) (b0 : Nat) (p1 : Int32) (p2 : Int32) : Option Int32 :=
  lp_ (fun self1 (x1 : Int32 × Int32) =>
    gI_ S b0 4 13 fun v2 =>
    if v2 ≤ x1.2 then
      rt_ (-1)
    else
      ck_ S b0 4 <| cP_ (f_X4_placeOf S b0 x1.2) fun v3 =>
      ck_ S b0 4 <| cP_ (f_X4_pageAt S b0 v3) fun a4 =>
      lp_ (fun self5 (x5 : Int32 × Int32) =>
        gI_ S a4 3 8 fun v6 =>
        if v6 ≤ x5.2 then
          lt_ (x1.2 + 1) fun v7 =>
          self1 (x5.1, v7)
        else
          ck_ S a4 3 <| cP_ (f_X3_isReady S a4 x5.2) fun v8 =>
          jn_ (fun (x9 : Int32) =>
            lt_ (x5.2 + 1) fun v10 =>
            self5 (x9, v10)
          ) fun j9 =>
          if v8 = 0 then
            j9 (x5.1)
          else
            ck_ S b0 4 <| cP_ (f_X4_isWithin S b0 a4 x5.2 p1 p2) fun v11 =>
            if v11 = 0 then
              lt_ (x5.1 + 1) fun v12 =>
              j9 (v12)
            else
              rt_ x5.1
      ) FU (x1.1, 0)
  ) FU (0, 0)
set_option maxRecDepth 100000 in
set_option maxHeartbeats 4000000 in
theorem c_X4_firstWithin (l : Launch) (G : Gx) (S : St) (b0 : Nat) (p1 : Int32) (p2 : Int32) (o : Int32) (h : f_X4_firstWithin S b0 p1 p2 = some o) : Met l yX4_firstWithin (Cond.code yX4_firstWithin cX4_firstWithin 7 (some (.int)) :: wAll) ({ frames := 2, cells := 0, slots := 0, locals := 46 } : Room) (va_Pc [.ref (G.1 + b0), .int p1, .int p2] (wPre G S)) (qI G (o, S)) 0 0 (wA G) := by
  refine m_start (by decide +kernel) (Nat.le_of_ble_eq_true rfl) (fun X C => ?_)
  unfold f_X4_firstWithin at h
  show WM X G 7 0 0 (wQ X G (qI G (o, S)) 0 0) 0 [(0, .ref (G.1 + b0)), (1, .int p1), (2, .int p2)] [] S
  refine m_iconst C (dOf DX4_firstWithin 0 rfl) (v := 0) ki_0 ?_
  refine m_istore_n C (dOf DX4_firstWithin 1 rfl) rfl (by decide) (lv' := [(3, .int 0), (0, .ref (G.1 + b0)), (1, .int p1), (2, .int p2)]) rfl ?_
  refine m_iconst C (dOf DX4_firstWithin 2 rfl) (v := 0) ki_0 ?_
  refine m_istore C (dOf DX4_firstWithin 3 rfl) (by decide) (lv' := [(4, .int 0), (3, .int 0), (0, .ref (G.1 + b0)), (1, .int p1), (2, .int p2)]) rfl ?_
  refine m_sub [2, 3, 4, 1, 0] rfl (m_lp (J := fun (x1 : Int32 × Int32) => WM X G 7 0 0 (wQ X G (qI G (o, S)) 0 0) 5 [(0, .ref (G.1 + b0)), (1, .int p1), (2, .int p2), (3, .int x1.1), (4, .int x1.2)] [] S) h (fun self1 hself1 x1 h => ?_))
  refine m_iload C (dOf DX4_firstWithin 4 rfl) 4 rfl ?_
  refine m_aload_n C (dOf DX4_firstWithin 5 rfl) rfl 0 rfl ?_
  refine m_gI C (dOf DX4_firstWithin 6 rfl) kf_X4_78 fg_4_13 h (fun v2 h => ?_)
  refine m_icmpge C (dOf DX4_firstWithin 7 rfl) (tgt := 79) rfl h (fun h => ?_) (fun h => ?_)
  · refine m_iconst C (dOf DX4_firstWithin 38 rfl) (v := (-1)) ki_m1 ?_
    exact m_iretP C rfl (dOf DX4_firstWithin 39 rfl) h
  · refine m_aload_n C (dOf DX4_firstWithin 8 rfl) rfl 0 rfl ?_
    refine m_aload_n C (dOf DX4_firstWithin 9 rfl) rfl 0 rfl ?_
    refine m_iload C (dOf DX4_firstWithin 10 rfl) 4 rfl ?_
    obtain ⟨hc, h⟩ := ck_spec h
    refine m_cP (st := [.ref (G.1 + b0)]) h (fun o' ho H locs ls hl hr hs => ⟨_, m_runV C (dOf DX4_firstWithin 11 rfl) km_X4_98 ky_X4_placeOf (by decide) ⟨rfl, rfl⟩ (c_X4_placeOf _ G _ _ _ o' ho) hc.1 hc.2 (by decide) rfl rfl rfl (Nat.le_of_ble_eq_true rfl) ⟨Nat.le_refl _, Nat.le_refl _⟩ hl hr hs⟩) (fun v3 h => ?_)
    obtain ⟨hc, h⟩ := ck_spec h
    refine m_cN (st := []) h (fun o' ho H locs ls hl hr hs => ⟨_, m_runV C (dOf DX4_firstWithin 12 rfl) km_X4_46 ky_X4_pageAt (by decide) ⟨rfl, rfl⟩ (c_X4_pageAt _ G _ _ _ o' ho) hc.1 hc.2 (by decide) rfl rfl rfl (Nat.le_of_ble_eq_true rfl) ⟨Nat.le_refl _, Nat.le_refl _⟩ hl hr hs⟩) (fun a4 h => ?_)
    refine m_astore C (dOf DX4_firstWithin 13 rfl) (by decide) (lv' := [(5, .ref (G.1 + a4)), (0, .ref (G.1 + b0)), (1, .int p1), (2, .int p2), (3, .int x1.1), (4, .int x1.2)]) rfl ?_
    refine m_iconst C (dOf DX4_firstWithin 14 rfl) (v := 0) ki_0 ?_
    refine m_istore C (dOf DX4_firstWithin 15 rfl) (by decide) (lv' := [(6, .int 0), (5, .ref (G.1 + a4)), (0, .ref (G.1 + b0)), (1, .int p1), (2, .int p2), (3, .int x1.1), (4, .int x1.2)]) rfl ?_
    refine m_sub [2, 3, 4, 5, 6, 1, 0] rfl (m_lp (J := fun (x5 : Int32 × Int32) => WM X G 7 0 0 (wQ X G (qI G (o, S)) 0 0) 29 [(0, .ref (G.1 + b0)), (1, .int p1), (2, .int p2), (3, .int x5.1), (4, .int x1.2), (5, .ref (G.1 + a4)), (6, .int x5.2)] [] S) h (fun self5 hself5 x5 h => ?_))
    refine m_iload C (dOf DX4_firstWithin 16 rfl) 6 rfl ?_
    refine m_aload C (dOf DX4_firstWithin 17 rfl) 5 rfl ?_
    refine m_gI C (dOf DX4_firstWithin 18 rfl) kf_X4_180 fg_3_8 h (fun v6 h => ?_)
    refine m_icmpge C (dOf DX4_firstWithin 19 rfl) (tgt := 73) rfl h (fun h => ?_) (fun h => ?_)
    · refine m_iinc C (dOf DX4_firstWithin 36 rfl) (w := 1) ki_1 4 rfl (by decide) h (fun v7 h => ⟨[(4, .int v7), (0, .ref (G.1 + b0)), (1, .int p1), (2, .int p2), (3, .int x5.1), (5, .ref (G.1 + a4)), (6, .int x5.2)], rfl, ?_⟩)
      refine m_goto C (dOf DX4_firstWithin 37 rfl) (tgt := 5) rfl ?_
      exact m_sub [1, 2, 3, 4, 0] rfl (hself1 _ h)
    · refine m_aload C (dOf DX4_firstWithin 20 rfl) 5 rfl ?_
      refine m_iload C (dOf DX4_firstWithin 21 rfl) 6 rfl ?_
      obtain ⟨hc, h⟩ := ck_spec h
      refine m_cP (st := []) h (fun o' ho H locs ls hl hr hs => ⟨_, m_runV C (dOf DX4_firstWithin 22 rfl) km_X4_228 ky_X3_isReady (by decide) ⟨rfl, rfl⟩ (c_X3_isReady _ G _ _ _ o' ho) hc.1 hc.2 (by decide) rfl rfl rfl (Nat.le_of_ble_eq_true rfl) ⟨Nat.le_refl _, Nat.le_refl _⟩ hl hr hs⟩) (fun v8 h => ?_)
      refine m_jn (J := fun (x9 : Int32) => WM X G 7 0 0 (wQ X G (qI G (o, S)) 0 0) 67 [(0, .ref (G.1 + b0)), (1, .int p1), (2, .int p2), (3, .int x9), (4, .int x1.2), (5, .ref (G.1 + a4)), (6, .int x5.2)] [] S) h (fun x9 h => ?_) (fun j9 hj9 h => ?_)
      · refine m_iinc C (dOf DX4_firstWithin 34 rfl) (w := 1) ki_1 6 rfl (by decide) h (fun v10 h => ⟨[(6, .int v10), (0, .ref (G.1 + b0)), (1, .int p1), (2, .int p2), (3, .int x9), (4, .int x1.2), (5, .ref (G.1 + a4))], rfl, ?_⟩)
        refine m_goto C (dOf DX4_firstWithin 35 rfl) (tgt := 29) rfl ?_
        exact m_sub [1, 2, 3, 4, 5, 6, 0] rfl (hself5 _ h)
      refine m_ifeq C (dOf DX4_firstWithin 23 rfl) (tgt := 67) rfl h (fun h => ?_) (fun h => ?_)
      · exact m_sub [0, 1, 2, 3, 4, 5, 6] rfl (hj9 _ h)
      · refine m_aload_n C (dOf DX4_firstWithin 24 rfl) rfl 0 rfl ?_
        refine m_aload C (dOf DX4_firstWithin 25 rfl) 5 rfl ?_
        refine m_iload C (dOf DX4_firstWithin 26 rfl) 6 rfl ?_
        refine m_iload_n C (dOf DX4_firstWithin 27 rfl) rfl 1 rfl ?_
        refine m_iload_n C (dOf DX4_firstWithin 28 rfl) rfl 2 rfl ?_
        obtain ⟨hc, h⟩ := ck_spec h
        refine m_cP (st := []) h (fun o' ho H locs ls hl hr hs => ⟨_, m_runV C (dOf DX4_firstWithin 29 rfl) km_X4_231 ky_X4_isWithin (by decide) ⟨rfl, rfl⟩ (c_X4_isWithin _ G _ _ _ _ _ _ o' ho) hc.1 hc.2 (by decide) rfl rfl rfl (Nat.le_of_ble_eq_true rfl) ⟨Nat.le_refl _, Nat.le_refl _⟩ hl hr hs⟩) (fun v11 h => ?_)
        refine m_ifeq C (dOf DX4_firstWithin 30 rfl) (tgt := 64) rfl h (fun h => ?_) (fun h => ?_)
        · refine m_iinc C (dOf DX4_firstWithin 33 rfl) (w := 1) ki_1 3 rfl (by decide) h (fun v12 h => ⟨[(3, .int v12), (0, .ref (G.1 + b0)), (1, .int p1), (2, .int p2), (4, .int x1.2), (5, .ref (G.1 + a4)), (6, .int x5.2)], rfl, ?_⟩)
          exact m_sub [1, 2, 3, 0, 4, 5, 6] rfl (hj9 _ h)
        · refine m_iload_n C (dOf DX4_firstWithin 31 rfl) rfl 3 rfl ?_
          exact m_iretP C rfl (dOf DX4_firstWithin 32 rfl) h
/-- TraceRing$Ring.roomFor(I)I -/
def f_X4_roomFor (S : St) (b0 : Nat) (p1 : Int32) : Option Int32 :=
  jn_ (fun (x1 : Unit) =>
    rt_ (-1)
  ) fun j1 =>
  if p1 < 1 then
    j1 ()
  else
    if 8 < p1 then
      j1 ()
    else
      ck_ S b0 4 <| cP_ (f_X4_innermostLevel S b0) fun v2 =>
      if v2 = 3 then
        j1 ()
      else
        lt_ (1 + p1 : Int32) fun v3 =>
        ck_ S b0 4 <| cP_ (f_X4_tailPlace S b0) fun v4 =>
        ck_ S b0 4 <| cP_ (f_X4_pageAt S b0 v4) fun a5 =>
        gI_ S b0 4 9 fun v6 =>
        gI_ S a5 3 9 fun v7 =>
        lt_ (v6 - v7 : Int32) fun v8 =>
        gI_ S b0 4 11 fun v9 =>
        ck_ S a5 3 <| cP_ (f_X3_sizeFor S a5 v9 p1) fun v10 =>
        lt_ (v8 - v10 : Int32) fun v11 =>
        jn_ (fun (x12 : Int32) =>
          gI_ S b0 4 8 fun v13 =>
          gI_ S b0 4 13 fun v14 =>
          lt_ (v13 - v14 : Int32) fun v15 =>
          gI_ S b0 4 9 fun v16 =>
          dv_ v16 v3 fun v17 =>
          lt_ (v15 * v17 : Int32) fun v18 =>
          lt_ (x12 + v18 : Int32) fun v19 =>
          rt_ v19
        ) fun j12 =>
        if 0 ≤ v11 then
          dv_ v11 v3 fun v20 =>
          lt_ (1 + v20 : Int32) fun v21 =>
          j12 (v21)
        else
          j12 (0)
set_option maxRecDepth 100000 in
set_option maxHeartbeats 4000000 in
theorem c_X4_roomFor (l : Launch) (G : Gx) (S : St) (b0 : Nat) (p1 : Int32) (o : Int32) (h : f_X4_roomFor S b0 p1 = some o) : Met l yX4_roomFor (Cond.code yX4_roomFor cX4_roomFor 6 (some (.int)) :: wAll) ({ frames := 2, cells := 0, slots := 0, locals := 44 } : Room) (va_Pc [.ref (G.1 + b0), .int p1] (wPre G S)) (qI G (o, S)) 0 0 (wA G) := by
  refine m_start (by decide +kernel) (Nat.le_of_ble_eq_true rfl) (fun X C => ?_)
  unfold f_X4_roomFor at h
  show WM X G 6 0 0 (wQ X G (qI G (o, S)) 0 0) 0 [(0, .ref (G.1 + b0)), (1, .int p1)] [] S
  refine m_iload_n C (dOf DX4_roomFor 0 rfl) rfl 1 rfl ?_
  refine m_iconst C (dOf DX4_roomFor 1 rfl) (v := 1) ki_1 ?_
  refine m_jn (J := fun (x1 : Unit) => WM X G 6 0 0 (wQ X G (qI G (o, S)) 0 0) 19 [] [] S) h (fun x1 h => ?_) (fun j1 hj1 h => ?_)
  · refine m_iconst C (dOf DX4_roomFor 10 rfl) (v := (-1)) ki_m1 ?_
    exact m_iretP C rfl (dOf DX4_roomFor 11 rfl) h
  refine m_icmplt C (dOf DX4_roomFor 2 rfl) (tgt := 19) rfl h (fun h => ?_) (fun h => ?_)
  · exact m_sub [] rfl (hj1 _ h)
  · refine m_iload_n C (dOf DX4_roomFor 3 rfl) rfl 1 rfl ?_
    refine m_bipush C (dOf DX4_roomFor 4 rfl) (v := 8) kb_8 ?_
    refine m_icmpgt C (dOf DX4_roomFor 5 rfl) (tgt := 19) rfl h (fun h => ?_) (fun h => ?_)
    · exact m_sub [] rfl (hj1 _ h)
    · refine m_aload_n C (dOf DX4_roomFor 6 rfl) rfl 0 rfl ?_
      obtain ⟨hc, h⟩ := ck_spec h
      refine m_cP (st := []) h (fun o' ho H locs ls hl hr hs => ⟨_, m_runV C (dOf DX4_roomFor 7 rfl) km_X4_116 ky_X4_innermostLevel (by decide) ⟨rfl, rfl⟩ (c_X4_innermostLevel _ G _ _ o' ho) hc.1 hc.2 (by decide) rfl rfl rfl (Nat.le_of_ble_eq_true rfl) ⟨Nat.le_refl _, Nat.le_refl _⟩ hl hr hs⟩) (fun v2 h => ?_)
      refine m_iconst C (dOf DX4_roomFor 8 rfl) (v := 3) ki_3 ?_
      refine m_icmpne C (dOf DX4_roomFor 9 rfl) (tgt := 21) rfl h (fun h => ?_) (fun h => ?_)
      · refine m_iconst C (dOf DX4_roomFor 12 rfl) (v := 1) ki_1 ?_
        refine m_iload_n C (dOf DX4_roomFor 13 rfl) rfl 1 rfl ?_
        refine m_iadd C (dOf DX4_roomFor 14 rfl) h (fun v3 h => ?_)
        refine m_istore_n C (dOf DX4_roomFor 15 rfl) rfl (by decide) (lv' := [(2, .int v3), (0, .ref (G.1 + b0)), (1, .int p1)]) rfl ?_
        refine m_aload_n C (dOf DX4_roomFor 16 rfl) rfl 1 rfl ?_
        refine m_aload_n C (dOf DX4_roomFor 17 rfl) rfl 1 rfl ?_
        obtain ⟨hc, h⟩ := ck_spec h
        refine m_cP (st := [.ref (G.1 + b0)]) h (fun o' ho H locs ls hl hr hs => ⟨_, m_runV C (dOf DX4_roomFor 18 rfl) km_X4_120 ky_X4_tailPlace (by decide) ⟨rfl, rfl⟩ (c_X4_tailPlace _ G _ _ o' ho) hc.1 hc.2 (by decide) rfl rfl rfl (Nat.le_of_ble_eq_true rfl) ⟨Nat.le_refl _, Nat.le_refl _⟩ hl hr hs⟩) (fun v4 h => ?_)
        obtain ⟨hc, h⟩ := ck_spec h
        refine m_cN (st := []) h (fun o' ho H locs ls hl hr hs => ⟨_, m_runV C (dOf DX4_roomFor 19 rfl) km_X4_46 ky_X4_pageAt (by decide) ⟨rfl, rfl⟩ (c_X4_pageAt _ G _ _ _ o' ho) hc.1 hc.2 (by decide) rfl rfl rfl (Nat.le_of_ble_eq_true rfl) ⟨Nat.le_refl _, Nat.le_refl _⟩ hl hr hs⟩) (fun a5 h => ?_)
        refine m_astore_n C (dOf DX4_roomFor 20 rfl) rfl (by decide) (lv' := [(3, .ref (G.1 + a5)), (2, .int v3), (0, .ref (G.1 + b0)), (1, .int p1)]) rfl ?_
        refine m_aload_n C (dOf DX4_roomFor 21 rfl) rfl 2 rfl ?_
        refine m_gI C (dOf DX4_roomFor 22 rfl) kf_X4_65 fg_4_9 h (fun v6 h => ?_)
        refine m_aload_n C (dOf DX4_roomFor 23 rfl) rfl 0 rfl ?_
        refine m_gI C (dOf DX4_roomFor 24 rfl) kf_X4_126 fg_3_9 h (fun v7 h => ?_)
        refine m_isub C (dOf DX4_roomFor 25 rfl) h (fun v8 h => ?_)
        refine m_aload_n C (dOf DX4_roomFor 26 rfl) rfl 0 rfl ?_
        refine m_aload_n C (dOf DX4_roomFor 27 rfl) rfl 2 rfl ?_
        refine m_gI C (dOf DX4_roomFor 28 rfl) kf_X4_72 fg_4_11 h (fun v9 h => ?_)
        refine m_iload_n C (dOf DX4_roomFor 29 rfl) rfl 3 rfl ?_
        obtain ⟨hc, h⟩ := ck_spec h
        refine m_cP (st := [.int v8]) h (fun o' ho H locs ls hl hr hs => ⟨_, m_runV C (dOf DX4_roomFor 30 rfl) km_X4_123 ky_X3_sizeFor (by decide) ⟨rfl, rfl⟩ (c_X3_sizeFor _ G _ _ _ _ o' ho) hc.1 hc.2 (by decide) rfl rfl rfl (Nat.le_of_ble_eq_true rfl) ⟨Nat.le_refl _, Nat.le_refl _⟩ hl hr hs⟩) (fun v10 h => ?_)
        refine m_isub C (dOf DX4_roomFor 31 rfl) h (fun v11 h => ?_)
        refine m_istore C (dOf DX4_roomFor 32 rfl) (by decide) (lv' := [(4, .int v11), (3, .ref (G.1 + a5)), (2, .int v3), (0, .ref (G.1 + b0)), (1, .int p1)]) rfl ?_
        refine m_iload C (dOf DX4_roomFor 33 rfl) 0 rfl ?_
        refine m_jn (J := fun (x12 : Int32) => WM X G 6 0 0 (wQ X G (qI G (o, S)) 0 0) 70 [(0, .ref (G.1 + b0)), (2, .int v3)] [.int x12] S) h (fun x12 h => ?_) (fun j12 hj12 h => ?_)
        · refine m_istore C (dOf DX4_roomFor 42 rfl) (by decide) (lv' := [(5, .int x12), (0, .ref (G.1 + b0)), (2, .int v3)]) rfl ?_
          refine m_iload C (dOf DX4_roomFor 43 rfl) 0 rfl ?_
          refine m_aload_n C (dOf DX4_roomFor 44 rfl) rfl 1 rfl ?_
          refine m_gI C (dOf DX4_roomFor 45 rfl) kf_X4_62 fg_4_8 h (fun v13 h => ?_)
          refine m_aload_n C (dOf DX4_roomFor 46 rfl) rfl 1 rfl ?_
          refine m_gI C (dOf DX4_roomFor 47 rfl) kf_X4_78 fg_4_13 h (fun v14 h => ?_)
          refine m_isub C (dOf DX4_roomFor 48 rfl) h (fun v15 h => ?_)
          refine m_aload_n C (dOf DX4_roomFor 49 rfl) rfl 1 rfl ?_
          refine m_gI C (dOf DX4_roomFor 50 rfl) kf_X4_65 fg_4_9 h (fun v16 h => ?_)
          refine m_iload_n C (dOf DX4_roomFor 51 rfl) rfl 2 rfl ?_
          refine m_idiv C (dOf DX4_roomFor 52 rfl) h (fun v17 h => ?_)
          refine m_imul C (dOf DX4_roomFor 53 rfl) h (fun v18 h => ?_)
          refine m_iadd C (dOf DX4_roomFor 54 rfl) h (fun v19 h => ?_)
          exact m_iretP C rfl (dOf DX4_roomFor 55 rfl) h
        refine m_ifge C (dOf DX4_roomFor 34 rfl) (tgt := 64) rfl h (fun h => ?_) (fun h => ?_)
        · refine m_iconst C (dOf DX4_roomFor 37 rfl) (v := 1) ki_1 ?_
          refine m_iload C (dOf DX4_roomFor 38 rfl) 0 rfl ?_
          refine m_iload_n C (dOf DX4_roomFor 39 rfl) rfl 2 rfl ?_
          refine m_idiv C (dOf DX4_roomFor 40 rfl) h (fun v20 h => ?_)
          refine m_iadd C (dOf DX4_roomFor 41 rfl) h (fun v21 h => ?_)
          exact m_sub [3, 2] rfl (hj12 _ h)
        · refine m_iconst C (dOf DX4_roomFor 35 rfl) (v := 0) ki_0 ?_
          refine m_goto C (dOf DX4_roomFor 36 rfl) (tgt := 70) rfl ?_
          exact m_sub [3, 2] rfl (hj12 _ h)
      · exact m_sub [] rfl (hj1 _ h)
/-- TraceRing$Storm.draw(I)I -/
def f_X5_draw (S : St) (b0 : Nat) (p1 : Int32) : Option (Int32 × St) :=
  gI_ S b0 5 0 fun v1 =>
  lt_ (v1 * 1103515245 : Int32) fun v2 =>
  lt_ (v2 + 12345 : Int32) fun v3 =>
  pI_ S b0 5 0 v3 fun S4 =>
  jn_ (fun (x5 : Int32) =>
    rt_ (x5, S4)
  ) fun j5 =>
  if 1 ≤ p1 then
    gI_ S4 b0 5 0 fun v6 =>
    lt_ ((v6.toUInt32 >>> (Int32.toUInt32 16 &&& Int32.toUInt32 31)).toInt32 : Int32) fun v7 =>
    rm_ v7 p1 fun v8 =>
    j5 (v8)
  else
    j5 (0)
set_option maxRecDepth 100000 in
set_option maxHeartbeats 4000000 in
theorem c_X5_draw (l : Launch) (G : Gx) (S : St) (b0 : Nat) (p1 : Int32) (o : (Int32 × St)) (h : f_X5_draw S b0 p1 = some o) : Met l yX5_draw (Cond.code yX5_draw cX5_draw 2 (some (.int)) :: wAll) ({ frames := 0, cells := 0, slots := 0, locals := 0 } : Room) (va_Pc [.ref (G.1 + b0), .int p1] (wPre G S)) (qI G o) 0 0 (wA G) := by
  refine m_start (by decide +kernel) (Nat.le_of_ble_eq_true rfl) (fun X C => ?_)
  unfold f_X5_draw at h
  show WM X G 2 0 0 (wQ X G (qI G o) 0 0) 0 [(0, .ref (G.1 + b0)), (1, .int p1)] [] S
  refine m_aload_n C (dOf DX5_draw 0 rfl) rfl 0 rfl ?_
  refine m_aload_n C (dOf DX5_draw 1 rfl) rfl 0 rfl ?_
  refine m_gI C (dOf DX5_draw 2 rfl) kf_X5_9 fg_5_0 h (fun v1 h => ?_)
  refine m_ldc C (dOf DX5_draw 3 rfl) kc_X5_49 ?_
  refine m_imul C (dOf DX5_draw 4 rfl) h (fun v2 h => ?_)
  refine m_sipush C (dOf DX5_draw 5 rfl) (v := 12345) ks_12345 ?_
  refine m_iadd C (dOf DX5_draw 6 rfl) h (fun v3 h => ?_)
  refine m_pI C (dOf DX5_draw 7 rfl) kf_X5_9 fp_5_0 h (fun S4 h => ?_)
  refine m_iload_n C (dOf DX5_draw 8 rfl) rfl 1 rfl ?_
  refine m_iconst C (dOf DX5_draw 9 rfl) (v := 1) ki_1 ?_
  refine m_jn (J := fun (x5 : Int32) => WM X G 2 0 0 (wQ X G (qI G o) 0 0) 33 [] [.int x5] S4) h (fun x5 h => ?_) (fun j5 hj5 h => ?_)
  · exact m_iret C rfl (dOf DX5_draw 19 rfl) h
  refine m_icmpge C (dOf DX5_draw 10 rfl) (tgt := 24) rfl h (fun h => ?_) (fun h => ?_)
  · refine m_aload_n C (dOf DX5_draw 13 rfl) rfl 0 rfl ?_
    refine m_gI C (dOf DX5_draw 14 rfl) kf_X5_9 fg_5_0 h (fun v6 h => ?_)
    refine m_bipush C (dOf DX5_draw 15 rfl) (v := 16) kb_16 ?_
    refine m_iushr C (dOf DX5_draw 16 rfl) h (fun v7 h => ?_)
    refine m_iload_n C (dOf DX5_draw 17 rfl) rfl 1 rfl ?_
    refine m_irem C (dOf DX5_draw 18 rfl) h (fun v8 h => ?_)
    exact m_sub [] rfl (hj5 _ h)
  · refine m_iconst C (dOf DX5_draw 11 rfl) (v := 0) ki_0 ?_
    refine m_goto C (dOf DX5_draw 12 rfl) (tgt := 33) rfl ?_
    exact m_sub [] rfl (hj5 _ h)
/-- TraceRing$Storm.takeOrEnd(LTraceRing$Ring;)V -/
def f_X5_takeOrEnd (S : St) (b0 : Nat) (b1 : Nat) : Option St :=
  ck_ S b1 4 <| cP_ (f_X4_innermostLevel S b1) fun v1 =>
  jn_ (fun (x2 : St) =>
    rt_ x2
  ) fun j2 =>
  if v1 = 3 then
    ck_ S b1 4 <| cI_ (f_X4_endInnermost S b1 v1) fun v10 S9 =>
    j2 (S9)
  else
    lt_ (v1 + 1 : Int32) fun v3 =>
    ck_ S b0 5 <| cI_ (f_X5_draw S b0 8) fun v5 S4 =>
    lt_ (1 + v5 : Int32) fun v6 =>
    ck_ S4 b1 4 <| cI_ (f_X4_takeRoom S4 b1 v3 v6) fun v8 S7 =>
    j2 (S7)
set_option maxRecDepth 100000 in
set_option maxHeartbeats 4000000 in
theorem c_X5_takeOrEnd (l : Launch) (G : Gx) (S : St) (b0 : Nat) (b1 : Nat) (o : St) (h : f_X5_takeOrEnd S b0 b1 = some o) : Met l yX5_takeOrEnd (Cond.code yX5_takeOrEnd cX5_takeOrEnd 3 none :: wAll) ({ frames := 4, cells := 0, slots := 0, locals := 97 } : Room) (va_Pc [.ref (G.1 + b0), .ref (G.1 + b1)] (wPre G S)) (qV G o) 0 0 (wA G) := by
  refine m_start (by decide +kernel) (Nat.le_of_ble_eq_true rfl) (fun X C => ?_)
  unfold f_X5_takeOrEnd at h
  show WM X G 3 0 0 (wQ X G (qV G o) 0 0) 0 [(0, .ref (G.1 + b0)), (1, .ref (G.1 + b1))] [] S
  refine m_aload_n C (dOf DX5_takeOrEnd 0 rfl) rfl 1 rfl ?_
  obtain ⟨hc, h⟩ := ck_spec h
  refine m_cP (st := []) h (fun o' ho H locs ls hl hr hs => ⟨_, m_runV C (dOf DX5_takeOrEnd 1 rfl) km_X5_28 ky_X4_innermostLevel (by decide) ⟨rfl, rfl⟩ (c_X4_innermostLevel _ G _ _ o' ho) hc.1 hc.2 (by decide) rfl rfl rfl (Nat.le_of_ble_eq_true rfl) ⟨Nat.le_refl _, Nat.le_refl _⟩ hl hr hs⟩) (fun v1 h => ?_)
  refine m_istore_n C (dOf DX5_takeOrEnd 2 rfl) rfl (by decide) (lv' := [(2, .int v1), (0, .ref (G.1 + b0)), (1, .ref (G.1 + b1))]) rfl ?_
  refine m_iload_n C (dOf DX5_takeOrEnd 3 rfl) rfl 0 rfl ?_
  refine m_iconst C (dOf DX5_takeOrEnd 4 rfl) (v := 3) ki_3 ?_
  refine m_jn (J := fun (x2 : St) => WM X G 3 0 0 (wQ X G (qV G o) 0 0) 35 [] [] x2) h (fun x2 h => ?_) (fun j2 hj2 h => ?_)
  · exact m_vret C rfl (dOf DX5_takeOrEnd 22 rfl) h
  refine m_icmpne C (dOf DX5_takeOrEnd 5 rfl) (tgt := 19) rfl h (fun h => ?_) (fun h => ?_)
  · refine m_aload_n C (dOf DX5_takeOrEnd 11 rfl) rfl 2 rfl ?_
    refine m_iload_n C (dOf DX5_takeOrEnd 12 rfl) rfl 0 rfl ?_
    refine m_iconst C (dOf DX5_takeOrEnd 13 rfl) (v := 1) ki_1 ?_
    refine m_iadd C (dOf DX5_takeOrEnd 14 rfl) h (fun v3 h => ?_)
    refine m_iconst C (dOf DX5_takeOrEnd 15 rfl) (v := 1) ki_1 ?_
    refine m_aload_n C (dOf DX5_takeOrEnd 16 rfl) rfl 1 rfl ?_
    refine m_bipush C (dOf DX5_takeOrEnd 17 rfl) (v := 8) kb_8 ?_
    obtain ⟨hc, h⟩ := ck_spec h
    refine m_cI (st := [.int 1, .int v3, .ref (G.1 + b1)]) h (fun o' ho H locs ls hl hr hs => ⟨_, m_runV C (dOf DX5_takeOrEnd 18 rfl) km_X5_15 ky_X5_draw (by decide) ⟨rfl, rfl⟩ (c_X5_draw _ G _ _ _ o' ho) hc.1 hc.2 (by decide) rfl rfl rfl (Nat.le_of_ble_eq_true rfl) ⟨Nat.le_refl _, Nat.le_refl _⟩ hl hr hs⟩) (fun v5 S4 h => ?_)
    refine m_iadd C (dOf DX5_takeOrEnd 19 rfl) h (fun v6 h => ?_)
    obtain ⟨hc, h⟩ := ck_spec h
    refine m_cI (st := []) h (fun o' ho H locs ls hl hr hs => ⟨_, m_runV C (dOf DX5_takeOrEnd 20 rfl) km_X5_50 ky_X4_takeRoom (by decide) ⟨rfl, rfl⟩ (c_X4_takeRoom _ G _ _ _ _ o' ho) hc.1 hc.2 (by decide) rfl rfl rfl (Nat.le_of_ble_eq_true rfl) ⟨Nat.le_refl _, Nat.le_refl _⟩ hl hr hs⟩) (fun v8 S7 h => ?_)
    refine m_pop C (dOf DX5_takeOrEnd 21 rfl) rfl ?_
    exact m_sub [] rfl (hj2 _ h)
  · refine m_aload_n C (dOf DX5_takeOrEnd 6 rfl) rfl 2 rfl ?_
    refine m_iload_n C (dOf DX5_takeOrEnd 7 rfl) rfl 0 rfl ?_
    obtain ⟨hc, h⟩ := ck_spec h
    refine m_cI (st := []) h (fun o' ho H locs ls hl hr hs => ⟨_, m_runV C (dOf DX5_takeOrEnd 8 rfl) km_X5_36 ky_X4_endInnermost (by decide) ⟨rfl, rfl⟩ (c_X4_endInnermost _ G _ _ _ o' ho) hc.1 hc.2 (by decide) rfl rfl rfl (Nat.le_of_ble_eq_true rfl) ⟨Nat.le_refl _, Nat.le_refl _⟩ hl hr hs⟩) (fun v10 S9 h => ?_)
    refine m_pop C (dOf DX5_takeOrEnd 9 rfl) rfl ?_
    refine m_goto C (dOf DX5_takeOrEnd 10 rfl) (tgt := 35) rfl ?_
    exact m_sub [] rfl (hj2 _ h)
/-- TraceRing$Storm.blow(LTraceRing$Ring;II)V -/
def f_X5_blow (S : St) (b0 : Nat) (b1 : Nat) (p2 : Int32) (p3 : Int32) : Option St :=
  pI_ S b0 5 0 p2 fun S1 =>
  lp_ (fun self2 (x2 : Int32 × St) =>
    if p3 ≤ x2.1 then
      rt_ x2.2
    else
      ck_ x2.2 b0 5 <| cI_ (f_X5_draw x2.2 b0 10) fun v4 S3 =>
      jn_ (fun (x5 : St) =>
        lt_ (x2.1 + 1) fun v6 =>
        self2 (v6, x5)
      ) fun j5 =>
      jn_ (fun (x7 : Unit) =>
        ck_ S3 b0 5 <| cV_ (f_X5_takeOrEnd S3 b0 b1) fun S8 =>
        j5 (S8)
      ) fun j7 =>
      jn_ (fun (x9 : Unit) =>
        ck_ S3 b1 4 <| cP_ (f_X4_innermostLevel S3 b1) fun v10 =>
        ck_ S3 b1 4 <| cI_ (f_X4_endInnermost S3 b1 v10) fun v12 S11 =>
        j5 (S11)
      ) fun j9 =>
      if v4 = 0 then
        ck_ S3 b0 5 <| cI_ (f_X5_draw S3 b0 40) fun v14 S13 =>
        lt_ (1 + v14 : Int32) fun v15 =>
        ck_ S13 b1 4 <| cI_ (f_X4_goOn S13 b1 v15) fun v17 S16 =>
        j5 (S16)
      else
      if v4 = 1 then
        j7 ()
      else
      if v4 = 2 then
        j7 ()
      else
      if v4 = 3 then
        j7 ()
      else
      if v4 = 4 then
        j7 ()
      else
      if v4 = 5 then
        ck_ S3 b1 4 <| cP_ (f_X4_innermostLevel S3 b1) fun v18 =>
        ck_ S3 b0 5 <| cI_ (f_X5_draw S3 b0 256) fun v20 S19 =>
        ck_ S19 b1 4 <| cI_ (f_X4_putData S19 b1 v18 v20) fun v22 S21 =>
        j5 (S21)
      else
      if v4 = 6 then
        j9 ()
      else
      if v4 = 7 then
        j9 ()
      else
      if v4 = 8 then
        ck_ S3 b1 4 <| cP_ (f_X4_innermostLevel S3 b1) fun v23 =>
        ck_ S3 b1 4 <| cI_ (f_X4_dropInnermost S3 b1 v23) fun v25 S24 =>
        j5 (S24)
      else
      ck_ S3 b0 5 <| cI_ (f_X5_draw S3 b0 2) fun v27 S26 =>
      jn_ (fun (x28 : Int32) =>
        ck_ S26 b1 4 <| cI_ (f_X4_swapHead S26 b1 x28) fun v30 S29 =>
        ck_ S29 b1 4 <| cI_ (f_X4_readNext S29 b1) fun v32 S31 =>
        ck_ S31 b1 4 <| cI_ (f_X4_readNext S31 b1) fun v34 S33 =>
        j5 (S33)
      ) fun j28 =>
      if v27 = 1 then
        j28 (1)
      else
        j28 (0)
  ) FU (0, S1)
set_option maxRecDepth 100000 in
set_option maxHeartbeats 4000000 in
theorem c_X5_blow (l : Launch) (G : Gx) (S : St) (b0 : Nat) (b1 : Nat) (p2 : Int32) (p3 : Int32) (o : St) (h : f_X5_blow S b0 b1 p2 p3 = some o) : Met l yX5_blow (Cond.code yX5_blow cX5_blow 5 none :: wAll) ({ frames := 5, cells := 0, slots := 0, locals := 119 } : Room) (va_Pc [.ref (G.1 + b0), .ref (G.1 + b1), .int p2, .int p3] (wPre G S)) (qV G o) 0 0 (wA G) := by
  refine m_start (by decide +kernel) (Nat.le_of_ble_eq_true rfl) (fun X C => ?_)
  unfold f_X5_blow at h
  show WM X G 5 0 0 (wQ X G (qV G o) 0 0) 0 [(0, .ref (G.1 + b0)), (1, .ref (G.1 + b1)), (2, .int p2), (3, .int p3)] [] S
  refine m_aload_n C (dOf DX5_blow 0 rfl) rfl 0 rfl ?_
  refine m_iload_n C (dOf DX5_blow 1 rfl) rfl 2 rfl ?_
  refine m_pI C (dOf DX5_blow 2 rfl) kf_X5_9 fp_5_0 h (fun S1 h => ?_)
  refine m_iconst C (dOf DX5_blow 3 rfl) (v := 0) ki_0 ?_
  refine m_istore C (dOf DX5_blow 4 rfl) (by decide) (lv' := [(4, .int 0), (0, .ref (G.1 + b0)), (1, .ref (G.1 + b1)), (2, .int p2), (3, .int p3)]) rfl ?_
  refine m_sub [1, 2, 4, 0] rfl (m_lp (J := fun (x2 : Int32 × St) => WM X G 5 0 0 (wQ X G (qV G o) 0 0) 8 [(0, .ref (G.1 + b0)), (1, .ref (G.1 + b1)), (3, .int p3), (4, .int x2.1)] [] x2.2) h (fun self2 hself2 x2 h => ?_))
  refine m_iload C (dOf DX5_blow 5 rfl) 3 rfl ?_
  refine m_iload_n C (dOf DX5_blow 6 rfl) rfl 2 rfl ?_
  refine m_icmpge C (dOf DX5_blow 7 rfl) (tgt := 174) rfl h (fun h => ?_) (fun h => ?_)
  · exact m_vret C rfl (dOf DX5_blow 65 rfl) h
  · refine m_aload_n C (dOf DX5_blow 8 rfl) rfl 0 rfl ?_
    refine m_bipush C (dOf DX5_blow 9 rfl) (v := 10) kb_10 ?_
    obtain ⟨hc, h⟩ := ck_spec h
    refine m_cI (st := []) h (fun o' ho H locs ls hl hr hs => ⟨_, m_runV C (dOf DX5_blow 10 rfl) km_X5_15 ky_X5_draw (by decide) ⟨rfl, rfl⟩ (c_X5_draw _ G _ _ _ o' ho) hc.1 hc.2 (by decide) rfl rfl rfl (Nat.le_of_ble_eq_true rfl) ⟨Nat.le_refl _, Nat.le_refl _⟩ hl hr hs⟩) (fun v4 S3 h => ?_)
    refine m_jn (J := fun (x5 : St) => WM X G 5 0 0 (wQ X G (qV G o) 0 0) 168 [(0, .ref (G.1 + b0)), (1, .ref (G.1 + b1)), (3, .int p3), (4, .int x2.1)] [] x5) h (fun x5 h => ?_) (fun j5 hj5 h => ?_)
    · refine m_iinc C (dOf DX5_blow 63 rfl) (w := 1) ki_1 3 rfl (by decide) h (fun v6 h => ⟨[(4, .int v6), (0, .ref (G.1 + b0)), (1, .ref (G.1 + b1)), (3, .int p3)], rfl, ?_⟩)
      refine m_goto C (dOf DX5_blow 64 rfl) (tgt := 8) rfl ?_
      exact m_sub [1, 2, 3, 0] rfl (hself2 _ h)
    refine m_jn (J := fun (x7 : Unit) => WM X G 5 0 0 (wQ X G (qV G o) 0 0) 88 [(0, .ref (G.1 + b0)), (1, .ref (G.1 + b1)), (3, .int p3), (4, .int x2.1)] [] S3) h (fun x7 h => ?_) (fun j7 hj7 h => ?_)
    · refine m_aload_n C (dOf DX5_blow 21 rfl) rfl 0 rfl ?_
      refine m_aload_n C (dOf DX5_blow 22 rfl) rfl 1 rfl ?_
      obtain ⟨hc, h⟩ := ck_spec h
      refine m_cV (st := []) h (fun o' ho H locs ls hl hr hs => ⟨_, m_runV C (dOf DX5_blow 23 rfl) km_X5_24 ky_X5_takeOrEnd (by decide) ⟨rfl, rfl⟩ (c_X5_takeOrEnd _ G _ _ _ o' ho) hc.1 hc.2 (by decide) rfl rfl rfl (Nat.le_of_ble_eq_true rfl) ⟨Nat.le_refl _, Nat.le_refl _⟩ hl hr hs⟩) (fun S8 h => ?_)
      refine m_goto C (dOf DX5_blow 24 rfl) (tgt := 168) rfl ?_
      exact m_sub [0, 1, 2, 3] rfl (hj5 _ h)
    refine m_jn (J := fun (x9 : Unit) => WM X G 5 0 0 (wQ X G (qV G o) 0 0) 115 [(0, .ref (G.1 + b0)), (1, .ref (G.1 + b1)), (3, .int p3), (4, .int x2.1)] [] S3) h (fun x9 h => ?_) (fun j9 hj9 h => ?_)
    · refine m_aload_n C (dOf DX5_blow 34 rfl) rfl 1 rfl ?_
      refine m_aload_n C (dOf DX5_blow 35 rfl) rfl 1 rfl ?_
      obtain ⟨hc, h⟩ := ck_spec h
      refine m_cP (st := [.ref (G.1 + b1)]) h (fun o' ho H locs ls hl hr hs => ⟨_, m_runV C (dOf DX5_blow 36 rfl) km_X5_28 ky_X4_innermostLevel (by decide) ⟨rfl, rfl⟩ (c_X4_innermostLevel _ G _ _ o' ho) hc.1 hc.2 (by decide) rfl rfl rfl (Nat.le_of_ble_eq_true rfl) ⟨Nat.le_refl _, Nat.le_refl _⟩ hl hr hs⟩) (fun v10 h => ?_)
      obtain ⟨hc, h⟩ := ck_spec h
      refine m_cI (st := []) h (fun o' ho H locs ls hl hr hs => ⟨_, m_runV C (dOf DX5_blow 37 rfl) km_X5_36 ky_X4_endInnermost (by decide) ⟨rfl, rfl⟩ (c_X4_endInnermost _ G _ _ _ o' ho) hc.1 hc.2 (by decide) rfl rfl rfl (Nat.le_of_ble_eq_true rfl) ⟨Nat.le_refl _, Nat.le_refl _⟩ hl hr hs⟩) (fun v12 S11 h => ?_)
      refine m_pop C (dOf DX5_blow 38 rfl) rfl ?_
      refine m_goto C (dOf DX5_blow 39 rfl) (tgt := 168) rfl ?_
      exact m_sub [0, 1, 2, 3] rfl (hj5 _ h)
    refine m_sw h (fun e h => ?_) (fun n0 h => ?_)
    · refine m_tin C (dOf DX5_blow 11 rfl) 0 e (by decide) (by decide) (off := 52) rfl (tgt := 72) rfl ?_
      refine m_aload_n C (dOf DX5_blow 12 rfl) rfl 1 rfl ?_
      refine m_iconst C (dOf DX5_blow 13 rfl) (v := 1) ki_1 ?_
      refine m_aload_n C (dOf DX5_blow 14 rfl) rfl 0 rfl ?_
      refine m_bipush C (dOf DX5_blow 15 rfl) (v := 40) kb_40 ?_
      obtain ⟨hc, h⟩ := ck_spec h
      refine m_cI (st := [.int 1, .ref (G.1 + b1)]) h (fun o' ho H locs ls hl hr hs => ⟨_, m_runV C (dOf DX5_blow 16 rfl) km_X5_15 ky_X5_draw (by decide) ⟨rfl, rfl⟩ (c_X5_draw _ G _ _ _ o' ho) hc.1 hc.2 (by decide) rfl rfl rfl (Nat.le_of_ble_eq_true rfl) ⟨Nat.le_refl _, Nat.le_refl _⟩ hl hr hs⟩) (fun v14 S13 h => ?_)
      refine m_iadd C (dOf DX5_blow 17 rfl) h (fun v15 h => ?_)
      obtain ⟨hc, h⟩ := ck_spec h
      refine m_cI (st := []) h (fun o' ho H locs ls hl hr hs => ⟨_, m_runV C (dOf DX5_blow 18 rfl) km_X5_19 ky_X4_goOn (by decide) ⟨rfl, rfl⟩ (c_X4_goOn _ G _ _ _ o' ho) hc.1 hc.2 (by decide) rfl rfl rfl (Nat.le_of_ble_eq_true rfl) ⟨Nat.le_refl _, Nat.le_refl _⟩ hl hr hs⟩) (fun v17 S16 h => ?_)
      refine m_pop C (dOf DX5_blow 19 rfl) rfl ?_
      refine m_goto C (dOf DX5_blow 20 rfl) (tgt := 168) rfl ?_
      exact m_sub [0, 1, 2, 3] rfl (hj5 _ h)
    refine m_sw h (fun e h => ?_) (fun n1 h => ?_)
    · refine m_tin C (dOf DX5_blow 11 rfl) 1 e (by decide) (by decide) (off := 68) rfl (tgt := 88) rfl ?_
      exact m_sub [0, 1, 2, 3] rfl (hj7 _ h)
    refine m_sw h (fun e h => ?_) (fun n2 h => ?_)
    · refine m_tin C (dOf DX5_blow 11 rfl) 2 e (by decide) (by decide) (off := 68) rfl (tgt := 88) rfl ?_
      exact m_sub [0, 1, 2, 3] rfl (hj7 _ h)
    refine m_sw h (fun e h => ?_) (fun n3 h => ?_)
    · refine m_tin C (dOf DX5_blow 11 rfl) 3 e (by decide) (by decide) (off := 68) rfl (tgt := 88) rfl ?_
      exact m_sub [0, 1, 2, 3] rfl (hj7 _ h)
    refine m_sw h (fun e h => ?_) (fun n4 h => ?_)
    · refine m_tin C (dOf DX5_blow 11 rfl) 4 e (by decide) (by decide) (off := 68) rfl (tgt := 88) rfl ?_
      exact m_sub [0, 1, 2, 3] rfl (hj7 _ h)
    refine m_sw h (fun e h => ?_) (fun n5 h => ?_)
    · refine m_tin C (dOf DX5_blow 11 rfl) 5 e (by decide) (by decide) (off := 76) rfl (tgt := 96) rfl ?_
      refine m_aload_n C (dOf DX5_blow 25 rfl) rfl 1 rfl ?_
      refine m_aload_n C (dOf DX5_blow 26 rfl) rfl 1 rfl ?_
      obtain ⟨hc, h⟩ := ck_spec h
      refine m_cP (st := [.ref (G.1 + b1)]) h (fun o' ho H locs ls hl hr hs => ⟨_, m_runV C (dOf DX5_blow 27 rfl) km_X5_28 ky_X4_innermostLevel (by decide) ⟨rfl, rfl⟩ (c_X4_innermostLevel _ G _ _ o' ho) hc.1 hc.2 (by decide) rfl rfl rfl (Nat.le_of_ble_eq_true rfl) ⟨Nat.le_refl _, Nat.le_refl _⟩ hl hr hs⟩) (fun v18 h => ?_)
      refine m_aload_n C (dOf DX5_blow 28 rfl) rfl 0 rfl ?_
      refine m_sipush C (dOf DX5_blow 29 rfl) (v := 256) ks_256 ?_
      obtain ⟨hc, h⟩ := ck_spec h
      refine m_cI (st := [.int v18, .ref (G.1 + b1)]) h (fun o' ho H locs ls hl hr hs => ⟨_, m_runV C (dOf DX5_blow 30 rfl) km_X5_15 ky_X5_draw (by decide) ⟨rfl, rfl⟩ (c_X5_draw _ G _ _ _ o' ho) hc.1 hc.2 (by decide) rfl rfl rfl (Nat.le_of_ble_eq_true rfl) ⟨Nat.le_refl _, Nat.le_refl _⟩ hl hr hs⟩) (fun v20 S19 h => ?_)
      obtain ⟨hc, h⟩ := ck_spec h
      refine m_cI (st := []) h (fun o' ho H locs ls hl hr hs => ⟨_, m_runV C (dOf DX5_blow 31 rfl) km_X5_32 ky_X4_putData (by decide) ⟨rfl, rfl⟩ (c_X4_putData _ G _ _ _ _ o' ho) hc.1 hc.2 (by decide) rfl rfl rfl (Nat.le_of_ble_eq_true rfl) ⟨Nat.le_refl _, Nat.le_refl _⟩ hl hr hs⟩) (fun v22 S21 h => ?_)
      refine m_pop C (dOf DX5_blow 32 rfl) rfl ?_
      refine m_goto C (dOf DX5_blow 33 rfl) (tgt := 168) rfl ?_
      exact m_sub [0, 1, 2, 3] rfl (hj5 _ h)
    refine m_sw h (fun e h => ?_) (fun n6 h => ?_)
    · refine m_tin C (dOf DX5_blow 11 rfl) 6 e (by decide) (by decide) (off := 95) rfl (tgt := 115) rfl ?_
      exact m_sub [0, 1, 2, 3] rfl (hj9 _ h)
    refine m_sw h (fun e h => ?_) (fun n7 h => ?_)
    · refine m_tin C (dOf DX5_blow 11 rfl) 7 e (by decide) (by decide) (off := 95) rfl (tgt := 115) rfl ?_
      exact m_sub [0, 1, 2, 3] rfl (hj9 _ h)
    refine m_sw h (fun e h => ?_) (fun n8 h => ?_)
    · refine m_tin C (dOf DX5_blow 11 rfl) 8 e (by decide) (by decide) (off := 107) rfl (tgt := 127) rfl ?_
      refine m_aload_n C (dOf DX5_blow 40 rfl) rfl 1 rfl ?_
      refine m_aload_n C (dOf DX5_blow 41 rfl) rfl 1 rfl ?_
      obtain ⟨hc, h⟩ := ck_spec h
      refine m_cP (st := [.ref (G.1 + b1)]) h (fun o' ho H locs ls hl hr hs => ⟨_, m_runV C (dOf DX5_blow 42 rfl) km_X5_28 ky_X4_innermostLevel (by decide) ⟨rfl, rfl⟩ (c_X4_innermostLevel _ G _ _ o' ho) hc.1 hc.2 (by decide) rfl rfl rfl (Nat.le_of_ble_eq_true rfl) ⟨Nat.le_refl _, Nat.le_refl _⟩ hl hr hs⟩) (fun v23 h => ?_)
      obtain ⟨hc, h⟩ := ck_spec h
      refine m_cI (st := []) h (fun o' ho H locs ls hl hr hs => ⟨_, m_runV C (dOf DX5_blow 43 rfl) km_X5_39 ky_X4_dropInnermost (by decide) ⟨rfl, rfl⟩ (c_X4_dropInnermost _ G _ _ _ o' ho) hc.1 hc.2 (by decide) rfl rfl rfl (Nat.le_of_ble_eq_true rfl) ⟨Nat.le_refl _, Nat.le_refl _⟩ hl hr hs⟩) (fun v25 S24 h => ?_)
      refine m_pop C (dOf DX5_blow 44 rfl) rfl ?_
      refine m_goto C (dOf DX5_blow 45 rfl) (tgt := 168) rfl ?_
      exact m_sub [0, 1, 2, 3] rfl (hj5 _ h)
    have qn0 := neT n0 kt_0
    have qn1 := neT n1 kt_1
    have qn2 := neT n2 kt_2
    have qn3 := neT n3 kt_3
    have qn4 := neT n4 kt_4
    have qn5 := neT n5 kt_5
    have qn6 := neT n6 kt_6
    have qn7 := neT n7 kt_7
    have qn8 := neT n8 kt_8
    refine m_tout C (dOf DX5_blow 11 rfl) (tgt := 139) (by omega) rfl ?_
    refine m_aload_n C (dOf DX5_blow 46 rfl) rfl 1 rfl ?_
    refine m_aload_n C (dOf DX5_blow 47 rfl) rfl 0 rfl ?_
    refine m_iconst C (dOf DX5_blow 48 rfl) (v := 2) ki_2 ?_
    obtain ⟨hc, h⟩ := ck_spec h
    refine m_cI (st := [.ref (G.1 + b1)]) h (fun o' ho H locs ls hl hr hs => ⟨_, m_runV C (dOf DX5_blow 49 rfl) km_X5_15 ky_X5_draw (by decide) ⟨rfl, rfl⟩ (c_X5_draw _ G _ _ _ o' ho) hc.1 hc.2 (by decide) rfl rfl rfl (Nat.le_of_ble_eq_true rfl) ⟨Nat.le_refl _, Nat.le_refl _⟩ hl hr hs⟩) (fun v27 S26 h => ?_)
    refine m_iconst C (dOf DX5_blow 50 rfl) (v := 1) ki_1 ?_
    refine m_jn (J := fun (x28 : Int32) => WM X G 5 0 0 (wQ X G (qV G o) 0 0) 154 [(0, .ref (G.1 + b0)), (1, .ref (G.1 + b1)), (3, .int p3), (4, .int x2.1)] [.int x28, .ref (G.1 + b1)] S26) h (fun x28 h => ?_) (fun j28 hj28 h => ?_)
    · obtain ⟨hc, h⟩ := ck_spec h
      refine m_cI (st := []) h (fun o' ho H locs ls hl hr hs => ⟨_, m_runV C (dOf DX5_blow 55 rfl) km_X5_42 ky_X4_swapHead (by decide) ⟨rfl, rfl⟩ (c_X4_swapHead _ G _ _ _ o' ho) hc.1 hc.2 (by decide) rfl rfl rfl (Nat.le_of_ble_eq_true rfl) ⟨Nat.le_refl _, Nat.le_refl _⟩ hl hr hs⟩) (fun v30 S29 h => ?_)
      refine m_pop C (dOf DX5_blow 56 rfl) rfl ?_
      refine m_aload_n C (dOf DX5_blow 57 rfl) rfl 1 rfl ?_
      obtain ⟨hc, h⟩ := ck_spec h
      refine m_cI (st := []) h (fun o' ho H locs ls hl hr hs => ⟨_, m_runV C (dOf DX5_blow 58 rfl) km_X5_46 ky_X4_readNext (by decide) ⟨rfl, rfl⟩ (c_X4_readNext _ G _ _ o' ho) hc.1 hc.2 (by decide) rfl rfl rfl (Nat.le_of_ble_eq_true rfl) ⟨Nat.le_refl _, Nat.le_refl _⟩ hl hr hs⟩) (fun v32 S31 h => ?_)
      refine m_pop C (dOf DX5_blow 59 rfl) rfl ?_
      refine m_aload_n C (dOf DX5_blow 60 rfl) rfl 1 rfl ?_
      obtain ⟨hc, h⟩ := ck_spec h
      refine m_cI (st := []) h (fun o' ho H locs ls hl hr hs => ⟨_, m_runV C (dOf DX5_blow 61 rfl) km_X5_46 ky_X4_readNext (by decide) ⟨rfl, rfl⟩ (c_X4_readNext _ G _ _ o' ho) hc.1 hc.2 (by decide) rfl rfl rfl (Nat.le_of_ble_eq_true rfl) ⟨Nat.le_refl _, Nat.le_refl _⟩ hl hr hs⟩) (fun v34 S33 h => ?_)
      refine m_pop C (dOf DX5_blow 62 rfl) rfl ?_
      exact m_sub [0, 1, 2, 3] rfl (hj5 _ h)
    refine m_icmpne C (dOf DX5_blow 51 rfl) (tgt := 153) rfl h (fun h => ?_) (fun h => ?_)
    · refine m_iconst C (dOf DX5_blow 54 rfl) (v := 0) ki_0 ?_
      exact m_sub [0, 1, 2, 3] rfl (hj28 _ h)
    · refine m_iconst C (dOf DX5_blow 52 rfl) (v := 1) ki_1 ?_
      refine m_goto C (dOf DX5_blow 53 rfl) (tgt := 154) rfl ?_
      exact m_sub [0, 1, 2, 3] rfl (hj28 _ h)
/-- TraceRing$Text.copyFrom(LTraceRing$Text;)V -/
def f_X6_copyFrom (S : St) (b0 : Nat) (b1 : Nat) : Option St :=
  gR_ S b1 6 0 fun a1 =>
  gR_ S b0 6 0 fun a2 =>
  cV_ (f_X8_copyRow S a1 a2) fun S3 =>
  gI_ S3 b1 6 1 fun v4 =>
  pI_ S3 b0 6 1 v4 fun S5 =>
  gI_ S5 b1 6 2 fun v6 =>
  pI_ S5 b0 6 2 v6 fun S7 =>
  gI_ S7 b1 6 3 fun v8 =>
  pI_ S7 b0 6 3 v8 fun S9 =>
  rt_ S9
set_option maxRecDepth 100000 in
set_option maxHeartbeats 4000000 in
theorem c_X6_copyFrom (l : Launch) (G : Gx) (S : St) (b0 : Nat) (b1 : Nat) (o : St) (h : f_X6_copyFrom S b0 b1 = some o) : Met l yX6_copyFrom (Cond.code yX6_copyFrom cX6_copyFrom 2 none :: wAll) ({ frames := 2, cells := 0, slots := 0, locals := 101 } : Room) (va_Pc [.ref (G.1 + b0), .ref (G.1 + b1)] (wPre G S)) (qV G o) 0 0 (wA G) := by
  refine m_start (by decide +kernel) (Nat.le_of_ble_eq_true rfl) (fun X C => ?_)
  unfold f_X6_copyFrom at h
  show WM X G 2 0 0 (wQ X G (qV G o) 0 0) 0 [(0, .ref (G.1 + b0)), (1, .ref (G.1 + b1))] [] S
  refine m_aload_n C (dOf DX6_copyFrom 0 rfl) rfl 1 rfl ?_
  refine m_gR C (dOf DX6_copyFrom 1 rfl) kf_X6_9 fg_6_0 h (fun a1 h => ?_)
  refine m_aload_n C (dOf DX6_copyFrom 2 rfl) rfl 0 rfl ?_
  refine m_gR C (dOf DX6_copyFrom 3 rfl) kf_X6_9 fg_6_0 h (fun a2 h => ?_)
  refine m_cV (st := []) h (fun o' ho H locs ls hl hr hs => ⟨_, m_runSN C (dOf DX6_copyFrom 4 rfl) kn_X6_25 ks_X8_copyRow (by decide) ⟨rfl, rfl⟩ (c_X8_copyRow _ G _ _ _ o' ho) rfl rfl (Nat.le_of_ble_eq_true rfl) ⟨Nat.le_refl _, Nat.le_refl _⟩ hl hr hs⟩) (fun S3 h => ?_)
  refine m_aload_n C (dOf DX6_copyFrom 5 rfl) rfl 0 rfl ?_
  refine m_aload_n C (dOf DX6_copyFrom 6 rfl) rfl 1 rfl ?_
  refine m_gI C (dOf DX6_copyFrom 7 rfl) kf_X6_29 fg_6_1 h (fun v4 h => ?_)
  refine m_pI C (dOf DX6_copyFrom 8 rfl) kf_X6_29 fp_6_1 h (fun S5 h => ?_)
  refine m_aload_n C (dOf DX6_copyFrom 9 rfl) rfl 0 rfl ?_
  refine m_aload_n C (dOf DX6_copyFrom 10 rfl) rfl 1 rfl ?_
  refine m_gI C (dOf DX6_copyFrom 11 rfl) kf_X6_15 fg_6_2 h (fun v6 h => ?_)
  refine m_pI C (dOf DX6_copyFrom 12 rfl) kf_X6_15 fp_6_2 h (fun S7 h => ?_)
  refine m_aload_n C (dOf DX6_copyFrom 13 rfl) rfl 0 rfl ?_
  refine m_aload_n C (dOf DX6_copyFrom 14 rfl) rfl 1 rfl ?_
  refine m_gI C (dOf DX6_copyFrom 15 rfl) kf_X6_19 fg_6_3 h (fun v8 h => ?_)
  refine m_pI C (dOf DX6_copyFrom 16 rfl) kf_X6_19 fp_6_3 h (fun S9 h => ?_)
  exact m_vret C rfl (dOf DX6_copyFrom 17 rfl) h
/-- TraceRing$Text.byteOf(JI)I -/
def f_X6_byteOf (S : St) (b0 : Nat) (q1 : Int64) (p3 : Int32) : Option Int32 :=
  lt_ (8 * p3 : Int32) fun v1 =>
  lt_ (56 - v1 : Int32) fun v2 =>
  lt_ ((q1.toUInt64 >>> ((Int32.toInt64 v2).toUInt64 &&& Int64.toUInt64 63)).toInt64 : Int64) fun v3 =>
  lt_ (v3 &&& 255 : Int64) fun v4 =>
  lt_ (Int64.toInt32 v4) fun v5 =>
  rt_ v5
set_option maxRecDepth 100000 in
set_option maxHeartbeats 4000000 in
theorem c_X6_byteOf (l : Launch) (G : Gx) (S : St) (b0 : Nat) (q1 : Int64) (p3 : Int32) (o : Int32) (h : f_X6_byteOf S b0 q1 p3 = some o) : Met l yX6_byteOf (Cond.code yX6_byteOf cX6_byteOf 4 (some (.int)) :: wAll) ({ frames := 0, cells := 0, slots := 0, locals := 0 } : Room) (va_Pc [.ref (G.1 + b0), .long q1, .int p3] (wPre G S)) (qI G (o, S)) 0 0 (wA G) := by
  refine m_start (by decide +kernel) (Nat.le_of_ble_eq_true rfl) (fun X C => ?_)
  unfold f_X6_byteOf at h
  show WM X G 4 0 0 (wQ X G (qI G (o, S)) 0 0) 0 [(0, .ref (G.1 + b0)), (1, .long q1), (3, .int p3)] [] S
  refine m_lload_n C (dOf DX6_byteOf 0 rfl) rfl 1 rfl ?_
  refine m_bipush C (dOf DX6_byteOf 1 rfl) (v := 56) kb_56 ?_
  refine m_bipush C (dOf DX6_byteOf 2 rfl) (v := 8) kb_8 ?_
  refine m_iload_n C (dOf DX6_byteOf 3 rfl) rfl 2 rfl ?_
  refine m_imul C (dOf DX6_byteOf 4 rfl) h (fun v1 h => ?_)
  refine m_isub C (dOf DX6_byteOf 5 rfl) h (fun v2 h => ?_)
  refine m_lushr C (dOf DX6_byteOf 6 rfl) h (fun v3 h => ?_)
  refine m_ldc2 C (dOf DX6_byteOf 7 rfl) kc_X6_40 ?_
  refine m_land C (dOf DX6_byteOf 8 rfl) h (fun v4 h => ?_)
  refine m_l2i C (dOf DX6_byteOf 9 rfl) h (fun v5 h => ?_)
  exact m_iretP C rfl (dOf DX6_byteOf 10 rfl) h
/-- TraceRing$Text.append(J)I -/
def f_X6_append (S : St) (b0 : Nat) (q1 : Int64) : Option (Int32 × St) :=
  lp_ (fun self1 (x1 : Int32) =>
    jn_ (fun (x2 : Unit) =>
      gI_ S b0 6 1 fun v3 =>
      lt_ (400 - v3 : Int32) fun v4 =>
      if x1 ≤ v4 then
        lp_ (fun self5 (x5 : Int32 × St) =>
          if x1 ≤ x5.1 then
            gI_ x5.2 b0 6 1 fun v6 =>
            lt_ (v6 + x1 : Int32) fun v7 =>
            pI_ x5.2 b0 6 1 v7 fun S8 =>
            gI_ S8 b0 6 1 fun v9 =>
            rt_ (v9, S8)
          else
            gR_ x5.2 b0 6 0 fun a10 =>
            gI_ x5.2 b0 6 1 fun v11 =>
            lt_ (v11 + x5.1 : Int32) fun v12 =>
            ck_ x5.2 b0 6 <| cP_ (f_X6_byteOf x5.2 b0 q1 x5.1) fun v13 =>
            cV_ (f_X8_set x5.2 a10 v12 v13) fun S14 =>
            lt_ (x5.1 + 1) fun v15 =>
            self5 (v15, S14)
        ) FU (0, S)
      else
        rt_ ((-1), S)
    ) fun j2 =>
    if 8 ≤ x1 then
      j2 ()
    else
      ck_ S b0 6 <| cP_ (f_X6_byteOf S b0 q1 x1) fun v16 =>
      if v16 = 0 then
        j2 ()
      else
        lt_ (x1 + 1) fun v17 =>
        self1 (v17)
  ) FU (0)
set_option maxRecDepth 100000 in
set_option maxHeartbeats 4000000 in
theorem c_X6_append (l : Launch) (G : Gx) (S : St) (b0 : Nat) (q1 : Int64) (o : (Int32 × St)) (h : f_X6_append S b0 q1 = some o) : Met l yX6_append (Cond.code yX6_append cX6_append 5 (some (.int)) :: wAll) ({ frames := 1, cells := 0, slots := 0, locals := 23 } : Room) (va_Pc [.ref (G.1 + b0), .long q1] (wPre G S)) (qI G o) 0 0 (wA G) := by
  refine m_start (by decide +kernel) (Nat.le_of_ble_eq_true rfl) (fun X C => ?_)
  unfold f_X6_append at h
  show WM X G 5 0 0 (wQ X G (qI G o) 0 0) 0 [(0, .ref (G.1 + b0)), (1, .long q1)] [] S
  refine m_iconst C (dOf DX6_append 0 rfl) (v := 0) ki_0 ?_
  refine m_istore_n C (dOf DX6_append 1 rfl) rfl (by decide) (lv' := [(3, .int 0), (0, .ref (G.1 + b0)), (1, .long q1)]) rfl ?_
  refine m_sub [1, 2, 0] rfl (m_lp (J := fun (x1 : Int32) => WM X G 5 0 0 (wQ X G (qI G o) 0 0) 2 [(0, .ref (G.1 + b0)), (1, .long q1), (3, .int x1)] [] S) h (fun self1 hself1 x1 h => ?_))
  refine m_iload_n C (dOf DX6_append 2 rfl) rfl 2 rfl ?_
  refine m_bipush C (dOf DX6_append 3 rfl) (v := 8) kb_8 ?_
  refine m_jn (J := fun (x2 : Unit) => WM X G 5 0 0 (wQ X G (qI G o) 0 0) 23 [(0, .ref (G.1 + b0)), (1, .long q1), (3, .int x1)] [] S) h (fun x2 h => ?_) (fun j2 hj2 h => ?_)
  · refine m_iload_n C (dOf DX6_append 12 rfl) rfl 2 rfl ?_
    refine m_sipush C (dOf DX6_append 13 rfl) (v := 400) ks_400 ?_
    refine m_aload_n C (dOf DX6_append 14 rfl) rfl 0 rfl ?_
    refine m_gI C (dOf DX6_append 15 rfl) kf_X6_29 fg_6_1 h (fun v3 h => ?_)
    refine m_isub C (dOf DX6_append 16 rfl) h (fun v4 h => ?_)
    refine m_icmple C (dOf DX6_append 17 rfl) (tgt := 37) rfl h (fun h => ?_) (fun h => ?_)
    · refine m_iconst C (dOf DX6_append 20 rfl) (v := 0) ki_0 ?_
      refine m_istore C (dOf DX6_append 21 rfl) (by decide) (lv' := [(4, .int 0), (0, .ref (G.1 + b0)), (1, .long q1), (3, .int x1)]) rfl ?_
      refine m_sub [1, 2, 3, 0] rfl (m_lp (J := fun (x5 : Int32 × St) => WM X G 5 0 0 (wQ X G (qI G o) 0 0) 40 [(0, .ref (G.1 + b0)), (1, .long q1), (3, .int x1), (4, .int x5.1)] [] x5.2) h (fun self5 hself5 x5 h => ?_))
      refine m_iload C (dOf DX6_append 22 rfl) 3 rfl ?_
      refine m_iload_n C (dOf DX6_append 23 rfl) rfl 2 rfl ?_
      refine m_icmpge C (dOf DX6_append 24 rfl) (tgt := 73) rfl h (fun h => ?_) (fun h => ?_)
      · refine m_aload_n C (dOf DX6_append 38 rfl) rfl 0 rfl ?_
        refine m_dup C (dOf DX6_append 39 rfl) rfl ?_
        refine m_gI C (dOf DX6_append 40 rfl) kf_X6_29 fg_6_1 h (fun v6 h => ?_)
        refine m_iload_n C (dOf DX6_append 41 rfl) rfl 2 rfl ?_
        refine m_iadd C (dOf DX6_append 42 rfl) h (fun v7 h => ?_)
        refine m_pI C (dOf DX6_append 43 rfl) kf_X6_29 fp_6_1 h (fun S8 h => ?_)
        refine m_aload_n C (dOf DX6_append 44 rfl) rfl 0 rfl ?_
        refine m_gI C (dOf DX6_append 45 rfl) kf_X6_29 fg_6_1 h (fun v9 h => ?_)
        exact m_iret C rfl (dOf DX6_append 46 rfl) h
      · refine m_aload_n C (dOf DX6_append 25 rfl) rfl 0 rfl ?_
        refine m_gR C (dOf DX6_append 26 rfl) kf_X6_9 fg_6_0 h (fun a10 h => ?_)
        refine m_aload_n C (dOf DX6_append 27 rfl) rfl 0 rfl ?_
        refine m_gI C (dOf DX6_append 28 rfl) kf_X6_29 fg_6_1 h (fun v11 h => ?_)
        refine m_iload C (dOf DX6_append 29 rfl) 3 rfl ?_
        refine m_iadd C (dOf DX6_append 30 rfl) h (fun v12 h => ?_)
        refine m_aload_n C (dOf DX6_append 31 rfl) rfl 0 rfl ?_
        refine m_lload_n C (dOf DX6_append 32 rfl) rfl 1 rfl ?_
        refine m_iload C (dOf DX6_append 33 rfl) 3 rfl ?_
        obtain ⟨hc, h⟩ := ck_spec h
        refine m_cP (st := [.int v12, .ref (G.1 + a10)]) h (fun o' ho H locs ls hl hr hs => ⟨_, m_runV C (dOf DX6_append 34 rfl) km_X6_32 ky_X6_byteOf (by decide) ⟨rfl, rfl⟩ (c_X6_byteOf _ G _ _ _ _ o' ho) hc.1 hc.2 (by decide) rfl rfl rfl (Nat.le_of_ble_eq_true rfl) ⟨Nat.le_refl _, Nat.le_refl _⟩ hl hr hs⟩) (fun v13 h => ?_)
        refine m_cV (st := []) h (fun o' ho H locs ls hl hr hs => ⟨_, m_runSN C (dOf DX6_append 35 rfl) kn_X6_36 ks_X8_set (by decide) ⟨rfl, rfl⟩ (c_X8_set _ G _ _ _ _ o' ho) rfl rfl (Nat.le_of_ble_eq_true rfl) ⟨Nat.le_refl _, Nat.le_refl _⟩ hl hr hs⟩) (fun S14 h => ?_)
        refine m_iinc C (dOf DX6_append 36 rfl) (w := 1) ki_1 3 rfl (by decide) h (fun v15 h => ⟨[(4, .int v15), (0, .ref (G.1 + b0)), (1, .long q1), (3, .int x1)], rfl, ?_⟩)
        refine m_goto C (dOf DX6_append 37 rfl) (tgt := 40) rfl ?_
        exact m_sub [1, 2, 3, 0] rfl (hself5 _ h)
    · refine m_iconst C (dOf DX6_append 18 rfl) (v := (-1)) ki_m1 ?_
      exact m_iret C rfl (dOf DX6_append 19 rfl) h
  refine m_icmpge C (dOf DX6_append 4 rfl) (tgt := 23) rfl h (fun h => ?_) (fun h => ?_)
  · exact m_sub [0, 1, 2] rfl (hj2 _ h)
  · refine m_aload_n C (dOf DX6_append 5 rfl) rfl 0 rfl ?_
    refine m_lload_n C (dOf DX6_append 6 rfl) rfl 1 rfl ?_
    refine m_iload_n C (dOf DX6_append 7 rfl) rfl 2 rfl ?_
    obtain ⟨hc, h⟩ := ck_spec h
    refine m_cP (st := []) h (fun o' ho H locs ls hl hr hs => ⟨_, m_runV C (dOf DX6_append 8 rfl) km_X6_32 ky_X6_byteOf (by decide) ⟨rfl, rfl⟩ (c_X6_byteOf _ G _ _ _ _ o' ho) hc.1 hc.2 (by decide) rfl rfl rfl (Nat.le_of_ble_eq_true rfl) ⟨Nat.le_refl _, Nat.le_refl _⟩ hl hr hs⟩) (fun v16 h => ?_)
    refine m_ifeq C (dOf DX6_append 9 rfl) (tgt := 23) rfl h (fun h => ?_) (fun h => ?_)
    · exact m_sub [0, 1, 2] rfl (hj2 _ h)
    · refine m_iinc C (dOf DX6_append 10 rfl) (w := 1) ki_1 2 rfl (by decide) h (fun v17 h => ⟨[(3, .int v17), (0, .ref (G.1 + b0)), (1, .long q1)], rfl, ?_⟩)
      refine m_goto C (dOf DX6_append 11 rfl) (tgt := 2) rfl ?_
      exact m_sub [1, 2, 0] rfl (hself1 _ h)
/-- TraceRing.tell(J)I -/
def f_X8_tell (S : St) (b0 : Nat) (q1 : Int64) : Option (Int32 × St) :=
  gR_ S b0 8 2 fun a1 =>
  ck_ S a1 6 <| cI_ (f_X6_append S a1 q1) fun v3 S2 =>
  rt_ (v3, S2)
set_option maxRecDepth 100000 in
set_option maxHeartbeats 4000000 in
theorem c_X8_tell (l : Launch) (G : Gx) (S : St) (b0 : Nat) (q1 : Int64) (o : (Int32 × St)) (h : f_X8_tell S b0 q1 = some o) : Met l yX8_tell (Cond.code yX8_tell cX8_tell 3 (some (.int)) :: wAll) ({ frames := 2, cells := 0, slots := 0, locals := 47 } : Room) (va_Pc [.ref (G.1 + b0), .long q1] (wPre G S)) (qI G o) 0 0 (wA G) := by
  refine m_start (by decide +kernel) (Nat.le_of_ble_eq_true rfl) (fun X C => ?_)
  unfold f_X8_tell at h
  show WM X G 3 0 0 (wQ X G (qI G o) 0 0) 0 [(0, .ref (G.1 + b0)), (1, .long q1)] [] S
  refine m_aload_n C (dOf DX8_tell 0 rfl) rfl 0 rfl ?_
  refine m_gR C (dOf DX8_tell 1 rfl) kf_X8_22 fg_8_2 h (fun a1 h => ?_)
  refine m_lload_n C (dOf DX8_tell 2 rfl) rfl 1 rfl ?_
  obtain ⟨hc, h⟩ := ck_spec h
  refine m_cI (st := []) h (fun o' ho H locs ls hl hr hs => ⟨_, m_runV C (dOf DX8_tell 3 rfl) km_X8_47 ky_X6_append (by decide) ⟨rfl, rfl⟩ (c_X6_append _ G _ _ _ o' ho) hc.1 hc.2 (by decide) rfl rfl rfl (Nat.le_of_ble_eq_true rfl) ⟨Nat.le_refl _, Nat.le_refl _⟩ hl hr hs⟩) (fun v3 S2 h => ?_)
  exact m_iret C rfl (dOf DX8_tell 4 rfl) h
/-- TraceRing.ring()I -/
def f_X8_ring (S : St) (b0 : Nat) : Option (Int32 × St) :=
  gR_ S b0 8 3 fun a1 =>
  gR_ S b0 8 2 fun a2 =>
  ck_ S a1 2 <| cI_ (f_X2_understand S a1 a2 0 3) fun v4 S3 =>
  gR_ S3 b0 8 2 fun a5 =>
  pI_ S3 a5 6 1 0 fun S6 =>
  if v4 = 0 then
    rt_ ((-1), S6)
  else
    gR_ S6 b0 8 3 fun a7 =>
    gR_ S6 b0 8 0 fun a8 =>
    ck_ S6 a7 2 <| cV_ (f_X2_found S6 a7 a8) fun S9 =>
    gR_ S9 b0 8 0 fun a10 =>
    gI_ S9 a10 4 8 fun v11 =>
    gR_ S9 b0 8 0 fun a12 =>
    gI_ S9 a12 4 9 fun v13 =>
    lt_ (v11 * v13 : Int32) fun v14 =>
    rt_ (v14, S9)
set_option maxRecDepth 100000 in
set_option maxHeartbeats 4000000 in
theorem c_X8_ring (l : Launch) (G : Gx) (S : St) (b0 : Nat) (o : (Int32 × St)) (h : f_X8_ring S b0 = some o) : Met l yX8_ring (Cond.code yX8_ring cX8_ring 2 (some (.int)) :: wAll) ({ frames := 9, cells := 0, slots := 0, locals := 212 } : Room) (va_Pc [.ref (G.1 + b0)] (wPre G S)) (qI G o) 0 0 (wA G) := by
  refine m_start (by decide +kernel) (Nat.le_of_ble_eq_true rfl) (fun X C => ?_)
  unfold f_X8_ring at h
  show WM X G 2 0 0 (wQ X G (qI G o) 0 0) 0 [(0, .ref (G.1 + b0))] [] S
  refine m_aload_n C (dOf DX8_ring 0 rfl) rfl 0 rfl ?_
  refine m_gR C (dOf DX8_ring 1 rfl) kf_X8_29 fg_8_3 h (fun a1 h => ?_)
  refine m_aload_n C (dOf DX8_ring 2 rfl) rfl 0 rfl ?_
  refine m_gR C (dOf DX8_ring 3 rfl) kf_X8_22 fg_8_2 h (fun a2 h => ?_)
  refine m_iconst C (dOf DX8_ring 4 rfl) (v := 0) ki_0 ?_
  refine m_iconst C (dOf DX8_ring 5 rfl) (v := 3) ki_3 ?_
  obtain ⟨hc, h⟩ := ck_spec h
  refine m_cI (st := []) h (fun o' ho H locs ls hl hr hs => ⟨_, m_runV C (dOf DX8_ring 6 rfl) km_X8_51 ky_X2_understand (by decide) ⟨rfl, rfl⟩ (c_X2_understand _ G _ _ _ _ _ o' ho) hc.1 hc.2 (by decide) rfl rfl rfl (Nat.le_of_ble_eq_true rfl) ⟨Nat.le_refl _, Nat.le_refl _⟩ hl hr hs⟩) (fun v4 S3 h => ?_)
  refine m_istore_n C (dOf DX8_ring 7 rfl) rfl (by decide) (lv' := [(1, .int v4), (0, .ref (G.1 + b0))]) rfl ?_
  refine m_aload_n C (dOf DX8_ring 8 rfl) rfl 1 rfl ?_
  refine m_gR C (dOf DX8_ring 9 rfl) kf_X8_22 fg_8_2 h (fun a5 h => ?_)
  refine m_iconst C (dOf DX8_ring 10 rfl) (v := 0) ki_0 ?_
  refine m_pI C (dOf DX8_ring 11 rfl) kf_X8_55 fp_6_1 h (fun S6 h => ?_)
  refine m_iload_n C (dOf DX8_ring 12 rfl) rfl 0 rfl ?_
  refine m_ifne C (dOf DX8_ring 13 rfl) (tgt := 28) rfl h (fun h => ?_) (fun h => ?_)
  · refine m_aload_n C (dOf DX8_ring 16 rfl) rfl 1 rfl ?_
    refine m_gR C (dOf DX8_ring 17 rfl) kf_X8_29 fg_8_3 h (fun a7 h => ?_)
    refine m_aload_n C (dOf DX8_ring 18 rfl) rfl 1 rfl ?_
    refine m_gR C (dOf DX8_ring 19 rfl) kf_X8_10 fg_8_0 h (fun a8 h => ?_)
    obtain ⟨hc, h⟩ := ck_spec h
    refine m_cV (st := []) h (fun o' ho H locs ls hl hr hs => ⟨_, m_runV C (dOf DX8_ring 20 rfl) km_X8_59 ky_X2_found (by decide) ⟨rfl, rfl⟩ (c_X2_found _ G _ _ _ o' ho) hc.1 hc.2 (by decide) rfl rfl rfl (Nat.le_of_ble_eq_true rfl) ⟨Nat.le_refl _, Nat.le_refl _⟩ hl hr hs⟩) (fun S9 h => ?_)
    refine m_aload_n C (dOf DX8_ring 21 rfl) rfl 1 rfl ?_
    refine m_gR C (dOf DX8_ring 22 rfl) kf_X8_10 fg_8_0 h (fun a10 h => ?_)
    refine m_gI C (dOf DX8_ring 23 rfl) kf_X8_63 fg_4_8 h (fun v11 h => ?_)
    refine m_aload_n C (dOf DX8_ring 24 rfl) rfl 1 rfl ?_
    refine m_gR C (dOf DX8_ring 25 rfl) kf_X8_10 fg_8_0 h (fun a12 h => ?_)
    refine m_gI C (dOf DX8_ring 26 rfl) kf_X8_66 fg_4_9 h (fun v13 h => ?_)
    refine m_imul C (dOf DX8_ring 27 rfl) h (fun v14 h => ?_)
    exact m_iret C rfl (dOf DX8_ring 28 rfl) h
  · refine m_iconst C (dOf DX8_ring 14 rfl) (v := (-1)) ki_m1 ?_
    exact m_iret C rfl (dOf DX8_ring 15 rfl) h
/-- TraceRing.script()I -/
def f_X8_script (S : St) (b0 : Nat) : Option (Int32 × St) :=
  gR_ S b0 8 3 fun a1 =>
  gR_ S b0 8 2 fun a2 =>
  ck_ S a1 2 <| cI_ (f_X2_understand S a1 a2 4 13) fun v4 S3 =>
  gR_ S3 b0 8 2 fun a5 =>
  pI_ S3 a5 6 1 0 fun S6 =>
  jn_ (fun (x7 : Int32 × St) =>
    rt_ (x7.1, x7.2)
  ) fun j7 =>
  if v4 = 0 then
    j7 ((-1), S6)
  else
    gR_ S6 b0 8 3 fun a8 =>
    gR_ S6 b0 8 0 fun a9 =>
    ck_ S6 a8 2 <| cI_ (f_X2_carryOut S6 a8 a9) fun v11 S10 =>
    j7 (v11, S10)
set_option maxRecDepth 100000 in
set_option maxHeartbeats 4000000 in
theorem c_X8_script (l : Launch) (G : Gx) (S : St) (b0 : Nat) (o : (Int32 × St)) (h : f_X8_script S b0 = some o) : Met l yX8_script (Cond.code yX8_script cX8_script 2 (some (.int)) :: wAll) ({ frames := 9, cells := 0, slots := 0, locals := 212 } : Room) (va_Pc [.ref (G.1 + b0)] (wPre G S)) (qI G o) 0 0 (wA G) := by
  refine m_start (by decide +kernel) (Nat.le_of_ble_eq_true rfl) (fun X C => ?_)
  unfold f_X8_script at h
  show WM X G 2 0 0 (wQ X G (qI G o) 0 0) 0 [(0, .ref (G.1 + b0))] [] S
  refine m_aload_n C (dOf DX8_script 0 rfl) rfl 0 rfl ?_
  refine m_gR C (dOf DX8_script 1 rfl) kf_X8_29 fg_8_3 h (fun a1 h => ?_)
  refine m_aload_n C (dOf DX8_script 2 rfl) rfl 0 rfl ?_
  refine m_gR C (dOf DX8_script 3 rfl) kf_X8_22 fg_8_2 h (fun a2 h => ?_)
  refine m_iconst C (dOf DX8_script 4 rfl) (v := 4) ki_4 ?_
  refine m_bipush C (dOf DX8_script 5 rfl) (v := 13) kb_13 ?_
  obtain ⟨hc, h⟩ := ck_spec h
  refine m_cI (st := []) h (fun o' ho H locs ls hl hr hs => ⟨_, m_runV C (dOf DX8_script 6 rfl) km_X8_51 ky_X2_understand (by decide) ⟨rfl, rfl⟩ (c_X2_understand _ G _ _ _ _ _ o' ho) hc.1 hc.2 (by decide) rfl rfl rfl (Nat.le_of_ble_eq_true rfl) ⟨Nat.le_refl _, Nat.le_refl _⟩ hl hr hs⟩) (fun v4 S3 h => ?_)
  refine m_istore_n C (dOf DX8_script 7 rfl) rfl (by decide) (lv' := [(1, .int v4), (0, .ref (G.1 + b0))]) rfl ?_
  refine m_aload_n C (dOf DX8_script 8 rfl) rfl 1 rfl ?_
  refine m_gR C (dOf DX8_script 9 rfl) kf_X8_22 fg_8_2 h (fun a5 h => ?_)
  refine m_iconst C (dOf DX8_script 10 rfl) (v := 0) ki_0 ?_
  refine m_pI C (dOf DX8_script 11 rfl) kf_X8_55 fp_6_1 h (fun S6 h => ?_)
  refine m_iload_n C (dOf DX8_script 12 rfl) rfl 0 rfl ?_
  refine m_jn (J := fun (x7 : Int32 × St) => WM X G 2 0 0 (wQ X G (qI G o) 0 0) 42 [] [.int x7.1] x7.2) h (fun x7 h => ?_) (fun j7 hj7 h => ?_)
  · exact m_iret C rfl (dOf DX8_script 21 rfl) h
  refine m_ifeq C (dOf DX8_script 13 rfl) (tgt := 41) rfl h (fun h => ?_) (fun h => ?_)
  · refine m_iconst C (dOf DX8_script 20 rfl) (v := (-1)) ki_m1 ?_
    exact m_sub [] rfl (hj7 _ h)
  · refine m_aload_n C (dOf DX8_script 14 rfl) rfl 1 rfl ?_
    refine m_gR C (dOf DX8_script 15 rfl) kf_X8_29 fg_8_3 h (fun a8 h => ?_)
    refine m_aload_n C (dOf DX8_script 16 rfl) rfl 1 rfl ?_
    refine m_gR C (dOf DX8_script 17 rfl) kf_X8_10 fg_8_0 h (fun a9 h => ?_)
    obtain ⟨hc, h⟩ := ck_spec h
    refine m_cI (st := []) h (fun o' ho H locs ls hl hr hs => ⟨_, m_runV C (dOf DX8_script 18 rfl) km_X8_69 ky_X2_carryOut (by decide) ⟨rfl, rfl⟩ (c_X2_carryOut _ G _ _ _ o' ho) hc.1 hc.2 (by decide) rfl rfl rfl (Nat.le_of_ble_eq_true rfl) ⟨Nat.le_refl _, Nat.le_refl _⟩ hl hr hs⟩) (fun v11 S10 h => ?_)
    refine m_goto C (dOf DX8_script 19 rfl) (tgt := 42) rfl ?_
    exact m_sub [] rfl (hj7 _ h)
/-- TraceRing.fault(Z)I -/
def f_X8_fault (S : St) (b0 : Nat) (p1 : Int32) : Option Int32 :=
  jn_ (fun (x1 : Int32) =>
    rt_ x1
  ) fun j1 =>
  if p1 = 0 then
    gR_ S b0 8 2 fun a2 =>
    gI_ S a2 6 2 fun v3 =>
    j1 (v3)
  else
    gR_ S b0 8 2 fun a4 =>
    gI_ S a4 6 3 fun v5 =>
    j1 (v5)
set_option maxRecDepth 100000 in
set_option maxHeartbeats 4000000 in
theorem c_X8_fault (l : Launch) (G : Gx) (S : St) (b0 : Nat) (p1 : Int32) (o : Int32) (h : f_X8_fault S b0 p1 = some o) : Met l yX8_fault (Cond.code yX8_fault cX8_fault 2 (some (.int)) :: wAll) ({ frames := 0, cells := 0, slots := 0, locals := 0 } : Room) (va_Pc [.ref (G.1 + b0), .int p1] (wPre G S)) (qI G (o, S)) 0 0 (wA G) := by
  refine m_start (by decide +kernel) (Nat.le_of_ble_eq_true rfl) (fun X C => ?_)
  unfold f_X8_fault at h
  show WM X G 2 0 0 (wQ X G (qI G (o, S)) 0 0) 0 [(0, .ref (G.1 + b0)), (1, .int p1)] [] S
  refine m_iload_n C (dOf DX8_fault 0 rfl) rfl 1 rfl ?_
  refine m_jn (J := fun (x1 : Int32) => WM X G 2 0 0 (wQ X G (qI G (o, S)) 0 0) 21 [] [.int x1] S) h (fun x1 h => ?_) (fun j1 hj1 h => ?_)
  · exact m_iretP C rfl (dOf DX8_fault 9 rfl) h
  refine m_ifeq C (dOf DX8_fault 1 rfl) (tgt := 14) rfl h (fun h => ?_) (fun h => ?_)
  · refine m_aload_n C (dOf DX8_fault 6 rfl) rfl 0 rfl ?_
    refine m_gR C (dOf DX8_fault 7 rfl) kf_X8_22 fg_8_2 h (fun a2 h => ?_)
    refine m_gI C (dOf DX8_fault 8 rfl) kf_X8_76 fg_6_2 h (fun v3 h => ?_)
    exact m_sub [] rfl (hj1 _ h)
  · refine m_aload_n C (dOf DX8_fault 2 rfl) rfl 0 rfl ?_
    refine m_gR C (dOf DX8_fault 3 rfl) kf_X8_22 fg_8_2 h (fun a4 h => ?_)
    refine m_gI C (dOf DX8_fault 4 rfl) kf_X8_73 fg_6_3 h (fun v5 h => ?_)
    refine m_goto C (dOf DX8_fault 5 rfl) (tgt := 21) rfl ?_
    exact m_sub [] rfl (hj1 _ h)
/-- TraceRing.tick(I)I -/
def f_X8_tick (S : St) (b0 : Nat) (p1 : Int32) : Option (Int32 × St) :=
  gR_ S b0 8 0 fun a1 =>
  ck_ S a1 4 <| cI_ (f_X4_goOn S a1 p1) fun v3 S2 =>
  rt_ (v3, S2)
set_option maxRecDepth 100000 in
set_option maxHeartbeats 4000000 in
theorem c_X8_tick (l : Launch) (G : Gx) (S : St) (b0 : Nat) (p1 : Int32) (o : (Int32 × St)) (h : f_X8_tick S b0 p1 = some o) : Met l yX8_tick (Cond.code yX8_tick cX8_tick 2 (some (.int)) :: wAll) ({ frames := 1, cells := 0, slots := 0, locals := 21 } : Room) (va_Pc [.ref (G.1 + b0), .int p1] (wPre G S)) (qI G o) 0 0 (wA G) := by
  refine m_start (by decide +kernel) (Nat.le_of_ble_eq_true rfl) (fun X C => ?_)
  unfold f_X8_tick at h
  show WM X G 2 0 0 (wQ X G (qI G o) 0 0) 0 [(0, .ref (G.1 + b0)), (1, .int p1)] [] S
  refine m_aload_n C (dOf DX8_tick 0 rfl) rfl 0 rfl ?_
  refine m_gR C (dOf DX8_tick 1 rfl) kf_X8_10 fg_8_0 h (fun a1 h => ?_)
  refine m_iload_n C (dOf DX8_tick 2 rfl) rfl 1 rfl ?_
  obtain ⟨hc, h⟩ := ck_spec h
  refine m_cI (st := []) h (fun o' ho H locs ls hl hr hs => ⟨_, m_runV C (dOf DX8_tick 3 rfl) km_X8_79 ky_X4_goOn (by decide) ⟨rfl, rfl⟩ (c_X4_goOn _ G _ _ _ o' ho) hc.1 hc.2 (by decide) rfl rfl rfl (Nat.le_of_ble_eq_true rfl) ⟨Nat.le_refl _, Nat.le_refl _⟩ hl hr hs⟩) (fun v3 S2 h => ?_)
  exact m_iret C rfl (dOf DX8_tick 4 rfl) h
/-- TraceRing.take(II)I -/
def f_X8_take (S : St) (b0 : Nat) (p1 : Int32) (p2 : Int32) : Option (Int32 × St) :=
  gR_ S b0 8 0 fun a1 =>
  ck_ S a1 4 <| cI_ (f_X4_takeRoom S a1 p1 p2) fun v3 S2 =>
  rt_ (v3, S2)
set_option maxRecDepth 100000 in
set_option maxHeartbeats 4000000 in
theorem c_X8_take (l : Launch) (G : Gx) (S : St) (b0 : Nat) (p1 : Int32) (p2 : Int32) (o : (Int32 × St)) (h : f_X8_take S b0 p1 p2 = some o) : Met l yX8_take (Cond.code yX8_take cX8_take 3 (some (.int)) :: wAll) ({ frames := 4, cells := 0, slots := 0, locals := 97 } : Room) (va_Pc [.ref (G.1 + b0), .int p1, .int p2] (wPre G S)) (qI G o) 0 0 (wA G) := by
  refine m_start (by decide +kernel) (Nat.le_of_ble_eq_true rfl) (fun X C => ?_)
  unfold f_X8_take at h
  show WM X G 3 0 0 (wQ X G (qI G o) 0 0) 0 [(0, .ref (G.1 + b0)), (1, .int p1), (2, .int p2)] [] S
  refine m_aload_n C (dOf DX8_take 0 rfl) rfl 0 rfl ?_
  refine m_gR C (dOf DX8_take 1 rfl) kf_X8_10 fg_8_0 h (fun a1 h => ?_)
  refine m_iload_n C (dOf DX8_take 2 rfl) rfl 1 rfl ?_
  refine m_iload_n C (dOf DX8_take 3 rfl) rfl 2 rfl ?_
  obtain ⟨hc, h⟩ := ck_spec h
  refine m_cI (st := []) h (fun o' ho H locs ls hl hr hs => ⟨_, m_runV C (dOf DX8_take 4 rfl) km_X8_83 ky_X4_takeRoom (by decide) ⟨rfl, rfl⟩ (c_X4_takeRoom _ G _ _ _ _ o' ho) hc.1 hc.2 (by decide) rfl rfl rfl (Nat.le_of_ble_eq_true rfl) ⟨Nat.le_refl _, Nat.le_refl _⟩ hl hr hs⟩) (fun v3 S2 h => ?_)
  exact m_iret C rfl (dOf DX8_take 5 rfl) h
/-- TraceRing.put(II)I -/
def f_X8_put (S : St) (b0 : Nat) (p1 : Int32) (p2 : Int32) : Option (Int32 × St) :=
  gR_ S b0 8 0 fun a1 =>
  ck_ S a1 4 <| cI_ (f_X4_putData S a1 p1 p2) fun v3 S2 =>
  rt_ (v3, S2)
set_option maxRecDepth 100000 in
set_option maxHeartbeats 4000000 in
theorem c_X8_put (l : Launch) (G : Gx) (S : St) (b0 : Nat) (p1 : Int32) (p2 : Int32) (o : (Int32 × St)) (h : f_X8_put S b0 p1 p2 = some o) : Met l yX8_put (Cond.code yX8_put cX8_put 3 (some (.int)) :: wAll) ({ frames := 4, cells := 0, slots := 0, locals := 90 } : Room) (va_Pc [.ref (G.1 + b0), .int p1, .int p2] (wPre G S)) (qI G o) 0 0 (wA G) := by
  refine m_start (by decide +kernel) (Nat.le_of_ble_eq_true rfl) (fun X C => ?_)
  unfold f_X8_put at h
  show WM X G 3 0 0 (wQ X G (qI G o) 0 0) 0 [(0, .ref (G.1 + b0)), (1, .int p1), (2, .int p2)] [] S
  refine m_aload_n C (dOf DX8_put 0 rfl) rfl 0 rfl ?_
  refine m_gR C (dOf DX8_put 1 rfl) kf_X8_10 fg_8_0 h (fun a1 h => ?_)
  refine m_iload_n C (dOf DX8_put 2 rfl) rfl 1 rfl ?_
  refine m_iload_n C (dOf DX8_put 3 rfl) rfl 2 rfl ?_
  obtain ⟨hc, h⟩ := ck_spec h
  refine m_cI (st := []) h (fun o' ho H locs ls hl hr hs => ⟨_, m_runV C (dOf DX8_put 4 rfl) km_X8_87 ky_X4_putData (by decide) ⟨rfl, rfl⟩ (c_X4_putData _ G _ _ _ _ o' ho) hc.1 hc.2 (by decide) rfl rfl rfl (Nat.le_of_ble_eq_true rfl) ⟨Nat.le_refl _, Nat.le_refl _⟩ hl hr hs⟩) (fun v3 S2 h => ?_)
  exact m_iret C rfl (dOf DX8_put 5 rfl) h
/-- TraceRing.end(I)I -/
def f_X8_end (S : St) (b0 : Nat) (p1 : Int32) : Option (Int32 × St) :=
  gR_ S b0 8 0 fun a1 =>
  ck_ S a1 4 <| cI_ (f_X4_endInnermost S a1 p1) fun v3 S2 =>
  rt_ (v3, S2)
set_option maxRecDepth 100000 in
set_option maxHeartbeats 4000000 in
theorem c_X8_end (l : Launch) (G : Gx) (S : St) (b0 : Nat) (p1 : Int32) (o : (Int32 × St)) (h : f_X8_end S b0 p1 = some o) : Met l yX8_end (Cond.code yX8_end cX8_end 2 (some (.int)) :: wAll) ({ frames := 4, cells := 0, slots := 0, locals := 88 } : Room) (va_Pc [.ref (G.1 + b0), .int p1] (wPre G S)) (qI G o) 0 0 (wA G) := by
  refine m_start (by decide +kernel) (Nat.le_of_ble_eq_true rfl) (fun X C => ?_)
  unfold f_X8_end at h
  show WM X G 2 0 0 (wQ X G (qI G o) 0 0) 0 [(0, .ref (G.1 + b0)), (1, .int p1)] [] S
  refine m_aload_n C (dOf DX8_end 0 rfl) rfl 0 rfl ?_
  refine m_gR C (dOf DX8_end 1 rfl) kf_X8_10 fg_8_0 h (fun a1 h => ?_)
  refine m_iload_n C (dOf DX8_end 2 rfl) rfl 1 rfl ?_
  obtain ⟨hc, h⟩ := ck_spec h
  refine m_cI (st := []) h (fun o' ho H locs ls hl hr hs => ⟨_, m_runV C (dOf DX8_end 3 rfl) km_X8_90 ky_X4_endInnermost (by decide) ⟨rfl, rfl⟩ (c_X4_endInnermost _ G _ _ _ o' ho) hc.1 hc.2 (by decide) rfl rfl rfl (Nat.le_of_ble_eq_true rfl) ⟨Nat.le_refl _, Nat.le_refl _⟩ hl hr hs⟩) (fun v3 S2 h => ?_)
  exact m_iret C rfl (dOf DX8_end 4 rfl) h
/-- TraceRing.drop(I)I -/
def f_X8_drop (S : St) (b0 : Nat) (p1 : Int32) : Option (Int32 × St) :=
  gR_ S b0 8 0 fun a1 =>
  ck_ S a1 4 <| cI_ (f_X4_dropInnermost S a1 p1) fun v3 S2 =>
  rt_ (v3, S2)
set_option maxRecDepth 100000 in
set_option maxHeartbeats 4000000 in
theorem c_X8_drop (l : Launch) (G : Gx) (S : St) (b0 : Nat) (p1 : Int32) (o : (Int32 × St)) (h : f_X8_drop S b0 p1 = some o) : Met l yX8_drop (Cond.code yX8_drop cX8_drop 2 (some (.int)) :: wAll) ({ frames := 4, cells := 0, slots := 0, locals := 89 } : Room) (va_Pc [.ref (G.1 + b0), .int p1] (wPre G S)) (qI G o) 0 0 (wA G) := by
  refine m_start (by decide +kernel) (Nat.le_of_ble_eq_true rfl) (fun X C => ?_)
  unfold f_X8_drop at h
  show WM X G 2 0 0 (wQ X G (qI G o) 0 0) 0 [(0, .ref (G.1 + b0)), (1, .int p1)] [] S
  refine m_aload_n C (dOf DX8_drop 0 rfl) rfl 0 rfl ?_
  refine m_gR C (dOf DX8_drop 1 rfl) kf_X8_10 fg_8_0 h (fun a1 h => ?_)
  refine m_iload_n C (dOf DX8_drop 2 rfl) rfl 1 rfl ?_
  obtain ⟨hc, h⟩ := ck_spec h
  refine m_cI (st := []) h (fun o' ho H locs ls hl hr hs => ⟨_, m_runV C (dOf DX8_drop 3 rfl) km_X8_93 ky_X4_dropInnermost (by decide) ⟨rfl, rfl⟩ (c_X4_dropInnermost _ G _ _ _ o' ho) hc.1 hc.2 (by decide) rfl rfl rfl (Nat.le_of_ble_eq_true rfl) ⟨Nat.le_refl _, Nat.le_refl _⟩ hl hr hs⟩) (fun v3 S2 h => ?_)
  exact m_iret C rfl (dOf DX8_drop 4 rfl) h
/-- TraceRing.swap(Z)I -/
def f_X8_swap (S : St) (b0 : Nat) (p1 : Int32) : Option (Int32 × St) :=
  gR_ S b0 8 0 fun a1 =>
  ck_ S a1 4 <| cI_ (f_X4_swapHead S a1 p1) fun v3 S2 =>
  rt_ (v3, S2)
set_option maxRecDepth 100000 in
set_option maxHeartbeats 4000000 in
theorem c_X8_swap (l : Launch) (G : Gx) (S : St) (b0 : Nat) (p1 : Int32) (o : (Int32 × St)) (h : f_X8_swap S b0 p1 = some o) : Met l yX8_swap (Cond.code yX8_swap cX8_swap 2 (some (.int)) :: wAll) ({ frames := 4, cells := 0, slots := 0, locals := 86 } : Room) (va_Pc [.ref (G.1 + b0), .int p1] (wPre G S)) (qI G o) 0 0 (wA G) := by
  refine m_start (by decide +kernel) (Nat.le_of_ble_eq_true rfl) (fun X C => ?_)
  unfold f_X8_swap at h
  show WM X G 2 0 0 (wQ X G (qI G o) 0 0) 0 [(0, .ref (G.1 + b0)), (1, .int p1)] [] S
  refine m_aload_n C (dOf DX8_swap 0 rfl) rfl 0 rfl ?_
  refine m_gR C (dOf DX8_swap 1 rfl) kf_X8_10 fg_8_0 h (fun a1 h => ?_)
  refine m_iload_n C (dOf DX8_swap 2 rfl) rfl 1 rfl ?_
  obtain ⟨hc, h⟩ := ck_spec h
  refine m_cI (st := []) h (fun o' ho H locs ls hl hr hs => ⟨_, m_runV C (dOf DX8_swap 3 rfl) km_X8_96 ky_X4_swapHead (by decide) ⟨rfl, rfl⟩ (c_X4_swapHead _ G _ _ _ o' ho) hc.1 hc.2 (by decide) rfl rfl rfl (Nat.le_of_ble_eq_true rfl) ⟨Nat.le_refl _, Nat.le_refl _⟩ hl hr hs⟩) (fun v3 S2 h => ?_)
  exact m_iret C rfl (dOf DX8_swap 4 rfl) h
/-- TraceRing.read()I -/
def f_X8_read (S : St) (b0 : Nat) : Option (Int32 × St) :=
  gR_ S b0 8 0 fun a1 =>
  ck_ S a1 4 <| cI_ (f_X4_readNext S a1) fun v3 S2 =>
  rt_ (v3, S2)
set_option maxRecDepth 100000 in
set_option maxHeartbeats 4000000 in
theorem c_X8_read (l : Launch) (G : Gx) (S : St) (b0 : Nat) (o : (Int32 × St)) (h : f_X8_read S b0 = some o) : Met l yX8_read (Cond.code yX8_read cX8_read 1 (some (.int)) :: wAll) ({ frames := 3, cells := 0, slots := 0, locals := 68 } : Room) (va_Pc [.ref (G.1 + b0)] (wPre G S)) (qI G o) 0 0 (wA G) := by
  refine m_start (by decide +kernel) (Nat.le_of_ble_eq_true rfl) (fun X C => ?_)
  unfold f_X8_read at h
  show WM X G 1 0 0 (wQ X G (qI G o) 0 0) 0 [(0, .ref (G.1 + b0))] [] S
  refine m_aload_n C (dOf DX8_read 0 rfl) rfl 0 rfl ?_
  refine m_gR C (dOf DX8_read 1 rfl) kf_X8_10 fg_8_0 h (fun a1 h => ?_)
  obtain ⟨hc, h⟩ := ck_spec h
  refine m_cI (st := []) h (fun o' ho H locs ls hl hr hs => ⟨_, m_runV C (dOf DX8_read 2 rfl) km_X8_100 ky_X4_readNext (by decide) ⟨rfl, rfl⟩ (c_X4_readNext _ G _ _ o' ho) hc.1 hc.2 (by decide) rfl rfl rfl (Nat.le_of_ble_eq_true rfl) ⟨Nat.le_refl _, Nat.le_refl _⟩ hl hr hs⟩) (fun v3 S2 h => ?_)
  exact m_iret C rfl (dOf DX8_read 3 rfl) h
/-- TraceRing.mode(Z)Z -/
def f_X8_mode (S : St) (b0 : Nat) (p1 : Int32) : Option (Int32 × St) :=
  gR_ S b0 8 0 fun a1 =>
  gI_ S a1 4 10 fun v2 =>
  jn_ (fun (x3 : Int32) =>
    gR_ S b0 8 0 fun a4 =>
    pZ_ S a4 4 10 p1 fun S5 =>
    rz_ x3 S5
  ) fun j3 =>
  if v2 = p1 then
    j3 (0)
  else
    j3 (1)
set_option maxRecDepth 100000 in
set_option maxHeartbeats 4000000 in
theorem c_X8_mode (l : Launch) (G : Gx) (S : St) (b0 : Nat) (p1 : Int32) (o : (Int32 × St)) (h : f_X8_mode S b0 p1 = some o) : Met l yX8_mode (Cond.code yX8_mode cX8_mode 3 (some (.boolean)) :: wAll) ({ frames := 0, cells := 0, slots := 0, locals := 0 } : Room) (va_Pc [.ref (G.1 + b0), .int p1] (wPre G S)) (qI G o) 0 0 (wA G) := by
  refine m_start (by decide +kernel) (Nat.le_of_ble_eq_true rfl) (fun X C => ?_)
  unfold f_X8_mode at h
  show WM X G 3 0 0 (wQ X G (qI G o) 0 0) 0 [(0, .ref (G.1 + b0)), (1, .int p1)] [] S
  refine m_aload_n C (dOf DX8_mode 0 rfl) rfl 0 rfl ?_
  refine m_gR C (dOf DX8_mode 1 rfl) kf_X8_10 fg_8_0 h (fun a1 h => ?_)
  refine m_gI C (dOf DX8_mode 2 rfl) kf_X8_104 fg_4_10 h (fun v2 h => ?_)
  refine m_iload_n C (dOf DX8_mode 3 rfl) rfl 1 rfl ?_
  refine m_jn (J := fun (x3 : Int32) => WM X G 3 0 0 (wQ X G (qI G o) 0 0) 16 [(0, .ref (G.1 + b0)), (1, .int p1)] [.int x3] S) h (fun x3 h => ?_) (fun j3 hj3 h => ?_)
  · refine m_istore_n C (dOf DX8_mode 8 rfl) rfl (by decide) (lv' := [(2, .int x3), (0, .ref (G.1 + b0)), (1, .int p1)]) rfl ?_
    refine m_aload_n C (dOf DX8_mode 9 rfl) rfl 1 rfl ?_
    refine m_gR C (dOf DX8_mode 10 rfl) kf_X8_10 fg_8_0 h (fun a4 h => ?_)
    refine m_iload_n C (dOf DX8_mode 11 rfl) rfl 2 rfl ?_
    refine m_pZ C (dOf DX8_mode 12 rfl) kf_X8_104 fp_4_10 h (fun S5 h => ?_)
    refine m_iload_n C (dOf DX8_mode 13 rfl) rfl 0 rfl ?_
    exact m_zret C rfl (dOf DX8_mode 14 rfl) h
  refine m_icmpeq C (dOf DX8_mode 4 rfl) (tgt := 15) rfl h (fun h => ?_) (fun h => ?_)
  · refine m_iconst C (dOf DX8_mode 7 rfl) (v := 0) ki_0 ?_
    exact m_sub [0, 1] rfl (hj3 _ h)
  · refine m_iconst C (dOf DX8_mode 5 rfl) (v := 1) ki_1 ?_
    refine m_goto C (dOf DX8_mode 6 rfl) (tgt := 16) rfl ?_
    exact m_sub [0, 1] rfl (hj3 _ h)
/-- TraceRing.mask(I)Z -/
def f_X8_mask (S : St) (b0 : Nat) (p1 : Int32) : Option (Int32 × St) :=
  gR_ S b0 8 0 fun a1 =>
  ck_ S a1 4 <| cI_ (f_X4_maskBy S a1 p1) fun v3 S2 =>
  rz_ v3 S2
set_option maxRecDepth 100000 in
set_option maxHeartbeats 4000000 in
theorem c_X8_mask (l : Launch) (G : Gx) (S : St) (b0 : Nat) (p1 : Int32) (o : (Int32 × St)) (h : f_X8_mask S b0 p1 = some o) : Met l yX8_mask (Cond.code yX8_mask cX8_mask 2 (some (.boolean)) :: wAll) ({ frames := 1, cells := 0, slots := 0, locals := 21 } : Room) (va_Pc [.ref (G.1 + b0), .int p1] (wPre G S)) (qI G o) 0 0 (wA G) := by
  refine m_start (by decide +kernel) (Nat.le_of_ble_eq_true rfl) (fun X C => ?_)
  unfold f_X8_mask at h
  show WM X G 2 0 0 (wQ X G (qI G o) 0 0) 0 [(0, .ref (G.1 + b0)), (1, .int p1)] [] S
  refine m_aload_n C (dOf DX8_mask 0 rfl) rfl 0 rfl ?_
  refine m_gR C (dOf DX8_mask 1 rfl) kf_X8_10 fg_8_0 h (fun a1 h => ?_)
  refine m_iload_n C (dOf DX8_mask 2 rfl) rfl 1 rfl ?_
  obtain ⟨hc, h⟩ := ck_spec h
  refine m_cI (st := []) h (fun o' ho H locs ls hl hr hs => ⟨_, m_runV C (dOf DX8_mask 3 rfl) km_X8_108 ky_X4_maskBy (by decide) ⟨rfl, rfl⟩ (c_X4_maskBy _ G _ _ _ o' ho) hc.1 hc.2 (by decide) rfl rfl rfl (Nat.le_of_ble_eq_true rfl) ⟨Nat.le_refl _, Nat.le_refl _⟩ hl hr hs⟩) (fun v3 S2 h => ?_)
  exact m_zret C rfl (dOf DX8_mask 4 rfl) h
/-- TraceRing.resize(I)I -/
def f_X8_resize (S : St) (b0 : Nat) (p1 : Int32) : Option (Int32 × St) :=
  gR_ S b0 8 0 fun a1 =>
  ck_ S a1 4 <| cI_ (f_X4_changePages S a1 p1) fun v3 S2 =>
  rt_ (v3, S2)
set_option maxRecDepth 100000 in
set_option maxHeartbeats 4000000 in
theorem c_X8_resize (l : Launch) (G : Gx) (S : St) (b0 : Nat) (p1 : Int32) (o : (Int32 × St)) (h : f_X8_resize S b0 p1 = some o) : Met l yX8_resize (Cond.code yX8_resize cX8_resize 2 (some (.int)) :: wAll) ({ frames := 4, cells := 0, slots := 0, locals := 89 } : Room) (va_Pc [.ref (G.1 + b0), .int p1] (wPre G S)) (qI G o) 0 0 (wA G) := by
  refine m_start (by decide +kernel) (Nat.le_of_ble_eq_true rfl) (fun X C => ?_)
  unfold f_X8_resize at h
  show WM X G 2 0 0 (wQ X G (qI G o) 0 0) 0 [(0, .ref (G.1 + b0)), (1, .int p1)] [] S
  refine m_aload_n C (dOf DX8_resize 0 rfl) rfl 0 rfl ?_
  refine m_gR C (dOf DX8_resize 1 rfl) kf_X8_10 fg_8_0 h (fun a1 h => ?_)
  refine m_iload_n C (dOf DX8_resize 2 rfl) rfl 1 rfl ?_
  obtain ⟨hc, h⟩ := ck_spec h
  refine m_cI (st := []) h (fun o' ho H locs ls hl hr hs => ⟨_, m_runV C (dOf DX8_resize 3 rfl) km_X8_112 ky_X4_changePages (by decide) ⟨rfl, rfl⟩ (c_X4_changePages _ G _ _ _ o' ho) hc.1 hc.2 (by decide) rfl rfl rfl (Nat.le_of_ble_eq_true rfl) ⟨Nat.le_refl _, Nat.le_refl _⟩ hl hr hs⟩) (fun v3 S2 h => ?_)
  exact m_iret C rfl (dOf DX8_resize 4 rfl) h
/-- TraceRing.isStorm(I)Z -/
def f_X8_isStorm (S : St) (p0 : Int32) : Option Int32 :=
  jn_ (fun (x1 : Int32) =>
    rzP_ x1
  ) fun j1 =>
  jn_ (fun (x2 : Unit) =>
    j1 (0)
  ) fun j2 =>
  if p0 < 1 then
    j2 ()
  else
    if 60 < p0 then
      j2 ()
    else
      j1 (1)
set_option maxRecDepth 100000 in
set_option maxHeartbeats 4000000 in
theorem c_X8_isStorm (l : Launch) (G : Gx) (S : St) (p0 : Int32) (o : Int32) (h : f_X8_isStorm S p0 = some o) : Met l yX8_isStorm (Cond.code yX8_isStorm cX8_isStorm 1 (some (.boolean)) :: wAll) ({ frames := 0, cells := 0, slots := 0, locals := 0 } : Room) (va_Pc [.int p0] (wPre G S)) (qI G (o, S)) 0 0 (wA G) := by
  refine m_start (by decide +kernel) (Nat.le_of_ble_eq_true rfl) (fun X C => ?_)
  unfold f_X8_isStorm at h
  show WM X G 1 0 0 (wQ X G (qI G (o, S)) 0 0) 0 [(0, .int p0)] [] S
  refine m_iload_n C (dOf DX8_isStorm 0 rfl) rfl 0 rfl ?_
  refine m_iconst C (dOf DX8_isStorm 1 rfl) (v := 1) ki_1 ?_
  refine m_jn (J := fun (x1 : Int32) => WM X G 1 0 0 (wQ X G (qI G (o, S)) 0 0) 16 [] [.int x1] S) h (fun x1 h => ?_) (fun j1 hj1 h => ?_)
  · exact m_zretP C rfl (dOf DX8_isStorm 9 rfl) h
  refine m_jn (J := fun (x2 : Unit) => WM X G 1 0 0 (wQ X G (qI G (o, S)) 0 0) 15 [] [] S) h (fun x2 h => ?_) (fun j2 hj2 h => ?_)
  · refine m_iconst C (dOf DX8_isStorm 8 rfl) (v := 0) ki_0 ?_
    exact m_sub [] rfl (hj1 _ h)
  refine m_icmplt C (dOf DX8_isStorm 2 rfl) (tgt := 15) rfl h (fun h => ?_) (fun h => ?_)
  · exact m_sub [] rfl (hj2 _ h)
  · refine m_iload_n C (dOf DX8_isStorm 3 rfl) rfl 0 rfl ?_
    refine m_bipush C (dOf DX8_isStorm 4 rfl) (v := 60) kb_60 ?_
    refine m_icmpgt C (dOf DX8_isStorm 5 rfl) (tgt := 15) rfl h (fun h => ?_) (fun h => ?_)
    · exact m_sub [] rfl (hj2 _ h)
    · refine m_iconst C (dOf DX8_isStorm 6 rfl) (v := 1) ki_1 ?_
      refine m_goto C (dOf DX8_isStorm 7 rfl) (tgt := 16) rfl ?_
      exact m_sub [] rfl (hj1 _ h)
/-- TraceRing.storm(II)I -/
def f_X8_storm (S : St) (b0 : Nat) (p1 : Int32) (p2 : Int32) : Option (Int32 × St) :=
  cP_ (f_X8_isStorm S p2) fun v1 =>
  if v1 = 0 then
    rt_ ((-1), S)
  else
    gR_ S b0 8 0 fun a2 =>
    ck_ S a2 4 <| cP_ (f_X4_figure S a2 7) fun v3 =>
    gR_ S b0 8 4 fun a4 =>
    gR_ S b0 8 0 fun a5 =>
    ck_ S a4 5 <| cV_ (f_X5_blow S a4 a5 p1 p2) fun S6 =>
    gR_ S6 b0 8 0 fun a7 =>
    ck_ S6 a7 4 <| cP_ (f_X4_figure S6 a7 7) fun v8 =>
    lt_ (v8 - v3 : Int32) fun v9 =>
    rt_ (v9, S6)
set_option maxRecDepth 100000 in
set_option maxHeartbeats 4000000 in
theorem c_X8_storm (l : Launch) (G : Gx) (S : St) (b0 : Nat) (p1 : Int32) (p2 : Int32) (o : (Int32 × St)) (h : f_X8_storm S b0 p1 p2 = some o) : Met l yX8_storm (Cond.code yX8_storm cX8_storm 4 (some (.int)) :: wAll) ({ frames := 6, cells := 0, slots := 0, locals := 143 } : Room) (va_Pc [.ref (G.1 + b0), .int p1, .int p2] (wPre G S)) (qI G o) 0 0 (wA G) := by
  refine m_start (by decide +kernel) (Nat.le_of_ble_eq_true rfl) (fun X C => ?_)
  unfold f_X8_storm at h
  show WM X G 4 0 0 (wQ X G (qI G o) 0 0) 0 [(0, .ref (G.1 + b0)), (1, .int p1), (2, .int p2)] [] S
  refine m_iload_n C (dOf DX8_storm 0 rfl) rfl 2 rfl ?_
  refine m_cP (st := []) h (fun o' ho H locs ls hl hr hs => ⟨_, m_runS C (dOf DX8_storm 1 rfl) km_X8_115 ks_X8_isStorm rfl (by decide) ⟨rfl, rfl⟩ (c_X8_isStorm _ G _ _ o' ho) rfl rfl (Nat.le_of_ble_eq_true rfl) ⟨Nat.le_refl _, Nat.le_refl _⟩ hl hr hs⟩) (fun v1 h => ?_)
  refine m_ifne C (dOf DX8_storm 2 rfl) (tgt := 9) rfl h (fun h => ?_) (fun h => ?_)
  · refine m_aload_n C (dOf DX8_storm 5 rfl) rfl 0 rfl ?_
    refine m_gR C (dOf DX8_storm 6 rfl) kf_X8_10 fg_8_0 h (fun a2 h => ?_)
    refine m_bipush C (dOf DX8_storm 7 rfl) (v := 7) kb_7 ?_
    obtain ⟨hc, h⟩ := ck_spec h
    refine m_cP (st := []) h (fun o' ho H locs ls hl hr hs => ⟨_, m_runV C (dOf DX8_storm 8 rfl) km_X8_118 ky_X4_figure (by decide) ⟨rfl, rfl⟩ (c_X4_figure _ G _ _ _ o' ho) hc.1 hc.2 (by decide) rfl rfl rfl (Nat.le_of_ble_eq_true rfl) ⟨Nat.le_refl _, Nat.le_refl _⟩ hl hr hs⟩) (fun v3 h => ?_)
    refine m_istore_n C (dOf DX8_storm 9 rfl) rfl (by decide) (lv' := [(3, .int v3), (0, .ref (G.1 + b0)), (1, .int p1), (2, .int p2)]) rfl ?_
    refine m_aload_n C (dOf DX8_storm 10 rfl) rfl 1 rfl ?_
    refine m_gR C (dOf DX8_storm 11 rfl) kf_X8_36 fg_8_4 h (fun a4 h => ?_)
    refine m_aload_n C (dOf DX8_storm 12 rfl) rfl 1 rfl ?_
    refine m_gR C (dOf DX8_storm 13 rfl) kf_X8_10 fg_8_0 h (fun a5 h => ?_)
    refine m_iload_n C (dOf DX8_storm 14 rfl) rfl 2 rfl ?_
    refine m_iload_n C (dOf DX8_storm 15 rfl) rfl 3 rfl ?_
    obtain ⟨hc, h⟩ := ck_spec h
    refine m_cV (st := []) h (fun o' ho H locs ls hl hr hs => ⟨_, m_runV C (dOf DX8_storm 16 rfl) km_X8_121 ky_X5_blow (by decide) ⟨rfl, rfl⟩ (c_X5_blow _ G _ _ _ _ _ o' ho) hc.1 hc.2 (by decide) rfl rfl rfl (Nat.le_of_ble_eq_true rfl) ⟨Nat.le_refl _, Nat.le_refl _⟩ hl hr hs⟩) (fun S6 h => ?_)
    refine m_aload_n C (dOf DX8_storm 17 rfl) rfl 1 rfl ?_
    refine m_gR C (dOf DX8_storm 18 rfl) kf_X8_10 fg_8_0 h (fun a7 h => ?_)
    refine m_bipush C (dOf DX8_storm 19 rfl) (v := 7) kb_7 ?_
    obtain ⟨hc, h⟩ := ck_spec h
    refine m_cP (st := []) h (fun o' ho H locs ls hl hr hs => ⟨_, m_runV C (dOf DX8_storm 20 rfl) km_X8_118 ky_X4_figure (by decide) ⟨rfl, rfl⟩ (c_X4_figure _ G _ _ _ o' ho) hc.1 hc.2 (by decide) rfl rfl rfl (Nat.le_of_ble_eq_true rfl) ⟨Nat.le_refl _, Nat.le_refl _⟩ hl hr hs⟩) (fun v8 h => ?_)
    refine m_iload_n C (dOf DX8_storm 21 rfl) rfl 0 rfl ?_
    refine m_isub C (dOf DX8_storm 22 rfl) h (fun v9 h => ?_)
    exact m_iret C rfl (dOf DX8_storm 23 rfl) h
  · refine m_iconst C (dOf DX8_storm 3 rfl) (v := (-1)) ki_m1 ?_
    exact m_iret C rfl (dOf DX8_storm 4 rfl) h
/-- TraceRing.count(I)I -/
def f_X8_count (S : St) (b0 : Nat) (p1 : Int32) : Option Int32 :=
  jn_ (fun (x1 : Int32) =>
    rt_ x1
  ) fun j1 =>
  if p1 = 15 then
    gR_ S b0 8 2 fun a4 =>
    gI_ S a4 6 1 fun v5 =>
    j1 (v5)
  else
    gR_ S b0 8 0 fun a2 =>
    ck_ S a2 4 <| cP_ (f_X4_figure S a2 p1) fun v3 =>
    j1 (v3)
set_option maxRecDepth 100000 in
set_option maxHeartbeats 4000000 in
theorem c_X8_count (l : Launch) (G : Gx) (S : St) (b0 : Nat) (p1 : Int32) (o : Int32) (h : f_X8_count S b0 p1 = some o) : Met l yX8_count (Cond.code yX8_count cX8_count 2 (some (.int)) :: wAll) ({ frames := 5, cells := 0, slots := 0, locals := 107 } : Room) (va_Pc [.ref (G.1 + b0), .int p1] (wPre G S)) (qI G (o, S)) 0 0 (wA G) := by
  refine m_start (by decide +kernel) (Nat.le_of_ble_eq_true rfl) (fun X C => ?_)
  unfold f_X8_count at h
  show WM X G 2 0 0 (wQ X G (qI G (o, S)) 0 0) 0 [(0, .ref (G.1 + b0)), (1, .int p1)] [] S
  refine m_iload_n C (dOf DX8_count 0 rfl) rfl 1 rfl ?_
  refine m_bipush C (dOf DX8_count 1 rfl) (v := 15) kb_15 ?_
  refine m_jn (J := fun (x1 : Int32) => WM X G 2 0 0 (wQ X G (qI G (o, S)) 0 0) 24 [] [.int x1] S) h (fun x1 h => ?_) (fun j1 hj1 h => ?_)
  · exact m_iretP C rfl (dOf DX8_count 11 rfl) h
  refine m_icmpne C (dOf DX8_count 2 rfl) (tgt := 16) rfl h (fun h => ?_) (fun h => ?_)
  · refine m_aload_n C (dOf DX8_count 7 rfl) rfl 0 rfl ?_
    refine m_gR C (dOf DX8_count 8 rfl) kf_X8_10 fg_8_0 h (fun a2 h => ?_)
    refine m_iload_n C (dOf DX8_count 9 rfl) rfl 1 rfl ?_
    obtain ⟨hc, h⟩ := ck_spec h
    refine m_cP (st := []) h (fun o' ho H locs ls hl hr hs => ⟨_, m_runV C (dOf DX8_count 10 rfl) km_X8_118 ky_X4_figure (by decide) ⟨rfl, rfl⟩ (c_X4_figure _ G _ _ _ o' ho) hc.1 hc.2 (by decide) rfl rfl rfl (Nat.le_of_ble_eq_true rfl) ⟨Nat.le_refl _, Nat.le_refl _⟩ hl hr hs⟩) (fun v3 h => ?_)
    exact m_sub [] rfl (hj1 _ h)
  · refine m_aload_n C (dOf DX8_count 3 rfl) rfl 0 rfl ?_
    refine m_gR C (dOf DX8_count 4 rfl) kf_X8_22 fg_8_2 h (fun a4 h => ?_)
    refine m_gI C (dOf DX8_count 5 rfl) kf_X8_55 fg_6_1 h (fun v5 h => ?_)
    refine m_goto C (dOf DX8_count 6 rfl) (tgt := 24) rfl ?_
    exact m_sub [] rfl (hj1 _ h)
