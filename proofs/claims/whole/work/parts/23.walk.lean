/-- TraceRing$Lines.carryOut(LTraceRing$Ring;)I -/
def f_X2_carryOut (S : St) (b0 : Nat) (b1 : Nat) : Option (Int32 × St) :=
  lp_ (fun self1 (x1 : Int32 × St) =>
    gI_ x1.2 b0 2 3 fun v2 =>
    jn_ (fun (x3 : St) =>
      rt_ (x1.1, x3)
    ) fun j3 =>
    if v2 ≤ x1.1 then
      j3 (x1.2)
    else
      ck_ x1.2 b0 2 <| cI_ (f_X2_doLine x1.2 b0 b1 x1.1) fun v5 S4 =>
      if v5 = 0 then
        j3 (S4)
      else
        lt_ (x1.1 + 1) fun v6 =>
        self1 (v6, S4)
  ) FU (0, S)
set_option maxRecDepth 100000 in
set_option maxHeartbeats 4000000 in
theorem c_X2_carryOut (l : Launch) (G : Gx) (S : St) (b0 : Nat) (b1 : Nat) (o : (Int32 × St)) (h : f_X2_carryOut S b0 b1 = some o) : Met l yX2_carryOut (Cond.code yX2_carryOut cX2_carryOut 3 (some (.int)) :: wAll) ({ frames := 5, cells := 0, slots := 0, locals := 121 } : Room) (va_Pc [.ref (G.1 + b0), .ref (G.1 + b1)] (wPre G S)) (qI G o) 0 0 (wA G) := by
  refine m_start (by decide +kernel) (Nat.le_of_ble_eq_true rfl) (fun X C => ?_)
  unfold f_X2_carryOut at h
  show WM X G 3 0 0 (wQ X G (qI G o) 0 0) 0 [(0, .ref (G.1 + b0)), (1, .ref (G.1 + b1))] [] S
  refine m_iconst C (dOf DX2_carryOut 0 rfl) (v := 0) ki_0 ?_
  refine m_istore_n C (dOf DX2_carryOut 1 rfl) rfl (by decide) (lv' := [(2, .int 0), (0, .ref (G.1 + b0)), (1, .ref (G.1 + b1))]) rfl ?_
  refine m_sub [1, 2, 0] rfl (m_lp (J := fun (x1 : Int32 × St) => WM X G 3 0 0 (wQ X G (qI G o) 0 0) 2 [(0, .ref (G.1 + b0)), (1, .ref (G.1 + b1)), (2, .int x1.1)] [] x1.2) h (fun self1 hself1 x1 h => ?_))
  refine m_iload_n C (dOf DX2_carryOut 2 rfl) rfl 2 rfl ?_
  refine m_aload_n C (dOf DX2_carryOut 3 rfl) rfl 0 rfl ?_
  refine m_gI C (dOf DX2_carryOut 4 rfl) kf_X2_21 fg_2_3 h (fun v2 h => ?_)
  refine m_jn (J := fun (x3 : St) => WM X G 3 0 0 (wQ X G (qI G o) 0 0) 25 [(2, .int x1.1)] [] x3) h (fun x3 h => ?_) (fun j3 hj3 h => ?_)
  · refine m_iload_n C (dOf DX2_carryOut 13 rfl) rfl 0 rfl ?_
    exact m_iret C rfl (dOf DX2_carryOut 14 rfl) h
  refine m_icmpge C (dOf DX2_carryOut 5 rfl) (tgt := 25) rfl h (fun h => ?_) (fun h => ?_)
  · exact m_sub [2] rfl (hj3 _ h)
  · refine m_aload_n C (dOf DX2_carryOut 6 rfl) rfl 0 rfl ?_
    refine m_aload_n C (dOf DX2_carryOut 7 rfl) rfl 1 rfl ?_
    refine m_iload_n C (dOf DX2_carryOut 8 rfl) rfl 2 rfl ?_
    obtain ⟨hc, h⟩ := ck_spec h
    refine m_cI (st := []) h (fun o' ho H locs ls hl hr hs => ⟨_, m_runV C (dOf DX2_carryOut 9 rfl) km_X2_119 ky_X2_doLine (by decide) ⟨rfl, rfl⟩ (c_X2_doLine _ G _ _ _ _ o' ho) hc.1 hc.2 (by decide) rfl rfl rfl (Nat.le_of_ble_eq_true rfl) ⟨Nat.le_refl _, Nat.le_refl _⟩ hl hr hs⟩) (fun v5 S4 h => ?_)
    refine m_ifeq C (dOf DX2_carryOut 10 rfl) (tgt := 25) rfl h (fun h => ?_) (fun h => ?_)
    · exact m_sub [2] rfl (hj3 _ h)
    · refine m_iinc C (dOf DX2_carryOut 11 rfl) (w := 1) ki_1 2 rfl (by decide) h (fun v6 h => ⟨[(2, .int v6), (0, .ref (G.1 + b0)), (1, .ref (G.1 + b1))], rfl, ?_⟩)
      refine m_goto C (dOf DX2_carryOut 12 rfl) (tgt := 2) rfl ?_
      exact m_sub [1, 2, 0] rfl (hself1 _ h)
/-- TraceRing$Page.copyFrom(LTraceRing$Page;)V -/
def f_X3_copyFrom (S : St) (b0 : Nat) (b1 : Nat) : Option St :=
  gR_ S b1 3 0 fun a1 =>
  gR_ S b0 3 0 fun a2 =>
  cV_ (f_X8_copyRow S a1 a2) fun S3 =>
  gR_ S3 b1 3 1 fun a4 =>
  gR_ S3 b0 3 1 fun a5 =>
  cV_ (f_X8_copyRow S3 a4 a5) fun S6 =>
  gR_ S6 b1 3 2 fun a7 =>
  gR_ S6 b0 3 2 fun a8 =>
  cV_ (f_X8_copyRow S6 a7 a8) fun S9 =>
  gR_ S9 b1 3 3 fun a10 =>
  gR_ S9 b0 3 3 fun a11 =>
  cV_ (f_X8_copyRow S9 a10 a11) fun S12 =>
  gR_ S12 b1 3 4 fun a13 =>
  gR_ S12 b0 3 4 fun a14 =>
  cV_ (f_X8_copyRow S12 a13 a14) fun S15 =>
  gR_ S15 b1 3 5 fun a16 =>
  gR_ S15 b0 3 5 fun a17 =>
  cV_ (f_X8_copyRow S15 a16 a17) fun S18 =>
  gR_ S18 b1 3 6 fun a19 =>
  gR_ S18 b0 3 6 fun a20 =>
  cV_ (f_X8_copyRow S18 a19 a20) fun S21 =>
  lp_ (fun self22 (x22 : Int32 × St) =>
    gR_ x22.2 b0 3 7 fun a23 =>
    al_ x22.2 a23 13 fun v24 =>
    jn_ (fun (x25 : Unit) =>
      gI_ x22.2 b1 3 8 fun v26 =>
      pI_ x22.2 b0 3 8 v26 fun S27 =>
      gI_ S27 b1 3 9 fun v28 =>
      pI_ S27 b0 3 9 v28 fun S29 =>
      gI_ S29 b1 3 10 fun v30 =>
      pI_ S29 b0 3 10 v30 fun S31 =>
      rt_ S31
    ) fun j25 =>
    if v24 ≤ x22.1 then
      j25 ()
    else
      gR_ x22.2 b1 3 7 fun a32 =>
      al_ x22.2 a32 13 fun v33 =>
      if v33 ≤ x22.1 then
        j25 ()
      else
        gR_ x22.2 b0 3 7 fun a34 =>
        gR_ x22.2 b1 3 7 fun a35 =>
        aI_ x22.2 a35 13 x22.1 fun v36 =>
        sZ_ x22.2 a34 x22.1 v36 fun S37 =>
        lt_ (x22.1 + 1) fun v38 =>
        self22 (v38, S37)
  ) FU (0, S21)
set_option maxRecDepth 100000 in
set_option maxHeartbeats 4000000 in
theorem c_X3_copyFrom (l : Launch) (G : Gx) (S : St) (b0 : Nat) (b1 : Nat) (o : St) (h : f_X3_copyFrom S b0 b1 = some o) : Met l yX3_copyFrom (Cond.code yX3_copyFrom cX3_copyFrom 3 none :: wAll) ({ frames := 2, cells := 0, slots := 0, locals := 101 } : Room) (va_Pc [.ref (G.1 + b0), .ref (G.1 + b1)] (wPre G S)) (qV G o) 0 0 (wA G) := by
  refine m_start (by decide +kernel) (Nat.le_of_ble_eq_true rfl) (fun X C => ?_)
  unfold f_X3_copyFrom at h
  show WM X G 3 0 0 (wQ X G (qV G o) 0 0) 0 [(0, .ref (G.1 + b0)), (1, .ref (G.1 + b1))] [] S
  refine m_aload_n C (dOf DX3_copyFrom 0 rfl) rfl 1 rfl ?_
  refine m_gR C (dOf DX3_copyFrom 1 rfl) kf_X3_9 fg_3_0 h (fun a1 h => ?_)
  refine m_aload_n C (dOf DX3_copyFrom 2 rfl) rfl 0 rfl ?_
  refine m_gR C (dOf DX3_copyFrom 3 rfl) kf_X3_9 fg_3_0 h (fun a2 h => ?_)
  refine m_cV (st := []) h (fun o' ho H locs ls hl hr hs => ⟨_, m_runSN C (dOf DX3_copyFrom 4 rfl) kn_X3_47 ks_X8_copyRow (by decide) ⟨rfl, rfl⟩ (c_X8_copyRow _ G _ _ _ o' ho) rfl rfl (Nat.le_of_ble_eq_true rfl) ⟨Nat.le_refl _, Nat.le_refl _⟩ hl hr hs⟩) (fun S3 h => ?_)
  refine m_aload_n C (dOf DX3_copyFrom 5 rfl) rfl 1 rfl ?_
  refine m_gR C (dOf DX3_copyFrom 6 rfl) kf_X3_15 fg_3_1 h (fun a4 h => ?_)
  refine m_aload_n C (dOf DX3_copyFrom 7 rfl) rfl 0 rfl ?_
  refine m_gR C (dOf DX3_copyFrom 8 rfl) kf_X3_15 fg_3_1 h (fun a5 h => ?_)
  refine m_cV (st := []) h (fun o' ho H locs ls hl hr hs => ⟨_, m_runSN C (dOf DX3_copyFrom 9 rfl) kn_X3_47 ks_X8_copyRow (by decide) ⟨rfl, rfl⟩ (c_X8_copyRow _ G _ _ _ o' ho) rfl rfl (Nat.le_of_ble_eq_true rfl) ⟨Nat.le_refl _, Nat.le_refl _⟩ hl hr hs⟩) (fun S6 h => ?_)
  refine m_aload_n C (dOf DX3_copyFrom 10 rfl) rfl 1 rfl ?_
  refine m_gR C (dOf DX3_copyFrom 11 rfl) kf_X3_18 fg_3_2 h (fun a7 h => ?_)
  refine m_aload_n C (dOf DX3_copyFrom 12 rfl) rfl 0 rfl ?_
  refine m_gR C (dOf DX3_copyFrom 13 rfl) kf_X3_18 fg_3_2 h (fun a8 h => ?_)
  refine m_cV (st := []) h (fun o' ho H locs ls hl hr hs => ⟨_, m_runSN C (dOf DX3_copyFrom 14 rfl) kn_X3_47 ks_X8_copyRow (by decide) ⟨rfl, rfl⟩ (c_X8_copyRow _ G _ _ _ o' ho) rfl rfl (Nat.le_of_ble_eq_true rfl) ⟨Nat.le_refl _, Nat.le_refl _⟩ hl hr hs⟩) (fun S9 h => ?_)
  refine m_aload_n C (dOf DX3_copyFrom 15 rfl) rfl 1 rfl ?_
  refine m_gR C (dOf DX3_copyFrom 16 rfl) kf_X3_21 fg_3_3 h (fun a10 h => ?_)
  refine m_aload_n C (dOf DX3_copyFrom 17 rfl) rfl 0 rfl ?_
  refine m_gR C (dOf DX3_copyFrom 18 rfl) kf_X3_21 fg_3_3 h (fun a11 h => ?_)
  refine m_cV (st := []) h (fun o' ho H locs ls hl hr hs => ⟨_, m_runSN C (dOf DX3_copyFrom 19 rfl) kn_X3_47 ks_X8_copyRow (by decide) ⟨rfl, rfl⟩ (c_X8_copyRow _ G _ _ _ o' ho) rfl rfl (Nat.le_of_ble_eq_true rfl) ⟨Nat.le_refl _, Nat.le_refl _⟩ hl hr hs⟩) (fun S12 h => ?_)
  refine m_aload_n C (dOf DX3_copyFrom 20 rfl) rfl 1 rfl ?_
  refine m_gR C (dOf DX3_copyFrom 21 rfl) kf_X3_24 fg_3_4 h (fun a13 h => ?_)
  refine m_aload_n C (dOf DX3_copyFrom 22 rfl) rfl 0 rfl ?_
  refine m_gR C (dOf DX3_copyFrom 23 rfl) kf_X3_24 fg_3_4 h (fun a14 h => ?_)
  refine m_cV (st := []) h (fun o' ho H locs ls hl hr hs => ⟨_, m_runSN C (dOf DX3_copyFrom 24 rfl) kn_X3_47 ks_X8_copyRow (by decide) ⟨rfl, rfl⟩ (c_X8_copyRow _ G _ _ _ o' ho) rfl rfl (Nat.le_of_ble_eq_true rfl) ⟨Nat.le_refl _, Nat.le_refl _⟩ hl hr hs⟩) (fun S15 h => ?_)
  refine m_aload_n C (dOf DX3_copyFrom 25 rfl) rfl 1 rfl ?_
  refine m_gR C (dOf DX3_copyFrom 26 rfl) kf_X3_27 fg_3_5 h (fun a16 h => ?_)
  refine m_aload_n C (dOf DX3_copyFrom 27 rfl) rfl 0 rfl ?_
  refine m_gR C (dOf DX3_copyFrom 28 rfl) kf_X3_27 fg_3_5 h (fun a17 h => ?_)
  refine m_cV (st := []) h (fun o' ho H locs ls hl hr hs => ⟨_, m_runSN C (dOf DX3_copyFrom 29 rfl) kn_X3_47 ks_X8_copyRow (by decide) ⟨rfl, rfl⟩ (c_X8_copyRow _ G _ _ _ o' ho) rfl rfl (Nat.le_of_ble_eq_true rfl) ⟨Nat.le_refl _, Nat.le_refl _⟩ hl hr hs⟩) (fun S18 h => ?_)
  refine m_aload_n C (dOf DX3_copyFrom 30 rfl) rfl 1 rfl ?_
  refine m_gR C (dOf DX3_copyFrom 31 rfl) kf_X3_30 fg_3_6 h (fun a19 h => ?_)
  refine m_aload_n C (dOf DX3_copyFrom 32 rfl) rfl 0 rfl ?_
  refine m_gR C (dOf DX3_copyFrom 33 rfl) kf_X3_30 fg_3_6 h (fun a20 h => ?_)
  refine m_cV (st := []) h (fun o' ho H locs ls hl hr hs => ⟨_, m_runSN C (dOf DX3_copyFrom 34 rfl) kn_X3_47 ks_X8_copyRow (by decide) ⟨rfl, rfl⟩ (c_X8_copyRow _ G _ _ _ o' ho) rfl rfl (Nat.le_of_ble_eq_true rfl) ⟨Nat.le_refl _, Nat.le_refl _⟩ hl hr hs⟩) (fun S21 h => ?_)
  refine m_iconst C (dOf DX3_copyFrom 35 rfl) (v := 0) ki_0 ?_
  refine m_istore_n C (dOf DX3_copyFrom 36 rfl) rfl (by decide) (lv' := [(2, .int 0), (0, .ref (G.1 + b0)), (1, .ref (G.1 + b1))]) rfl ?_
  refine m_sub [1, 2, 0] rfl (m_lp (J := fun (x22 : Int32 × St) => WM X G 3 0 0 (wQ X G (qV G o) 0 0) 79 [(0, .ref (G.1 + b0)), (1, .ref (G.1 + b1)), (2, .int x22.1)] [] x22.2) h (fun self22 hself22 x22 h => ?_))
  refine m_iload_n C (dOf DX3_copyFrom 37 rfl) rfl 2 rfl ?_
  refine m_aload_n C (dOf DX3_copyFrom 38 rfl) rfl 0 rfl ?_
  refine m_gR C (dOf DX3_copyFrom 39 rfl) kf_X3_33 fg_3_7 h (fun a23 h => ?_)
  refine m_al C (dOf DX3_copyFrom 40 rfl) (by decide) h (fun v24 h => ?_)
  refine m_jn (J := fun (x25 : Unit) => WM X G 3 0 0 (wQ X G (qV G o) 0 0) 115 [(0, .ref (G.1 + b0)), (1, .ref (G.1 + b1))] [] x22.2) h (fun x25 h => ?_) (fun j25 hj25 h => ?_)
  · refine m_aload_n C (dOf DX3_copyFrom 57 rfl) rfl 0 rfl ?_
    refine m_aload_n C (dOf DX3_copyFrom 58 rfl) rfl 1 rfl ?_
    refine m_gI C (dOf DX3_copyFrom 59 rfl) kf_X3_37 fg_3_8 h (fun v26 h => ?_)
    refine m_pI C (dOf DX3_copyFrom 60 rfl) kf_X3_37 fp_3_8 h (fun S27 h => ?_)
    refine m_aload_n C (dOf DX3_copyFrom 61 rfl) rfl 0 rfl ?_
    refine m_aload_n C (dOf DX3_copyFrom 62 rfl) rfl 1 rfl ?_
    refine m_gI C (dOf DX3_copyFrom 63 rfl) kf_X3_41 fg_3_9 h (fun v28 h => ?_)
    refine m_pI C (dOf DX3_copyFrom 64 rfl) kf_X3_41 fp_3_9 h (fun S29 h => ?_)
    refine m_aload_n C (dOf DX3_copyFrom 65 rfl) rfl 0 rfl ?_
    refine m_aload_n C (dOf DX3_copyFrom 66 rfl) rfl 1 rfl ?_
    refine m_gI C (dOf DX3_copyFrom 67 rfl) kf_X3_44 fg_3_10 h (fun v30 h => ?_)
    refine m_pI C (dOf DX3_copyFrom 68 rfl) kf_X3_44 fp_3_10 h (fun S31 h => ?_)
    exact m_vret C rfl (dOf DX3_copyFrom 69 rfl) h
  refine m_icmpge C (dOf DX3_copyFrom 41 rfl) (tgt := 115) rfl h (fun h => ?_) (fun h => ?_)
  · exact m_sub [0, 1] rfl (hj25 _ h)
  · refine m_iload_n C (dOf DX3_copyFrom 42 rfl) rfl 2 rfl ?_
    refine m_aload_n C (dOf DX3_copyFrom 43 rfl) rfl 1 rfl ?_
    refine m_gR C (dOf DX3_copyFrom 44 rfl) kf_X3_33 fg_3_7 h (fun a32 h => ?_)
    refine m_al C (dOf DX3_copyFrom 45 rfl) (by decide) h (fun v33 h => ?_)
    refine m_icmpge C (dOf DX3_copyFrom 46 rfl) (tgt := 115) rfl h (fun h => ?_) (fun h => ?_)
    · exact m_sub [0, 1] rfl (hj25 _ h)
    · refine m_aload_n C (dOf DX3_copyFrom 47 rfl) rfl 0 rfl ?_
      refine m_gR C (dOf DX3_copyFrom 48 rfl) kf_X3_33 fg_3_7 h (fun a34 h => ?_)
      refine m_iload_n C (dOf DX3_copyFrom 49 rfl) rfl 2 rfl ?_
      refine m_aload_n C (dOf DX3_copyFrom 50 rfl) rfl 1 rfl ?_
      refine m_gR C (dOf DX3_copyFrom 51 rfl) kf_X3_33 fg_3_7 h (fun a35 h => ?_)
      refine m_iload_n C (dOf DX3_copyFrom 52 rfl) rfl 2 rfl ?_
      refine m_aZ C (dOf DX3_copyFrom 53 rfl) h (fun v36 h => ?_)
      refine m_sZ C (dOf DX3_copyFrom 54 rfl) h (fun S37 h => ?_)
      refine m_iinc C (dOf DX3_copyFrom 55 rfl) (w := 1) ki_1 2 rfl (by decide) h (fun v38 h => ⟨[(2, .int v38), (0, .ref (G.1 + b0)), (1, .ref (G.1 + b1))], rfl, ?_⟩)
      refine m_goto C (dOf DX3_copyFrom 56 rfl) (tgt := 79) rfl ?_
      exact m_sub [1, 2, 0] rfl (hself22 _ h)
/-- TraceRing$Page.isReady(I)Z -/
def f_X3_isReady (S : St) (b0 : Nat) (p1 : Int32) : Option Int32 :=
  ck_ S b0 3 <| cP_ (f_X3_isRecord S b0 p1) fun v1 =>
  jn_ (fun (x2 : Int32) =>
    rzP_ x2
  ) fun j2 =>
  jn_ (fun (x3 : Unit) =>
    j2 (0)
  ) fun j3 =>
  if v1 = 0 then
    j3 ()
  else
    gR_ S b0 3 5 fun a4 =>
    cP_ (f_X8_at S a4 p1) fun v5 =>
    gI_ S b0 3 10 fun v6 =>
    if v6 ≤ v5 then
      j3 ()
    else
      j2 (1)
set_option maxRecDepth 100000 in
set_option maxHeartbeats 4000000 in
theorem c_X3_isReady (l : Launch) (G : Gx) (S : St) (b0 : Nat) (p1 : Int32) (o : Int32) (h : f_X3_isReady S b0 p1 = some o) : Met l yX3_isReady (Cond.code yX3_isReady cX3_isReady 2 (some (.boolean)) :: wAll) ({ frames := 1, cells := 0, slots := 0, locals := 21 } : Room) (va_Pc [.ref (G.1 + b0), .int p1] (wPre G S)) (qI G (o, S)) 0 0 (wA G) := by
  refine m_start (by decide +kernel) (Nat.le_of_ble_eq_true rfl) (fun X C => ?_)
  unfold f_X3_isReady at h
  show WM X G 2 0 0 (wQ X G (qI G (o, S)) 0 0) 0 [(0, .ref (G.1 + b0)), (1, .int p1)] [] S
  refine m_aload_n C (dOf DX3_isReady 0 rfl) rfl 0 rfl ?_
  refine m_iload_n C (dOf DX3_isReady 1 rfl) rfl 1 rfl ?_
  obtain ⟨hc, h⟩ := ck_spec h
  refine m_cP (st := []) h (fun o' ho H locs ls hl hr hs => ⟨_, m_runV C (dOf DX3_isReady 2 rfl) km_X3_63 ky_X3_isRecord (by decide) ⟨rfl, rfl⟩ (c_X3_isRecord _ G _ _ _ o' ho) hc.1 hc.2 (by decide) rfl rfl rfl (Nat.le_of_ble_eq_true rfl) ⟨Nat.le_refl _, Nat.le_refl _⟩ hl hr hs⟩) (fun v1 h => ?_)
  refine m_jn (J := fun (x2 : Int32) => WM X G 2 0 0 (wQ X G (qI G (o, S)) 0 0) 28 [] [.int x2] S) h (fun x2 h => ?_) (fun j2 hj2 h => ?_)
  · exact m_zretP C rfl (dOf DX3_isReady 14 rfl) h
  refine m_jn (J := fun (x3 : Unit) => WM X G 2 0 0 (wQ X G (qI G (o, S)) 0 0) 27 [] [] S) h (fun x3 h => ?_) (fun j3 hj3 h => ?_)
  · refine m_iconst C (dOf DX3_isReady 13 rfl) (v := 0) ki_0 ?_
    exact m_sub [] rfl (hj2 _ h)
  refine m_ifeq C (dOf DX3_isReady 3 rfl) (tgt := 27) rfl h (fun h => ?_) (fun h => ?_)
  · exact m_sub [] rfl (hj3 _ h)
  · refine m_aload_n C (dOf DX3_isReady 4 rfl) rfl 0 rfl ?_
    refine m_gR C (dOf DX3_isReady 5 rfl) kf_X3_27 fg_3_5 h (fun a4 h => ?_)
    refine m_iload_n C (dOf DX3_isReady 6 rfl) rfl 1 rfl ?_
    refine m_cP (st := []) h (fun o' ho H locs ls hl hr hs => ⟨_, m_runSN C (dOf DX3_isReady 7 rfl) kn_X3_59 ks_X8_at (by decide) ⟨rfl, rfl⟩ (c_X8_at _ G _ _ _ o' ho) rfl rfl (Nat.le_of_ble_eq_true rfl) ⟨Nat.le_refl _, Nat.le_refl _⟩ hl hr hs⟩) (fun v5 h => ?_)
    refine m_aload_n C (dOf DX3_isReady 8 rfl) rfl 0 rfl ?_
    refine m_gI C (dOf DX3_isReady 9 rfl) kf_X3_44 fg_3_10 h (fun v6 h => ?_)
    refine m_icmpge C (dOf DX3_isReady 10 rfl) (tgt := 27) rfl h (fun h => ?_) (fun h => ?_)
    · exact m_sub [] rfl (hj3 _ h)
    · refine m_iconst C (dOf DX3_isReady 11 rfl) (v := 1) ki_1 ?_
      refine m_goto C (dOf DX3_isReady 12 rfl) (tgt := 28) rfl ?_
      exact m_sub [] rfl (hj2 _ h)
/-- TraceRing$Page.readyRecords()I -/
def f_X3_readyRecords (S : St) (b0 : Nat) : Option Int32 :=
  lp_ (fun self1 (x1 : Int32 × Int32) =>
    gI_ S b0 3 8 fun v2 =>
    if v2 ≤ x1.2 then
      rt_ x1.1
    else
      ck_ S b0 3 <| cP_ (f_X3_isReady S b0 x1.2) fun v3 =>
      jn_ (fun (x4 : Int32) =>
        lt_ (x1.2 + 1) fun v5 =>
        self1 (x4, v5)
      ) fun j4 =>
      if v3 = 0 then
        j4 (x1.1)
      else
        lt_ (x1.1 + 1) fun v6 =>
        j4 (v6)
  ) FU (0, 0)
set_option maxRecDepth 100000 in
set_option maxHeartbeats 4000000 in
theorem c_X3_readyRecords (l : Launch) (G : Gx) (S : St) (b0 : Nat) (o : Int32) (h : f_X3_readyRecords S b0 = some o) : Met l yX3_readyRecords (Cond.code yX3_readyRecords cX3_readyRecords 3 (some (.int)) :: wAll) ({ frames := 2, cells := 0, slots := 0, locals := 42 } : Room) (va_Pc [.ref (G.1 + b0)] (wPre G S)) (qI G (o, S)) 0 0 (wA G) := by
  refine m_start (by decide +kernel) (Nat.le_of_ble_eq_true rfl) (fun X C => ?_)
  unfold f_X3_readyRecords at h
  show WM X G 3 0 0 (wQ X G (qI G (o, S)) 0 0) 0 [(0, .ref (G.1 + b0))] [] S
  refine m_iconst C (dOf DX3_readyRecords 0 rfl) (v := 0) ki_0 ?_
  refine m_istore_n C (dOf DX3_readyRecords 1 rfl) rfl (by decide) (lv' := [(1, .int 0), (0, .ref (G.1 + b0))]) rfl ?_
  refine m_iconst C (dOf DX3_readyRecords 2 rfl) (v := 0) ki_0 ?_
  refine m_istore_n C (dOf DX3_readyRecords 3 rfl) rfl (by decide) (lv' := [(2, .int 0), (1, .int 0), (0, .ref (G.1 + b0))]) rfl ?_
  refine m_sub [2, 1, 0] rfl (m_lp (J := fun (x1 : Int32 × Int32) => WM X G 3 0 0 (wQ X G (qI G (o, S)) 0 0) 4 [(0, .ref (G.1 + b0)), (1, .int x1.1), (2, .int x1.2)] [] S) h (fun self1 hself1 x1 h => ?_))
  refine m_iload_n C (dOf DX3_readyRecords 4 rfl) rfl 2 rfl ?_
  refine m_aload_n C (dOf DX3_readyRecords 5 rfl) rfl 0 rfl ?_
  refine m_gI C (dOf DX3_readyRecords 6 rfl) kf_X3_37 fg_3_8 h (fun v2 h => ?_)
  refine m_icmpge C (dOf DX3_readyRecords 7 rfl) (tgt := 29) rfl h (fun h => ?_) (fun h => ?_)
  · refine m_iload_n C (dOf DX3_readyRecords 15 rfl) rfl 1 rfl ?_
    exact m_iretP C rfl (dOf DX3_readyRecords 16 rfl) h
  · refine m_aload_n C (dOf DX3_readyRecords 8 rfl) rfl 0 rfl ?_
    refine m_iload_n C (dOf DX3_readyRecords 9 rfl) rfl 2 rfl ?_
    obtain ⟨hc, h⟩ := ck_spec h
    refine m_cP (st := []) h (fun o' ho H locs ls hl hr hs => ⟨_, m_runV C (dOf DX3_readyRecords 10 rfl) km_X3_67 ky_X3_isReady (by decide) ⟨rfl, rfl⟩ (c_X3_isReady _ G _ _ _ o' ho) hc.1 hc.2 (by decide) rfl rfl rfl (Nat.le_of_ble_eq_true rfl) ⟨Nat.le_refl _, Nat.le_refl _⟩ hl hr hs⟩) (fun v3 h => ?_)
    refine m_jn (J := fun (x4 : Int32) => WM X G 3 0 0 (wQ X G (qI G (o, S)) 0 0) 23 [(0, .ref (G.1 + b0)), (1, .int x4), (2, .int x1.2)] [] S) h (fun x4 h => ?_) (fun j4 hj4 h => ?_)
    · refine m_iinc C (dOf DX3_readyRecords 13 rfl) (w := 1) ki_1 2 rfl (by decide) h (fun v5 h => ⟨[(2, .int v5), (0, .ref (G.1 + b0)), (1, .int x4)], rfl, ?_⟩)
      refine m_goto C (dOf DX3_readyRecords 14 rfl) (tgt := 4) rfl ?_
      exact m_sub [1, 2, 0] rfl (hself1 _ h)
    refine m_ifeq C (dOf DX3_readyRecords 11 rfl) (tgt := 23) rfl h (fun h => ?_) (fun h => ?_)
    · exact m_sub [0, 1, 2] rfl (hj4 _ h)
    · refine m_iinc C (dOf DX3_readyRecords 12 rfl) (w := 1) ki_1 1 rfl (by decide) h (fun v6 h => ⟨[(1, .int v6), (0, .ref (G.1 + b0)), (2, .int x1.2)], rfl, ?_⟩)
      exact m_sub [1, 0, 2] rfl (hj4 _ h)
/-- TraceRing$Page.itemOfRecord(I)I -/
def f_X3_itemOfRecord (S : St) (b0 : Nat) (p1 : Int32) : Option Int32 :=
  lp_ (fun self1 (x1 : Int32 × Int32) =>
    gI_ S b0 3 8 fun v2 =>
    if v2 ≤ x1.2 then
      rt_ (-1)
    else
      ck_ S b0 3 <| cP_ (f_X3_isRecord S b0 x1.2) fun v3 =>
      jn_ (fun (x4 : Int32) =>
        lt_ (x1.2 + 1) fun v5 =>
        self1 (x4, v5)
      ) fun j4 =>
      if v3 = 0 then
        j4 (x1.1)
      else
        if x1.1 = 0 then
          rt_ x1.2
        else
          lt_ (x1.1 + (-1)) fun v6 =>
          j4 (v6)
  ) FU (p1, 0)
set_option maxRecDepth 100000 in
set_option maxHeartbeats 4000000 in
theorem c_X3_itemOfRecord (l : Launch) (G : Gx) (S : St) (b0 : Nat) (p1 : Int32) (o : Int32) (h : f_X3_itemOfRecord S b0 p1 = some o) : Met l yX3_itemOfRecord (Cond.code yX3_itemOfRecord cX3_itemOfRecord 4 (some (.int)) :: wAll) ({ frames := 1, cells := 0, slots := 0, locals := 21 } : Room) (va_Pc [.ref (G.1 + b0), .int p1] (wPre G S)) (qI G (o, S)) 0 0 (wA G) := by
  refine m_start (by decide +kernel) (Nat.le_of_ble_eq_true rfl) (fun X C => ?_)
  unfold f_X3_itemOfRecord at h
  show WM X G 4 0 0 (wQ X G (qI G (o, S)) 0 0) 0 [(0, .ref (G.1 + b0)), (1, .int p1)] [] S
  refine m_iload_n C (dOf DX3_itemOfRecord 0 rfl) rfl 1 rfl ?_
  refine m_istore_n C (dOf DX3_itemOfRecord 1 rfl) rfl (by decide) (lv' := [(2, .int p1), (0, .ref (G.1 + b0)), (1, .int p1)]) rfl ?_
  refine m_iconst C (dOf DX3_itemOfRecord 2 rfl) (v := 0) ki_0 ?_
  refine m_istore_n C (dOf DX3_itemOfRecord 3 rfl) rfl (by decide) (lv' := [(3, .int 0), (2, .int p1), (0, .ref (G.1 + b0)), (1, .int p1)]) rfl ?_
  refine m_sub [2, 1, 0] rfl (m_lp (J := fun (x1 : Int32 × Int32) => WM X G 4 0 0 (wQ X G (qI G (o, S)) 0 0) 4 [(0, .ref (G.1 + b0)), (2, .int x1.1), (3, .int x1.2)] [] S) h (fun self1 hself1 x1 h => ?_))
  refine m_iload_n C (dOf DX3_itemOfRecord 4 rfl) rfl 2 rfl ?_
  refine m_aload_n C (dOf DX3_itemOfRecord 5 rfl) rfl 0 rfl ?_
  refine m_gI C (dOf DX3_itemOfRecord 6 rfl) kf_X3_37 fg_3_8 h (fun v2 h => ?_)
  refine m_icmpge C (dOf DX3_itemOfRecord 7 rfl) (tgt := 35) rfl h (fun h => ?_) (fun h => ?_)
  · refine m_iconst C (dOf DX3_itemOfRecord 19 rfl) (v := (-1)) ki_m1 ?_
    exact m_iretP C rfl (dOf DX3_itemOfRecord 20 rfl) h
  · refine m_aload_n C (dOf DX3_itemOfRecord 8 rfl) rfl 0 rfl ?_
    refine m_iload_n C (dOf DX3_itemOfRecord 9 rfl) rfl 2 rfl ?_
    obtain ⟨hc, h⟩ := ck_spec h
    refine m_cP (st := []) h (fun o' ho H locs ls hl hr hs => ⟨_, m_runV C (dOf DX3_itemOfRecord 10 rfl) km_X3_63 ky_X3_isRecord (by decide) ⟨rfl, rfl⟩ (c_X3_isRecord _ G _ _ _ o' ho) hc.1 hc.2 (by decide) rfl rfl rfl (Nat.le_of_ble_eq_true rfl) ⟨Nat.le_refl _, Nat.le_refl _⟩ hl hr hs⟩) (fun v3 h => ?_)
    refine m_jn (J := fun (x4 : Int32) => WM X G 4 0 0 (wQ X G (qI G (o, S)) 0 0) 29 [(0, .ref (G.1 + b0)), (2, .int x4), (3, .int x1.2)] [] S) h (fun x4 h => ?_) (fun j4 hj4 h => ?_)
    · refine m_iinc C (dOf DX3_itemOfRecord 17 rfl) (w := 1) ki_1 2 rfl (by decide) h (fun v5 h => ⟨[(3, .int v5), (0, .ref (G.1 + b0)), (2, .int x4)], rfl, ?_⟩)
      refine m_goto C (dOf DX3_itemOfRecord 18 rfl) (tgt := 4) rfl ?_
      exact m_sub [1, 2, 0] rfl (hself1 _ h)
    refine m_ifeq C (dOf DX3_itemOfRecord 11 rfl) (tgt := 29) rfl h (fun h => ?_) (fun h => ?_)
    · exact m_sub [0, 1, 2] rfl (hj4 _ h)
    · refine m_iload_n C (dOf DX3_itemOfRecord 12 rfl) rfl 1 rfl ?_
      refine m_ifne C (dOf DX3_itemOfRecord 13 rfl) (tgt := 26) rfl h (fun h => ?_) (fun h => ?_)
      · refine m_iinc C (dOf DX3_itemOfRecord 16 rfl) (w := (-1)) ki_m1 1 rfl (by decide) h (fun v6 h => ⟨[(2, .int v6), (0, .ref (G.1 + b0)), (3, .int x1.2)], rfl, ?_⟩)
        exact m_sub [1, 0, 2] rfl (hj4 _ h)
      · refine m_iload_n C (dOf DX3_itemOfRecord 14 rfl) rfl 2 rfl ?_
        exact m_iretP C rfl (dOf DX3_itemOfRecord 15 rfl) h
/-- TraceRing$Page.figure(I)I -/
def f_X3_figure (S : St) (b0 : Nat) (p1 : Int32) : Option Int32 :=
  ck_ S b0 3 <| cP_ (f_X3_recordsFrom S b0 0) fun v1 =>
  if p1 = 0 then
    gI_ S b0 3 8 fun v2 =>
    jn_ (fun (x3 : Int32) =>
      rt_ x3
    ) fun j3 =>
    if v2 = 0 then
      j3 ((-1))
    else
      gR_ S b0 3 3 fun a4 =>
      cP_ (f_X8_at S a4 0) fun v5 =>
      j3 (v5)
  else
  if p1 = 1 then
    gI_ S b0 3 9 fun v6 =>
    rt_ v6
  else
  if p1 = 2 then
    gI_ S b0 3 10 fun v7 =>
    rt_ v7
  else
  if p1 = 3 then
    rt_ v1
  else
  if p1 = 4 then
    gI_ S b0 3 8 fun v8 =>
    lt_ (v8 - v1 : Int32) fun v9 =>
    rt_ v9
  else
  rt_ (-2)
set_option maxRecDepth 100000 in
set_option maxHeartbeats 4000000 in
theorem c_X3_figure (l : Launch) (G : Gx) (S : St) (b0 : Nat) (p1 : Int32) (o : Int32) (h : f_X3_figure S b0 p1 = some o) : Met l yX3_figure (Cond.code yX3_figure cX3_figure 3 (some (.int)) :: wAll) ({ frames := 2, cells := 0, slots := 0, locals := 44 } : Room) (va_Pc [.ref (G.1 + b0), .int p1] (wPre G S)) (qI G (o, S)) 0 0 (wA G) := by
  refine m_start (by decide +kernel) (Nat.le_of_ble_eq_true rfl) (fun X C => ?_)
  unfold f_X3_figure at h
  show WM X G 3 0 0 (wQ X G (qI G (o, S)) 0 0) 0 [(0, .ref (G.1 + b0)), (1, .int p1)] [] S
  refine m_aload_n C (dOf DX3_figure 0 rfl) rfl 0 rfl ?_
  refine m_iconst C (dOf DX3_figure 1 rfl) (v := 0) ki_0 ?_
  obtain ⟨hc, h⟩ := ck_spec h
  refine m_cP (st := []) h (fun o' ho H locs ls hl hr hs => ⟨_, m_runV C (dOf DX3_figure 2 rfl) km_X3_70 ky_X3_recordsFrom (by decide) ⟨rfl, rfl⟩ (c_X3_recordsFrom _ G _ _ _ o' ho) hc.1 hc.2 (by decide) rfl rfl rfl (Nat.le_of_ble_eq_true rfl) ⟨Nat.le_refl _, Nat.le_refl _⟩ hl hr hs⟩) (fun v1 h => ?_)
  refine m_istore_n C (dOf DX3_figure 3 rfl) rfl (by decide) (lv' := [(2, .int v1), (0, .ref (G.1 + b0)), (1, .int p1)]) rfl ?_
  refine m_iload_n C (dOf DX3_figure 4 rfl) rfl 2 rfl ?_
  refine m_sw h (fun e h => ?_) (fun n0 h => ?_)
  · refine m_tin C (dOf DX3_figure 5 rfl) 0 e (by decide) (by decide) (off := 33) rfl (tgt := 40) rfl ?_
    refine m_aload_n C (dOf DX3_figure 6 rfl) rfl 1 rfl ?_
    refine m_gI C (dOf DX3_figure 7 rfl) kf_X3_37 fg_3_8 h (fun v2 h => ?_)
    refine m_jn (J := fun (x3 : Int32) => WM X G 3 0 0 (wQ X G (qI G (o, S)) 0 0) 59 [] [.int x3] S) h (fun x3 h => ?_) (fun j3 hj3 h => ?_)
    · exact m_iretP C rfl (dOf DX3_figure 15 rfl) h
    refine m_ifne C (dOf DX3_figure 8 rfl) (tgt := 51) rfl h (fun h => ?_) (fun h => ?_)
    · refine m_aload_n C (dOf DX3_figure 11 rfl) rfl 1 rfl ?_
      refine m_gR C (dOf DX3_figure 12 rfl) kf_X3_21 fg_3_3 h (fun a4 h => ?_)
      refine m_iconst C (dOf DX3_figure 13 rfl) (v := 0) ki_0 ?_
      refine m_cP (st := []) h (fun o' ho H locs ls hl hr hs => ⟨_, m_runSN C (dOf DX3_figure 14 rfl) kn_X3_59 ks_X8_at (by decide) ⟨rfl, rfl⟩ (c_X8_at _ G _ _ _ o' ho) rfl rfl (Nat.le_of_ble_eq_true rfl) ⟨Nat.le_refl _, Nat.le_refl _⟩ hl hr hs⟩) (fun v5 h => ?_)
      exact m_sub [] rfl (hj3 _ h)
    · refine m_iconst C (dOf DX3_figure 9 rfl) (v := (-1)) ki_m1 ?_
      refine m_goto C (dOf DX3_figure 10 rfl) (tgt := 59) rfl ?_
      exact m_sub [] rfl (hj3 _ h)
  refine m_sw h (fun e h => ?_) (fun n1 h => ?_)
  · refine m_tin C (dOf DX3_figure 5 rfl) 1 e (by decide) (by decide) (off := 53) rfl (tgt := 60) rfl ?_
    refine m_aload_n C (dOf DX3_figure 16 rfl) rfl 1 rfl ?_
    refine m_gI C (dOf DX3_figure 17 rfl) kf_X3_41 fg_3_9 h (fun v6 h => ?_)
    exact m_iretP C rfl (dOf DX3_figure 18 rfl) h
  refine m_sw h (fun e h => ?_) (fun n2 h => ?_)
  · refine m_tin C (dOf DX3_figure 5 rfl) 2 e (by decide) (by decide) (off := 58) rfl (tgt := 65) rfl ?_
    refine m_aload_n C (dOf DX3_figure 19 rfl) rfl 1 rfl ?_
    refine m_gI C (dOf DX3_figure 20 rfl) kf_X3_44 fg_3_10 h (fun v7 h => ?_)
    exact m_iretP C rfl (dOf DX3_figure 21 rfl) h
  refine m_sw h (fun e h => ?_) (fun n3 h => ?_)
  · refine m_tin C (dOf DX3_figure 5 rfl) 3 e (by decide) (by decide) (off := 63) rfl (tgt := 70) rfl ?_
    refine m_iload_n C (dOf DX3_figure 22 rfl) rfl 0 rfl ?_
    exact m_iretP C rfl (dOf DX3_figure 23 rfl) h
  refine m_sw h (fun e h => ?_) (fun n4 h => ?_)
  · refine m_tin C (dOf DX3_figure 5 rfl) 4 e (by decide) (by decide) (off := 65) rfl (tgt := 72) rfl ?_
    refine m_aload_n C (dOf DX3_figure 24 rfl) rfl 1 rfl ?_
    refine m_gI C (dOf DX3_figure 25 rfl) kf_X3_37 fg_3_8 h (fun v8 h => ?_)
    refine m_iload_n C (dOf DX3_figure 26 rfl) rfl 0 rfl ?_
    refine m_isub C (dOf DX3_figure 27 rfl) h (fun v9 h => ?_)
    exact m_iretP C rfl (dOf DX3_figure 28 rfl) h
  have qn0 := neT n0 kt_0
  have qn1 := neT n1 kt_1
  have qn2 := neT n2 kt_2
  have qn3 := neT n3 kt_3
  have qn4 := neT n4 kt_4
  refine m_tout C (dOf DX3_figure 5 rfl) (tgt := 79) (by omega) rfl ?_
  refine m_bipush C (dOf DX3_figure 29 rfl) (v := (-2)) kb_m2 ?_
  exact m_iretP C rfl (dOf DX3_figure 30 rfl) h
/-- TraceRing$Page.itemFigure(II)I -/
def f_X3_itemFigure (S : St) (b0 : Nat) (p1 : Int32) (p2 : Int32) : Option Int32 :=
  if p2 = 0 then
    gR_ S b0 3 1 fun a1 =>
    cP_ (f_X8_at S a1 p1) fun v2 =>
    rt_ v2
  else
  if p2 = 1 then
    gR_ S b0 3 2 fun a3 =>
    cP_ (f_X8_at S a3 p1) fun v4 =>
    rt_ v4
  else
  if p2 = 2 then
    gR_ S b0 3 3 fun a5 =>
    cP_ (f_X8_at S a5 p1) fun v6 =>
    rt_ v6
  else
  if p2 = 3 then
    gR_ S b0 3 6 fun a7 =>
    cP_ (f_X8_at S a7 p1) fun v8 =>
    rt_ v8
  else
  rt_ (-2)
set_option maxRecDepth 100000 in
set_option maxHeartbeats 4000000 in
theorem c_X3_itemFigure (l : Launch) (G : Gx) (S : St) (b0 : Nat) (p1 : Int32) (p2 : Int32) (o : Int32) (h : f_X3_itemFigure S b0 p1 p2 = some o) : Met l yX3_itemFigure (Cond.code yX3_itemFigure cX3_itemFigure 3 (some (.int)) :: wAll) ({ frames := 1, cells := 0, slots := 0, locals := 21 } : Room) (va_Pc [.ref (G.1 + b0), .int p1, .int p2] (wPre G S)) (qI G (o, S)) 0 0 (wA G) := by
  refine m_start (by decide +kernel) (Nat.le_of_ble_eq_true rfl) (fun X C => ?_)
  unfold f_X3_itemFigure at h
  show WM X G 3 0 0 (wQ X G (qI G (o, S)) 0 0) 0 [(0, .ref (G.1 + b0)), (1, .int p1), (2, .int p2)] [] S
  refine m_iload_n C (dOf DX3_itemFigure 0 rfl) rfl 2 rfl ?_
  refine m_sw h (fun e h => ?_) (fun n0 h => ?_)
  · refine m_tin C (dOf DX3_itemFigure 1 rfl) 0 e (by decide) (by decide) (off := 31) rfl (tgt := 32) rfl ?_
    refine m_aload_n C (dOf DX3_itemFigure 2 rfl) rfl 0 rfl ?_
    refine m_gR C (dOf DX3_itemFigure 3 rfl) kf_X3_15 fg_3_1 h (fun a1 h => ?_)
    refine m_iload_n C (dOf DX3_itemFigure 4 rfl) rfl 1 rfl ?_
    refine m_cP (st := []) h (fun o' ho H locs ls hl hr hs => ⟨_, m_runSN C (dOf DX3_itemFigure 5 rfl) kn_X3_59 ks_X8_at (by decide) ⟨rfl, rfl⟩ (c_X8_at _ G _ _ _ o' ho) rfl rfl (Nat.le_of_ble_eq_true rfl) ⟨Nat.le_refl _, Nat.le_refl _⟩ hl hr hs⟩) (fun v2 h => ?_)
    exact m_iretP C rfl (dOf DX3_itemFigure 6 rfl) h
  refine m_sw h (fun e h => ?_) (fun n1 h => ?_)
  · refine m_tin C (dOf DX3_itemFigure 1 rfl) 1 e (by decide) (by decide) (off := 40) rfl (tgt := 41) rfl ?_
    refine m_aload_n C (dOf DX3_itemFigure 7 rfl) rfl 0 rfl ?_
    refine m_gR C (dOf DX3_itemFigure 8 rfl) kf_X3_18 fg_3_2 h (fun a3 h => ?_)
    refine m_iload_n C (dOf DX3_itemFigure 9 rfl) rfl 1 rfl ?_
    refine m_cP (st := []) h (fun o' ho H locs ls hl hr hs => ⟨_, m_runSN C (dOf DX3_itemFigure 10 rfl) kn_X3_59 ks_X8_at (by decide) ⟨rfl, rfl⟩ (c_X8_at _ G _ _ _ o' ho) rfl rfl (Nat.le_of_ble_eq_true rfl) ⟨Nat.le_refl _, Nat.le_refl _⟩ hl hr hs⟩) (fun v4 h => ?_)
    exact m_iretP C rfl (dOf DX3_itemFigure 11 rfl) h
  refine m_sw h (fun e h => ?_) (fun n2 h => ?_)
  · refine m_tin C (dOf DX3_itemFigure 1 rfl) 2 e (by decide) (by decide) (off := 49) rfl (tgt := 50) rfl ?_
    refine m_aload_n C (dOf DX3_itemFigure 12 rfl) rfl 0 rfl ?_
    refine m_gR C (dOf DX3_itemFigure 13 rfl) kf_X3_21 fg_3_3 h (fun a5 h => ?_)
    refine m_iload_n C (dOf DX3_itemFigure 14 rfl) rfl 1 rfl ?_
    refine m_cP (st := []) h (fun o' ho H locs ls hl hr hs => ⟨_, m_runSN C (dOf DX3_itemFigure 15 rfl) kn_X3_59 ks_X8_at (by decide) ⟨rfl, rfl⟩ (c_X8_at _ G _ _ _ o' ho) rfl rfl (Nat.le_of_ble_eq_true rfl) ⟨Nat.le_refl _, Nat.le_refl _⟩ hl hr hs⟩) (fun v6 h => ?_)
    exact m_iretP C rfl (dOf DX3_itemFigure 16 rfl) h
  refine m_sw h (fun e h => ?_) (fun n3 h => ?_)
  · refine m_tin C (dOf DX3_itemFigure 1 rfl) 3 e (by decide) (by decide) (off := 58) rfl (tgt := 59) rfl ?_
    refine m_aload_n C (dOf DX3_itemFigure 17 rfl) rfl 0 rfl ?_
    refine m_gR C (dOf DX3_itemFigure 18 rfl) kf_X3_30 fg_3_6 h (fun a7 h => ?_)
    refine m_iload_n C (dOf DX3_itemFigure 19 rfl) rfl 1 rfl ?_
    refine m_cP (st := []) h (fun o' ho H locs ls hl hr hs => ⟨_, m_runSN C (dOf DX3_itemFigure 20 rfl) kn_X3_59 ks_X8_at (by decide) ⟨rfl, rfl⟩ (c_X8_at _ G _ _ _ o' ho) rfl rfl (Nat.le_of_ble_eq_true rfl) ⟨Nat.le_refl _, Nat.le_refl _⟩ hl hr hs⟩) (fun v8 h => ?_)
    exact m_iretP C rfl (dOf DX3_itemFigure 21 rfl) h
  have qn0 := neT n0 kt_0
  have qn1 := neT n1 kt_1
  have qn2 := neT n2 kt_2
  have qn3 := neT n3 kt_3
  refine m_tout C (dOf DX3_itemFigure 1 rfl) (tgt := 68) (by omega) rfl ?_
  refine m_bipush C (dOf DX3_itemFigure 22 rfl) (v := (-2)) kb_m2 ?_
  exact m_iretP C rfl (dOf DX3_itemFigure 23 rfl) h
/-- TraceRing$Page.dataOf(II)I -/
def f_X3_dataOf (S : St) (b0 : Nat) (p1 : Int32) (p2 : Int32) : Option Int32 :=
  gR_ S b0 3 0 fun a1 =>
  gR_ S b0 3 5 fun a2 =>
  cP_ (f_X8_at S a2 p1) fun v3 =>
  lt_ (v3 + 1 : Int32) fun v4 =>
  lt_ (v4 + p2 : Int32) fun v5 =>
  cP_ (f_X8_at S a1 v5) fun v6 =>
  rt_ v6
set_option maxRecDepth 100000 in
set_option maxHeartbeats 4000000 in
theorem c_X3_dataOf (l : Launch) (G : Gx) (S : St) (b0 : Nat) (p1 : Int32) (p2 : Int32) (o : Int32) (h : f_X3_dataOf S b0 p1 p2 = some o) : Met l yX3_dataOf (Cond.code yX3_dataOf cX3_dataOf 3 (some (.int)) :: wAll) ({ frames := 1, cells := 0, slots := 0, locals := 21 } : Room) (va_Pc [.ref (G.1 + b0), .int p1, .int p2] (wPre G S)) (qI G (o, S)) 0 0 (wA G) := by
  refine m_start (by decide +kernel) (Nat.le_of_ble_eq_true rfl) (fun X C => ?_)
  unfold f_X3_dataOf at h
  show WM X G 3 0 0 (wQ X G (qI G (o, S)) 0 0) 0 [(0, .ref (G.1 + b0)), (1, .int p1), (2, .int p2)] [] S
  refine m_aload_n C (dOf DX3_dataOf 0 rfl) rfl 0 rfl ?_
  refine m_gR C (dOf DX3_dataOf 1 rfl) kf_X3_9 fg_3_0 h (fun a1 h => ?_)
  refine m_aload_n C (dOf DX3_dataOf 2 rfl) rfl 0 rfl ?_
  refine m_gR C (dOf DX3_dataOf 3 rfl) kf_X3_27 fg_3_5 h (fun a2 h => ?_)
  refine m_iload_n C (dOf DX3_dataOf 4 rfl) rfl 1 rfl ?_
  refine m_cP (st := [.ref (G.1 + a1)]) h (fun o' ho H locs ls hl hr hs => ⟨_, m_runSN C (dOf DX3_dataOf 5 rfl) kn_X3_59 ks_X8_at (by decide) ⟨rfl, rfl⟩ (c_X8_at _ G _ _ _ o' ho) rfl rfl (Nat.le_of_ble_eq_true rfl) ⟨Nat.le_refl _, Nat.le_refl _⟩ hl hr hs⟩) (fun v3 h => ?_)
  refine m_iconst C (dOf DX3_dataOf 6 rfl) (v := 1) ki_1 ?_
  refine m_iadd C (dOf DX3_dataOf 7 rfl) h (fun v4 h => ?_)
  refine m_iload_n C (dOf DX3_dataOf 8 rfl) rfl 2 rfl ?_
  refine m_iadd C (dOf DX3_dataOf 9 rfl) h (fun v5 h => ?_)
  refine m_cP (st := []) h (fun o' ho H locs ls hl hr hs => ⟨_, m_runSN C (dOf DX3_dataOf 10 rfl) kn_X3_59 ks_X8_at (by decide) ⟨rfl, rfl⟩ (c_X8_at _ G _ _ _ o' ho) rfl rfl (Nat.le_of_ble_eq_true rfl) ⟨Nat.le_refl _, Nat.le_refl _⟩ hl hr hs⟩) (fun v6 h => ?_)
  exact m_iretP C rfl (dOf DX3_dataOf 11 rfl) h
/-- TraceRing$Page.sumOf(II)I -/
def f_X3_sumOf (S : St) (b0 : Nat) (p1 : Int32) (p2 : Int32) : Option Int32 :=
  lp_ (fun self1 (x1 : Int32 × Int32) =>
    if p2 ≤ x1.2 then
      rt_ x1.1
    else
      gR_ S b0 3 0 fun a2 =>
      lt_ (p1 + x1.2 : Int32) fun v3 =>
      cP_ (f_X8_at S a2 v3) fun v4 =>
      lt_ (x1.1 + v4 : Int32) fun v5 =>
      lt_ (x1.2 + 1) fun v6 =>
      self1 (v5, v6)
  ) FU (0, 0)
set_option maxRecDepth 100000 in
set_option maxHeartbeats 4000000 in
theorem c_X3_sumOf (l : Launch) (G : Gx) (S : St) (b0 : Nat) (p1 : Int32) (p2 : Int32) (o : Int32) (h : f_X3_sumOf S b0 p1 p2 = some o) : Met l yX3_sumOf (Cond.code yX3_sumOf cX3_sumOf 5 (some (.int)) :: wAll) ({ frames := 1, cells := 0, slots := 0, locals := 21 } : Room) (va_Pc [.ref (G.1 + b0), .int p1, .int p2] (wPre G S)) (qI G (o, S)) 0 0 (wA G) := by
  refine m_start (by decide +kernel) (Nat.le_of_ble_eq_true rfl) (fun X C => ?_)
  unfold f_X3_sumOf at h
  show WM X G 5 0 0 (wQ X G (qI G (o, S)) 0 0) 0 [(0, .ref (G.1 + b0)), (1, .int p1), (2, .int p2)] [] S
  refine m_iconst C (dOf DX3_sumOf 0 rfl) (v := 0) ki_0 ?_
  refine m_istore_n C (dOf DX3_sumOf 1 rfl) rfl (by decide) (lv' := [(3, .int 0), (0, .ref (G.1 + b0)), (1, .int p1), (2, .int p2)]) rfl ?_
  refine m_iconst C (dOf DX3_sumOf 2 rfl) (v := 0) ki_0 ?_
  refine m_istore C (dOf DX3_sumOf 3 rfl) (by decide) (lv' := [(4, .int 0), (3, .int 0), (0, .ref (G.1 + b0)), (1, .int p1), (2, .int p2)]) rfl ?_
  refine m_sub [2, 3, 4, 1, 0] rfl (m_lp (J := fun (x1 : Int32 × Int32) => WM X G 5 0 0 (wQ X G (qI G (o, S)) 0 0) 5 [(0, .ref (G.1 + b0)), (1, .int p1), (2, .int p2), (3, .int x1.1), (4, .int x1.2)] [] S) h (fun self1 hself1 x1 h => ?_))
  refine m_iload C (dOf DX3_sumOf 4 rfl) 4 rfl ?_
  refine m_iload_n C (dOf DX3_sumOf 5 rfl) rfl 2 rfl ?_
  refine m_icmpge C (dOf DX3_sumOf 6 rfl) (tgt := 31) rfl h (fun h => ?_) (fun h => ?_)
  · refine m_iload_n C (dOf DX3_sumOf 18 rfl) rfl 3 rfl ?_
    exact m_iretP C rfl (dOf DX3_sumOf 19 rfl) h
  · refine m_iload_n C (dOf DX3_sumOf 7 rfl) rfl 3 rfl ?_
    refine m_aload_n C (dOf DX3_sumOf 8 rfl) rfl 0 rfl ?_
    refine m_gR C (dOf DX3_sumOf 9 rfl) kf_X3_9 fg_3_0 h (fun a2 h => ?_)
    refine m_iload_n C (dOf DX3_sumOf 10 rfl) rfl 1 rfl ?_
    refine m_iload C (dOf DX3_sumOf 11 rfl) 4 rfl ?_
    refine m_iadd C (dOf DX3_sumOf 12 rfl) h (fun v3 h => ?_)
    refine m_cP (st := [.int x1.1]) h (fun o' ho H locs ls hl hr hs => ⟨_, m_runSN C (dOf DX3_sumOf 13 rfl) kn_X3_59 ks_X8_at (by decide) ⟨rfl, rfl⟩ (c_X8_at _ G _ _ _ o' ho) rfl rfl (Nat.le_of_ble_eq_true rfl) ⟨Nat.le_refl _, Nat.le_refl _⟩ hl hr hs⟩) (fun v4 h => ?_)
    refine m_iadd C (dOf DX3_sumOf 14 rfl) h (fun v5 h => ?_)
    refine m_istore_n C (dOf DX3_sumOf 15 rfl) rfl (by decide) (lv' := [(3, .int v5), (0, .ref (G.1 + b0)), (1, .int p1), (2, .int p2), (4, .int x1.2)]) rfl ?_
    refine m_iinc C (dOf DX3_sumOf 16 rfl) (w := 1) ki_1 4 rfl (by decide) h (fun v6 h => ⟨[(4, .int v6), (3, .int v5), (0, .ref (G.1 + b0)), (1, .int p1), (2, .int p2)], rfl, ?_⟩)
    refine m_goto C (dOf DX3_sumOf 17 rfl) (tgt := 5) rfl ?_
    exact m_sub [2, 3, 4, 1, 0] rfl (hself1 _ h)
/-- TraceRing$Page.kindAt(I)I -/
def f_X3_kindAt (S : St) (b0 : Nat) (p1 : Int32) : Option Int32 :=
  gR_ S b0 3 0 fun a1 =>
  cP_ (f_X8_at S a1 p1) fun v2 =>
  if v2 < 240 then
    jn_ (fun (x3 : Int32) =>
      rt_ x3
    ) fun j3 =>
    if v2 < 224 then
      j3 (0)
    else
      j3 (1)
  else
    rt_ 2
set_option maxRecDepth 100000 in
set_option maxHeartbeats 4000000 in
theorem c_X3_kindAt (l : Launch) (G : Gx) (S : St) (b0 : Nat) (p1 : Int32) (o : Int32) (h : f_X3_kindAt S b0 p1 = some o) : Met l yX3_kindAt (Cond.code yX3_kindAt cX3_kindAt 3 (some (.int)) :: wAll) ({ frames := 1, cells := 0, slots := 0, locals := 21 } : Room) (va_Pc [.ref (G.1 + b0), .int p1] (wPre G S)) (qI G (o, S)) 0 0 (wA G) := by
  refine m_start (by decide +kernel) (Nat.le_of_ble_eq_true rfl) (fun X C => ?_)
  unfold f_X3_kindAt at h
  show WM X G 3 0 0 (wQ X G (qI G (o, S)) 0 0) 0 [(0, .ref (G.1 + b0)), (1, .int p1)] [] S
  refine m_aload_n C (dOf DX3_kindAt 0 rfl) rfl 0 rfl ?_
  refine m_gR C (dOf DX3_kindAt 1 rfl) kf_X3_9 fg_3_0 h (fun a1 h => ?_)
  refine m_iload_n C (dOf DX3_kindAt 2 rfl) rfl 1 rfl ?_
  refine m_cP (st := []) h (fun o' ho H locs ls hl hr hs => ⟨_, m_runSN C (dOf DX3_kindAt 3 rfl) kn_X3_59 ks_X8_at (by decide) ⟨rfl, rfl⟩ (c_X8_at _ G _ _ _ o' ho) rfl rfl (Nat.le_of_ble_eq_true rfl) ⟨Nat.le_refl _, Nat.le_refl _⟩ hl hr hs⟩) (fun v2 h => ?_)
  refine m_istore_n C (dOf DX3_kindAt 4 rfl) rfl (by decide) (lv' := [(2, .int v2), (0, .ref (G.1 + b0)), (1, .int p1)]) rfl ?_
  refine m_iload_n C (dOf DX3_kindAt 5 rfl) rfl 0 rfl ?_
  refine m_sipush C (dOf DX3_kindAt 6 rfl) (v := 240) ks_240 ?_
  refine m_icmplt C (dOf DX3_kindAt 7 rfl) (tgt := 18) rfl h (fun h => ?_) (fun h => ?_)
  · refine m_iload_n C (dOf DX3_kindAt 10 rfl) rfl 0 rfl ?_
    refine m_sipush C (dOf DX3_kindAt 11 rfl) (v := 224) ks_224 ?_
    refine m_jn (J := fun (x3 : Int32) => WM X G 3 0 0 (wQ X G (qI G (o, S)) 0 0) 30 [] [.int x3] S) h (fun x3 h => ?_) (fun j3 hj3 h => ?_)
    · exact m_iretP C rfl (dOf DX3_kindAt 16 rfl) h
    refine m_icmplt C (dOf DX3_kindAt 12 rfl) (tgt := 29) rfl h (fun h => ?_) (fun h => ?_)
    · refine m_iconst C (dOf DX3_kindAt 15 rfl) (v := 0) ki_0 ?_
      exact m_sub [] rfl (hj3 _ h)
    · refine m_iconst C (dOf DX3_kindAt 13 rfl) (v := 1) ki_1 ?_
      refine m_goto C (dOf DX3_kindAt 14 rfl) (tgt := 30) rfl ?_
      exact m_sub [] rfl (hj3 _ h)
  · refine m_iconst C (dOf DX3_kindAt 8 rfl) (v := 2) ki_2 ?_
    exact m_iretP C rfl (dOf DX3_kindAt 9 rfl) h
/-- TraceRing$Page.dataAt(I)I -/
def f_X3_dataAt (S : St) (b0 : Nat) (p1 : Int32) : Option Int32 :=
  ck_ S b0 3 <| cP_ (f_X3_kindAt S b0 p1) fun v1 =>
  if v1 = 0 then
    gR_ S b0 3 0 fun a2 =>
    cP_ (f_X8_at S a2 p1) fun v3 =>
    dv_ v3 16 fun v4 =>
    rt_ v4
  else
  if v1 = 1 then
    gR_ S b0 3 0 fun a5 =>
    lt_ (p1 + 1 : Int32) fun v6 =>
    cP_ (f_X8_at S a5 v6) fun v7 =>
    rt_ v7
  else
  rt_ 0
set_option maxRecDepth 100000 in
set_option maxHeartbeats 4000000 in
theorem c_X3_dataAt (l : Launch) (G : Gx) (S : St) (b0 : Nat) (p1 : Int32) (o : Int32) (h : f_X3_dataAt S b0 p1 = some o) : Met l yX3_dataAt (Cond.code yX3_dataAt cX3_dataAt 2 (some (.int)) :: wAll) ({ frames := 2, cells := 0, slots := 0, locals := 43 } : Room) (va_Pc [.ref (G.1 + b0), .int p1] (wPre G S)) (qI G (o, S)) 0 0 (wA G) := by
  refine m_start (by decide +kernel) (Nat.le_of_ble_eq_true rfl) (fun X C => ?_)
  unfold f_X3_dataAt at h
  show WM X G 2 0 0 (wQ X G (qI G (o, S)) 0 0) 0 [(0, .ref (G.1 + b0)), (1, .int p1)] [] S
  refine m_aload_n C (dOf DX3_dataAt 0 rfl) rfl 0 rfl ?_
  refine m_iload_n C (dOf DX3_dataAt 1 rfl) rfl 1 rfl ?_
  obtain ⟨hc, h⟩ := ck_spec h
  refine m_cP (st := []) h (fun o' ho H locs ls hl hr hs => ⟨_, m_runV C (dOf DX3_dataAt 2 rfl) km_X3_73 ky_X3_kindAt (by decide) ⟨rfl, rfl⟩ (c_X3_kindAt _ G _ _ _ o' ho) hc.1 hc.2 (by decide) rfl rfl rfl (Nat.le_of_ble_eq_true rfl) ⟨Nat.le_refl _, Nat.le_refl _⟩ hl hr hs⟩) (fun v1 h => ?_)
  refine m_sw h (fun e h => ?_) (fun n0 h => ?_)
  · refine m_lsw C (dOf DX3_dataAt 3 rfl) (by decide) (by rw [e]; rfl) (off := 27) (tgt := 32) rfl ?_
    refine m_aload_n C (dOf DX3_dataAt 4 rfl) rfl 0 rfl ?_
    refine m_gR C (dOf DX3_dataAt 5 rfl) kf_X3_9 fg_3_0 h (fun a2 h => ?_)
    refine m_iload_n C (dOf DX3_dataAt 6 rfl) rfl 1 rfl ?_
    refine m_cP (st := []) h (fun o' ho H locs ls hl hr hs => ⟨_, m_runSN C (dOf DX3_dataAt 7 rfl) kn_X3_59 ks_X8_at (by decide) ⟨rfl, rfl⟩ (c_X8_at _ G _ _ _ o' ho) rfl rfl (Nat.le_of_ble_eq_true rfl) ⟨Nat.le_refl _, Nat.le_refl _⟩ hl hr hs⟩) (fun v3 h => ?_)
    refine m_bipush C (dOf DX3_dataAt 8 rfl) (v := 16) kb_16 ?_
    refine m_idiv C (dOf DX3_dataAt 9 rfl) h (fun v4 h => ?_)
    exact m_iretP C rfl (dOf DX3_dataAt 10 rfl) h
  refine m_sw h (fun e h => ?_) (fun n1 h => ?_)
  · refine m_lsw C (dOf DX3_dataAt 3 rfl) (by decide) (by rw [e]; rfl) (off := 39) (tgt := 44) rfl ?_
    refine m_aload_n C (dOf DX3_dataAt 11 rfl) rfl 0 rfl ?_
    refine m_gR C (dOf DX3_dataAt 12 rfl) kf_X3_9 fg_3_0 h (fun a5 h => ?_)
    refine m_iload_n C (dOf DX3_dataAt 13 rfl) rfl 1 rfl ?_
    refine m_iconst C (dOf DX3_dataAt 14 rfl) (v := 1) ki_1 ?_
    refine m_iadd C (dOf DX3_dataAt 15 rfl) h (fun v6 h => ?_)
    refine m_cP (st := []) h (fun o' ho H locs ls hl hr hs => ⟨_, m_runSN C (dOf DX3_dataAt 16 rfl) kn_X3_59 ks_X8_at (by decide) ⟨rfl, rfl⟩ (c_X8_at _ G _ _ _ o' ho) rfl rfl (Nat.le_of_ble_eq_true rfl) ⟨Nat.le_refl _, Nat.le_refl _⟩ hl hr hs⟩) (fun v7 h => ?_)
    exact m_iretP C rfl (dOf DX3_dataAt 17 rfl) h
  refine m_lsw C (dOf DX3_dataAt 3 rfl) (by decide) (by show Op.lookupswitch.offset _ _ _ = _; rw [lv_osw n0 kt_0, lv_osw n1 kt_1]; rfl) (off := 50) (tgt := 55) rfl ?_
  refine m_iconst C (dOf DX3_dataAt 18 rfl) (v := 0) ki_0 ?_
  exact m_iretP C rfl (dOf DX3_dataAt 19 rfl) h
/-- TraceRing$Page.sizeAt(I)I -/
def f_X3_sizeAt (S : St) (b0 : Nat) (p1 : Int32) : Option Int32 :=
  ck_ S b0 3 <| cP_ (f_X3_kindAt S b0 p1) fun v1 =>
  jn_ (fun (x2 : Int32) =>
    rt_ x2
  ) fun j2 =>
  if v1 = 2 then
    j2 (3)
  else
    ck_ S b0 3 <| cP_ (f_X3_dataAt S b0 p1) fun v3 =>
    lt_ (1 + v3 : Int32) fun v4 =>
    j2 (v4)
set_option maxRecDepth 100000 in
set_option maxHeartbeats 4000000 in
theorem c_X3_sizeAt (l : Launch) (G : Gx) (S : St) (b0 : Nat) (p1 : Int32) (o : Int32) (h : f_X3_sizeAt S b0 p1 = some o) : Met l yX3_sizeAt (Cond.code yX3_sizeAt cX3_sizeAt 2 (some (.int)) :: wAll) ({ frames := 3, cells := 0, slots := 0, locals := 64 } : Room) (va_Pc [.ref (G.1 + b0), .int p1] (wPre G S)) (qI G (o, S)) 0 0 (wA G) := by
  refine m_start (by decide +kernel) (Nat.le_of_ble_eq_true rfl) (fun X C => ?_)
  unfold f_X3_sizeAt at h
  show WM X G 2 0 0 (wQ X G (qI G (o, S)) 0 0) 0 [(0, .ref (G.1 + b0)), (1, .int p1)] [] S
  refine m_aload_n C (dOf DX3_sizeAt 0 rfl) rfl 0 rfl ?_
  refine m_iload_n C (dOf DX3_sizeAt 1 rfl) rfl 1 rfl ?_
  obtain ⟨hc, h⟩ := ck_spec h
  refine m_cP (st := []) h (fun o' ho H locs ls hl hr hs => ⟨_, m_runV C (dOf DX3_sizeAt 2 rfl) km_X3_73 ky_X3_kindAt (by decide) ⟨rfl, rfl⟩ (c_X3_kindAt _ G _ _ _ o' ho) hc.1 hc.2 (by decide) rfl rfl rfl (Nat.le_of_ble_eq_true rfl) ⟨Nat.le_refl _, Nat.le_refl _⟩ hl hr hs⟩) (fun v1 h => ?_)
  refine m_iconst C (dOf DX3_sizeAt 3 rfl) (v := 2) ki_2 ?_
  refine m_jn (J := fun (x2 : Int32) => WM X G 2 0 0 (wQ X G (qI G (o, S)) 0 0) 20 [] [.int x2] S) h (fun x2 h => ?_) (fun j2 hj2 h => ?_)
  · exact m_iretP C rfl (dOf DX3_sizeAt 12 rfl) h
  refine m_icmpne C (dOf DX3_sizeAt 4 rfl) (tgt := 13) rfl h (fun h => ?_) (fun h => ?_)
  · refine m_iconst C (dOf DX3_sizeAt 7 rfl) (v := 1) ki_1 ?_
    refine m_aload_n C (dOf DX3_sizeAt 8 rfl) rfl 0 rfl ?_
    refine m_iload_n C (dOf DX3_sizeAt 9 rfl) rfl 1 rfl ?_
    obtain ⟨hc, h⟩ := ck_spec h
    refine m_cP (st := [.int 1]) h (fun o' ho H locs ls hl hr hs => ⟨_, m_runV C (dOf DX3_sizeAt 10 rfl) km_X3_76 ky_X3_dataAt (by decide) ⟨rfl, rfl⟩ (c_X3_dataAt _ G _ _ _ o' ho) hc.1 hc.2 (by decide) rfl rfl rfl (Nat.le_of_ble_eq_true rfl) ⟨Nat.le_refl _, Nat.le_refl _⟩ hl hr hs⟩) (fun v3 h => ?_)
    refine m_iadd C (dOf DX3_sizeAt 11 rfl) h (fun v4 h => ?_)
    exact m_sub [] rfl (hj2 _ h)
  · refine m_iconst C (dOf DX3_sizeAt 5 rfl) (v := 3) ki_3 ?_
    refine m_goto C (dOf DX3_sizeAt 6 rfl) (tgt := 20) rfl ?_
    exact m_sub [] rfl (hj2 _ h)
/-- TraceRing$Page.deltaToldAt(I)I -/
def f_X3_deltaToldAt (S : St) (b0 : Nat) (p1 : Int32) : Option Int32 :=
  gR_ S b0 3 0 fun a1 =>
  cP_ (f_X8_at S a1 p1) fun v2 =>
  rm_ v2 16 fun v3 =>
  ck_ S b0 3 <| cP_ (f_X3_kindAt S b0 p1) fun v4 =>
  if v4 = 2 then
    gR_ S b0 3 0 fun a5 =>
    lt_ (p1 + 1 : Int32) fun v6 =>
    cP_ (f_X8_at S a5 v6) fun v7 =>
    lt_ (16 * v7 : Int32) fun v8 =>
    lt_ (v3 + v8 : Int32) fun v9 =>
    gR_ S b0 3 0 fun a10 =>
    lt_ (p1 + 2 : Int32) fun v11 =>
    cP_ (f_X8_at S a10 v11) fun v12 =>
    lt_ (4096 * v12 : Int32) fun v13 =>
    lt_ (v9 + v13 : Int32) fun v14 =>
    rt_ v14
  else
    rt_ v3
set_option maxRecDepth 100000 in
set_option maxHeartbeats 4000000 in
theorem c_X3_deltaToldAt (l : Launch) (G : Gx) (S : St) (b0 : Nat) (p1 : Int32) (o : Int32) (h : f_X3_deltaToldAt S b0 p1 = some o) : Met l yX3_deltaToldAt (Cond.code yX3_deltaToldAt cX3_deltaToldAt 3 (some (.int)) :: wAll) ({ frames := 2, cells := 0, slots := 0, locals := 43 } : Room) (va_Pc [.ref (G.1 + b0), .int p1] (wPre G S)) (qI G (o, S)) 0 0 (wA G) := by
  refine m_start (by decide +kernel) (Nat.le_of_ble_eq_true rfl) (fun X C => ?_)
  unfold f_X3_deltaToldAt at h
  show WM X G 3 0 0 (wQ X G (qI G (o, S)) 0 0) 0 [(0, .ref (G.1 + b0)), (1, .int p1)] [] S
  refine m_aload_n C (dOf DX3_deltaToldAt 0 rfl) rfl 0 rfl ?_
  refine m_gR C (dOf DX3_deltaToldAt 1 rfl) kf_X3_9 fg_3_0 h (fun a1 h => ?_)
  refine m_iload_n C (dOf DX3_deltaToldAt 2 rfl) rfl 1 rfl ?_
  refine m_cP (st := []) h (fun o' ho H locs ls hl hr hs => ⟨_, m_runSN C (dOf DX3_deltaToldAt 3 rfl) kn_X3_59 ks_X8_at (by decide) ⟨rfl, rfl⟩ (c_X8_at _ G _ _ _ o' ho) rfl rfl (Nat.le_of_ble_eq_true rfl) ⟨Nat.le_refl _, Nat.le_refl _⟩ hl hr hs⟩) (fun v2 h => ?_)
  refine m_bipush C (dOf DX3_deltaToldAt 4 rfl) (v := 16) kb_16 ?_
  refine m_irem C (dOf DX3_deltaToldAt 5 rfl) h (fun v3 h => ?_)
  refine m_istore_n C (dOf DX3_deltaToldAt 6 rfl) rfl (by decide) (lv' := [(2, .int v3), (0, .ref (G.1 + b0)), (1, .int p1)]) rfl ?_
  refine m_aload_n C (dOf DX3_deltaToldAt 7 rfl) rfl 1 rfl ?_
  refine m_iload_n C (dOf DX3_deltaToldAt 8 rfl) rfl 2 rfl ?_
  obtain ⟨hc, h⟩ := ck_spec h
  refine m_cP (st := []) h (fun o' ho H locs ls hl hr hs => ⟨_, m_runV C (dOf DX3_deltaToldAt 9 rfl) km_X3_73 ky_X3_kindAt (by decide) ⟨rfl, rfl⟩ (c_X3_kindAt _ G _ _ _ o' ho) hc.1 hc.2 (by decide) rfl rfl rfl (Nat.le_of_ble_eq_true rfl) ⟨Nat.le_refl _, Nat.le_refl _⟩ hl hr hs⟩) (fun v4 h => ?_)
  refine m_iconst C (dOf DX3_deltaToldAt 10 rfl) (v := 2) ki_2 ?_
  refine m_icmpeq C (dOf DX3_deltaToldAt 11 rfl) (tgt := 23) rfl h (fun h => ?_) (fun h => ?_)
  · refine m_iload_n C (dOf DX3_deltaToldAt 14 rfl) rfl 0 rfl ?_
    refine m_bipush C (dOf DX3_deltaToldAt 15 rfl) (v := 16) kb_16 ?_
    refine m_aload_n C (dOf DX3_deltaToldAt 16 rfl) rfl 1 rfl ?_
    refine m_gR C (dOf DX3_deltaToldAt 17 rfl) kf_X3_9 fg_3_0 h (fun a5 h => ?_)
    refine m_iload_n C (dOf DX3_deltaToldAt 18 rfl) rfl 2 rfl ?_
    refine m_iconst C (dOf DX3_deltaToldAt 19 rfl) (v := 1) ki_1 ?_
    refine m_iadd C (dOf DX3_deltaToldAt 20 rfl) h (fun v6 h => ?_)
    refine m_cP (st := [.int 16, .int v3]) h (fun o' ho H locs ls hl hr hs => ⟨_, m_runSN C (dOf DX3_deltaToldAt 21 rfl) kn_X3_59 ks_X8_at (by decide) ⟨rfl, rfl⟩ (c_X8_at _ G _ _ _ o' ho) rfl rfl (Nat.le_of_ble_eq_true rfl) ⟨Nat.le_refl _, Nat.le_refl _⟩ hl hr hs⟩) (fun v7 h => ?_)
    refine m_imul C (dOf DX3_deltaToldAt 22 rfl) h (fun v8 h => ?_)
    refine m_iadd C (dOf DX3_deltaToldAt 23 rfl) h (fun v9 h => ?_)
    refine m_sipush C (dOf DX3_deltaToldAt 24 rfl) (v := 4096) ks_4096 ?_
    refine m_aload_n C (dOf DX3_deltaToldAt 25 rfl) rfl 1 rfl ?_
    refine m_gR C (dOf DX3_deltaToldAt 26 rfl) kf_X3_9 fg_3_0 h (fun a10 h => ?_)
    refine m_iload_n C (dOf DX3_deltaToldAt 27 rfl) rfl 2 rfl ?_
    refine m_iconst C (dOf DX3_deltaToldAt 28 rfl) (v := 2) ki_2 ?_
    refine m_iadd C (dOf DX3_deltaToldAt 29 rfl) h (fun v11 h => ?_)
    refine m_cP (st := [.int 4096, .int v9]) h (fun o' ho H locs ls hl hr hs => ⟨_, m_runSN C (dOf DX3_deltaToldAt 30 rfl) kn_X3_59 ks_X8_at (by decide) ⟨rfl, rfl⟩ (c_X8_at _ G _ _ _ o' ho) rfl rfl (Nat.le_of_ble_eq_true rfl) ⟨Nat.le_refl _, Nat.le_refl _⟩ hl hr hs⟩) (fun v12 h => ?_)
    refine m_imul C (dOf DX3_deltaToldAt 31 rfl) h (fun v13 h => ?_)
    refine m_iadd C (dOf DX3_deltaToldAt 32 rfl) h (fun v14 h => ?_)
    exact m_iretP C rfl (dOf DX3_deltaToldAt 33 rfl) h
  · refine m_iload_n C (dOf DX3_deltaToldAt 12 rfl) rfl 0 rfl ?_
    exact m_iretP C rfl (dOf DX3_deltaToldAt 13 rfl) h
/-- TraceRing$Page.howManyLie()I -/
def f_X3_howManyLie (S : St) (b0 : Nat) : Option Int32 :=
  lp_ (fun self1 (x1 : Int32 × Int32 × Int32) =>
    jn_ (fun (x2 : Unit) =>
      rt_ x1.1
    ) fun j2 =>
    if 32 ≤ x1.2.2 then
      j2 ()
    else
      gI_ S b0 3 9 fun v3 =>
      if v3 ≤ x1.2.1 then
        j2 ()
      else
        ck_ S b0 3 <| cP_ (f_X3_sizeAt S b0 x1.2.1) fun v4 =>
        lt_ (x1.2.1 + v4 : Int32) fun v5 =>
        lt_ (x1.1 + 1) fun v6 =>
        lt_ (x1.2.2 + 1) fun v7 =>
        self1 (v6, v5, v7)
  ) FU (0, 0, 0)
set_option maxRecDepth 100000 in
set_option maxHeartbeats 4000000 in
theorem c_X3_howManyLie (l : Launch) (G : Gx) (S : St) (b0 : Nat) (o : Int32) (h : f_X3_howManyLie S b0 = some o) : Met l yX3_howManyLie (Cond.code yX3_howManyLie cX3_howManyLie 4 (some (.int)) :: wAll) ({ frames := 4, cells := 0, slots := 0, locals := 85 } : Room) (va_Pc [.ref (G.1 + b0)] (wPre G S)) (qI G (o, S)) 0 0 (wA G) := by
  refine m_start (by decide +kernel) (Nat.le_of_ble_eq_true rfl) (fun X C => ?_)
  unfold f_X3_howManyLie at h
  show WM X G 4 0 0 (wQ X G (qI G (o, S)) 0 0) 0 [(0, .ref (G.1 + b0))] [] S
  refine m_iconst C (dOf DX3_howManyLie 0 rfl) (v := 0) ki_0 ?_
  refine m_istore_n C (dOf DX3_howManyLie 1 rfl) rfl (by decide) (lv' := [(1, .int 0), (0, .ref (G.1 + b0))]) rfl ?_
  refine m_iconst C (dOf DX3_howManyLie 2 rfl) (v := 0) ki_0 ?_
  refine m_istore_n C (dOf DX3_howManyLie 3 rfl) rfl (by decide) (lv' := [(2, .int 0), (1, .int 0), (0, .ref (G.1 + b0))]) rfl ?_
  refine m_iconst C (dOf DX3_howManyLie 4 rfl) (v := 0) ki_0 ?_
  refine m_istore_n C (dOf DX3_howManyLie 5 rfl) rfl (by decide) (lv' := [(3, .int 0), (2, .int 0), (1, .int 0), (0, .ref (G.1 + b0))]) rfl ?_
  refine m_sub [3, 2, 1, 0] rfl (m_lp (J := fun (x1 : Int32 × Int32 × Int32) => WM X G 4 0 0 (wQ X G (qI G (o, S)) 0 0) 6 [(0, .ref (G.1 + b0)), (1, .int x1.1), (2, .int x1.2.1), (3, .int x1.2.2)] [] S) h (fun self1 hself1 x1 h => ?_))
  refine m_iload_n C (dOf DX3_howManyLie 6 rfl) rfl 3 rfl ?_
  refine m_bipush C (dOf DX3_howManyLie 7 rfl) (v := 32) kb_32 ?_
  refine m_jn (J := fun (x2 : Unit) => WM X G 4 0 0 (wQ X G (qI G (o, S)) 0 0) 37 [(1, .int x1.1)] [] S) h (fun x2 h => ?_) (fun j2 hj2 h => ?_)
  · refine m_iload_n C (dOf DX3_howManyLie 22 rfl) rfl 0 rfl ?_
    exact m_iretP C rfl (dOf DX3_howManyLie 23 rfl) h
  refine m_icmpge C (dOf DX3_howManyLie 8 rfl) (tgt := 37) rfl h (fun h => ?_) (fun h => ?_)
  · exact m_sub [1] rfl (hj2 _ h)
  · refine m_iload_n C (dOf DX3_howManyLie 9 rfl) rfl 2 rfl ?_
    refine m_aload_n C (dOf DX3_howManyLie 10 rfl) rfl 0 rfl ?_
    refine m_gI C (dOf DX3_howManyLie 11 rfl) kf_X3_41 fg_3_9 h (fun v3 h => ?_)
    refine m_icmpge C (dOf DX3_howManyLie 12 rfl) (tgt := 37) rfl h (fun h => ?_) (fun h => ?_)
    · exact m_sub [1] rfl (hj2 _ h)
    · refine m_iload_n C (dOf DX3_howManyLie 13 rfl) rfl 2 rfl ?_
      refine m_aload_n C (dOf DX3_howManyLie 14 rfl) rfl 0 rfl ?_
      refine m_iload_n C (dOf DX3_howManyLie 15 rfl) rfl 2 rfl ?_
      obtain ⟨hc, h⟩ := ck_spec h
      refine m_cP (st := [.int x1.2.1]) h (fun o' ho H locs ls hl hr hs => ⟨_, m_runV C (dOf DX3_howManyLie 16 rfl) km_X3_79 ky_X3_sizeAt (by decide) ⟨rfl, rfl⟩ (c_X3_sizeAt _ G _ _ _ o' ho) hc.1 hc.2 (by decide) rfl rfl rfl (Nat.le_of_ble_eq_true rfl) ⟨Nat.le_refl _, Nat.le_refl _⟩ hl hr hs⟩) (fun v4 h => ?_)
      refine m_iadd C (dOf DX3_howManyLie 17 rfl) h (fun v5 h => ?_)
      refine m_istore_n C (dOf DX3_howManyLie 18 rfl) rfl (by decide) (lv' := [(2, .int v5), (0, .ref (G.1 + b0)), (1, .int x1.1), (3, .int x1.2.2)]) rfl ?_
      refine m_iinc C (dOf DX3_howManyLie 19 rfl) (w := 1) ki_1 2 rfl (by decide) h (fun v6 h => ⟨[(1, .int v6), (2, .int v5), (0, .ref (G.1 + b0)), (3, .int x1.2.2)], rfl, ?_⟩)
      refine m_iinc C (dOf DX3_howManyLie 20 rfl) (w := 1) ki_1 3 rfl (by decide) h (fun v7 h => ⟨[(3, .int v7), (1, .int v6), (2, .int v5), (0, .ref (G.1 + b0))], rfl, ?_⟩)
      refine m_goto C (dOf DX3_howManyLie 21 rfl) (tgt := 6) rfl ?_
      exact m_sub [3, 1, 2, 0] rfl (hself1 _ h)
/-- TraceRing$Page.parse(II)I -/
def f_X3_parse (S : St) (b0 : Nat) (p1 : Int32) (p2 : Int32) : Option Int32 :=
  if 0 ≤ p1 then
    gR_ S b0 3 3 fun a1 =>
    cP_ (f_X8_at S a1 0) fun v2 =>
    lp_ (fun self3 (x3 : Int32 × Int32 × Int32) =>
      jn_ (fun (x4 : Unit) =>
        gI_ S b0 3 9 fun v5 =>
        if x3.1 < v5 then
          ck_ S b0 3 <| cP_ (f_X3_deltaToldAt S b0 x3.1) fun v6 =>
          if p2 = 0 then
            ck_ S b0 3 <| cP_ (f_X3_kindAt S b0 x3.1) fun v7 =>
            rt_ v7
          else
          if p2 = 1 then
            rt_ x3.1
          else
          if p2 = 2 then
            ck_ S b0 3 <| cP_ (f_X3_sizeAt S b0 x3.1) fun v8 =>
            rt_ v8
          else
          if p2 = 3 then
            ck_ S b0 3 <| cP_ (f_X3_kindAt S b0 x3.1) fun v9 =>
            jn_ (fun (x10 : Int32) =>
              rt_ x10
            ) fun j10 =>
            if v9 = 2 then
              j10 (v6)
            else
              lt_ (x3.2.1 + v6 : Int32) fun v11 =>
              j10 (v11)
          else
          if p2 = 4 then
            ck_ S b0 3 <| cP_ (f_X3_dataAt S b0 x3.1) fun v12 =>
            rt_ v12
          else
          rt_ (-2)
        else
          rt_ (-2)
      ) fun j4 =>
      if p1 ≤ x3.2.2 then
        j4 ()
      else
        gI_ S b0 3 9 fun v13 =>
        if v13 ≤ x3.1 then
          j4 ()
        else
          ck_ S b0 3 <| cP_ (f_X3_deltaToldAt S b0 x3.1) fun v14 =>
          lt_ (x3.2.1 + v14 : Int32) fun v15 =>
          ck_ S b0 3 <| cP_ (f_X3_sizeAt S b0 x3.1) fun v16 =>
          lt_ (x3.1 + v16 : Int32) fun v17 =>
          lt_ (x3.2.2 + 1) fun v18 =>
          self3 (v17, v15, v18)
    ) FU (0, v2, 0)
  else
    rt_ (-2)
set_option maxRecDepth 100000 in
set_option maxHeartbeats 4000000 in
theorem c_X3_parse (l : Launch) (G : Gx) (S : St) (b0 : Nat) (p1 : Int32) (p2 : Int32) (o : Int32) (h : f_X3_parse S b0 p1 p2 = some o) : Met l yX3_parse (Cond.code yX3_parse cX3_parse 6 (some (.int)) :: wAll) ({ frames := 4, cells := 0, slots := 0, locals := 85 } : Room) (va_Pc [.ref (G.1 + b0), .int p1, .int p2] (wPre G S)) (qI G (o, S)) 0 0 (wA G) := by
  refine m_start (by decide +kernel) (Nat.le_of_ble_eq_true rfl) (fun X C => ?_)
  unfold f_X3_parse at h
  show WM X G 6 0 0 (wQ X G (qI G (o, S)) 0 0) 0 [(0, .ref (G.1 + b0)), (1, .int p1), (2, .int p2)] [] S
  refine m_iload_n C (dOf DX3_parse 0 rfl) rfl 1 rfl ?_
  refine m_ifge C (dOf DX3_parse 1 rfl) (tgt := 7) rfl h (fun h => ?_) (fun h => ?_)
  · refine m_iconst C (dOf DX3_parse 4 rfl) (v := 0) ki_0 ?_
    refine m_istore_n C (dOf DX3_parse 5 rfl) rfl (by decide) (lv' := [(3, .int 0), (0, .ref (G.1 + b0)), (1, .int p1), (2, .int p2)]) rfl ?_
    refine m_aload_n C (dOf DX3_parse 6 rfl) rfl 1 rfl ?_
    refine m_gR C (dOf DX3_parse 7 rfl) kf_X3_21 fg_3_3 h (fun a1 h => ?_)
    refine m_iconst C (dOf DX3_parse 8 rfl) (v := 0) ki_0 ?_
    refine m_cP (st := []) h (fun o' ho H locs ls hl hr hs => ⟨_, m_runSN C (dOf DX3_parse 9 rfl) kn_X3_59 ks_X8_at (by decide) ⟨rfl, rfl⟩ (c_X8_at _ G _ _ _ o' ho) rfl rfl (Nat.le_of_ble_eq_true rfl) ⟨Nat.le_refl _, Nat.le_refl _⟩ hl hr hs⟩) (fun v2 h => ?_)
    refine m_istore C (dOf DX3_parse 10 rfl) (by decide) (lv' := [(4, .int v2), (3, .int 0), (0, .ref (G.1 + b0)), (1, .int p1), (2, .int p2)]) rfl ?_
    refine m_iconst C (dOf DX3_parse 11 rfl) (v := 0) ki_0 ?_
    refine m_istore C (dOf DX3_parse 12 rfl) (by decide) (lv' := [(5, .int 0), (4, .int v2), (3, .int 0), (0, .ref (G.1 + b0)), (1, .int p1), (2, .int p2)]) rfl ?_
    refine m_sub [3, 4, 5, 2, 1, 0] rfl (m_lp (J := fun (x3 : Int32 × Int32 × Int32) => WM X G 6 0 0 (wQ X G (qI G (o, S)) 0 0) 22 [(0, .ref (G.1 + b0)), (1, .int p1), (2, .int p2), (3, .int x3.1), (4, .int x3.2.1), (5, .int x3.2.2)] [] S) h (fun self3 hself3 x3 h => ?_))
    refine m_iload C (dOf DX3_parse 13 rfl) 5 rfl ?_
    refine m_iload_n C (dOf DX3_parse 14 rfl) rfl 1 rfl ?_
    refine m_jn (J := fun (x4 : Unit) => WM X G 6 0 0 (wQ X G (qI G (o, S)) 0 0) 60 [(0, .ref (G.1 + b0)), (2, .int p2), (3, .int x3.1), (4, .int x3.2.1)] [] S) h (fun x4 h => ?_) (fun j4 hj4 h => ?_)
    · refine m_iload_n C (dOf DX3_parse 34 rfl) rfl 2 rfl ?_
      refine m_aload_n C (dOf DX3_parse 35 rfl) rfl 0 rfl ?_
      refine m_gI C (dOf DX3_parse 36 rfl) kf_X3_41 fg_3_9 h (fun v5 h => ?_)
      refine m_icmplt C (dOf DX3_parse 37 rfl) (tgt := 71) rfl h (fun h => ?_) (fun h => ?_)
      · refine m_aload_n C (dOf DX3_parse 40 rfl) rfl 0 rfl ?_
        refine m_iload_n C (dOf DX3_parse 41 rfl) rfl 2 rfl ?_
        obtain ⟨hc, h⟩ := ck_spec h
        refine m_cP (st := []) h (fun o' ho H locs ls hl hr hs => ⟨_, m_runV C (dOf DX3_parse 42 rfl) km_X3_82 ky_X3_deltaToldAt (by decide) ⟨rfl, rfl⟩ (c_X3_deltaToldAt _ G _ _ _ o' ho) hc.1 hc.2 (by decide) rfl rfl rfl (Nat.le_of_ble_eq_true rfl) ⟨Nat.le_refl _, Nat.le_refl _⟩ hl hr hs⟩) (fun v6 h => ?_)
        refine m_istore C (dOf DX3_parse 43 rfl) (by decide) (lv' := [(5, .int v6), (0, .ref (G.1 + b0)), (2, .int p2), (3, .int x3.1), (4, .int x3.2.1)]) rfl ?_
        refine m_iload_n C (dOf DX3_parse 44 rfl) rfl 2 rfl ?_
        refine m_sw h (fun e h => ?_) (fun n0 h => ?_)
        · refine m_tin C (dOf DX3_parse 45 rfl) 0 e (by decide) (by decide) (off := 33) rfl (tgt := 112) rfl ?_
          refine m_aload_n C (dOf DX3_parse 46 rfl) rfl 1 rfl ?_
          refine m_iload_n C (dOf DX3_parse 47 rfl) rfl 3 rfl ?_
          obtain ⟨hc, h⟩ := ck_spec h
          refine m_cP (st := []) h (fun o' ho H locs ls hl hr hs => ⟨_, m_runV C (dOf DX3_parse 48 rfl) km_X3_73 ky_X3_kindAt (by decide) ⟨rfl, rfl⟩ (c_X3_kindAt _ G _ _ _ o' ho) hc.1 hc.2 (by decide) rfl rfl rfl (Nat.le_of_ble_eq_true rfl) ⟨Nat.le_refl _, Nat.le_refl _⟩ hl hr hs⟩) (fun v7 h => ?_)
          exact m_iretP C rfl (dOf DX3_parse 49 rfl) h
        refine m_sw h (fun e h => ?_) (fun n1 h => ?_)
        · refine m_tin C (dOf DX3_parse 45 rfl) 1 e (by decide) (by decide) (off := 39) rfl (tgt := 118) rfl ?_
          refine m_iload_n C (dOf DX3_parse 50 rfl) rfl 3 rfl ?_
          exact m_iretP C rfl (dOf DX3_parse 51 rfl) h
        refine m_sw h (fun e h => ?_) (fun n2 h => ?_)
        · refine m_tin C (dOf DX3_parse 45 rfl) 2 e (by decide) (by decide) (off := 41) rfl (tgt := 120) rfl ?_
          refine m_aload_n C (dOf DX3_parse 52 rfl) rfl 1 rfl ?_
          refine m_iload_n C (dOf DX3_parse 53 rfl) rfl 3 rfl ?_
          obtain ⟨hc, h⟩ := ck_spec h
          refine m_cP (st := []) h (fun o' ho H locs ls hl hr hs => ⟨_, m_runV C (dOf DX3_parse 54 rfl) km_X3_79 ky_X3_sizeAt (by decide) ⟨rfl, rfl⟩ (c_X3_sizeAt _ G _ _ _ o' ho) hc.1 hc.2 (by decide) rfl rfl rfl (Nat.le_of_ble_eq_true rfl) ⟨Nat.le_refl _, Nat.le_refl _⟩ hl hr hs⟩) (fun v8 h => ?_)
          exact m_iretP C rfl (dOf DX3_parse 55 rfl) h
        refine m_sw h (fun e h => ?_) (fun n3 h => ?_)
        · refine m_tin C (dOf DX3_parse 45 rfl) 3 e (by decide) (by decide) (off := 47) rfl (tgt := 126) rfl ?_
          refine m_aload_n C (dOf DX3_parse 56 rfl) rfl 1 rfl ?_
          refine m_iload_n C (dOf DX3_parse 57 rfl) rfl 3 rfl ?_
          obtain ⟨hc, h⟩ := ck_spec h
          refine m_cP (st := []) h (fun o' ho H locs ls hl hr hs => ⟨_, m_runV C (dOf DX3_parse 58 rfl) km_X3_73 ky_X3_kindAt (by decide) ⟨rfl, rfl⟩ (c_X3_kindAt _ G _ _ _ o' ho) hc.1 hc.2 (by decide) rfl rfl rfl (Nat.le_of_ble_eq_true rfl) ⟨Nat.le_refl _, Nat.le_refl _⟩ hl hr hs⟩) (fun v9 h => ?_)
          refine m_iconst C (dOf DX3_parse 59 rfl) (v := 2) ki_2 ?_
          refine m_jn (J := fun (x10 : Int32) => WM X G 6 0 0 (wQ X G (qI G (o, S)) 0 0) 145 [] [.int x10] S) h (fun x10 h => ?_) (fun j10 hj10 h => ?_)
          · exact m_iretP C rfl (dOf DX3_parse 66 rfl) h
          refine m_icmpne C (dOf DX3_parse 60 rfl) (tgt := 140) rfl h (fun h => ?_) (fun h => ?_)
          · refine m_iload C (dOf DX3_parse 63 rfl) 4 rfl ?_
            refine m_iload C (dOf DX3_parse 64 rfl) 0 rfl ?_
            refine m_iadd C (dOf DX3_parse 65 rfl) h (fun v11 h => ?_)
            exact m_sub [] rfl (hj10 _ h)
          · refine m_iload C (dOf DX3_parse 61 rfl) 0 rfl ?_
            refine m_goto C (dOf DX3_parse 62 rfl) (tgt := 145) rfl ?_
            exact m_sub [] rfl (hj10 _ h)
        refine m_sw h (fun e h => ?_) (fun n4 h => ?_)
        · refine m_tin C (dOf DX3_parse 45 rfl) 4 e (by decide) (by decide) (off := 67) rfl (tgt := 146) rfl ?_
          refine m_aload_n C (dOf DX3_parse 67 rfl) rfl 1 rfl ?_
          refine m_iload_n C (dOf DX3_parse 68 rfl) rfl 3 rfl ?_
          obtain ⟨hc, h⟩ := ck_spec h
          refine m_cP (st := []) h (fun o' ho H locs ls hl hr hs => ⟨_, m_runV C (dOf DX3_parse 69 rfl) km_X3_76 ky_X3_dataAt (by decide) ⟨rfl, rfl⟩ (c_X3_dataAt _ G _ _ _ o' ho) hc.1 hc.2 (by decide) rfl rfl rfl (Nat.le_of_ble_eq_true rfl) ⟨Nat.le_refl _, Nat.le_refl _⟩ hl hr hs⟩) (fun v12 h => ?_)
          exact m_iretP C rfl (dOf DX3_parse 70 rfl) h
        have qn0 := neT n0 kt_0
        have qn1 := neT n1 kt_1
        have qn2 := neT n2 kt_2
        have qn3 := neT n3 kt_3
        have qn4 := neT n4 kt_4
        refine m_tout C (dOf DX3_parse 45 rfl) (tgt := 152) (by omega) rfl ?_
        refine m_bipush C (dOf DX3_parse 71 rfl) (v := (-2)) kb_m2 ?_
        exact m_iretP C rfl (dOf DX3_parse 72 rfl) h
      · refine m_bipush C (dOf DX3_parse 38 rfl) (v := (-2)) kb_m2 ?_
        exact m_iretP C rfl (dOf DX3_parse 39 rfl) h
    refine m_icmpge C (dOf DX3_parse 15 rfl) (tgt := 60) rfl h (fun h => ?_) (fun h => ?_)
    · exact m_sub [0, 2, 3, 4] rfl (hj4 _ h)
    · refine m_iload_n C (dOf DX3_parse 16 rfl) rfl 3 rfl ?_
      refine m_aload_n C (dOf DX3_parse 17 rfl) rfl 0 rfl ?_
      refine m_gI C (dOf DX3_parse 18 rfl) kf_X3_41 fg_3_9 h (fun v13 h => ?_)
      refine m_icmpge C (dOf DX3_parse 19 rfl) (tgt := 60) rfl h (fun h => ?_) (fun h => ?_)
      · exact m_sub [0, 2, 3, 4] rfl (hj4 _ h)
      · refine m_iload C (dOf DX3_parse 20 rfl) 4 rfl ?_
        refine m_aload_n C (dOf DX3_parse 21 rfl) rfl 0 rfl ?_
        refine m_iload_n C (dOf DX3_parse 22 rfl) rfl 3 rfl ?_
        obtain ⟨hc, h⟩ := ck_spec h
        refine m_cP (st := [.int x3.2.1]) h (fun o' ho H locs ls hl hr hs => ⟨_, m_runV C (dOf DX3_parse 23 rfl) km_X3_82 ky_X3_deltaToldAt (by decide) ⟨rfl, rfl⟩ (c_X3_deltaToldAt _ G _ _ _ o' ho) hc.1 hc.2 (by decide) rfl rfl rfl (Nat.le_of_ble_eq_true rfl) ⟨Nat.le_refl _, Nat.le_refl _⟩ hl hr hs⟩) (fun v14 h => ?_)
        refine m_iadd C (dOf DX3_parse 24 rfl) h (fun v15 h => ?_)
        refine m_istore C (dOf DX3_parse 25 rfl) (by decide) (lv' := [(4, .int v15), (0, .ref (G.1 + b0)), (1, .int p1), (2, .int p2), (3, .int x3.1), (5, .int x3.2.2)]) rfl ?_
        refine m_iload_n C (dOf DX3_parse 26 rfl) rfl 4 rfl ?_
        refine m_aload_n C (dOf DX3_parse 27 rfl) rfl 1 rfl ?_
        refine m_iload_n C (dOf DX3_parse 28 rfl) rfl 4 rfl ?_
        obtain ⟨hc, h⟩ := ck_spec h
        refine m_cP (st := [.int x3.1]) h (fun o' ho H locs ls hl hr hs => ⟨_, m_runV C (dOf DX3_parse 29 rfl) km_X3_79 ky_X3_sizeAt (by decide) ⟨rfl, rfl⟩ (c_X3_sizeAt _ G _ _ _ o' ho) hc.1 hc.2 (by decide) rfl rfl rfl (Nat.le_of_ble_eq_true rfl) ⟨Nat.le_refl _, Nat.le_refl _⟩ hl hr hs⟩) (fun v16 h => ?_)
        refine m_iadd C (dOf DX3_parse 30 rfl) h (fun v17 h => ?_)
        refine m_istore_n C (dOf DX3_parse 31 rfl) rfl (by decide) (lv' := [(3, .int v17), (4, .int v15), (0, .ref (G.1 + b0)), (1, .int p1), (2, .int p2), (5, .int x3.2.2)]) rfl ?_
        refine m_iinc C (dOf DX3_parse 32 rfl) (w := 1) ki_1 5 rfl (by decide) h (fun v18 h => ⟨[(5, .int v18), (3, .int v17), (4, .int v15), (0, .ref (G.1 + b0)), (1, .int p1), (2, .int p2)], rfl, ?_⟩)
        refine m_goto C (dOf DX3_parse 33 rfl) (tgt := 22) rfl ?_
        exact m_sub [3, 4, 5, 1, 2, 0] rfl (hself3 _ h)
  · refine m_bipush C (dOf DX3_parse 2 rfl) (v := (-2)) kb_m2 ?_
    exact m_iretP C rfl (dOf DX3_parse 3 rfl) h
/-- TraceRing$Ring.copyFrom(LTraceRing$Ring;)V -/
def f_X4_copyFrom (S : St) (b0 : Nat) (b1 : Nat) : Option St :=
  lp_ (fun self1 (x1 : Int32 × St) =>
    if 6 ≤ x1.1 then
      gR_ x1.2 b0 4 6 fun a2 =>
      gR_ x1.2 b1 4 6 fun a3 =>
      ck_ x1.2 a2 3 <| cV_ (f_X3_copyFrom x1.2 a2 a3) fun S4 =>
      gR_ S4 b0 4 5 fun a5 =>
      gR_ S4 b1 4 5 fun a6 =>
      ck_ S4 a5 1 <| cV_ (f_X1_copyFrom S4 a5 a6) fun S7 =>
      gR_ S7 b1 4 1 fun a8 =>
      gR_ S7 b0 4 1 fun a9 =>
      cV_ (f_X8_copyRow S7 a8 a9) fun S10 =>
      gR_ S10 b1 4 2 fun a11 =>
      gR_ S10 b0 4 2 fun a12 =>
      cV_ (f_X8_copyRow S10 a11 a12) fun S13 =>
      gR_ S13 b1 4 3 fun a14 =>
      gR_ S13 b0 4 3 fun a15 =>
      cV_ (f_X8_copyRow S13 a14 a15) fun S16 =>
      gR_ S16 b1 4 4 fun a17 =>
      gR_ S16 b0 4 4 fun a18 =>
      cV_ (f_X8_copyRow S16 a17 a18) fun S19 =>
      gI_ S19 b1 4 7 fun v20 =>
      pI_ S19 b0 4 7 v20 fun S21 =>
      gI_ S21 b1 4 8 fun v22 =>
      pI_ S21 b0 4 8 v22 fun S23 =>
      gI_ S23 b1 4 9 fun v24 =>
      pI_ S23 b0 4 9 v24 fun S25 =>
      gI_ S25 b1 4 10 fun v26 =>
      pZ_ S25 b0 4 10 v26 fun S27 =>
      gI_ S27 b1 4 11 fun v28 =>
      pI_ S27 b0 4 11 v28 fun S29 =>
      gI_ S29 b1 4 12 fun v30 =>
      pI_ S29 b0 4 12 v30 fun S31 =>
      gI_ S31 b1 4 13 fun v32 =>
      pI_ S31 b0 4 13 v32 fun S33 =>
      gI_ S33 b1 4 14 fun v34 =>
      pI_ S33 b0 4 14 v34 fun S35 =>
      gI_ S35 b1 4 15 fun v36 =>
      pI_ S35 b0 4 15 v36 fun S37 =>
      rt_ S37
    else
      ck_ x1.2 b0 4 <| cP_ (f_X4_pageAt x1.2 b0 x1.1) fun a38 =>
      ck_ x1.2 b1 4 <| cP_ (f_X4_pageAt x1.2 b1 x1.1) fun a39 =>
      ck_ x1.2 a38 3 <| cV_ (f_X3_copyFrom x1.2 a38 a39) fun S40 =>
      lt_ (x1.1 + 1) fun v41 =>
      self1 (v41, S40)
  ) FU (0, S)
set_option maxRecDepth 100000 in
set_option maxHeartbeats 4000000 in
theorem c_X4_copyFrom (l : Launch) (G : Gx) (S : St) (b0 : Nat) (b1 : Nat) (o : St) (h : f_X4_copyFrom S b0 b1 = some o) : Met l yX4_copyFrom (Cond.code yX4_copyFrom cX4_copyFrom 3 none :: wAll) ({ frames := 3, cells := 0, slots := 0, locals := 123 } : Room) (va_Pc [.ref (G.1 + b0), .ref (G.1 + b1)] (wPre G S)) (qV G o) 0 0 (wA G) := by
  refine m_start (by decide +kernel) (Nat.le_of_ble_eq_true rfl) (fun X C => ?_)
  unfold f_X4_copyFrom at h
  show WM X G 3 0 0 (wQ X G (qV G o) 0 0) 0 [(0, .ref (G.1 + b0)), (1, .ref (G.1 + b1))] [] S
  refine m_iconst C (dOf DX4_copyFrom 0 rfl) (v := 0) ki_0 ?_
  refine m_istore_n C (dOf DX4_copyFrom 1 rfl) rfl (by decide) (lv' := [(2, .int 0), (0, .ref (G.1 + b0)), (1, .ref (G.1 + b1))]) rfl ?_
  refine m_sub [1, 2, 0] rfl (m_lp (J := fun (x1 : Int32 × St) => WM X G 3 0 0 (wQ X G (qV G o) 0 0) 2 [(0, .ref (G.1 + b0)), (1, .ref (G.1 + b1)), (2, .int x1.1)] [] x1.2) h (fun self1 hself1 x1 h => ?_))
  refine m_iload_n C (dOf DX4_copyFrom 2 rfl) rfl 2 rfl ?_
  refine m_bipush C (dOf DX4_copyFrom 3 rfl) (v := 6) kb_6 ?_
  refine m_icmpge C (dOf DX4_copyFrom 4 rfl) (tgt := 27) rfl h (fun h => ?_) (fun h => ?_)
  · refine m_aload_n C (dOf DX4_copyFrom 14 rfl) rfl 0 rfl ?_
    refine m_gR C (dOf DX4_copyFrom 15 rfl) kf_X4_38 fg_4_6 h (fun a2 h => ?_)
    refine m_aload_n C (dOf DX4_copyFrom 16 rfl) rfl 1 rfl ?_
    refine m_gR C (dOf DX4_copyFrom 17 rfl) kf_X4_38 fg_4_6 h (fun a3 h => ?_)
    obtain ⟨hc, h⟩ := ck_spec h
    refine m_cV (st := []) h (fun o' ho H locs ls hl hr hs => ⟨_, m_runV C (dOf DX4_copyFrom 18 rfl) km_X4_87 ky_X3_copyFrom (by decide) ⟨rfl, rfl⟩ (c_X3_copyFrom _ G _ _ _ o' ho) hc.1 hc.2 (by decide) rfl rfl rfl (Nat.le_of_ble_eq_true rfl) ⟨Nat.le_refl _, Nat.le_refl _⟩ hl hr hs⟩) (fun S4 h => ?_)
    refine m_aload_n C (dOf DX4_copyFrom 19 rfl) rfl 0 rfl ?_
    refine m_gR C (dOf DX4_copyFrom 20 rfl) kf_X4_33 fg_4_5 h (fun a5 h => ?_)
    refine m_aload_n C (dOf DX4_copyFrom 21 rfl) rfl 1 rfl ?_
    refine m_gR C (dOf DX4_copyFrom 22 rfl) kf_X4_33 fg_4_5 h (fun a6 h => ?_)
    obtain ⟨hc, h⟩ := ck_spec h
    refine m_cV (st := []) h (fun o' ho H locs ls hl hr hs => ⟨_, m_runV C (dOf DX4_copyFrom 23 rfl) km_X4_91 ky_X1_copyFrom (by decide) ⟨rfl, rfl⟩ (c_X1_copyFrom _ G _ _ _ o' ho) hc.1 hc.2 (by decide) rfl rfl rfl (Nat.le_of_ble_eq_true rfl) ⟨Nat.le_refl _, Nat.le_refl _⟩ hl hr hs⟩) (fun S7 h => ?_)
    refine m_aload_n C (dOf DX4_copyFrom 24 rfl) rfl 1 rfl ?_
    refine m_gR C (dOf DX4_copyFrom 25 rfl) kf_X4_17 fg_4_1 h (fun a8 h => ?_)
    refine m_aload_n C (dOf DX4_copyFrom 26 rfl) rfl 0 rfl ?_
    refine m_gR C (dOf DX4_copyFrom 27 rfl) kf_X4_17 fg_4_1 h (fun a9 h => ?_)
    refine m_cV (st := []) h (fun o' ho H locs ls hl hr hs => ⟨_, m_runSN C (dOf DX4_copyFrom 28 rfl) kn_X4_94 ks_X8_copyRow (by decide) ⟨rfl, rfl⟩ (c_X8_copyRow _ G _ _ _ o' ho) rfl rfl (Nat.le_of_ble_eq_true rfl) ⟨Nat.le_refl _, Nat.le_refl _⟩ hl hr hs⟩) (fun S10 h => ?_)
    refine m_aload_n C (dOf DX4_copyFrom 29 rfl) rfl 1 rfl ?_
    refine m_gR C (dOf DX4_copyFrom 30 rfl) kf_X4_21 fg_4_2 h (fun a11 h => ?_)
    refine m_aload_n C (dOf DX4_copyFrom 31 rfl) rfl 0 rfl ?_
    refine m_gR C (dOf DX4_copyFrom 32 rfl) kf_X4_21 fg_4_2 h (fun a12 h => ?_)
    refine m_cV (st := []) h (fun o' ho H locs ls hl hr hs => ⟨_, m_runSN C (dOf DX4_copyFrom 33 rfl) kn_X4_94 ks_X8_copyRow (by decide) ⟨rfl, rfl⟩ (c_X8_copyRow _ G _ _ _ o' ho) rfl rfl (Nat.le_of_ble_eq_true rfl) ⟨Nat.le_refl _, Nat.le_refl _⟩ hl hr hs⟩) (fun S13 h => ?_)
    refine m_aload_n C (dOf DX4_copyFrom 34 rfl) rfl 1 rfl ?_
    refine m_gR C (dOf DX4_copyFrom 35 rfl) kf_X4_24 fg_4_3 h (fun a14 h => ?_)
    refine m_aload_n C (dOf DX4_copyFrom 36 rfl) rfl 0 rfl ?_
    refine m_gR C (dOf DX4_copyFrom 37 rfl) kf_X4_24 fg_4_3 h (fun a15 h => ?_)
    refine m_cV (st := []) h (fun o' ho H locs ls hl hr hs => ⟨_, m_runSN C (dOf DX4_copyFrom 38 rfl) kn_X4_94 ks_X8_copyRow (by decide) ⟨rfl, rfl⟩ (c_X8_copyRow _ G _ _ _ o' ho) rfl rfl (Nat.le_of_ble_eq_true rfl) ⟨Nat.le_refl _, Nat.le_refl _⟩ hl hr hs⟩) (fun S16 h => ?_)
    refine m_aload_n C (dOf DX4_copyFrom 39 rfl) rfl 1 rfl ?_
    refine m_gR C (dOf DX4_copyFrom 40 rfl) kf_X4_27 fg_4_4 h (fun a17 h => ?_)
    refine m_aload_n C (dOf DX4_copyFrom 41 rfl) rfl 0 rfl ?_
    refine m_gR C (dOf DX4_copyFrom 42 rfl) kf_X4_27 fg_4_4 h (fun a18 h => ?_)
    refine m_cV (st := []) h (fun o' ho H locs ls hl hr hs => ⟨_, m_runSN C (dOf DX4_copyFrom 43 rfl) kn_X4_94 ks_X8_copyRow (by decide) ⟨rfl, rfl⟩ (c_X8_copyRow _ G _ _ _ o' ho) rfl rfl (Nat.le_of_ble_eq_true rfl) ⟨Nat.le_refl _, Nat.le_refl _⟩ hl hr hs⟩) (fun S19 h => ?_)
    refine m_aload_n C (dOf DX4_copyFrom 44 rfl) rfl 0 rfl ?_
    refine m_aload_n C (dOf DX4_copyFrom 45 rfl) rfl 1 rfl ?_
    refine m_gI C (dOf DX4_copyFrom 46 rfl) kf_X4_58 fg_4_7 h (fun v20 h => ?_)
    refine m_pI C (dOf DX4_copyFrom 47 rfl) kf_X4_58 fp_4_7 h (fun S21 h => ?_)
    refine m_aload_n C (dOf DX4_copyFrom 48 rfl) rfl 0 rfl ?_
    refine m_aload_n C (dOf DX4_copyFrom 49 rfl) rfl 1 rfl ?_
    refine m_gI C (dOf DX4_copyFrom 50 rfl) kf_X4_62 fg_4_8 h (fun v22 h => ?_)
    refine m_pI C (dOf DX4_copyFrom 51 rfl) kf_X4_62 fp_4_8 h (fun S23 h => ?_)
    refine m_aload_n C (dOf DX4_copyFrom 52 rfl) rfl 0 rfl ?_
    refine m_aload_n C (dOf DX4_copyFrom 53 rfl) rfl 1 rfl ?_
    refine m_gI C (dOf DX4_copyFrom 54 rfl) kf_X4_65 fg_4_9 h (fun v24 h => ?_)
    refine m_pI C (dOf DX4_copyFrom 55 rfl) kf_X4_65 fp_4_9 h (fun S25 h => ?_)
    refine m_aload_n C (dOf DX4_copyFrom 56 rfl) rfl 0 rfl ?_
    refine m_aload_n C (dOf DX4_copyFrom 57 rfl) rfl 1 rfl ?_
    refine m_gI C (dOf DX4_copyFrom 58 rfl) kf_X4_68 fg_4_10 h (fun v26 h => ?_)
    refine m_pZ C (dOf DX4_copyFrom 59 rfl) kf_X4_68 fp_4_10 h (fun S27 h => ?_)
    refine m_aload_n C (dOf DX4_copyFrom 60 rfl) rfl 0 rfl ?_
    refine m_aload_n C (dOf DX4_copyFrom 61 rfl) rfl 1 rfl ?_
    refine m_gI C (dOf DX4_copyFrom 62 rfl) kf_X4_72 fg_4_11 h (fun v28 h => ?_)
    refine m_pI C (dOf DX4_copyFrom 63 rfl) kf_X4_72 fp_4_11 h (fun S29 h => ?_)
    refine m_aload_n C (dOf DX4_copyFrom 64 rfl) rfl 0 rfl ?_
    refine m_aload_n C (dOf DX4_copyFrom 65 rfl) rfl 1 rfl ?_
    refine m_gI C (dOf DX4_copyFrom 66 rfl) kf_X4_75 fg_4_12 h (fun v30 h => ?_)
    refine m_pI C (dOf DX4_copyFrom 67 rfl) kf_X4_75 fp_4_12 h (fun S31 h => ?_)
    refine m_aload_n C (dOf DX4_copyFrom 68 rfl) rfl 0 rfl ?_
    refine m_aload_n C (dOf DX4_copyFrom 69 rfl) rfl 1 rfl ?_
    refine m_gI C (dOf DX4_copyFrom 70 rfl) kf_X4_78 fg_4_13 h (fun v32 h => ?_)
    refine m_pI C (dOf DX4_copyFrom 71 rfl) kf_X4_78 fp_4_13 h (fun S33 h => ?_)
    refine m_aload_n C (dOf DX4_copyFrom 72 rfl) rfl 0 rfl ?_
    refine m_aload_n C (dOf DX4_copyFrom 73 rfl) rfl 1 rfl ?_
    refine m_gI C (dOf DX4_copyFrom 74 rfl) kf_X4_81 fg_4_14 h (fun v34 h => ?_)
    refine m_pI C (dOf DX4_copyFrom 75 rfl) kf_X4_81 fp_4_14 h (fun S35 h => ?_)
    refine m_aload_n C (dOf DX4_copyFrom 76 rfl) rfl 0 rfl ?_
    refine m_aload_n C (dOf DX4_copyFrom 77 rfl) rfl 1 rfl ?_
    refine m_gI C (dOf DX4_copyFrom 78 rfl) kf_X4_84 fg_4_15 h (fun v36 h => ?_)
    refine m_pI C (dOf DX4_copyFrom 79 rfl) kf_X4_84 fp_4_15 h (fun S37 h => ?_)
    exact m_vret C rfl (dOf DX4_copyFrom 80 rfl) h
  · refine m_aload_n C (dOf DX4_copyFrom 5 rfl) rfl 0 rfl ?_
    refine m_iload_n C (dOf DX4_copyFrom 6 rfl) rfl 2 rfl ?_
    obtain ⟨hc, h⟩ := ck_spec h
    refine m_cN (st := []) h (fun o' ho H locs ls hl hr hs => ⟨_, m_runV C (dOf DX4_copyFrom 7 rfl) km_X4_46 ky_X4_pageAt (by decide) ⟨rfl, rfl⟩ (c_X4_pageAt _ G _ _ _ o' ho) hc.1 hc.2 (by decide) rfl rfl rfl (Nat.le_of_ble_eq_true rfl) ⟨Nat.le_refl _, Nat.le_refl _⟩ hl hr hs⟩) (fun a38 h => ?_)
    refine m_aload_n C (dOf DX4_copyFrom 8 rfl) rfl 1 rfl ?_
    refine m_iload_n C (dOf DX4_copyFrom 9 rfl) rfl 2 rfl ?_
    obtain ⟨hc, h⟩ := ck_spec h
    refine m_cN (st := [.ref (G.1 + a38)]) h (fun o' ho H locs ls hl hr hs => ⟨_, m_runV C (dOf DX4_copyFrom 10 rfl) km_X4_46 ky_X4_pageAt (by decide) ⟨rfl, rfl⟩ (c_X4_pageAt _ G _ _ _ o' ho) hc.1 hc.2 (by decide) rfl rfl rfl (Nat.le_of_ble_eq_true rfl) ⟨Nat.le_refl _, Nat.le_refl _⟩ hl hr hs⟩) (fun a39 h => ?_)
    obtain ⟨hc, h⟩ := ck_spec h
    refine m_cV (st := []) h (fun o' ho H locs ls hl hr hs => ⟨_, m_runV C (dOf DX4_copyFrom 11 rfl) km_X4_87 ky_X3_copyFrom (by decide) ⟨rfl, rfl⟩ (c_X3_copyFrom _ G _ _ _ o' ho) hc.1 hc.2 (by decide) rfl rfl rfl (Nat.le_of_ble_eq_true rfl) ⟨Nat.le_refl _, Nat.le_refl _⟩ hl hr hs⟩) (fun S40 h => ?_)
    refine m_iinc C (dOf DX4_copyFrom 12 rfl) (w := 1) ki_1 2 rfl (by decide) h (fun v41 h => ⟨[(2, .int v41), (0, .ref (G.1 + b0)), (1, .ref (G.1 + b1))], rfl, ?_⟩)
    refine m_goto C (dOf DX4_copyFrom 13 rfl) (tgt := 2) rfl ?_
    exact m_sub [1, 2, 0] rfl (hself1 _ h)
/-- TraceRing$Ring.pageOf(I)LTraceRing$Page; -/
def f_X4_pageOf (S : St) (b0 : Nat) (p1 : Int32) : Option (Option Nat) :=
  if p1 = (-1) then
    gR_ S b0 4 6 fun a6 =>
    rt_ (some a6)
  else
    jn_ (fun (x1 : Option Nat) =>
      rt_ x1
    ) fun j1 =>
    jn_ (fun (x2 : Unit) =>
      j1 (none)
    ) fun j2 =>
    if p1 < 0 then
      j2 ()
    else
      gI_ S b0 4 13 fun v3 =>
      if p1 < v3 then
        ck_ S b0 4 <| cP_ (f_X4_placeOf S b0 p1) fun v4 =>
        ck_ S b0 4 <| cP_ (f_X4_pageAt S b0 v4) fun a5 =>
        j1 (some a5)
      else
        j2 ()
set_option maxRecDepth 100000 in
set_option maxHeartbeats 4000000 in
theorem c_X4_pageOf (l : Launch) (G : Gx) (S : St) (b0 : Nat) (p1 : Int32) (o : Option Nat) (h : f_X4_pageOf S b0 p1 = some o) : Met l yX4_pageOf (Cond.code yX4_pageOf cX4_pageOf 2 (some (.object "TraceRing$Page")) :: wAll) ({ frames := 1, cells := 0, slots := 0, locals := 22 } : Room) (va_Pc [.ref (G.1 + b0), .int p1] (wPre G S)) (qR G (o, S)) 0 0 (wA G) := by
  refine m_start (by decide +kernel) (Nat.le_of_ble_eq_true rfl) (fun X C => ?_)
  unfold f_X4_pageOf at h
  show WM X G 2 0 0 (wQ X G (qR G (o, S)) 0 0) 0 [(0, .ref (G.1 + b0)), (1, .int p1)] [] S
  refine m_iload_n C (dOf DX4_pageOf 0 rfl) rfl 1 rfl ?_
  refine m_iconst C (dOf DX4_pageOf 1 rfl) (v := (-1)) ki_m1 ?_
  refine m_icmpne C (dOf DX4_pageOf 2 rfl) (tgt := 10) rfl h (fun h => ?_) (fun h => ?_)
  · refine m_iload_n C (dOf DX4_pageOf 6 rfl) rfl 1 rfl ?_
    refine m_jn (J := fun (x1 : Option Nat) => WM X G 2 0 0 (wQ X G (qR G (o, S)) 0 0) 35 [] [rfB G.1 x1] S) h (fun x1 h => ?_) (fun j1 hj1 h => ?_)
    · exact m_aretO (r := x1) C rfl (Or.inl ⟨_, rfl⟩) (dOf DX4_pageOf 19 rfl) h
    refine m_jn (J := fun (x2 : Unit) => WM X G 2 0 0 (wQ X G (qR G (o, S)) 0 0) 22 [] [] S) h (fun x2 h => ?_) (fun j2 hj2 h => ?_)
    · refine m_null C (dOf DX4_pageOf 12 rfl) ?_
      refine m_goto C (dOf DX4_pageOf 13 rfl) (tgt := 35) rfl ?_
      exact m_sub [] rfl (hj1 _ h)
    refine m_iflt C (dOf DX4_pageOf 7 rfl) (tgt := 22) rfl h (fun h => ?_) (fun h => ?_)
    · exact m_sub [] rfl (hj2 _ h)
    · refine m_iload_n C (dOf DX4_pageOf 8 rfl) rfl 1 rfl ?_
      refine m_aload_n C (dOf DX4_pageOf 9 rfl) rfl 0 rfl ?_
      refine m_gI C (dOf DX4_pageOf 10 rfl) kf_X4_78 fg_4_13 h (fun v3 h => ?_)
      refine m_icmplt C (dOf DX4_pageOf 11 rfl) (tgt := 26) rfl h (fun h => ?_) (fun h => ?_)
      · refine m_aload_n C (dOf DX4_pageOf 14 rfl) rfl 0 rfl ?_
        refine m_aload_n C (dOf DX4_pageOf 15 rfl) rfl 0 rfl ?_
        refine m_iload_n C (dOf DX4_pageOf 16 rfl) rfl 1 rfl ?_
        obtain ⟨hc, h⟩ := ck_spec h
        refine m_cP (st := [.ref (G.1 + b0)]) h (fun o' ho H locs ls hl hr hs => ⟨_, m_runV C (dOf DX4_pageOf 17 rfl) km_X4_98 ky_X4_placeOf (by decide) ⟨rfl, rfl⟩ (c_X4_placeOf _ G _ _ _ o' ho) hc.1 hc.2 (by decide) rfl rfl rfl (Nat.le_of_ble_eq_true rfl) ⟨Nat.le_refl _, Nat.le_refl _⟩ hl hr hs⟩) (fun v4 h => ?_)
        obtain ⟨hc, h⟩ := ck_spec h
        refine m_cN (st := []) h (fun o' ho H locs ls hl hr hs => ⟨_, m_runV C (dOf DX4_pageOf 18 rfl) km_X4_46 ky_X4_pageAt (by decide) ⟨rfl, rfl⟩ (c_X4_pageAt _ G _ _ _ o' ho) hc.1 hc.2 (by decide) rfl rfl rfl (Nat.le_of_ble_eq_true rfl) ⟨Nat.le_refl _, Nat.le_refl _⟩ hl hr hs⟩) (fun a5 h => ?_)
        exact m_sub [] rfl (hj1 _ h)
      · exact m_sub [] rfl (hj2 _ h)
  · refine m_aload_n C (dOf DX4_pageOf 3 rfl) rfl 0 rfl ?_
    refine m_gR C (dOf DX4_pageOf 4 rfl) kf_X4_38 fg_4_6 h (fun a6 h => ?_)
    exact m_aretO (r := (some a6)) C rfl (Or.inl ⟨_, rfl⟩) (dOf DX4_pageOf 5 rfl) h
/-- TraceRing$Ring.readyRecords()I -/
def f_X4_readyRecords (S : St) (b0 : Nat) : Option Int32 :=
  lp_ (fun self1 (x1 : Int32 × Int32) =>
    gI_ S b0 4 13 fun v2 =>
    if v2 ≤ x1.2 then
      rt_ x1.1
    else
      ck_ S b0 4 <| cP_ (f_X4_placeOf S b0 x1.2) fun v3 =>
      ck_ S b0 4 <| cP_ (f_X4_pageAt S b0 v3) fun a4 =>
      ck_ S a4 3 <| cP_ (f_X3_readyRecords S a4) fun v5 =>
      lt_ (x1.1 + v5 : Int32) fun v6 =>
      lt_ (x1.2 + 1) fun v7 =>
      self1 (v6, v7)
  ) FU (0, 0)
set_option maxRecDepth 100000 in
set_option maxHeartbeats 4000000 in
theorem c_X4_readyRecords (l : Launch) (G : Gx) (S : St) (b0 : Nat) (o : Int32) (h : f_X4_readyRecords S b0 = some o) : Met l yX4_readyRecords (Cond.code yX4_readyRecords cX4_readyRecords 3 (some (.int)) :: wAll) ({ frames := 3, cells := 0, slots := 0, locals := 64 } : Room) (va_Pc [.ref (G.1 + b0)] (wPre G S)) (qI G (o, S)) 0 0 (wA G) := by
  refine m_start (by decide +kernel) (Nat.le_of_ble_eq_true rfl) (fun X C => ?_)
  unfold f_X4_readyRecords at h
  show WM X G 3 0 0 (wQ X G (qI G (o, S)) 0 0) 0 [(0, .ref (G.1 + b0))] [] S
  refine m_iconst C (dOf DX4_readyRecords 0 rfl) (v := 0) ki_0 ?_
  refine m_istore_n C (dOf DX4_readyRecords 1 rfl) rfl (by decide) (lv' := [(1, .int 0), (0, .ref (G.1 + b0))]) rfl ?_
  refine m_iconst C (dOf DX4_readyRecords 2 rfl) (v := 0) ki_0 ?_
  refine m_istore_n C (dOf DX4_readyRecords 3 rfl) rfl (by decide) (lv' := [(2, .int 0), (1, .int 0), (0, .ref (G.1 + b0))]) rfl ?_
  refine m_sub [2, 1, 0] rfl (m_lp (J := fun (x1 : Int32 × Int32) => WM X G 3 0 0 (wQ X G (qI G (o, S)) 0 0) 4 [(0, .ref (G.1 + b0)), (1, .int x1.1), (2, .int x1.2)] [] S) h (fun self1 hself1 x1 h => ?_))
  refine m_iload_n C (dOf DX4_readyRecords 4 rfl) rfl 2 rfl ?_
  refine m_aload_n C (dOf DX4_readyRecords 5 rfl) rfl 0 rfl ?_
  refine m_gI C (dOf DX4_readyRecords 6 rfl) kf_X4_78 fg_4_13 h (fun v2 h => ?_)
  refine m_icmpge C (dOf DX4_readyRecords 7 rfl) (tgt := 33) rfl h (fun h => ?_) (fun h => ?_)
  · refine m_iload_n C (dOf DX4_readyRecords 19 rfl) rfl 1 rfl ?_
    exact m_iretP C rfl (dOf DX4_readyRecords 20 rfl) h
  · refine m_iload_n C (dOf DX4_readyRecords 8 rfl) rfl 1 rfl ?_
    refine m_aload_n C (dOf DX4_readyRecords 9 rfl) rfl 0 rfl ?_
    refine m_aload_n C (dOf DX4_readyRecords 10 rfl) rfl 0 rfl ?_
    refine m_iload_n C (dOf DX4_readyRecords 11 rfl) rfl 2 rfl ?_
    obtain ⟨hc, h⟩ := ck_spec h
    refine m_cP (st := [.ref (G.1 + b0), .int x1.1]) h (fun o' ho H locs ls hl hr hs => ⟨_, m_runV C (dOf DX4_readyRecords 12 rfl) km_X4_98 ky_X4_placeOf (by decide) ⟨rfl, rfl⟩ (c_X4_placeOf _ G _ _ _ o' ho) hc.1 hc.2 (by decide) rfl rfl rfl (Nat.le_of_ble_eq_true rfl) ⟨Nat.le_refl _, Nat.le_refl _⟩ hl hr hs⟩) (fun v3 h => ?_)
    obtain ⟨hc, h⟩ := ck_spec h
    refine m_cN (st := [.int x1.1]) h (fun o' ho H locs ls hl hr hs => ⟨_, m_runV C (dOf DX4_readyRecords 13 rfl) km_X4_46 ky_X4_pageAt (by decide) ⟨rfl, rfl⟩ (c_X4_pageAt _ G _ _ _ o' ho) hc.1 hc.2 (by decide) rfl rfl rfl (Nat.le_of_ble_eq_true rfl) ⟨Nat.le_refl _, Nat.le_refl _⟩ hl hr hs⟩) (fun a4 h => ?_)
    obtain ⟨hc, h⟩ := ck_spec h
    refine m_cP (st := [.int x1.1]) h (fun o' ho H locs ls hl hr hs => ⟨_, m_runV C (dOf DX4_readyRecords 14 rfl) km_X4_218 ky_X3_readyRecords (by decide) ⟨rfl, rfl⟩ (c_X3_readyRecords _ G _ _ o' ho) hc.1 hc.2 (by decide) rfl rfl rfl (Nat.le_of_ble_eq_true rfl) ⟨Nat.le_refl _, Nat.le_refl _⟩ hl hr hs⟩) (fun v5 h => ?_)
    refine m_iadd C (dOf DX4_readyRecords 15 rfl) h (fun v6 h => ?_)
    refine m_istore_n C (dOf DX4_readyRecords 16 rfl) rfl (by decide) (lv' := [(1, .int v6), (0, .ref (G.1 + b0)), (2, .int x1.2)]) rfl ?_
    refine m_iinc C (dOf DX4_readyRecords 17 rfl) (w := 1) ki_1 2 rfl (by decide) h (fun v7 h => ⟨[(2, .int v7), (1, .int v6), (0, .ref (G.1 + b0))], rfl, ?_⟩)
    refine m_goto C (dOf DX4_readyRecords 18 rfl) (tgt := 4) rfl ?_
    exact m_sub [2, 1, 0] rfl (hself1 _ h)
/-- TraceRing$Ring.isTallied(I)Z -/
def f_X4_isTallied (S : St) (b0 : Nat) (p1 : Int32) : Option Int32 :=
  jn_ (fun (x1 : Int32) =>
    jn_ (fun (x2 : Int32) =>
      rzP_ x2
    ) fun j2 =>
    jn_ (fun (x3 : Unit) =>
      j2 (1)
    ) fun j3 =>
    if x1 = 0 then
      jn_ (fun (x4 : Unit) =>
        j2 (0)
      ) fun j4 =>
      if p1 < 6 then
        j4 ()
      else
        if 19 < p1 then
          j4 ()
        else
          j3 ()
    else
      j3 ()
  ) fun j1 =>
  jn_ (fun (x5 : Unit) =>
    j1 (1)
  ) fun j5 =>
  jn_ (fun (x6 : Unit) =>
    jn_ (fun (x7 : Unit) =>
      j1 (0)
    ) fun j7 =>
    if p1 < 30 then
      j7 ()
    else
      if 34 ≤ p1 then
        j7 ()
      else
        j5 ()
  ) fun j6 =>
  if p1 < 20 then
    j6 ()
  else
    if p1 < 24 then
      j5 ()
    else
      j6 ()
set_option maxRecDepth 100000 in
set_option maxHeartbeats 4000000 in
theorem c_X4_isTallied (l : Launch) (G : Gx) (S : St) (b0 : Nat) (p1 : Int32) (o : Int32) (h : f_X4_isTallied S b0 p1 = some o) : Met l yX4_isTallied (Cond.code yX4_isTallied cX4_isTallied 3 (some (.boolean)) :: wAll) ({ frames := 0, cells := 0, slots := 0, locals := 0 } : Room) (va_Pc [.ref (G.1 + b0), .int p1] (wPre G S)) (qI G (o, S)) 0 0 (wA G) := by
  refine m_start (by decide +kernel) (Nat.le_of_ble_eq_true rfl) (fun X C => ?_)
  unfold f_X4_isTallied at h
  show WM X G 3 0 0 (wQ X G (qI G (o, S)) 0 0) 0 [(0, .ref (G.1 + b0)), (1, .int p1)] [] S
  refine m_iload_n C (dOf DX4_isTallied 0 rfl) rfl 1 rfl ?_
  refine m_bipush C (dOf DX4_isTallied 1 rfl) (v := 20) kb_20 ?_
  refine m_jn (J := fun (x1 : Int32) => WM X G 3 0 0 (wQ X G (qI G (o, S)) 0 0) 29 [(1, .int p1)] [.int x1] S) h (fun x1 h => ?_) (fun j1 hj1 h => ?_)
  · refine m_istore_n C (dOf DX4_isTallied 15 rfl) rfl (by decide) (lv' := [(2, .int x1), (1, .int p1)]) rfl ?_
    refine m_iload_n C (dOf DX4_isTallied 16 rfl) rfl 0 rfl ?_
    refine m_jn (J := fun (x2 : Int32) => WM X G 3 0 0 (wQ X G (qI G (o, S)) 0 0) 51 [] [.int x2] S) h (fun x2 h => ?_) (fun j2 hj2 h => ?_)
    · exact m_zretP C rfl (dOf DX4_isTallied 27 rfl) h
    refine m_jn (J := fun (x3 : Unit) => WM X G 3 0 0 (wQ X G (qI G (o, S)) 0 0) 46 [] [] S) h (fun x3 h => ?_) (fun j3 hj3 h => ?_)
    · refine m_iconst C (dOf DX4_isTallied 24 rfl) (v := 1) ki_1 ?_
      refine m_goto C (dOf DX4_isTallied 25 rfl) (tgt := 51) rfl ?_
      exact m_sub [] rfl (hj2 _ h)
    refine m_ifne C (dOf DX4_isTallied 17 rfl) (tgt := 46) rfl h (fun h => ?_) (fun h => ?_)
    · exact m_sub [] rfl (hj3 _ h)
    · refine m_iload_n C (dOf DX4_isTallied 18 rfl) rfl 1 rfl ?_
      refine m_bipush C (dOf DX4_isTallied 19 rfl) (v := 6) kb_6 ?_
      refine m_jn (J := fun (x4 : Unit) => WM X G 3 0 0 (wQ X G (qI G (o, S)) 0 0) 50 [] [] S) h (fun x4 h => ?_) (fun j4 hj4 h => ?_)
      · refine m_iconst C (dOf DX4_isTallied 26 rfl) (v := 0) ki_0 ?_
        exact m_sub [] rfl (hj2 _ h)
      refine m_icmplt C (dOf DX4_isTallied 20 rfl) (tgt := 50) rfl h (fun h => ?_) (fun h => ?_)
      · exact m_sub [] rfl (hj4 _ h)
      · refine m_iload_n C (dOf DX4_isTallied 21 rfl) rfl 1 rfl ?_
        refine m_bipush C (dOf DX4_isTallied 22 rfl) (v := 19) kb_19 ?_
        refine m_icmpgt C (dOf DX4_isTallied 23 rfl) (tgt := 50) rfl h (fun h => ?_) (fun h => ?_)
        · exact m_sub [] rfl (hj4 _ h)
        · exact m_sub [] rfl (hj3 _ h)
  refine m_jn (J := fun (x5 : Unit) => WM X G 3 0 0 (wQ X G (qI G (o, S)) 0 0) 24 [(1, .int p1)] [] S) h (fun x5 h => ?_) (fun j5 hj5 h => ?_)
  · refine m_iconst C (dOf DX4_isTallied 12 rfl) (v := 1) ki_1 ?_
    refine m_goto C (dOf DX4_isTallied 13 rfl) (tgt := 29) rfl ?_
    exact m_sub [0] rfl (hj1 _ h)
  refine m_jn (J := fun (x6 : Unit) => WM X G 3 0 0 (wQ X G (qI G (o, S)) 0 0) 12 [(1, .int p1)] [] S) h (fun x6 h => ?_) (fun j6 hj6 h => ?_)
  · refine m_iload_n C (dOf DX4_isTallied 6 rfl) rfl 0 rfl ?_
    refine m_bipush C (dOf DX4_isTallied 7 rfl) (v := 30) kb_30 ?_
    refine m_jn (J := fun (x7 : Unit) => WM X G 3 0 0 (wQ X G (qI G (o, S)) 0 0) 28 [(1, .int p1)] [] S) h (fun x7 h => ?_) (fun j7 hj7 h => ?_)
    · refine m_iconst C (dOf DX4_isTallied 14 rfl) (v := 0) ki_0 ?_
      exact m_sub [0] rfl (hj1 _ h)
    refine m_icmplt C (dOf DX4_isTallied 8 rfl) (tgt := 28) rfl h (fun h => ?_) (fun h => ?_)
    · exact m_sub [0] rfl (hj7 _ h)
    · refine m_iload_n C (dOf DX4_isTallied 9 rfl) rfl 0 rfl ?_
      refine m_bipush C (dOf DX4_isTallied 10 rfl) (v := 34) kb_34 ?_
      refine m_icmpge C (dOf DX4_isTallied 11 rfl) (tgt := 28) rfl h (fun h => ?_) (fun h => ?_)
      · exact m_sub [0] rfl (hj7 _ h)
      · exact m_sub [0] rfl (hj5 _ h)
  refine m_icmplt C (dOf DX4_isTallied 2 rfl) (tgt := 12) rfl h (fun h => ?_) (fun h => ?_)
  · exact m_sub [1] rfl (hj6 _ h)
  · refine m_iload_n C (dOf DX4_isTallied 3 rfl) rfl 1 rfl ?_
    refine m_bipush C (dOf DX4_isTallied 4 rfl) (v := 24) kb_24 ?_
    refine m_icmplt C (dOf DX4_isTallied 5 rfl) (tgt := 24) rfl h (fun h => ?_) (fun h => ?_)
    · exact m_sub [1] rfl (hj5 _ h)
    · exact m_sub [1] rfl (hj6 _ h)
/-- TraceRing$Ring.figure(I)I -/
def f_X4_figure (S : St) (b0 : Nat) (p1 : Int32) : Option Int32 :=
  if p1 = 0 then
    gI_ S b0 4 8 fun v1 =>
    rt_ v1
  else
  if p1 = 1 then
    gI_ S b0 4 9 fun v2 =>
    rt_ v2
  else
  if p1 = 2 then
    gI_ S b0 4 10 fun v3 =>
    jn_ (fun (x4 : Int32) =>
      rt_ x4
    ) fun j4 =>
    if v3 = 0 then
      j4 (0)
    else
      j4 (1)
  else
  if p1 = 3 then
    gI_ S b0 4 11 fun v5 =>
    rt_ v5
  else
  if p1 = 4 then
    gI_ S b0 4 15 fun v6 =>
    rt_ v6
  else
  if p1 = 5 then
    gI_ S b0 4 13 fun v7 =>
    rt_ v7
  else
  if p1 = 12 then
    ck_ S b0 4 <| cP_ (f_X4_readyRecords S b0) fun v8 =>
    rt_ v8
  else
  if p1 = 40 then
    gI_ S b0 4 14 fun v9 =>
    rt_ v9
  else
  ck_ S b0 4 <| cP_ (f_X4_isTallied S b0 p1) fun v10 =>
  jn_ (fun (x11 : Int32) =>
    rt_ x11
  ) fun j11 =>
  if v10 = 0 then
    j11 ((-1))
  else
    gR_ S b0 4 4 fun a12 =>
    cP_ (f_X8_at S a12 p1) fun v13 =>
    j11 (v13)
set_option maxRecDepth 100000 in
set_option maxHeartbeats 4000000 in
theorem c_X4_figure (l : Launch) (G : Gx) (S : St) (b0 : Nat) (p1 : Int32) (o : Int32) (h : f_X4_figure S b0 p1 = some o) : Met l yX4_figure (Cond.code yX4_figure cX4_figure 2 (some (.int)) :: wAll) ({ frames := 4, cells := 0, slots := 0, locals := 86 } : Room) (va_Pc [.ref (G.1 + b0), .int p1] (wPre G S)) (qI G (o, S)) 0 0 (wA G) := by
  refine m_start (by decide +kernel) (Nat.le_of_ble_eq_true rfl) (fun X C => ?_)
  unfold f_X4_figure at h
  show WM X G 2 0 0 (wQ X G (qI G (o, S)) 0 0) 0 [(0, .ref (G.1 + b0)), (1, .int p1)] [] S
  refine m_iload_n C (dOf DX4_figure 0 rfl) rfl 1 rfl ?_
  refine m_sw h (fun e h => ?_) (fun n0 h => ?_)
  · refine m_lsw C (dOf DX4_figure 1 rfl) (by decide) (by rw [e]; rfl) (off := 75) (tgt := 76) rfl ?_
    refine m_aload_n C (dOf DX4_figure 2 rfl) rfl 0 rfl ?_
    refine m_gI C (dOf DX4_figure 3 rfl) kf_X4_62 fg_4_8 h (fun v1 h => ?_)
    exact m_iretP C rfl (dOf DX4_figure 4 rfl) h
  refine m_sw h (fun e h => ?_) (fun n1 h => ?_)
  · refine m_lsw C (dOf DX4_figure 1 rfl) (by decide) (by rw [e]; rfl) (off := 80) (tgt := 81) rfl ?_
    refine m_aload_n C (dOf DX4_figure 5 rfl) rfl 0 rfl ?_
    refine m_gI C (dOf DX4_figure 6 rfl) kf_X4_65 fg_4_9 h (fun v2 h => ?_)
    exact m_iretP C rfl (dOf DX4_figure 7 rfl) h
  refine m_sw h (fun e h => ?_) (fun n2 h => ?_)
  · refine m_lsw C (dOf DX4_figure 1 rfl) (by decide) (by rw [e]; rfl) (off := 85) (tgt := 86) rfl ?_
    refine m_aload_n C (dOf DX4_figure 8 rfl) rfl 0 rfl ?_
    refine m_gI C (dOf DX4_figure 9 rfl) kf_X4_68 fg_4_10 h (fun v3 h => ?_)
    refine m_jn (J := fun (x4 : Int32) => WM X G 2 0 0 (wQ X G (qI G (o, S)) 0 0) 98 [] [.int x4] S) h (fun x4 h => ?_) (fun j4 hj4 h => ?_)
    · exact m_iretP C rfl (dOf DX4_figure 14 rfl) h
    refine m_ifeq C (dOf DX4_figure 10 rfl) (tgt := 97) rfl h (fun h => ?_) (fun h => ?_)
    · refine m_iconst C (dOf DX4_figure 13 rfl) (v := 0) ki_0 ?_
      exact m_sub [] rfl (hj4 _ h)
    · refine m_iconst C (dOf DX4_figure 11 rfl) (v := 1) ki_1 ?_
      refine m_goto C (dOf DX4_figure 12 rfl) (tgt := 98) rfl ?_
      exact m_sub [] rfl (hj4 _ h)
  refine m_sw h (fun e h => ?_) (fun n3 h => ?_)
  · refine m_lsw C (dOf DX4_figure 1 rfl) (by decide) (by rw [e]; rfl) (off := 98) (tgt := 99) rfl ?_
    refine m_aload_n C (dOf DX4_figure 15 rfl) rfl 0 rfl ?_
    refine m_gI C (dOf DX4_figure 16 rfl) kf_X4_72 fg_4_11 h (fun v5 h => ?_)
    exact m_iretP C rfl (dOf DX4_figure 17 rfl) h
  refine m_sw h (fun e h => ?_) (fun n4 h => ?_)
  · refine m_lsw C (dOf DX4_figure 1 rfl) (by decide) (by rw [e]; rfl) (off := 103) (tgt := 104) rfl ?_
    refine m_aload_n C (dOf DX4_figure 18 rfl) rfl 0 rfl ?_
    refine m_gI C (dOf DX4_figure 19 rfl) kf_X4_84 fg_4_15 h (fun v6 h => ?_)
    exact m_iretP C rfl (dOf DX4_figure 20 rfl) h
  refine m_sw h (fun e h => ?_) (fun n5 h => ?_)
  · refine m_lsw C (dOf DX4_figure 1 rfl) (by decide) (by rw [e]; rfl) (off := 108) (tgt := 109) rfl ?_
    refine m_aload_n C (dOf DX4_figure 21 rfl) rfl 0 rfl ?_
    refine m_gI C (dOf DX4_figure 22 rfl) kf_X4_78 fg_4_13 h (fun v7 h => ?_)
    exact m_iretP C rfl (dOf DX4_figure 23 rfl) h
  refine m_sw h (fun e h => ?_) (fun n12 h => ?_)
  · refine m_lsw C (dOf DX4_figure 1 rfl) (by decide) (by rw [e]; rfl) (off := 113) (tgt := 114) rfl ?_
    refine m_aload_n C (dOf DX4_figure 24 rfl) rfl 0 rfl ?_
    obtain ⟨hc, h⟩ := ck_spec h
    refine m_cP (st := []) h (fun o' ho H locs ls hl hr hs => ⟨_, m_runV C (dOf DX4_figure 25 rfl) km_X4_212 ky_X4_readyRecords (by decide) ⟨rfl, rfl⟩ (c_X4_readyRecords _ G _ _ o' ho) hc.1 hc.2 (by decide) rfl rfl rfl (Nat.le_of_ble_eq_true rfl) ⟨Nat.le_refl _, Nat.le_refl _⟩ hl hr hs⟩) (fun v8 h => ?_)
    exact m_iretP C rfl (dOf DX4_figure 26 rfl) h
  refine m_sw h (fun e h => ?_) (fun n40 h => ?_)
  · refine m_lsw C (dOf DX4_figure 1 rfl) (by decide) (by rw [e]; rfl) (off := 118) (tgt := 119) rfl ?_
    refine m_aload_n C (dOf DX4_figure 27 rfl) rfl 0 rfl ?_
    refine m_gI C (dOf DX4_figure 28 rfl) kf_X4_81 fg_4_14 h (fun v9 h => ?_)
    exact m_iretP C rfl (dOf DX4_figure 29 rfl) h
  refine m_lsw C (dOf DX4_figure 1 rfl) (by decide) (by show Op.lookupswitch.offset _ _ _ = _; rw [lv_osw n0 kt_0, lv_osw n1 kt_1, lv_osw n2 kt_2, lv_osw n3 kt_3, lv_osw n4 kt_4, lv_osw n5 kt_5, lv_osw n12 kt_12, lv_osw n40 kt_40]; rfl) (off := 123) (tgt := 124) rfl ?_
  refine m_aload_n C (dOf DX4_figure 30 rfl) rfl 0 rfl ?_
  refine m_iload_n C (dOf DX4_figure 31 rfl) rfl 1 rfl ?_
  obtain ⟨hc, h⟩ := ck_spec h
  refine m_cP (st := []) h (fun o' ho H locs ls hl hr hs => ⟨_, m_runV C (dOf DX4_figure 32 rfl) km_X4_215 ky_X4_isTallied (by decide) ⟨rfl, rfl⟩ (c_X4_isTallied _ G _ _ _ o' ho) hc.1 hc.2 (by decide) rfl rfl rfl (Nat.le_of_ble_eq_true rfl) ⟨Nat.le_refl _, Nat.le_refl _⟩ hl hr hs⟩) (fun v10 h => ?_)
  refine m_jn (J := fun (x11 : Int32) => WM X G 2 0 0 (wQ X G (qI G (o, S)) 0 0) 144 [] [.int x11] S) h (fun x11 h => ?_) (fun j11 hj11 h => ?_)
  · exact m_iretP C rfl (dOf DX4_figure 40 rfl) h
  refine m_ifeq C (dOf DX4_figure 33 rfl) (tgt := 143) rfl h (fun h => ?_) (fun h => ?_)
  · refine m_iconst C (dOf DX4_figure 39 rfl) (v := (-1)) ki_m1 ?_
    exact m_sub [] rfl (hj11 _ h)
  · refine m_aload_n C (dOf DX4_figure 34 rfl) rfl 0 rfl ?_
    refine m_gR C (dOf DX4_figure 35 rfl) kf_X4_27 fg_4_4 h (fun a12 h => ?_)
    refine m_iload_n C (dOf DX4_figure 36 rfl) rfl 1 rfl ?_
    refine m_cP (st := []) h (fun o' ho H locs ls hl hr hs => ⟨_, m_runSN C (dOf DX4_figure 37 rfl) kn_X4_102 ks_X8_at (by decide) ⟨rfl, rfl⟩ (c_X8_at _ G _ _ _ o' ho) rfl rfl (Nat.le_of_ble_eq_true rfl) ⟨Nat.le_refl _, Nat.le_refl _⟩ hl hr hs⟩) (fun v13 h => ?_)
    refine m_goto C (dOf DX4_figure 38 rfl) (tgt := 144) rfl ?_
    exact m_sub [] rfl (hj11 _ h)
/-- TraceRing$Ring.openFigure(II)I -/
def f_X4_openFigure (S : St) (b0 : Nat) (p1 : Int32) (p2 : Int32) : Option Int32 :=
  jn_ (fun (x1 : Unit) =>
    rt_ (-2)
  ) fun j1 =>
  if p1 < 0 then
    j1 ()
  else
    gI_ S b0 4 15 fun v2 =>
    if p1 < v2 then
      gR_ S b0 4 1 fun a3 =>
      cP_ (f_X8_at S a3 p1) fun v4 =>
      gR_ S b0 4 2 fun a5 =>
      cP_ (f_X8_at S a5 p1) fun v6 =>
      if p2 = 4 then
        gR_ S b0 4 3 fun a7 =>
        cP_ (f_X8_at S a7 p1) fun v8 =>
        rt_ v8
      else
      if p2 = 5 then
        gI_ S b0 4 12 fun v9 =>
        jn_ (fun (x10 : Int32) =>
          rt_ x10
        ) fun j10 =>
        if v4 < v9 then
          gI_ S b0 4 12 fun v11 =>
          lt_ (v4 - v11 : Int32) fun v12 =>
          gI_ S b0 4 8 fun v13 =>
          lt_ (v12 + v13 : Int32) fun v14 =>
          j10 (v14)
        else
          gI_ S b0 4 12 fun v15 =>
          lt_ (v4 - v15 : Int32) fun v16 =>
          j10 (v16)
      else
      if p2 = 6 then
        ck_ S b0 4 <| cP_ (f_X4_pageAt S b0 v4) fun a17 =>
        gR_ S a17 3 5 fun a18 =>
        cP_ (f_X8_at S a18 v6) fun v19 =>
        rt_ v19
      else
      ck_ S b0 4 <| cP_ (f_X4_pageAt S b0 v4) fun a20 =>
      ck_ S a20 3 <| cP_ (f_X3_itemFigure S a20 v6 p2) fun v21 =>
      rt_ v21
    else
      j1 ()
set_option maxRecDepth 100000 in
set_option maxHeartbeats 4000000 in
theorem c_X4_openFigure (l : Launch) (G : Gx) (S : St) (b0 : Nat) (p1 : Int32) (p2 : Int32) (o : Int32) (h : f_X4_openFigure S b0 p1 p2 = some o) : Met l yX4_openFigure (Cond.code yX4_openFigure cX4_openFigure 5 (some (.int)) :: wAll) ({ frames := 2, cells := 0, slots := 0, locals := 43 } : Room) (va_Pc [.ref (G.1 + b0), .int p1, .int p2] (wPre G S)) (qI G (o, S)) 0 0 (wA G) := by
  refine m_start (by decide +kernel) (Nat.le_of_ble_eq_true rfl) (fun X C => ?_)
  unfold f_X4_openFigure at h
  show WM X G 5 0 0 (wQ X G (qI G (o, S)) 0 0) 0 [(0, .ref (G.1 + b0)), (1, .int p1), (2, .int p2)] [] S
  refine m_iload_n C (dOf DX4_openFigure 0 rfl) rfl 1 rfl ?_
  refine m_jn (J := fun (x1 : Unit) => WM X G 5 0 0 (wQ X G (qI G (o, S)) 0 0) 12 [] [] S) h (fun x1 h => ?_) (fun j1 hj1 h => ?_)
  · refine m_bipush C (dOf DX4_openFigure 6 rfl) (v := (-2)) kb_m2 ?_
    exact m_iretP C rfl (dOf DX4_openFigure 7 rfl) h
  refine m_iflt C (dOf DX4_openFigure 1 rfl) (tgt := 12) rfl h (fun h => ?_) (fun h => ?_)
  · exact m_sub [] rfl (hj1 _ h)
  · refine m_iload_n C (dOf DX4_openFigure 2 rfl) rfl 1 rfl ?_
    refine m_aload_n C (dOf DX4_openFigure 3 rfl) rfl 0 rfl ?_
    refine m_gI C (dOf DX4_openFigure 4 rfl) kf_X4_84 fg_4_15 h (fun v2 h => ?_)
    refine m_icmplt C (dOf DX4_openFigure 5 rfl) (tgt := 15) rfl h (fun h => ?_) (fun h => ?_)
    · refine m_aload_n C (dOf DX4_openFigure 8 rfl) rfl 0 rfl ?_
      refine m_gR C (dOf DX4_openFigure 9 rfl) kf_X4_17 fg_4_1 h (fun a3 h => ?_)
      refine m_iload_n C (dOf DX4_openFigure 10 rfl) rfl 1 rfl ?_
      refine m_cP (st := []) h (fun o' ho H locs ls hl hr hs => ⟨_, m_runSN C (dOf DX4_openFigure 11 rfl) kn_X4_102 ks_X8_at (by decide) ⟨rfl, rfl⟩ (c_X8_at _ G _ _ _ o' ho) rfl rfl (Nat.le_of_ble_eq_true rfl) ⟨Nat.le_refl _, Nat.le_refl _⟩ hl hr hs⟩) (fun v4 h => ?_)
      refine m_istore_n C (dOf DX4_openFigure 12 rfl) rfl (by decide) (lv' := [(3, .int v4), (0, .ref (G.1 + b0)), (1, .int p1), (2, .int p2)]) rfl ?_
      refine m_aload_n C (dOf DX4_openFigure 13 rfl) rfl 1 rfl ?_
      refine m_gR C (dOf DX4_openFigure 14 rfl) kf_X4_21 fg_4_2 h (fun a5 h => ?_)
      refine m_iload_n C (dOf DX4_openFigure 15 rfl) rfl 2 rfl ?_
      refine m_cP (st := []) h (fun o' ho H locs ls hl hr hs => ⟨_, m_runSN C (dOf DX4_openFigure 16 rfl) kn_X4_102 ks_X8_at (by decide) ⟨rfl, rfl⟩ (c_X8_at _ G _ _ _ o' ho) rfl rfl (Nat.le_of_ble_eq_true rfl) ⟨Nat.le_refl _, Nat.le_refl _⟩ hl hr hs⟩) (fun v6 h => ?_)
      refine m_istore C (dOf DX4_openFigure 17 rfl) (by decide) (lv' := [(4, .int v6), (3, .int v4), (0, .ref (G.1 + b0)), (1, .int p1), (2, .int p2)]) rfl ?_
      refine m_iload_n C (dOf DX4_openFigure 18 rfl) rfl 4 rfl ?_
      refine m_sw h (fun e h => ?_) (fun n4 h => ?_)
      · refine m_tin C (dOf DX4_openFigure 19 rfl) 4 e (by decide) (by decide) (off := 25) rfl (tgt := 60) rfl ?_
        refine m_aload_n C (dOf DX4_openFigure 20 rfl) rfl 2 rfl ?_
        refine m_gR C (dOf DX4_openFigure 21 rfl) kf_X4_24 fg_4_3 h (fun a7 h => ?_)
        refine m_iload_n C (dOf DX4_openFigure 22 rfl) rfl 3 rfl ?_
        refine m_cP (st := []) h (fun o' ho H locs ls hl hr hs => ⟨_, m_runSN C (dOf DX4_openFigure 23 rfl) kn_X4_102 ks_X8_at (by decide) ⟨rfl, rfl⟩ (c_X8_at _ G _ _ _ o' ho) rfl rfl (Nat.le_of_ble_eq_true rfl) ⟨Nat.le_refl _, Nat.le_refl _⟩ hl hr hs⟩) (fun v8 h => ?_)
        exact m_iretP C rfl (dOf DX4_openFigure 24 rfl) h
      refine m_sw h (fun e h => ?_) (fun n5 h => ?_)
      · refine m_tin C (dOf DX4_openFigure 19 rfl) 5 e (by decide) (by decide) (off := 34) rfl (tgt := 69) rfl ?_
        refine m_iload_n C (dOf DX4_openFigure 25 rfl) rfl 1 rfl ?_
        refine m_aload_n C (dOf DX4_openFigure 26 rfl) rfl 2 rfl ?_
        refine m_gI C (dOf DX4_openFigure 27 rfl) kf_X4_75 fg_4_12 h (fun v9 h => ?_)
        refine m_jn (J := fun (x10 : Int32) => WM X G 5 0 0 (wQ X G (qI G (o, S)) 0 0) 97 [] [.int x10] S) h (fun x10 h => ?_) (fun j10 hj10 h => ?_)
        · exact m_iretP C rfl (dOf DX4_openFigure 41 rfl) h
        refine m_icmplt C (dOf DX4_openFigure 28 rfl) (tgt := 86) rfl h (fun h => ?_) (fun h => ?_)
        · refine m_iload_n C (dOf DX4_openFigure 34 rfl) rfl 1 rfl ?_
          refine m_aload_n C (dOf DX4_openFigure 35 rfl) rfl 2 rfl ?_
          refine m_gI C (dOf DX4_openFigure 36 rfl) kf_X4_75 fg_4_12 h (fun v11 h => ?_)
          refine m_isub C (dOf DX4_openFigure 37 rfl) h (fun v12 h => ?_)
          refine m_aload_n C (dOf DX4_openFigure 38 rfl) rfl 2 rfl ?_
          refine m_gI C (dOf DX4_openFigure 39 rfl) kf_X4_62 fg_4_8 h (fun v13 h => ?_)
          refine m_iadd C (dOf DX4_openFigure 40 rfl) h (fun v14 h => ?_)
          exact m_sub [] rfl (hj10 _ h)
        · refine m_iload_n C (dOf DX4_openFigure 29 rfl) rfl 1 rfl ?_
          refine m_aload_n C (dOf DX4_openFigure 30 rfl) rfl 2 rfl ?_
          refine m_gI C (dOf DX4_openFigure 31 rfl) kf_X4_75 fg_4_12 h (fun v15 h => ?_)
          refine m_isub C (dOf DX4_openFigure 32 rfl) h (fun v16 h => ?_)
          refine m_goto C (dOf DX4_openFigure 33 rfl) (tgt := 97) rfl ?_
          exact m_sub [] rfl (hj10 _ h)
      refine m_sw h (fun e h => ?_) (fun n6 h => ?_)
      · refine m_tin C (dOf DX4_openFigure 19 rfl) 6 e (by decide) (by decide) (off := 63) rfl (tgt := 98) rfl ?_
        refine m_aload_n C (dOf DX4_openFigure 42 rfl) rfl 2 rfl ?_
        refine m_iload_n C (dOf DX4_openFigure 43 rfl) rfl 1 rfl ?_
        obtain ⟨hc, h⟩ := ck_spec h
        refine m_cN (st := []) h (fun o' ho H locs ls hl hr hs => ⟨_, m_runV C (dOf DX4_openFigure 44 rfl) km_X4_46 ky_X4_pageAt (by decide) ⟨rfl, rfl⟩ (c_X4_pageAt _ G _ _ _ o' ho) hc.1 hc.2 (by decide) rfl rfl rfl (Nat.le_of_ble_eq_true rfl) ⟨Nat.le_refl _, Nat.le_refl _⟩ hl hr hs⟩) (fun a17 h => ?_)
        refine m_gR C (dOf DX4_openFigure 45 rfl) kf_X4_168 fg_3_5 h (fun a18 h => ?_)
        refine m_iload C (dOf DX4_openFigure 46 rfl) 0 rfl ?_
        refine m_cP (st := []) h (fun o' ho H locs ls hl hr hs => ⟨_, m_runSN C (dOf DX4_openFigure 47 rfl) kn_X4_102 ks_X8_at (by decide) ⟨rfl, rfl⟩ (c_X8_at _ G _ _ _ o' ho) rfl rfl (Nat.le_of_ble_eq_true rfl) ⟨Nat.le_refl _, Nat.le_refl _⟩ hl hr hs⟩) (fun v19 h => ?_)
        exact m_iretP C rfl (dOf DX4_openFigure 48 rfl) h
      have qn4 := neT n4 kt_4
      have qn5 := neT n5 kt_5
      have qn6 := neT n6 kt_6
      refine m_tout C (dOf DX4_openFigure 19 rfl) (tgt := 112) (by omega) rfl ?_
      refine m_aload_n C (dOf DX4_openFigure 49 rfl) rfl 2 rfl ?_
      refine m_iload_n C (dOf DX4_openFigure 50 rfl) rfl 1 rfl ?_
      obtain ⟨hc, h⟩ := ck_spec h
      refine m_cN (st := []) h (fun o' ho H locs ls hl hr hs => ⟨_, m_runV C (dOf DX4_openFigure 51 rfl) km_X4_46 ky_X4_pageAt (by decide) ⟨rfl, rfl⟩ (c_X4_pageAt _ G _ _ _ o' ho) hc.1 hc.2 (by decide) rfl rfl rfl (Nat.le_of_ble_eq_true rfl) ⟨Nat.le_refl _, Nat.le_refl _⟩ hl hr hs⟩) (fun a20 h => ?_)
      refine m_iload C (dOf DX4_openFigure 52 rfl) 0 rfl ?_
      refine m_iload_n C (dOf DX4_openFigure 53 rfl) rfl 4 rfl ?_
      obtain ⟨hc, h⟩ := ck_spec h
      refine m_cP (st := []) h (fun o' ho H locs ls hl hr hs => ⟨_, m_runV C (dOf DX4_openFigure 54 rfl) km_X4_219 ky_X3_itemFigure (by decide) ⟨rfl, rfl⟩ (c_X3_itemFigure _ G _ _ _ _ o' ho) hc.1 hc.2 (by decide) rfl rfl rfl (Nat.le_of_ble_eq_true rfl) ⟨Nat.le_refl _, Nat.le_refl _⟩ hl hr hs⟩) (fun v21 h => ?_)
      exact m_iretP C rfl (dOf DX4_openFigure 55 rfl) h
    · exact m_sub [] rfl (hj1 _ h)
