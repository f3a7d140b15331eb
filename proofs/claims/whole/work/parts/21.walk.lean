/-- TraceRing$Ring.pageAt(I)LTraceRing$Page; -/
def f_X4_pageAt (S : St) (b0 : Nat) (p1 : Int32) : Option Nat :=
  jn_ (fun (x1 : Unit) =>
    gR_ S b0 4 6 fun a2 =>
    rt_ a2
  ) fun j1 =>
  if p1 < 0 then
    j1 ()
  else
    gR_ S b0 4 0 fun a3 =>
    al_ S a3 15 fun v4 =>
    if v4 ≤ p1 then
      j1 ()
    else
      gR_ S b0 4 0 fun a5 =>
      aR_ S a5 15 p1 fun a6 =>
      gR_ S b0 4 0 fun a7 =>
      aR_ S a7 15 p1 fun a8 =>
      rt_ a8
set_option maxRecDepth 100000 in
set_option maxHeartbeats 4000000 in
theorem c_X4_pageAt (l : Launch) (G : Gx) (S : St) (b0 : Nat) (p1 : Int32) (o : Nat) (h : f_X4_pageAt S b0 p1 = some o) : Met l yX4_pageAt (Cond.code yX4_pageAt cX4_pageAt 2 (some (.object "TraceRing$Page")) :: wAll) ({ frames := 0, cells := 0, slots := 0, locals := 0 } : Room) (va_Pc [.ref (G.1 + b0), .int p1] (wPre G S)) (qR G (some o, S)) 0 0 (wA G) := by
  refine m_start (by decide +kernel) (Nat.le_of_ble_eq_true rfl) (fun X C => ?_)
  unfold f_X4_pageAt at h
  show WM X G 2 0 0 (wQ X G (qR G (some o, S)) 0 0) 0 [(0, .ref (G.1 + b0)), (1, .int p1)] [] S
  refine m_iload_n C (dOf DX4_pageAt 0 rfl) rfl 1 rfl ?_
  refine m_jn (J := fun (x1 : Unit) => WM X G 2 0 0 (wQ X G (qR G (some o, S)) 0 0) 22 [(0, .ref (G.1 + b0))] [] S) h (fun x1 h => ?_) (fun j1 hj1 h => ?_)
  · refine m_aload_n C (dOf DX4_pageAt 12 rfl) rfl 0 rfl ?_
    refine m_gR C (dOf DX4_pageAt 13 rfl) kf_X4_38 fg_4_6 h (fun a2 h => ?_)
    exact m_aretN C rfl (Or.inl ⟨_, rfl⟩) (dOf DX4_pageAt 14 rfl) h
  refine m_iflt C (dOf DX4_pageAt 1 rfl) (tgt := 22) rfl h (fun h => ?_) (fun h => ?_)
  · exact m_sub [0] rfl (hj1 _ h)
  · refine m_iload_n C (dOf DX4_pageAt 2 rfl) rfl 1 rfl ?_
    refine m_aload_n C (dOf DX4_pageAt 3 rfl) rfl 0 rfl ?_
    refine m_gR C (dOf DX4_pageAt 4 rfl) kf_X4_11 fg_4_0 h (fun a3 h => ?_)
    refine m_al C (dOf DX4_pageAt 5 rfl) (by decide) h (fun v4 h => ?_)
    refine m_icmpge C (dOf DX4_pageAt 6 rfl) (tgt := 22) rfl h (fun h => ?_) (fun h => ?_)
    · exact m_sub [0] rfl (hj1 _ h)
    · refine m_aload_n C (dOf DX4_pageAt 7 rfl) rfl 0 rfl ?_
      refine m_gR C (dOf DX4_pageAt 8 rfl) kf_X4_11 fg_4_0 h (fun a5 h => ?_)
      refine m_iload_n C (dOf DX4_pageAt 9 rfl) rfl 1 rfl ?_
      refine m_aR C (dOf DX4_pageAt 10 rfl) (by decide) h (fun a6 h => ?_)
      refine m_ifnonnullR C (dOf DX4_pageAt 11 rfl) (tgt := 27) rfl ?_
      refine m_aload_n C (dOf DX4_pageAt 15 rfl) rfl 0 rfl ?_
      refine m_gR C (dOf DX4_pageAt 16 rfl) kf_X4_11 fg_4_0 h (fun a7 h => ?_)
      refine m_iload_n C (dOf DX4_pageAt 17 rfl) rfl 1 rfl ?_
      refine m_aR C (dOf DX4_pageAt 18 rfl) (by decide) h (fun a8 h => ?_)
      exact m_aretN C rfl (Or.inl ⟨_, rfl⟩) (dOf DX4_pageAt 19 rfl) h
/-- TraceRing$Page.clear()V -/
def f_X3_clear (S : St) (b0 : Nat) : Option St :=
  lp_ (fun self1 (x1 : Int32 × St) =>
    gR_ x1.2 b0 3 0 fun a2 =>
    al_ x1.2 a2 11 fun v3 =>
    if v3 ≤ x1.1 then
      pI_ x1.2 b0 3 8 0 fun S4 =>
      pI_ S4 b0 3 9 0 fun S5 =>
      pI_ S5 b0 3 10 0 fun S6 =>
      rt_ S6
    else
      gR_ x1.2 b0 3 0 fun a7 =>
      sI_ x1.2 a7 x1.1 0 fun S8 =>
      lt_ (x1.1 + 1) fun v9 =>
      self1 (v9, S8)
  ) FU (0, S)
set_option maxRecDepth 100000 in
set_option maxHeartbeats 4000000 in
theorem c_X3_clear (l : Launch) (G : Gx) (S : St) (b0 : Nat) (o : St) (h : f_X3_clear S b0 = some o) : Met l yX3_clear (Cond.code yX3_clear cX3_clear 2 none :: wAll) ({ frames := 0, cells := 0, slots := 0, locals := 0 } : Room) (va_Pc [.ref (G.1 + b0)] (wPre G S)) (qV G o) 0 0 (wA G) := by
  refine m_start (by decide +kernel) (Nat.le_of_ble_eq_true rfl) (fun X C => ?_)
  unfold f_X3_clear at h
  show WM X G 2 0 0 (wQ X G (qV G o) 0 0) 0 [(0, .ref (G.1 + b0))] [] S
  refine m_iconst C (dOf DX3_clear 0 rfl) (v := 0) ki_0 ?_
  refine m_istore_n C (dOf DX3_clear 1 rfl) rfl (by decide) (lv' := [(1, .int 0), (0, .ref (G.1 + b0))]) rfl ?_
  refine m_sub [1, 0] rfl (m_lp (J := fun (x1 : Int32 × St) => WM X G 2 0 0 (wQ X G (qV G o) 0 0) 2 [(0, .ref (G.1 + b0)), (1, .int x1.1)] [] x1.2) h (fun self1 hself1 x1 h => ?_))
  refine m_iload_n C (dOf DX3_clear 2 rfl) rfl 1 rfl ?_
  refine m_aload_n C (dOf DX3_clear 3 rfl) rfl 0 rfl ?_
  refine m_gR C (dOf DX3_clear 4 rfl) kf_X3_9 fg_3_0 h (fun a2 h => ?_)
  refine m_al C (dOf DX3_clear 5 rfl) (by decide) h (fun v3 h => ?_)
  refine m_icmpge C (dOf DX3_clear 6 rfl) (tgt := 24) rfl h (fun h => ?_) (fun h => ?_)
  · refine m_aload_n C (dOf DX3_clear 14 rfl) rfl 0 rfl ?_
    refine m_iconst C (dOf DX3_clear 15 rfl) (v := 0) ki_0 ?_
    refine m_pI C (dOf DX3_clear 16 rfl) kf_X3_37 fp_3_8 h (fun S4 h => ?_)
    refine m_aload_n C (dOf DX3_clear 17 rfl) rfl 0 rfl ?_
    refine m_iconst C (dOf DX3_clear 18 rfl) (v := 0) ki_0 ?_
    refine m_pI C (dOf DX3_clear 19 rfl) kf_X3_41 fp_3_9 h (fun S5 h => ?_)
    refine m_aload_n C (dOf DX3_clear 20 rfl) rfl 0 rfl ?_
    refine m_iconst C (dOf DX3_clear 21 rfl) (v := 0) ki_0 ?_
    refine m_pI C (dOf DX3_clear 22 rfl) kf_X3_44 fp_3_10 h (fun S6 h => ?_)
    exact m_vret C rfl (dOf DX3_clear 23 rfl) h
  · refine m_aload_n C (dOf DX3_clear 7 rfl) rfl 0 rfl ?_
    refine m_gR C (dOf DX3_clear 8 rfl) kf_X3_9 fg_3_0 h (fun a7 h => ?_)
    refine m_iload_n C (dOf DX3_clear 9 rfl) rfl 1 rfl ?_
    refine m_iconst C (dOf DX3_clear 10 rfl) (v := 0) ki_0 ?_
    refine m_sI C (dOf DX3_clear 11 rfl) h (fun S8 h => ?_)
    refine m_iinc C (dOf DX3_clear 12 rfl) (w := 1) ki_1 1 rfl (by decide) h (fun v9 h => ⟨[(1, .int v9), (0, .ref (G.1 + b0))], rfl, ?_⟩)
    refine m_goto C (dOf DX3_clear 13 rfl) (tgt := 2) rfl ?_
    exact m_sub [1, 0] rfl (hself1 _ h)
/-- TraceRing$Ring.begin(IIZ)V -/
def f_X4_begin (S : St) (b0 : Nat) (p1 : Int32) (p2 : Int32) (p3 : Int32) : Option St :=
  lp_ (fun self1 (x1 : Int32 × St) =>
    if 6 ≤ x1.1 then
      lp_ (fun self2 (x2 : Int32 × St) =>
        gR_ x2.2 b0 4 4 fun a3 =>
        al_ x2.2 a3 11 fun v4 =>
        if v4 ≤ x2.1 then
          gR_ x2.2 b0 4 4 fun a5 =>
          cV_ (f_X8_set x2.2 a5 17 (-1)) fun S6 =>
          gR_ S6 b0 4 6 fun a7 =>
          ck_ S6 a7 3 <| cV_ (f_X3_clear S6 a7) fun S8 =>
          gR_ S8 b0 4 5 fun a9 =>
          ck_ S8 a9 1 <| cV_ (f_X1_clear S8 a9) fun S10 =>
          pI_ S10 b0 4 7 0 fun S11 =>
          pI_ S11 b0 4 8 p1 fun S12 =>
          pI_ S12 b0 4 9 p2 fun S13 =>
          pZ_ S13 b0 4 10 p3 fun S14 =>
          pI_ S14 b0 4 11 0 fun S15 =>
          pI_ S15 b0 4 12 0 fun S16 =>
          pI_ S16 b0 4 13 1 fun S17 =>
          pI_ S17 b0 4 14 15 fun S18 =>
          pI_ S18 b0 4 15 0 fun S19 =>
          rt_ S19
        else
          gR_ x2.2 b0 4 4 fun a20 =>
          sI_ x2.2 a20 x2.1 0 fun S21 =>
          lt_ (x2.1 + 1) fun v22 =>
          self2 (v22, S21)
      ) FU (0, x1.2)
    else
      ck_ x1.2 b0 4 <| cP_ (f_X4_pageAt x1.2 b0 x1.1) fun a23 =>
      ck_ x1.2 a23 3 <| cV_ (f_X3_clear x1.2 a23) fun S24 =>
      lt_ (x1.1 + 1) fun v25 =>
      self1 (v25, S24)
  ) FU (0, S)
set_option maxRecDepth 100000 in
set_option maxHeartbeats 4000000 in
theorem c_X4_begin (l : Launch) (G : Gx) (S : St) (b0 : Nat) (p1 : Int32) (p2 : Int32) (p3 : Int32) (o : St) (h : f_X4_begin S b0 p1 p2 p3 = some o) : Met l yX4_begin (Cond.code yX4_begin cX4_begin 5 none :: wAll) ({ frames := 1, cells := 0, slots := 0, locals := 22 } : Room) (va_Pc [.ref (G.1 + b0), .int p1, .int p2, .int p3] (wPre G S)) (qV G o) 0 0 (wA G) := by
  refine m_start (by decide +kernel) (Nat.le_of_ble_eq_true rfl) (fun X C => ?_)
  unfold f_X4_begin at h
  show WM X G 5 0 0 (wQ X G (qV G o) 0 0) 0 [(0, .ref (G.1 + b0)), (1, .int p1), (2, .int p2), (3, .int p3)] [] S
  refine m_iconst C (dOf DX4_begin 0 rfl) (v := 0) ki_0 ?_
  refine m_istore C (dOf DX4_begin 1 rfl) (by decide) (lv' := [(4, .int 0), (0, .ref (G.1 + b0)), (1, .int p1), (2, .int p2), (3, .int p3)]) rfl ?_
  refine m_sub [1, 2, 3, 4, 0] rfl (m_lp (J := fun (x1 : Int32 × St) => WM X G 5 0 0 (wQ X G (qV G o) 0 0) 3 [(0, .ref (G.1 + b0)), (1, .int p1), (2, .int p2), (3, .int p3), (4, .int x1.1)] [] x1.2) h (fun self1 hself1 x1 h => ?_))
  refine m_iload C (dOf DX4_begin 2 rfl) 4 rfl ?_
  refine m_bipush C (dOf DX4_begin 3 rfl) (v := 6) kb_6 ?_
  refine m_icmpge C (dOf DX4_begin 4 rfl) (tgt := 25) rfl h (fun h => ?_) (fun h => ?_)
  · refine m_iconst C (dOf DX4_begin 11 rfl) (v := 0) ki_0 ?_
    refine m_istore C (dOf DX4_begin 12 rfl) (by decide) (lv' := [(4, .int 0), (0, .ref (G.1 + b0)), (1, .int p1), (2, .int p2), (3, .int p3)]) rfl ?_
    refine m_sub [1, 2, 3, 4, 0] rfl (m_lp (J := fun (x2 : Int32 × St) => WM X G 5 0 0 (wQ X G (qV G o) 0 0) 28 [(0, .ref (G.1 + b0)), (1, .int p1), (2, .int p2), (3, .int p3), (4, .int x2.1)] [] x2.2) h (fun self2 hself2 x2 h => ?_))
    refine m_iload C (dOf DX4_begin 13 rfl) 4 rfl ?_
    refine m_aload_n C (dOf DX4_begin 14 rfl) rfl 0 rfl ?_
    refine m_gR C (dOf DX4_begin 15 rfl) kf_X4_27 fg_4_4 h (fun a3 h => ?_)
    refine m_al C (dOf DX4_begin 16 rfl) (by decide) h (fun v4 h => ?_)
    refine m_icmpge C (dOf DX4_begin 17 rfl) (tgt := 52) rfl h (fun h => ?_) (fun h => ?_)
    · refine m_aload_n C (dOf DX4_begin 25 rfl) rfl 0 rfl ?_
      refine m_gR C (dOf DX4_begin 26 rfl) kf_X4_27 fg_4_4 h (fun a5 h => ?_)
      refine m_bipush C (dOf DX4_begin 27 rfl) (v := 17) kb_17 ?_
      refine m_iconst C (dOf DX4_begin 28 rfl) (v := (-1)) ki_m1 ?_
      refine m_cV (st := []) h (fun o' ho H locs ls hl hr hs => ⟨_, m_runSN C (dOf DX4_begin 29 rfl) kn_X4_53 ks_X8_set (by decide) ⟨rfl, rfl⟩ (c_X8_set _ G _ _ _ _ o' ho) rfl rfl (Nat.le_of_ble_eq_true rfl) ⟨Nat.le_refl _, Nat.le_refl _⟩ hl hr hs⟩) (fun S6 h => ?_)
      refine m_aload_n C (dOf DX4_begin 30 rfl) rfl 0 rfl ?_
      refine m_gR C (dOf DX4_begin 31 rfl) kf_X4_38 fg_4_6 h (fun a7 h => ?_)
      obtain ⟨hc, h⟩ := ck_spec h
      refine m_cV (st := []) h (fun o' ho H locs ls hl hr hs => ⟨_, m_runV C (dOf DX4_begin 32 rfl) km_X4_50 ky_X3_clear (by decide) ⟨rfl, rfl⟩ (c_X3_clear _ G _ _ o' ho) hc.1 hc.2 (by decide) rfl rfl rfl (Nat.le_of_ble_eq_true rfl) ⟨Nat.le_refl _, Nat.le_refl _⟩ hl hr hs⟩) (fun S8 h => ?_)
      refine m_aload_n C (dOf DX4_begin 33 rfl) rfl 0 rfl ?_
      refine m_gR C (dOf DX4_begin 34 rfl) kf_X4_33 fg_4_5 h (fun a9 h => ?_)
      obtain ⟨hc, h⟩ := ck_spec h
      refine m_cV (st := []) h (fun o' ho H locs ls hl hr hs => ⟨_, m_runV C (dOf DX4_begin 35 rfl) km_X4_57 ky_X1_clear (by decide) ⟨rfl, rfl⟩ (c_X1_clear _ G _ _ o' ho) hc.1 hc.2 (by decide) rfl rfl rfl (Nat.le_of_ble_eq_true rfl) ⟨Nat.le_refl _, Nat.le_refl _⟩ hl hr hs⟩) (fun S10 h => ?_)
      refine m_aload_n C (dOf DX4_begin 36 rfl) rfl 0 rfl ?_
      refine m_iconst C (dOf DX4_begin 37 rfl) (v := 0) ki_0 ?_
      refine m_pI C (dOf DX4_begin 38 rfl) kf_X4_58 fp_4_7 h (fun S11 h => ?_)
      refine m_aload_n C (dOf DX4_begin 39 rfl) rfl 0 rfl ?_
      refine m_iload_n C (dOf DX4_begin 40 rfl) rfl 1 rfl ?_
      refine m_pI C (dOf DX4_begin 41 rfl) kf_X4_62 fp_4_8 h (fun S12 h => ?_)
      refine m_aload_n C (dOf DX4_begin 42 rfl) rfl 0 rfl ?_
      refine m_iload_n C (dOf DX4_begin 43 rfl) rfl 2 rfl ?_
      refine m_pI C (dOf DX4_begin 44 rfl) kf_X4_65 fp_4_9 h (fun S13 h => ?_)
      refine m_aload_n C (dOf DX4_begin 45 rfl) rfl 0 rfl ?_
      refine m_iload_n C (dOf DX4_begin 46 rfl) rfl 3 rfl ?_
      refine m_pZ C (dOf DX4_begin 47 rfl) kf_X4_68 fp_4_10 h (fun S14 h => ?_)
      refine m_aload_n C (dOf DX4_begin 48 rfl) rfl 0 rfl ?_
      refine m_iconst C (dOf DX4_begin 49 rfl) (v := 0) ki_0 ?_
      refine m_pI C (dOf DX4_begin 50 rfl) kf_X4_72 fp_4_11 h (fun S15 h => ?_)
      refine m_aload_n C (dOf DX4_begin 51 rfl) rfl 0 rfl ?_
      refine m_iconst C (dOf DX4_begin 52 rfl) (v := 0) ki_0 ?_
      refine m_pI C (dOf DX4_begin 53 rfl) kf_X4_75 fp_4_12 h (fun S16 h => ?_)
      refine m_aload_n C (dOf DX4_begin 54 rfl) rfl 0 rfl ?_
      refine m_iconst C (dOf DX4_begin 55 rfl) (v := 1) ki_1 ?_
      refine m_pI C (dOf DX4_begin 56 rfl) kf_X4_78 fp_4_13 h (fun S17 h => ?_)
      refine m_aload_n C (dOf DX4_begin 57 rfl) rfl 0 rfl ?_
      refine m_bipush C (dOf DX4_begin 58 rfl) (v := 15) kb_15 ?_
      refine m_pI C (dOf DX4_begin 59 rfl) kf_X4_81 fp_4_14 h (fun S18 h => ?_)
      refine m_aload_n C (dOf DX4_begin 60 rfl) rfl 0 rfl ?_
      refine m_iconst C (dOf DX4_begin 61 rfl) (v := 0) ki_0 ?_
      refine m_pI C (dOf DX4_begin 62 rfl) kf_X4_84 fp_4_15 h (fun S19 h => ?_)
      exact m_vret C rfl (dOf DX4_begin 63 rfl) h
    · refine m_aload_n C (dOf DX4_begin 18 rfl) rfl 0 rfl ?_
      refine m_gR C (dOf DX4_begin 19 rfl) kf_X4_27 fg_4_4 h (fun a20 h => ?_)
      refine m_iload C (dOf DX4_begin 20 rfl) 4 rfl ?_
      refine m_iconst C (dOf DX4_begin 21 rfl) (v := 0) ki_0 ?_
      refine m_sI C (dOf DX4_begin 22 rfl) h (fun S21 h => ?_)
      refine m_iinc C (dOf DX4_begin 23 rfl) (w := 1) ki_1 4 rfl (by decide) h (fun v22 h => ⟨[(4, .int v22), (0, .ref (G.1 + b0)), (1, .int p1), (2, .int p2), (3, .int p3)], rfl, ?_⟩)
      refine m_goto C (dOf DX4_begin 24 rfl) (tgt := 28) rfl ?_
      exact m_sub [1, 2, 3, 4, 0] rfl (hself2 _ h)
  · refine m_aload_n C (dOf DX4_begin 5 rfl) rfl 0 rfl ?_
    refine m_iload C (dOf DX4_begin 6 rfl) 4 rfl ?_
    obtain ⟨hc, h⟩ := ck_spec h
    refine m_cN (st := []) h (fun o' ho H locs ls hl hr hs => ⟨_, m_runV C (dOf DX4_begin 7 rfl) km_X4_46 ky_X4_pageAt (by decide) ⟨rfl, rfl⟩ (c_X4_pageAt _ G _ _ _ o' ho) hc.1 hc.2 (by decide) rfl rfl rfl (Nat.le_of_ble_eq_true rfl) ⟨Nat.le_refl _, Nat.le_refl _⟩ hl hr hs⟩) (fun a23 h => ?_)
    obtain ⟨hc, h⟩ := ck_spec h
    refine m_cV (st := []) h (fun o' ho H locs ls hl hr hs => ⟨_, m_runV C (dOf DX4_begin 8 rfl) km_X4_50 ky_X3_clear (by decide) ⟨rfl, rfl⟩ (c_X3_clear _ G _ _ o' ho) hc.1 hc.2 (by decide) rfl rfl rfl (Nat.le_of_ble_eq_true rfl) ⟨Nat.le_refl _, Nat.le_refl _⟩ hl hr hs⟩) (fun S24 h => ?_)
    refine m_iinc C (dOf DX4_begin 9 rfl) (w := 1) ki_1 4 rfl (by decide) h (fun v25 h => ⟨[(4, .int v25), (0, .ref (G.1 + b0)), (1, .int p1), (2, .int p2), (3, .int p3)], rfl, ?_⟩)
    refine m_goto C (dOf DX4_begin 10 rfl) (tgt := 3) rfl ?_
    exact m_sub [1, 2, 3, 4, 0] rfl (hself1 _ h)
/-- TraceRing$Lines.found(LTraceRing$Ring;)V -/
def f_X2_found (S : St) (b0 : Nat) (b1 : Nat) : Option St :=
  lp_ (fun self1 (x1 : Int32 × Int32 × Int32 × Int32) =>
    gI_ S b0 2 3 fun v2 =>
    if v2 ≤ x1.2.2.2 then
      ck_ S b1 4 <| cV_ (f_X4_begin S b1 x1.1 x1.2.1 x1.2.2.1) fun S3 =>
      rt_ S3
    else
      gR_ S b0 2 1 fun a4 =>
      cP_ (f_X8_at S a4 x1.2.2.2) fun v5 =>
      gR_ S b0 2 0 fun a6 =>
      cP_ (f_X8_at S a6 x1.2.2.2) fun v7 =>
      jn_ (fun (x8 : Int32 × Int32 × Int32) =>
        lt_ (x1.2.2.2 + 1) fun v9 =>
        self1 (x8.1, x8.2.1, x8.2.2, v9)
      ) fun j8 =>
      if v7 = 0 then
        j8 (v5, x1.2.1, x1.2.2.1)
      else
      if v7 = 1 then
        j8 (x1.1, v5, x1.2.2.1)
      else
      if v7 = 2 then
        j8 (x1.1, x1.2.1, 1)
      else
      j8 (x1.1, x1.2.1, 0)
  ) FU (3, 16, 1, 0)
set_option maxRecDepth 100000 in
set_option maxHeartbeats 4000000 in
theorem c_X2_found (l : Launch) (G : Gx) (S : St) (b0 : Nat) (b1 : Nat) (o : St) (h : f_X2_found S b0 b1 = some o) : Met l yX2_found (Cond.code yX2_found cX2_found 7 none :: wAll) ({ frames := 2, cells := 0, slots := 0, locals := 46 } : Room) (va_Pc [.ref (G.1 + b0), .ref (G.1 + b1)] (wPre G S)) (qV G o) 0 0 (wA G) := by
  refine m_start (by decide +kernel) (Nat.le_of_ble_eq_true rfl) (fun X C => ?_)
  unfold f_X2_found at h
  show WM X G 7 0 0 (wQ X G (qV G o) 0 0) 0 [(0, .ref (G.1 + b0)), (1, .ref (G.1 + b1))] [] S
  refine m_iconst C (dOf DX2_found 0 rfl) (v := 3) ki_3 ?_
  refine m_istore_n C (dOf DX2_found 1 rfl) rfl (by decide) (lv' := [(2, .int 3), (0, .ref (G.1 + b0)), (1, .ref (G.1 + b1))]) rfl ?_
  refine m_bipush C (dOf DX2_found 2 rfl) (v := 16) kb_16 ?_
  refine m_istore_n C (dOf DX2_found 3 rfl) rfl (by decide) (lv' := [(3, .int 16), (2, .int 3), (0, .ref (G.1 + b0)), (1, .ref (G.1 + b1))]) rfl ?_
  refine m_iconst C (dOf DX2_found 4 rfl) (v := 1) ki_1 ?_
  refine m_istore C (dOf DX2_found 5 rfl) (by decide) (lv' := [(4, .int 1), (3, .int 16), (2, .int 3), (0, .ref (G.1 + b0)), (1, .ref (G.1 + b1))]) rfl ?_
  refine m_iconst C (dOf DX2_found 6 rfl) (v := 0) ki_0 ?_
  refine m_istore C (dOf DX2_found 7 rfl) (by decide) (lv' := [(5, .int 0), (4, .int 1), (3, .int 16), (2, .int 3), (0, .ref (G.1 + b0)), (1, .ref (G.1 + b1))]) rfl ?_
  refine m_sub [4, 5, 3, 2, 1, 0] rfl (m_lp (J := fun (x1 : Int32 × Int32 × Int32 × Int32) => WM X G 7 0 0 (wQ X G (qV G o) 0 0) 11 [(0, .ref (G.1 + b0)), (1, .ref (G.1 + b1)), (2, .int x1.1), (3, .int x1.2.1), (4, .int x1.2.2.1), (5, .int x1.2.2.2)] [] S) h (fun self1 hself1 x1 h => ?_))
  refine m_iload C (dOf DX2_found 8 rfl) 5 rfl ?_
  refine m_aload_n C (dOf DX2_found 9 rfl) rfl 0 rfl ?_
  refine m_gI C (dOf DX2_found 10 rfl) kf_X2_21 fg_2_3 h (fun v2 h => ?_)
  refine m_icmpge C (dOf DX2_found 11 rfl) (tgt := 95) rfl h (fun h => ?_) (fun h => ?_)
  · refine m_aload_n C (dOf DX2_found 35 rfl) rfl 1 rfl ?_
    refine m_iload_n C (dOf DX2_found 36 rfl) rfl 2 rfl ?_
    refine m_iload_n C (dOf DX2_found 37 rfl) rfl 3 rfl ?_
    refine m_iload C (dOf DX2_found 38 rfl) 4 rfl ?_
    obtain ⟨hc, h⟩ := ck_spec h
    refine m_cV (st := []) h (fun o' ho H locs ls hl hr hs => ⟨_, m_runV C (dOf DX2_found 39 rfl) km_X2_113 ky_X4_begin (by decide) ⟨rfl, rfl⟩ (c_X4_begin _ G _ _ _ _ _ o' ho) hc.1 hc.2 (by decide) rfl rfl rfl (Nat.le_of_ble_eq_true rfl) ⟨Nat.le_refl _, Nat.le_refl _⟩ hl hr hs⟩) (fun S3 h => ?_)
    exact m_vret C rfl (dOf DX2_found 40 rfl) h
  · refine m_aload_n C (dOf DX2_found 12 rfl) rfl 0 rfl ?_
    refine m_gR C (dOf DX2_found 13 rfl) kf_X2_15 fg_2_1 h (fun a4 h => ?_)
    refine m_iload C (dOf DX2_found 14 rfl) 5 rfl ?_
    refine m_cP (st := []) h (fun o' ho H locs ls hl hr hs => ⟨_, m_runSN C (dOf DX2_found 15 rfl) kn_X2_109 ks_X8_at (by decide) ⟨rfl, rfl⟩ (c_X8_at _ G _ _ _ o' ho) rfl rfl (Nat.le_of_ble_eq_true rfl) ⟨Nat.le_refl _, Nat.le_refl _⟩ hl hr hs⟩) (fun v5 h => ?_)
    refine m_istore C (dOf DX2_found 16 rfl) (by decide) (lv' := [(6, .int v5), (0, .ref (G.1 + b0)), (1, .ref (G.1 + b1)), (2, .int x1.1), (3, .int x1.2.1), (4, .int x1.2.2.1), (5, .int x1.2.2.2)]) rfl ?_
    refine m_aload_n C (dOf DX2_found 17 rfl) rfl 1 rfl ?_
    refine m_gR C (dOf DX2_found 18 rfl) kf_X2_9 fg_2_0 h (fun a6 h => ?_)
    refine m_iload C (dOf DX2_found 19 rfl) 6 rfl ?_
    refine m_cP (st := []) h (fun o' ho H locs ls hl hr hs => ⟨_, m_runSN C (dOf DX2_found 20 rfl) kn_X2_109 ks_X8_at (by decide) ⟨rfl, rfl⟩ (c_X8_at _ G _ _ _ o' ho) rfl rfl (Nat.le_of_ble_eq_true rfl) ⟨Nat.le_refl _, Nat.le_refl _⟩ hl hr hs⟩) (fun v7 h => ?_)
    refine m_jn (J := fun (x8 : Int32 × Int32 × Int32) => WM X G 7 0 0 (wQ X G (qV G o) 0 0) 89 [(0, .ref (G.1 + b0)), (1, .ref (G.1 + b1)), (2, .int x8.1), (3, .int x8.2.1), (4, .int x8.2.2), (5, .int x1.2.2.2)] [] S) h (fun x8 h => ?_) (fun j8 hj8 h => ?_)
    · refine m_iinc C (dOf DX2_found 33 rfl) (w := 1) ki_1 5 rfl (by decide) h (fun v9 h => ⟨[(5, .int v9), (0, .ref (G.1 + b0)), (1, .ref (G.1 + b1)), (2, .int x8.1), (3, .int x8.2.1), (4, .int x8.2.2)], rfl, ?_⟩)
      refine m_goto C (dOf DX2_found 34 rfl) (tgt := 11) rfl ?_
      exact m_sub [1, 2, 3, 4, 5, 0] rfl (hself1 _ h)
    refine m_sw h (fun e h => ?_) (fun n0 h => ?_)
    · refine m_tin C (dOf DX2_found 21 rfl) 0 e (by decide) (by decide) (off := 28) rfl (tgt := 68) rfl ?_
      refine m_iload C (dOf DX2_found 22 rfl) 0 rfl ?_
      refine m_istore_n C (dOf DX2_found 23 rfl) rfl (by decide) (lv' := [(2, .int v5), (6, .int v5), (0, .ref (G.1 + b0)), (1, .ref (G.1 + b1)), (3, .int x1.2.1), (4, .int x1.2.2.1), (5, .int x1.2.2.2)]) rfl ?_
      refine m_goto C (dOf DX2_found 24 rfl) (tgt := 89) rfl ?_
      exact m_sub [2, 3, 0, 4, 5, 6] rfl (hj8 _ h)
    refine m_sw h (fun e h => ?_) (fun n1 h => ?_)
    · refine m_tin C (dOf DX2_found 21 rfl) 1 e (by decide) (by decide) (off := 34) rfl (tgt := 74) rfl ?_
      refine m_iload C (dOf DX2_found 25 rfl) 0 rfl ?_
      refine m_istore_n C (dOf DX2_found 26 rfl) rfl (by decide) (lv' := [(3, .int v5), (6, .int v5), (0, .ref (G.1 + b0)), (1, .ref (G.1 + b1)), (2, .int x1.1), (4, .int x1.2.2.1), (5, .int x1.2.2.2)]) rfl ?_
      refine m_goto C (dOf DX2_found 27 rfl) (tgt := 89) rfl ?_
      exact m_sub [2, 3, 4, 0, 5, 6] rfl (hj8 _ h)
    refine m_sw h (fun e h => ?_) (fun n2 h => ?_)
    · refine m_tin C (dOf DX2_found 21 rfl) 2 e (by decide) (by decide) (off := 40) rfl (tgt := 80) rfl ?_
      refine m_iconst C (dOf DX2_found 28 rfl) (v := 1) ki_1 ?_
      refine m_istore C (dOf DX2_found 29 rfl) (by decide) (lv' := [(4, .int 1), (6, .int v5), (0, .ref (G.1 + b0)), (1, .ref (G.1 + b1)), (2, .int x1.1), (3, .int x1.2.1), (5, .int x1.2.2.2)]) rfl ?_
      refine m_goto C (dOf DX2_found 30 rfl) (tgt := 89) rfl ?_
      exact m_sub [2, 3, 4, 5, 0, 6] rfl (hj8 _ h)
    have qn0 := neT n0 kt_0
    have qn1 := neT n1 kt_1
    have qn2 := neT n2 kt_2
    refine m_tout C (dOf DX2_found 21 rfl) (tgt := 86) (by omega) rfl ?_
    refine m_iconst C (dOf DX2_found 31 rfl) (v := 0) ki_0 ?_
    refine m_istore C (dOf DX2_found 32 rfl) (by decide) (lv' := [(4, .int 0), (6, .int v5), (0, .ref (G.1 + b0)), (1, .ref (G.1 + b1)), (2, .int x1.1), (3, .int x1.2.1), (5, .int x1.2.2.2)]) rfl ?_
    exact m_sub [2, 3, 4, 5, 0, 6] rfl (hj8 _ h)
/-- TraceRing$Ring.goOn(I)I -/
def f_X4_goOn (S : St) (b0 : Nat) (p1 : Int32) : Option (Int32 × St) :=
  jn_ (fun (x1 : Unit) =>
    rt_ ((-1), S)
  ) fun j1 =>
  if p1 < 1 then
    j1 ()
  else
    if 5000 < p1 then
      j1 ()
    else
      gI_ S b0 4 11 fun v2 =>
      lt_ (999999 - v2 : Int32) fun v3 =>
      if p1 ≤ v3 then
        gI_ S b0 4 11 fun v4 =>
        lt_ (v4 + p1 : Int32) fun v5 =>
        pI_ S b0 4 11 v5 fun S6 =>
        gI_ S6 b0 4 11 fun v7 =>
        rt_ (v7, S6)
      else
        j1 ()
set_option maxRecDepth 100000 in
set_option maxHeartbeats 4000000 in
theorem c_X4_goOn (l : Launch) (G : Gx) (S : St) (b0 : Nat) (p1 : Int32) (o : (Int32 × St)) (h : f_X4_goOn S b0 p1 = some o) : Met l yX4_goOn (Cond.code yX4_goOn cX4_goOn 2 (some (.int)) :: wAll) ({ frames := 0, cells := 0, slots := 0, locals := 0 } : Room) (va_Pc [.ref (G.1 + b0), .int p1] (wPre G S)) (qI G o) 0 0 (wA G) := by
  refine m_start (by decide +kernel) (Nat.le_of_ble_eq_true rfl) (fun X C => ?_)
  unfold f_X4_goOn at h
  show WM X G 2 0 0 (wQ X G (qI G o) 0 0) 0 [(0, .ref (G.1 + b0)), (1, .int p1)] [] S
  refine m_iload_n C (dOf DX4_goOn 0 rfl) rfl 1 rfl ?_
  refine m_iconst C (dOf DX4_goOn 1 rfl) (v := 1) ki_1 ?_
  refine m_jn (J := fun (x1 : Unit) => WM X G 2 0 0 (wQ X G (qI G o) 0 0) 23 [] [] S) h (fun x1 h => ?_) (fun j1 hj1 h => ?_)
  · refine m_iconst C (dOf DX4_goOn 12 rfl) (v := (-1)) ki_m1 ?_
    exact m_iret C rfl (dOf DX4_goOn 13 rfl) h
  refine m_icmplt C (dOf DX4_goOn 2 rfl) (tgt := 23) rfl h (fun h => ?_) (fun h => ?_)
  · exact m_sub [] rfl (hj1 _ h)
  · refine m_iload_n C (dOf DX4_goOn 3 rfl) rfl 1 rfl ?_
    refine m_sipush C (dOf DX4_goOn 4 rfl) (v := 5000) ks_5000 ?_
    refine m_icmpgt C (dOf DX4_goOn 5 rfl) (tgt := 23) rfl h (fun h => ?_) (fun h => ?_)
    · exact m_sub [] rfl (hj1 _ h)
    · refine m_iload_n C (dOf DX4_goOn 6 rfl) rfl 1 rfl ?_
      refine m_ldc C (dOf DX4_goOn 7 rfl) kc_X4_112 ?_
      refine m_aload_n C (dOf DX4_goOn 8 rfl) rfl 0 rfl ?_
      refine m_gI C (dOf DX4_goOn 9 rfl) kf_X4_72 fg_4_11 h (fun v2 h => ?_)
      refine m_isub C (dOf DX4_goOn 10 rfl) h (fun v3 h => ?_)
      refine m_icmple C (dOf DX4_goOn 11 rfl) (tgt := 25) rfl h (fun h => ?_) (fun h => ?_)
      · refine m_aload_n C (dOf DX4_goOn 14 rfl) rfl 0 rfl ?_
        refine m_dup C (dOf DX4_goOn 15 rfl) rfl ?_
        refine m_gI C (dOf DX4_goOn 16 rfl) kf_X4_72 fg_4_11 h (fun v4 h => ?_)
        refine m_iload_n C (dOf DX4_goOn 17 rfl) rfl 1 rfl ?_
        refine m_iadd C (dOf DX4_goOn 18 rfl) h (fun v5 h => ?_)
        refine m_pI C (dOf DX4_goOn 19 rfl) kf_X4_72 fp_4_11 h (fun S6 h => ?_)
        refine m_aload_n C (dOf DX4_goOn 20 rfl) rfl 0 rfl ?_
        refine m_gI C (dOf DX4_goOn 21 rfl) kf_X4_72 fg_4_11 h (fun v7 h => ?_)
        exact m_iret C rfl (dOf DX4_goOn 22 rfl) h
      · exact m_sub [] rfl (hj1 _ h)
/-- TraceRing$Ring.innermostLevel()I -/
def f_X4_innermostLevel (S : St) (b0 : Nat) : Option Int32 :=
  gI_ S b0 4 15 fun v1 =>
  lt_ (v1 - 1 : Int32) fun v2 =>
  jn_ (fun (x3 : Int32) =>
    rt_ x3
  ) fun j3 =>
  if 0 ≤ v2 then
    gR_ S b0 4 1 fun a4 =>
    cP_ (f_X8_at S a4 v2) fun v5 =>
    ck_ S b0 4 <| cP_ (f_X4_pageAt S b0 v5) fun a6 =>
    gR_ S a6 3 2 fun a7 =>
    gR_ S b0 4 2 fun a8 =>
    cP_ (f_X8_at S a8 v2) fun v9 =>
    cP_ (f_X8_at S a7 v9) fun v10 =>
    j3 (v10)
  else
    j3 ((-1))
set_option maxRecDepth 100000 in
set_option maxHeartbeats 4000000 in
theorem c_X4_innermostLevel (l : Launch) (G : Gx) (S : St) (b0 : Nat) (o : Int32) (h : f_X4_innermostLevel S b0 = some o) : Met l yX4_innermostLevel (Cond.code yX4_innermostLevel cX4_innermostLevel 2 (some (.int)) :: wAll) ({ frames := 1, cells := 0, slots := 0, locals := 21 } : Room) (va_Pc [.ref (G.1 + b0)] (wPre G S)) (qI G (o, S)) 0 0 (wA G) := by
  refine m_start (by decide +kernel) (Nat.le_of_ble_eq_true rfl) (fun X C => ?_)
  unfold f_X4_innermostLevel at h
  show WM X G 2 0 0 (wQ X G (qI G (o, S)) 0 0) 0 [(0, .ref (G.1 + b0))] [] S
  refine m_aload_n C (dOf DX4_innermostLevel 0 rfl) rfl 0 rfl ?_
  refine m_gI C (dOf DX4_innermostLevel 1 rfl) kf_X4_84 fg_4_15 h (fun v1 h => ?_)
  refine m_iconst C (dOf DX4_innermostLevel 2 rfl) (v := 1) ki_1 ?_
  refine m_isub C (dOf DX4_innermostLevel 3 rfl) h (fun v2 h => ?_)
  refine m_istore_n C (dOf DX4_innermostLevel 4 rfl) rfl (by decide) (lv' := [(1, .int v2), (0, .ref (G.1 + b0))]) rfl ?_
  refine m_iload_n C (dOf DX4_innermostLevel 5 rfl) rfl 0 rfl ?_
  refine m_jn (J := fun (x3 : Int32) => WM X G 2 0 0 (wQ X G (qI G (o, S)) 0 0) 41 [] [.int x3] S) h (fun x3 h => ?_) (fun j3 hj3 h => ?_)
  · exact m_iretP C rfl (dOf DX4_innermostLevel 21 rfl) h
  refine m_ifge C (dOf DX4_innermostLevel 6 rfl) (tgt := 15) rfl h (fun h => ?_) (fun h => ?_)
  · refine m_aload_n C (dOf DX4_innermostLevel 9 rfl) rfl 1 rfl ?_
    refine m_aload_n C (dOf DX4_innermostLevel 10 rfl) rfl 1 rfl ?_
    refine m_gR C (dOf DX4_innermostLevel 11 rfl) kf_X4_17 fg_4_1 h (fun a4 h => ?_)
    refine m_iload_n C (dOf DX4_innermostLevel 12 rfl) rfl 0 rfl ?_
    refine m_cP (st := [.ref (G.1 + b0)]) h (fun o' ho H locs ls hl hr hs => ⟨_, m_runSN C (dOf DX4_innermostLevel 13 rfl) kn_X4_102 ks_X8_at (by decide) ⟨rfl, rfl⟩ (c_X8_at _ G _ _ _ o' ho) rfl rfl (Nat.le_of_ble_eq_true rfl) ⟨Nat.le_refl _, Nat.le_refl _⟩ hl hr hs⟩) (fun v5 h => ?_)
    obtain ⟨hc, h⟩ := ck_spec h
    refine m_cN (st := []) h (fun o' ho H locs ls hl hr hs => ⟨_, m_runV C (dOf DX4_innermostLevel 14 rfl) km_X4_46 ky_X4_pageAt (by decide) ⟨rfl, rfl⟩ (c_X4_pageAt _ G _ _ _ o' ho) hc.1 hc.2 (by decide) rfl rfl rfl (Nat.le_of_ble_eq_true rfl) ⟨Nat.le_refl _, Nat.le_refl _⟩ hl hr hs⟩) (fun a6 h => ?_)
    refine m_gR C (dOf DX4_innermostLevel 15 rfl) kf_X4_113 fg_3_2 h (fun a7 h => ?_)
    refine m_aload_n C (dOf DX4_innermostLevel 16 rfl) rfl 1 rfl ?_
    refine m_gR C (dOf DX4_innermostLevel 17 rfl) kf_X4_21 fg_4_2 h (fun a8 h => ?_)
    refine m_iload_n C (dOf DX4_innermostLevel 18 rfl) rfl 0 rfl ?_
    refine m_cP (st := [.ref (G.1 + a7)]) h (fun o' ho H locs ls hl hr hs => ⟨_, m_runSN C (dOf DX4_innermostLevel 19 rfl) kn_X4_102 ks_X8_at (by decide) ⟨rfl, rfl⟩ (c_X8_at _ G _ _ _ o' ho) rfl rfl (Nat.le_of_ble_eq_true rfl) ⟨Nat.le_refl _, Nat.le_refl _⟩ hl hr hs⟩) (fun v9 h => ?_)
    refine m_cP (st := []) h (fun o' ho H locs ls hl hr hs => ⟨_, m_runSN C (dOf DX4_innermostLevel 20 rfl) kn_X4_102 ks_X8_at (by decide) ⟨rfl, rfl⟩ (c_X8_at _ G _ _ _ o' ho) rfl rfl (Nat.le_of_ble_eq_true rfl) ⟨Nat.le_refl _, Nat.le_refl _⟩ hl hr hs⟩) (fun v10 h => ?_)
    exact m_sub [] rfl (hj3 _ h)
  · refine m_iconst C (dOf DX4_innermostLevel 7 rfl) (v := (-1)) ki_m1 ?_
    refine m_goto C (dOf DX4_innermostLevel 8 rfl) (tgt := 41) rfl ?_
    exact m_sub [] rfl (hj3 _ h)
/-- TraceRing$Ring.placeOf(I)I -/
def f_X4_placeOf (S : St) (b0 : Nat) (p1 : Int32) : Option Int32 :=
  gI_ S b0 4 12 fun v1 =>
  lt_ (v1 + p1 : Int32) fun v2 =>
  gI_ S b0 4 8 fun v3 =>
  jn_ (fun (x4 : Int32) =>
    rt_ x4
  ) fun j4 =>
  if v3 ≤ v2 then
    gI_ S b0 4 8 fun v5 =>
    lt_ (v2 - v5 : Int32) fun v6 =>
    j4 (v6)
  else
    j4 (v2)
set_option maxRecDepth 100000 in
set_option maxHeartbeats 4000000 in
theorem c_X4_placeOf (l : Launch) (G : Gx) (S : St) (b0 : Nat) (p1 : Int32) (o : Int32) (h : f_X4_placeOf S b0 p1 = some o) : Met l yX4_placeOf (Cond.code yX4_placeOf cX4_placeOf 3 (some (.int)) :: wAll) ({ frames := 0, cells := 0, slots := 0, locals := 0 } : Room) (va_Pc [.ref (G.1 + b0), .int p1] (wPre G S)) (qI G (o, S)) 0 0 (wA G) := by
  refine m_start (by decide +kernel) (Nat.le_of_ble_eq_true rfl) (fun X C => ?_)
  unfold f_X4_placeOf at h
  show WM X G 3 0 0 (wQ X G (qI G (o, S)) 0 0) 0 [(0, .ref (G.1 + b0)), (1, .int p1)] [] S
  refine m_aload_n C (dOf DX4_placeOf 0 rfl) rfl 0 rfl ?_
  refine m_gI C (dOf DX4_placeOf 1 rfl) kf_X4_75 fg_4_12 h (fun v1 h => ?_)
  refine m_iload_n C (dOf DX4_placeOf 2 rfl) rfl 1 rfl ?_
  refine m_iadd C (dOf DX4_placeOf 3 rfl) h (fun v2 h => ?_)
  refine m_istore_n C (dOf DX4_placeOf 4 rfl) rfl (by decide) (lv' := [(2, .int v2), (0, .ref (G.1 + b0)), (1, .int p1)]) rfl ?_
  refine m_iload_n C (dOf DX4_placeOf 5 rfl) rfl 0 rfl ?_
  refine m_aload_n C (dOf DX4_placeOf 6 rfl) rfl 1 rfl ?_
  refine m_gI C (dOf DX4_placeOf 7 rfl) kf_X4_62 fg_4_8 h (fun v3 h => ?_)
  refine m_jn (J := fun (x4 : Int32) => WM X G 3 0 0 (wQ X G (qI G (o, S)) 0 0) 25 [] [.int x4] S) h (fun x4 h => ?_) (fun j4 hj4 h => ?_)
  · exact m_iretP C rfl (dOf DX4_placeOf 15 rfl) h
  refine m_icmpge C (dOf DX4_placeOf 8 rfl) (tgt := 19) rfl h (fun h => ?_) (fun h => ?_)
  · refine m_iload_n C (dOf DX4_placeOf 11 rfl) rfl 0 rfl ?_
    refine m_aload_n C (dOf DX4_placeOf 12 rfl) rfl 1 rfl ?_
    refine m_gI C (dOf DX4_placeOf 13 rfl) kf_X4_62 fg_4_8 h (fun v5 h => ?_)
    refine m_isub C (dOf DX4_placeOf 14 rfl) h (fun v6 h => ?_)
    exact m_sub [] rfl (hj4 _ h)
  · refine m_iload_n C (dOf DX4_placeOf 9 rfl) rfl 0 rfl ?_
    refine m_goto C (dOf DX4_placeOf 10 rfl) (tgt := 25) rfl ?_
    exact m_sub [] rfl (hj4 _ h)
/-- TraceRing$Ring.tailPlace()I -/
def f_X4_tailPlace (S : St) (b0 : Nat) : Option Int32 :=
  gI_ S b0 4 13 fun v1 =>
  lt_ (v1 - 1 : Int32) fun v2 =>
  ck_ S b0 4 <| cP_ (f_X4_placeOf S b0 v2) fun v3 =>
  rt_ v3
set_option maxRecDepth 100000 in
set_option maxHeartbeats 4000000 in
theorem c_X4_tailPlace (l : Launch) (G : Gx) (S : St) (b0 : Nat) (o : Int32) (h : f_X4_tailPlace S b0 = some o) : Met l yX4_tailPlace (Cond.code yX4_tailPlace cX4_tailPlace 1 (some (.int)) :: wAll) ({ frames := 1, cells := 0, slots := 0, locals := 22 } : Room) (va_Pc [.ref (G.1 + b0)] (wPre G S)) (qI G (o, S)) 0 0 (wA G) := by
  refine m_start (by decide +kernel) (Nat.le_of_ble_eq_true rfl) (fun X C => ?_)
  unfold f_X4_tailPlace at h
  show WM X G 1 0 0 (wQ X G (qI G (o, S)) 0 0) 0 [(0, .ref (G.1 + b0))] [] S
  refine m_aload_n C (dOf DX4_tailPlace 0 rfl) rfl 0 rfl ?_
  refine m_aload_n C (dOf DX4_tailPlace 1 rfl) rfl 0 rfl ?_
  refine m_gI C (dOf DX4_tailPlace 2 rfl) kf_X4_78 fg_4_13 h (fun v1 h => ?_)
  refine m_iconst C (dOf DX4_tailPlace 3 rfl) (v := 1) ki_1 ?_
  refine m_isub C (dOf DX4_tailPlace 4 rfl) h (fun v2 h => ?_)
  obtain ⟨hc, h⟩ := ck_spec h
  refine m_cP (st := []) h (fun o' ho H locs ls hl hr hs => ⟨_, m_runV C (dOf DX4_tailPlace 5 rfl) km_X4_98 ky_X4_placeOf (by decide) ⟨rfl, rfl⟩ (c_X4_placeOf _ G _ _ _ o' ho) hc.1 hc.2 (by decide) rfl rfl rfl (Nat.le_of_ble_eq_true rfl) ⟨Nat.le_refl _, Nat.le_refl _⟩ hl hr hs⟩) (fun v3 h => ?_)
  exact m_iretP C rfl (dOf DX4_tailPlace 6 rfl) h
/-- TraceRing$Page.deltaAt(I)I -/
def f_X3_deltaAt (S : St) (b0 : Nat) (p1 : Int32) : Option Int32 :=
  gI_ S b0 3 8 fun v1 =>
  lt_ (v1 - 1 : Int32) fun v2 =>
  jn_ (fun (x3 : Int32) =>
    rt_ x3
  ) fun j3 =>
  jn_ (fun (x4 : Unit) =>
    j3 (0)
  ) fun j4 =>
  if v2 < 0 then
    j4 ()
  else
    gR_ S b0 3 3 fun a5 =>
    al_ S a5 11 fun v6 =>
    if v2 < v6 then
      gR_ S b0 3 3 fun a7 =>
      aI_ S a7 11 v2 fun v8 =>
      lt_ (p1 - v8 : Int32) fun v9 =>
      j3 (v9)
    else
      j4 ()
set_option maxRecDepth 100000 in
set_option maxHeartbeats 4000000 in
theorem c_X3_deltaAt (l : Launch) (G : Gx) (S : St) (b0 : Nat) (p1 : Int32) (o : Int32) (h : f_X3_deltaAt S b0 p1 = some o) : Met l yX3_deltaAt (Cond.code yX3_deltaAt cX3_deltaAt 3 (some (.int)) :: wAll) ({ frames := 0, cells := 0, slots := 0, locals := 0 } : Room) (va_Pc [.ref (G.1 + b0), .int p1] (wPre G S)) (qI G (o, S)) 0 0 (wA G) := by
  refine m_start (by decide +kernel) (Nat.le_of_ble_eq_true rfl) (fun X C => ?_)
  unfold f_X3_deltaAt at h
  show WM X G 3 0 0 (wQ X G (qI G (o, S)) 0 0) 0 [(0, .ref (G.1 + b0)), (1, .int p1)] [] S
  refine m_aload_n C (dOf DX3_deltaAt 0 rfl) rfl 0 rfl ?_
  refine m_gI C (dOf DX3_deltaAt 1 rfl) kf_X3_37 fg_3_8 h (fun v1 h => ?_)
  refine m_iconst C (dOf DX3_deltaAt 2 rfl) (v := 1) ki_1 ?_
  refine m_isub C (dOf DX3_deltaAt 3 rfl) h (fun v2 h => ?_)
  refine m_istore_n C (dOf DX3_deltaAt 4 rfl) rfl (by decide) (lv' := [(2, .int v2), (0, .ref (G.1 + b0)), (1, .int p1)]) rfl ?_
  refine m_iload_n C (dOf DX3_deltaAt 5 rfl) rfl 0 rfl ?_
  refine m_jn (J := fun (x3 : Int32) => WM X G 3 0 0 (wQ X G (qI G (o, S)) 0 0) 32 [] [.int x3] S) h (fun x3 h => ?_) (fun j3 hj3 h => ?_)
  · exact m_iretP C rfl (dOf DX3_deltaAt 20 rfl) h
  refine m_jn (J := fun (x4 : Unit) => WM X G 3 0 0 (wQ X G (qI G (o, S)) 0 0) 20 [] [] S) h (fun x4 h => ?_) (fun j4 hj4 h => ?_)
  · refine m_iconst C (dOf DX3_deltaAt 12 rfl) (v := 0) ki_0 ?_
    refine m_goto C (dOf DX3_deltaAt 13 rfl) (tgt := 32) rfl ?_
    exact m_sub [] rfl (hj3 _ h)
  refine m_iflt C (dOf DX3_deltaAt 6 rfl) (tgt := 20) rfl h (fun h => ?_) (fun h => ?_)
  · exact m_sub [] rfl (hj4 _ h)
  · refine m_iload_n C (dOf DX3_deltaAt 7 rfl) rfl 0 rfl ?_
    refine m_aload_n C (dOf DX3_deltaAt 8 rfl) rfl 1 rfl ?_
    refine m_gR C (dOf DX3_deltaAt 9 rfl) kf_X3_21 fg_3_3 h (fun a5 h => ?_)
    refine m_al C (dOf DX3_deltaAt 10 rfl) (by decide) h (fun v6 h => ?_)
    refine m_icmplt C (dOf DX3_deltaAt 11 rfl) (tgt := 24) rfl h (fun h => ?_) (fun h => ?_)
    · refine m_iload_n C (dOf DX3_deltaAt 14 rfl) rfl 2 rfl ?_
      refine m_aload_n C (dOf DX3_deltaAt 15 rfl) rfl 1 rfl ?_
      refine m_gR C (dOf DX3_deltaAt 16 rfl) kf_X3_21 fg_3_3 h (fun a7 h => ?_)
      refine m_iload_n C (dOf DX3_deltaAt 17 rfl) rfl 0 rfl ?_
      refine m_aI C (dOf DX3_deltaAt 18 rfl) h (fun v8 h => ?_)
      refine m_isub C (dOf DX3_deltaAt 19 rfl) h (fun v9 h => ?_)
      exact m_sub [] rfl (hj3 _ h)
    · exact m_sub [] rfl (hj4 _ h)
/-- TraceRing$Page.sizeFor(II)I -/
def f_X3_sizeFor (S : St) (b0 : Nat) (p1 : Int32) (p2 : Int32) : Option Int32 :=
  ck_ S b0 3 <| cP_ (f_X3_deltaAt S b0 p1) fun v1 =>
  jn_ (fun (x2 : Int32) =>
    rt_ x2
  ) fun j2 =>
  if v1 ≤ 15 then
    lt_ (1 + p2 : Int32) fun v3 =>
    j2 (v3)
  else
    lt_ (4 + p2 : Int32) fun v4 =>
    j2 (v4)
set_option maxRecDepth 100000 in
set_option maxHeartbeats 4000000 in
theorem c_X3_sizeFor (l : Launch) (G : Gx) (S : St) (b0 : Nat) (p1 : Int32) (p2 : Int32) (o : Int32) (h : f_X3_sizeFor S b0 p1 p2 = some o) : Met l yX3_sizeFor (Cond.code yX3_sizeFor cX3_sizeFor 3 (some (.int)) :: wAll) ({ frames := 1, cells := 0, slots := 0, locals := 22 } : Room) (va_Pc [.ref (G.1 + b0), .int p1, .int p2] (wPre G S)) (qI G (o, S)) 0 0 (wA G) := by
  refine m_start (by decide +kernel) (Nat.le_of_ble_eq_true rfl) (fun X C => ?_)
  unfold f_X3_sizeFor at h
  show WM X G 3 0 0 (wQ X G (qI G (o, S)) 0 0) 0 [(0, .ref (G.1 + b0)), (1, .int p1), (2, .int p2)] [] S
  refine m_aload_n C (dOf DX3_sizeFor 0 rfl) rfl 0 rfl ?_
  refine m_iload_n C (dOf DX3_sizeFor 1 rfl) rfl 1 rfl ?_
  obtain ⟨hc, h⟩ := ck_spec h
  refine m_cP (st := []) h (fun o' ho H locs ls hl hr hs => ⟨_, m_runV C (dOf DX3_sizeFor 2 rfl) km_X3_51 ky_X3_deltaAt (by decide) ⟨rfl, rfl⟩ (c_X3_deltaAt _ G _ _ _ o' ho) hc.1 hc.2 (by decide) rfl rfl rfl (Nat.le_of_ble_eq_true rfl) ⟨Nat.le_refl _, Nat.le_refl _⟩ hl hr hs⟩) (fun v1 h => ?_)
  refine m_bipush C (dOf DX3_sizeFor 3 rfl) (v := 15) kb_15 ?_
  refine m_jn (J := fun (x2 : Int32) => WM X G 3 0 0 (wQ X G (qI G (o, S)) 0 0) 19 [] [.int x2] S) h (fun x2 h => ?_) (fun j2 hj2 h => ?_)
  · exact m_iretP C rfl (dOf DX3_sizeFor 12 rfl) h
  refine m_icmple C (dOf DX3_sizeFor 4 rfl) (tgt := 16) rfl h (fun h => ?_) (fun h => ?_)
  · refine m_iconst C (dOf DX3_sizeFor 9 rfl) (v := 1) ki_1 ?_
    refine m_iload_n C (dOf DX3_sizeFor 10 rfl) rfl 2 rfl ?_
    refine m_iadd C (dOf DX3_sizeFor 11 rfl) h (fun v3 h => ?_)
    exact m_sub [] rfl (hj2 _ h)
  · refine m_iconst C (dOf DX3_sizeFor 5 rfl) (v := 4) ki_4 ?_
    refine m_iload_n C (dOf DX3_sizeFor 6 rfl) rfl 2 rfl ?_
    refine m_iadd C (dOf DX3_sizeFor 7 rfl) h (fun v4 h => ?_)
    refine m_goto C (dOf DX3_sizeFor 8 rfl) (tgt := 19) rfl ?_
    exact m_sub [] rfl (hj2 _ h)
/-- TraceRing$Ring.isOpenIn(I)Z -/
def f_X4_isOpenIn (S : St) (b0 : Nat) (p1 : Int32) : Option Int32 :=
  lp_ (fun self1 (x1 : Int32) =>
    gI_ S b0 4 15 fun v2 =>
    if v2 ≤ x1 then
      rzP_ 0
    else
      gR_ S b0 4 1 fun a3 =>
      cP_ (f_X8_at S a3 x1) fun v4 =>
      if v4 = p1 then
        rzP_ 1
      else
        lt_ (x1 + 1) fun v5 =>
        self1 (v5)
  ) FU (0)
set_option maxRecDepth 100000 in
set_option maxHeartbeats 4000000 in
theorem c_X4_isOpenIn (l : Launch) (G : Gx) (S : St) (b0 : Nat) (p1 : Int32) (o : Int32) (h : f_X4_isOpenIn S b0 p1 = some o) : Met l yX4_isOpenIn (Cond.code yX4_isOpenIn cX4_isOpenIn 3 (some (.boolean)) :: wAll) ({ frames := 1, cells := 0, slots := 0, locals := 21 } : Room) (va_Pc [.ref (G.1 + b0), .int p1] (wPre G S)) (qI G (o, S)) 0 0 (wA G) := by
  refine m_start (by decide +kernel) (Nat.le_of_ble_eq_true rfl) (fun X C => ?_)
  unfold f_X4_isOpenIn at h
  show WM X G 3 0 0 (wQ X G (qI G (o, S)) 0 0) 0 [(0, .ref (G.1 + b0)), (1, .int p1)] [] S
  refine m_iconst C (dOf DX4_isOpenIn 0 rfl) (v := 0) ki_0 ?_
  refine m_istore_n C (dOf DX4_isOpenIn 1 rfl) rfl (by decide) (lv' := [(2, .int 0), (0, .ref (G.1 + b0)), (1, .int p1)]) rfl ?_
  refine m_sub [1, 2, 0] rfl (m_lp (J := fun (x1 : Int32) => WM X G 3 0 0 (wQ X G (qI G (o, S)) 0 0) 2 [(0, .ref (G.1 + b0)), (1, .int p1), (2, .int x1)] [] S) h (fun self1 hself1 x1 h => ?_))
  refine m_iload_n C (dOf DX4_isOpenIn 2 rfl) rfl 2 rfl ?_
  refine m_aload_n C (dOf DX4_isOpenIn 3 rfl) rfl 0 rfl ?_
  refine m_gI C (dOf DX4_isOpenIn 4 rfl) kf_X4_84 fg_4_15 h (fun v2 h => ?_)
  refine m_icmpge C (dOf DX4_isOpenIn 5 rfl) (tgt := 30) rfl h (fun h => ?_) (fun h => ?_)
  · refine m_iconst C (dOf DX4_isOpenIn 16 rfl) (v := 0) ki_0 ?_
    exact m_zretP C rfl (dOf DX4_isOpenIn 17 rfl) h
  · refine m_aload_n C (dOf DX4_isOpenIn 6 rfl) rfl 0 rfl ?_
    refine m_gR C (dOf DX4_isOpenIn 7 rfl) kf_X4_17 fg_4_1 h (fun a3 h => ?_)
    refine m_iload_n C (dOf DX4_isOpenIn 8 rfl) rfl 2 rfl ?_
    refine m_cP (st := []) h (fun o' ho H locs ls hl hr hs => ⟨_, m_runSN C (dOf DX4_isOpenIn 9 rfl) kn_X4_102 ks_X8_at (by decide) ⟨rfl, rfl⟩ (c_X8_at _ G _ _ _ o' ho) rfl rfl (Nat.le_of_ble_eq_true rfl) ⟨Nat.le_refl _, Nat.le_refl _⟩ hl hr hs⟩) (fun v4 h => ?_)
    refine m_iload_n C (dOf DX4_isOpenIn 10 rfl) rfl 1 rfl ?_
    refine m_icmpne C (dOf DX4_isOpenIn 11 rfl) (tgt := 24) rfl h (fun h => ?_) (fun h => ?_)
    · refine m_iinc C (dOf DX4_isOpenIn 14 rfl) (w := 1) ki_1 2 rfl (by decide) h (fun v5 h => ⟨[(2, .int v5), (0, .ref (G.1 + b0)), (1, .int p1)], rfl, ?_⟩)
      refine m_goto C (dOf DX4_isOpenIn 15 rfl) (tgt := 2) rfl ?_
      exact m_sub [1, 2, 0] rfl (hself1 _ h)
    · refine m_iconst C (dOf DX4_isOpenIn 12 rfl) (v := 1) ki_1 ?_
      exact m_zretP C rfl (dOf DX4_isOpenIn 13 rfl) h
/-- TraceRing$Ring.wayOf(II)I -/
def f_X4_wayOf (S : St) (b0 : Nat) (p1 : Int32) (p2 : Int32) : Option Int32 :=
  jn_ (fun (x1 : Unit) =>
    rt_ (-1)
  ) fun j1 =>
  if p1 < 0 then
    j1 ()
  else
    if 4 ≤ p1 then
      j1 ()
    else
      if p2 < 1 then
        j1 ()
      else
        if p2 ≤ 8 then
          ck_ S b0 4 <| cP_ (f_X4_innermostLevel S b0) fun v2 =>
          if v2 < p1 then
            ck_ S b0 4 <| cP_ (f_X4_tailPlace S b0) fun v3 =>
            ck_ S b0 4 <| cP_ (f_X4_pageAt S b0 v3) fun a4 =>
            gI_ S b0 4 11 fun v5 =>
            ck_ S a4 3 <| cP_ (f_X3_sizeFor S a4 v5 p2) fun v6 =>
            gI_ S b0 4 9 fun v7 =>
            gI_ S a4 3 9 fun v8 =>
            lt_ (v7 - v8 : Int32) fun v9 =>
            if v9 < v6 then
              gI_ S b0 4 13 fun v10 =>
              gI_ S b0 4 8 fun v11 =>
              if v11 ≤ v10 then
                gI_ S b0 4 10 fun v12 =>
                jn_ (fun (x13 : Int32) =>
                  rt_ x13
                ) fun j13 =>
                jn_ (fun (x14 : Unit) =>
                  j13 ((-3))
                ) fun j14 =>
                if v12 = 0 then
                  j14 ()
                else
                  gI_ S b0 4 12 fun v15 =>
                  ck_ S b0 4 <| cP_ (f_X4_isOpenIn S b0 v15) fun v16 =>
                  if v16 = 0 then
                    j13 (2)
                  else
                    j14 ()
              else
                rt_ 1
            else
              rt_ 0
          else
            rt_ (-2)
        else
          j1 ()
set_option maxRecDepth 100000 in
set_option maxHeartbeats 4000000 in
theorem c_X4_wayOf (l : Launch) (G : Gx) (S : St) (b0 : Nat) (p1 : Int32) (p2 : Int32) (o : Int32) (h : f_X4_wayOf S b0 p1 p2 = some o) : Met l yX4_wayOf (Cond.code yX4_wayOf cX4_wayOf 4 (some (.int)) :: wAll) ({ frames := 2, cells := 0, slots := 0, locals := 44 } : Room) (va_Pc [.ref (G.1 + b0), .int p1, .int p2] (wPre G S)) (qI G (o, S)) 0 0 (wA G) := by
  refine m_start (by decide +kernel) (Nat.le_of_ble_eq_true rfl) (fun X C => ?_)
  unfold f_X4_wayOf at h
  show WM X G 4 0 0 (wQ X G (qI G (o, S)) 0 0) 0 [(0, .ref (G.1 + b0)), (1, .int p1), (2, .int p2)] [] S
  refine m_iload_n C (dOf DX4_wayOf 0 rfl) rfl 1 rfl ?_
  refine m_jn (J := fun (x1 : Unit) => WM X G 4 0 0 (wQ X G (qI G (o, S)) 0 0) 20 [] [] S) h (fun x1 h => ?_) (fun j1 hj1 h => ?_)
  · refine m_iconst C (dOf DX4_wayOf 11 rfl) (v := (-1)) ki_m1 ?_
    exact m_iretP C rfl (dOf DX4_wayOf 12 rfl) h
  refine m_iflt C (dOf DX4_wayOf 1 rfl) (tgt := 20) rfl h (fun h => ?_) (fun h => ?_)
  · exact m_sub [] rfl (hj1 _ h)
  · refine m_iload_n C (dOf DX4_wayOf 2 rfl) rfl 1 rfl ?_
    refine m_iconst C (dOf DX4_wayOf 3 rfl) (v := 4) ki_4 ?_
    refine m_icmpge C (dOf DX4_wayOf 4 rfl) (tgt := 20) rfl h (fun h => ?_) (fun h => ?_)
    · exact m_sub [] rfl (hj1 _ h)
    · refine m_iload_n C (dOf DX4_wayOf 5 rfl) rfl 2 rfl ?_
      refine m_iconst C (dOf DX4_wayOf 6 rfl) (v := 1) ki_1 ?_
      refine m_icmplt C (dOf DX4_wayOf 7 rfl) (tgt := 20) rfl h (fun h => ?_) (fun h => ?_)
      · exact m_sub [] rfl (hj1 _ h)
      · refine m_iload_n C (dOf DX4_wayOf 8 rfl) rfl 2 rfl ?_
        refine m_bipush C (dOf DX4_wayOf 9 rfl) (v := 8) kb_8 ?_
        refine m_icmple C (dOf DX4_wayOf 10 rfl) (tgt := 22) rfl h (fun h => ?_) (fun h => ?_)
        · refine m_iload_n C (dOf DX4_wayOf 13 rfl) rfl 1 rfl ?_
          refine m_aload_n C (dOf DX4_wayOf 14 rfl) rfl 0 rfl ?_
          obtain ⟨hc, h⟩ := ck_spec h
          refine m_cP (st := [.int p1]) h (fun o' ho H locs ls hl hr hs => ⟨_, m_runV C (dOf DX4_wayOf 15 rfl) km_X4_116 ky_X4_innermostLevel (by decide) ⟨rfl, rfl⟩ (c_X4_innermostLevel _ G _ _ o' ho) hc.1 hc.2 (by decide) rfl rfl rfl (Nat.le_of_ble_eq_true rfl) ⟨Nat.le_refl _, Nat.le_refl _⟩ hl hr hs⟩) (fun v2 h => ?_)
          refine m_icmpgt C (dOf DX4_wayOf 16 rfl) (tgt := 33) rfl h (fun h => ?_) (fun h => ?_)
          · refine m_aload_n C (dOf DX4_wayOf 19 rfl) rfl 0 rfl ?_
            refine m_aload_n C (dOf DX4_wayOf 20 rfl) rfl 0 rfl ?_
            obtain ⟨hc, h⟩ := ck_spec h
            refine m_cP (st := [.ref (G.1 + b0)]) h (fun o' ho H locs ls hl hr hs => ⟨_, m_runV C (dOf DX4_wayOf 21 rfl) km_X4_120 ky_X4_tailPlace (by decide) ⟨rfl, rfl⟩ (c_X4_tailPlace _ G _ _ o' ho) hc.1 hc.2 (by decide) rfl rfl rfl (Nat.le_of_ble_eq_true rfl) ⟨Nat.le_refl _, Nat.le_refl _⟩ hl hr hs⟩) (fun v3 h => ?_)
            obtain ⟨hc, h⟩ := ck_spec h
            refine m_cN (st := []) h (fun o' ho H locs ls hl hr hs => ⟨_, m_runV C (dOf DX4_wayOf 22 rfl) km_X4_46 ky_X4_pageAt (by decide) ⟨rfl, rfl⟩ (c_X4_pageAt _ G _ _ _ o' ho) hc.1 hc.2 (by decide) rfl rfl rfl (Nat.le_of_ble_eq_true rfl) ⟨Nat.le_refl _, Nat.le_refl _⟩ hl hr hs⟩) (fun a4 h => ?_)
            refine m_astore_n C (dOf DX4_wayOf 23 rfl) rfl (by decide) (lv' := [(3, .ref (G.1 + a4)), (0, .ref (G.1 + b0)), (1, .int p1), (2, .int p2)]) rfl ?_
            refine m_aload_n C (dOf DX4_wayOf 24 rfl) rfl 0 rfl ?_
            refine m_aload_n C (dOf DX4_wayOf 25 rfl) rfl 1 rfl ?_
            refine m_gI C (dOf DX4_wayOf 26 rfl) kf_X4_72 fg_4_11 h (fun v5 h => ?_)
            refine m_iload_n C (dOf DX4_wayOf 27 rfl) rfl 3 rfl ?_
            obtain ⟨hc, h⟩ := ck_spec h
            refine m_cP (st := []) h (fun o' ho H locs ls hl hr hs => ⟨_, m_runV C (dOf DX4_wayOf 28 rfl) km_X4_123 ky_X3_sizeFor (by decide) ⟨rfl, rfl⟩ (c_X3_sizeFor _ G _ _ _ _ o' ho) hc.1 hc.2 (by decide) rfl rfl rfl (Nat.le_of_ble_eq_true rfl) ⟨Nat.le_refl _, Nat.le_refl _⟩ hl hr hs⟩) (fun v6 h => ?_)
            refine m_aload_n C (dOf DX4_wayOf 29 rfl) rfl 1 rfl ?_
            refine m_gI C (dOf DX4_wayOf 30 rfl) kf_X4_65 fg_4_9 h (fun v7 h => ?_)
            refine m_aload_n C (dOf DX4_wayOf 31 rfl) rfl 0 rfl ?_
            refine m_gI C (dOf DX4_wayOf 32 rfl) kf_X4_126 fg_3_9 h (fun v8 h => ?_)
            refine m_isub C (dOf DX4_wayOf 33 rfl) h (fun v9 h => ?_)
            refine m_icmpgt C (dOf DX4_wayOf 34 rfl) (tgt := 65) rfl h (fun h => ?_) (fun h => ?_)
            · refine m_aload_n C (dOf DX4_wayOf 37 rfl) rfl 1 rfl ?_
              refine m_gI C (dOf DX4_wayOf 38 rfl) kf_X4_78 fg_4_13 h (fun v10 h => ?_)
              refine m_aload_n C (dOf DX4_wayOf 39 rfl) rfl 1 rfl ?_
              refine m_gI C (dOf DX4_wayOf 40 rfl) kf_X4_62 fg_4_8 h (fun v11 h => ?_)
              refine m_icmpge C (dOf DX4_wayOf 41 rfl) (tgt := 78) rfl h (fun h => ?_) (fun h => ?_)
              · refine m_aload_n C (dOf DX4_wayOf 44 rfl) rfl 1 rfl ?_
                refine m_gI C (dOf DX4_wayOf 45 rfl) kf_X4_68 fg_4_10 h (fun v12 h => ?_)
                refine m_jn (J := fun (x13 : Int32) => WM X G 4 0 0 (wQ X G (qI G (o, S)) 0 0) 102 [] [.int x13] S) h (fun x13 h => ?_) (fun j13 hj13 h => ?_)
                · exact m_iretP C rfl (dOf DX4_wayOf 55 rfl) h
                refine m_jn (J := fun (x14 : Unit) => WM X G 4 0 0 (wQ X G (qI G (o, S)) 0 0) 96 [] [] S) h (fun x14 h => ?_) (fun j14 hj14 h => ?_)
                · refine m_bipush C (dOf DX4_wayOf 52 rfl) (v := (-3)) kb_m3 ?_
                  refine m_goto C (dOf DX4_wayOf 53 rfl) (tgt := 102) rfl ?_
                  exact m_sub [] rfl (hj13 _ h)
                refine m_ifeq C (dOf DX4_wayOf 46 rfl) (tgt := 96) rfl h (fun h => ?_) (fun h => ?_)
                · exact m_sub [] rfl (hj14 _ h)
                · refine m_aload_n C (dOf DX4_wayOf 47 rfl) rfl 1 rfl ?_
                  refine m_aload_n C (dOf DX4_wayOf 48 rfl) rfl 1 rfl ?_
                  refine m_gI C (dOf DX4_wayOf 49 rfl) kf_X4_75 fg_4_12 h (fun v15 h => ?_)
                  obtain ⟨hc, h⟩ := ck_spec h
                  refine m_cP (st := []) h (fun o' ho H locs ls hl hr hs => ⟨_, m_runV C (dOf DX4_wayOf 50 rfl) km_X4_129 ky_X4_isOpenIn (by decide) ⟨rfl, rfl⟩ (c_X4_isOpenIn _ G _ _ _ o' ho) hc.1 hc.2 (by decide) rfl rfl rfl (Nat.le_of_ble_eq_true rfl) ⟨Nat.le_refl _, Nat.le_refl _⟩ hl hr hs⟩) (fun v16 h => ?_)
                  refine m_ifeq C (dOf DX4_wayOf 51 rfl) (tgt := 101) rfl h (fun h => ?_) (fun h => ?_)
                  · refine m_iconst C (dOf DX4_wayOf 54 rfl) (v := 2) ki_2 ?_
                    exact m_sub [] rfl (hj13 _ h)
                  · exact m_sub [] rfl (hj14 _ h)
              · refine m_iconst C (dOf DX4_wayOf 42 rfl) (v := 1) ki_1 ?_
                exact m_iretP C rfl (dOf DX4_wayOf 43 rfl) h
            · refine m_iconst C (dOf DX4_wayOf 35 rfl) (v := 0) ki_0 ?_
              exact m_iretP C rfl (dOf DX4_wayOf 36 rfl) h
          · refine m_bipush C (dOf DX4_wayOf 17 rfl) (v := (-2)) kb_m2 ?_
            exact m_iretP C rfl (dOf DX4_wayOf 18 rfl) h
        · exact m_sub [] rfl (hj1 _ h)
/-- TraceRing$Ring.raise(II)V -/
def f_X4_raise (S : St) (b0 : Nat) (p1 : Int32) (p2 : Int32) : Option St :=
  gR_ S b0 4 4 fun a1 =>
  gR_ S b0 4 4 fun a2 =>
  cP_ (f_X8_at S a2 p1) fun v3 =>
  lt_ (v3 + p2 : Int32) fun v4 =>
  cV_ (f_X8_set S a1 p1 v4) fun S5 =>
  rt_ S5
set_option maxRecDepth 100000 in
set_option maxHeartbeats 4000000 in
theorem c_X4_raise (l : Launch) (G : Gx) (S : St) (b0 : Nat) (p1 : Int32) (p2 : Int32) (o : St) (h : f_X4_raise S b0 p1 p2 = some o) : Met l yX4_raise (Cond.code yX4_raise cX4_raise 3 none :: wAll) ({ frames := 1, cells := 0, slots := 0, locals := 22 } : Room) (va_Pc [.ref (G.1 + b0), .int p1, .int p2] (wPre G S)) (qV G o) 0 0 (wA G) := by
  refine m_start (by decide +kernel) (Nat.le_of_ble_eq_true rfl) (fun X C => ?_)
  unfold f_X4_raise at h
  show WM X G 3 0 0 (wQ X G (qV G o) 0 0) 0 [(0, .ref (G.1 + b0)), (1, .int p1), (2, .int p2)] [] S
  refine m_aload_n C (dOf DX4_raise 0 rfl) rfl 0 rfl ?_
  refine m_gR C (dOf DX4_raise 1 rfl) kf_X4_27 fg_4_4 h (fun a1 h => ?_)
  refine m_iload_n C (dOf DX4_raise 2 rfl) rfl 1 rfl ?_
  refine m_aload_n C (dOf DX4_raise 3 rfl) rfl 0 rfl ?_
  refine m_gR C (dOf DX4_raise 4 rfl) kf_X4_27 fg_4_4 h (fun a2 h => ?_)
  refine m_iload_n C (dOf DX4_raise 5 rfl) rfl 1 rfl ?_
  refine m_cP (st := [.int p1, .ref (G.1 + a1)]) h (fun o' ho H locs ls hl hr hs => ⟨_, m_runSN C (dOf DX4_raise 6 rfl) kn_X4_102 ks_X8_at (by decide) ⟨rfl, rfl⟩ (c_X8_at _ G _ _ _ o' ho) rfl rfl (Nat.le_of_ble_eq_true rfl) ⟨Nat.le_refl _, Nat.le_refl _⟩ hl hr hs⟩) (fun v3 h => ?_)
  refine m_iload_n C (dOf DX4_raise 7 rfl) rfl 2 rfl ?_
  refine m_iadd C (dOf DX4_raise 8 rfl) h (fun v4 h => ?_)
  refine m_cV (st := []) h (fun o' ho H locs ls hl hr hs => ⟨_, m_runSN C (dOf DX4_raise 9 rfl) kn_X4_53 ks_X8_set (by decide) ⟨rfl, rfl⟩ (c_X8_set _ G _ _ _ _ o' ho) rfl rfl (Nat.le_of_ble_eq_true rfl) ⟨Nat.le_refl _, Nat.le_refl _⟩ hl hr hs⟩) (fun S5 h => ?_)
  exact m_vret C rfl (dOf DX4_raise 10 rfl) h
/-- TraceRing$Page.isRecord(I)Z -/
def f_X3_isRecord (S : St) (b0 : Nat) (p1 : Int32) : Option Int32 :=
  jn_ (fun (x1 : Int32) =>
    rzP_ x1
  ) fun j1 =>
  jn_ (fun (x2 : Unit) =>
    j1 (0)
  ) fun j2 =>
  if p1 < 0 then
    j2 ()
  else
    gI_ S b0 3 8 fun v3 =>
    if v3 ≤ p1 then
      j2 ()
    else
      gR_ S b0 3 7 fun a4 =>
      al_ S a4 13 fun v5 =>
      if v5 ≤ p1 then
        j2 ()
      else
        gR_ S b0 3 7 fun a6 =>
        aI_ S a6 13 p1 fun v7 =>
        if v7 = 0 then
          j1 (1)
        else
          j2 ()
set_option maxRecDepth 100000 in
set_option maxHeartbeats 4000000 in
theorem c_X3_isRecord (l : Launch) (G : Gx) (S : St) (b0 : Nat) (p1 : Int32) (o : Int32) (h : f_X3_isRecord S b0 p1 = some o) : Met l yX3_isRecord (Cond.code yX3_isRecord cX3_isRecord 2 (some (.boolean)) :: wAll) ({ frames := 0, cells := 0, slots := 0, locals := 0 } : Room) (va_Pc [.ref (G.1 + b0), .int p1] (wPre G S)) (qI G (o, S)) 0 0 (wA G) := by
  refine m_start (by decide +kernel) (Nat.le_of_ble_eq_true rfl) (fun X C => ?_)
  unfold f_X3_isRecord at h
  show WM X G 2 0 0 (wQ X G (qI G (o, S)) 0 0) 0 [(0, .ref (G.1 + b0)), (1, .int p1)] [] S
  refine m_iload_n C (dOf DX3_isRecord 0 rfl) rfl 1 rfl ?_
  refine m_jn (J := fun (x1 : Int32) => WM X G 2 0 0 (wQ X G (qI G (o, S)) 0 0) 35 [] [.int x1] S) h (fun x1 h => ?_) (fun j1 hj1 h => ?_)
  · exact m_zretP C rfl (dOf DX3_isRecord 19 rfl) h
  refine m_jn (J := fun (x2 : Unit) => WM X G 2 0 0 (wQ X G (qI G (o, S)) 0 0) 34 [] [] S) h (fun x2 h => ?_) (fun j2 hj2 h => ?_)
  · refine m_iconst C (dOf DX3_isRecord 18 rfl) (v := 0) ki_0 ?_
    exact m_sub [] rfl (hj1 _ h)
  refine m_iflt C (dOf DX3_isRecord 1 rfl) (tgt := 34) rfl h (fun h => ?_) (fun h => ?_)
  · exact m_sub [] rfl (hj2 _ h)
  · refine m_iload_n C (dOf DX3_isRecord 2 rfl) rfl 1 rfl ?_
    refine m_aload_n C (dOf DX3_isRecord 3 rfl) rfl 0 rfl ?_
    refine m_gI C (dOf DX3_isRecord 4 rfl) kf_X3_37 fg_3_8 h (fun v3 h => ?_)
    refine m_icmpge C (dOf DX3_isRecord 5 rfl) (tgt := 34) rfl h (fun h => ?_) (fun h => ?_)
    · exact m_sub [] rfl (hj2 _ h)
    · refine m_iload_n C (dOf DX3_isRecord 6 rfl) rfl 1 rfl ?_
      refine m_aload_n C (dOf DX3_isRecord 7 rfl) rfl 0 rfl ?_
      refine m_gR C (dOf DX3_isRecord 8 rfl) kf_X3_33 fg_3_7 h (fun a4 h => ?_)
      refine m_al C (dOf DX3_isRecord 9 rfl) (by decide) h (fun v5 h => ?_)
      refine m_icmpge C (dOf DX3_isRecord 10 rfl) (tgt := 34) rfl h (fun h => ?_) (fun h => ?_)
      · exact m_sub [] rfl (hj2 _ h)
      · refine m_aload_n C (dOf DX3_isRecord 11 rfl) rfl 0 rfl ?_
        refine m_gR C (dOf DX3_isRecord 12 rfl) kf_X3_33 fg_3_7 h (fun a6 h => ?_)
        refine m_iload_n C (dOf DX3_isRecord 13 rfl) rfl 1 rfl ?_
        refine m_aZ C (dOf DX3_isRecord 14 rfl) h (fun v7 h => ?_)
        refine m_ifne C (dOf DX3_isRecord 15 rfl) (tgt := 34) rfl h (fun h => ?_) (fun h => ?_)
        · exact m_sub [] rfl (hj2 _ h)
        · refine m_iconst C (dOf DX3_isRecord 16 rfl) (v := 1) ki_1 ?_
          refine m_goto C (dOf DX3_isRecord 17 rfl) (tgt := 35) rfl ?_
          exact m_sub [] rfl (hj1 _ h)
/-- TraceRing$Page.recordsFrom(I)I -/
def f_X3_recordsFrom (S : St) (b0 : Nat) (p1 : Int32) : Option Int32 :=
  lp_ (fun self1 (x1 : Int32 × Int32) =>
    gI_ S b0 3 8 fun v2 =>
    if v2 ≤ x1.2 then
      rt_ x1.1
    else
      ck_ S b0 3 <| cP_ (f_X3_isRecord S b0 x1.2) fun v3 =>
      jn_ (fun (x4 : Int32) =>
        lt_ (x1.2 + 1) fun v5 =>
        self1 (x4, v5)
      ) fun j4 =>
      if v3 = 0 then
        j4 (x1.1)
      else
        lt_ (x1.1 + 1) fun v6 =>
        j4 (v6)
  ) FU (0, p1)
set_option maxRecDepth 100000 in
set_option maxHeartbeats 4000000 in
theorem c_X3_recordsFrom (l : Launch) (G : Gx) (S : St) (b0 : Nat) (p1 : Int32) (o : Int32) (h : f_X3_recordsFrom S b0 p1 = some o) : Met l yX3_recordsFrom (Cond.code yX3_recordsFrom cX3_recordsFrom 4 (some (.int)) :: wAll) ({ frames := 1, cells := 0, slots := 0, locals := 21 } : Room) (va_Pc [.ref (G.1 + b0), .int p1] (wPre G S)) (qI G (o, S)) 0 0 (wA G) := by
  refine m_start (by decide +kernel) (Nat.le_of_ble_eq_true rfl) (fun X C => ?_)
  unfold f_X3_recordsFrom at h
  show WM X G 4 0 0 (wQ X G (qI G (o, S)) 0 0) 0 [(0, .ref (G.1 + b0)), (1, .int p1)] [] S
  refine m_iconst C (dOf DX3_recordsFrom 0 rfl) (v := 0) ki_0 ?_
  refine m_istore_n C (dOf DX3_recordsFrom 1 rfl) rfl (by decide) (lv' := [(2, .int 0), (0, .ref (G.1 + b0)), (1, .int p1)]) rfl ?_
  refine m_iload_n C (dOf DX3_recordsFrom 2 rfl) rfl 2 rfl ?_
  refine m_istore_n C (dOf DX3_recordsFrom 3 rfl) rfl (by decide) (lv' := [(3, .int p1), (2, .int 0), (0, .ref (G.1 + b0)), (1, .int p1)]) rfl ?_
  refine m_sub [2, 1, 0] rfl (m_lp (J := fun (x1 : Int32 × Int32) => WM X G 4 0 0 (wQ X G (qI G (o, S)) 0 0) 4 [(0, .ref (G.1 + b0)), (2, .int x1.1), (3, .int x1.2)] [] S) h (fun self1 hself1 x1 h => ?_))
  refine m_iload_n C (dOf DX3_recordsFrom 4 rfl) rfl 2 rfl ?_
  refine m_aload_n C (dOf DX3_recordsFrom 5 rfl) rfl 0 rfl ?_
  refine m_gI C (dOf DX3_recordsFrom 6 rfl) kf_X3_37 fg_3_8 h (fun v2 h => ?_)
  refine m_icmpge C (dOf DX3_recordsFrom 7 rfl) (tgt := 29) rfl h (fun h => ?_) (fun h => ?_)
  · refine m_iload_n C (dOf DX3_recordsFrom 15 rfl) rfl 1 rfl ?_
    exact m_iretP C rfl (dOf DX3_recordsFrom 16 rfl) h
  · refine m_aload_n C (dOf DX3_recordsFrom 8 rfl) rfl 0 rfl ?_
    refine m_iload_n C (dOf DX3_recordsFrom 9 rfl) rfl 2 rfl ?_
    obtain ⟨hc, h⟩ := ck_spec h
    refine m_cP (st := []) h (fun o' ho H locs ls hl hr hs => ⟨_, m_runV C (dOf DX3_recordsFrom 10 rfl) km_X3_63 ky_X3_isRecord (by decide) ⟨rfl, rfl⟩ (c_X3_isRecord _ G _ _ _ o' ho) hc.1 hc.2 (by decide) rfl rfl rfl (Nat.le_of_ble_eq_true rfl) ⟨Nat.le_refl _, Nat.le_refl _⟩ hl hr hs⟩) (fun v3 h => ?_)
    refine m_jn (J := fun (x4 : Int32) => WM X G 4 0 0 (wQ X G (qI G (o, S)) 0 0) 23 [(0, .ref (G.1 + b0)), (2, .int x4), (3, .int x1.2)] [] S) h (fun x4 h => ?_) (fun j4 hj4 h => ?_)
    · refine m_iinc C (dOf DX3_recordsFrom 13 rfl) (w := 1) ki_1 2 rfl (by decide) h (fun v5 h => ⟨[(3, .int v5), (0, .ref (G.1 + b0)), (2, .int x4)], rfl, ?_⟩)
      refine m_goto C (dOf DX3_recordsFrom 14 rfl) (tgt := 4) rfl ?_
      exact m_sub [1, 2, 0] rfl (hself1 _ h)
    refine m_ifeq C (dOf DX3_recordsFrom 11 rfl) (tgt := 23) rfl h (fun h => ?_) (fun h => ?_)
    · exact m_sub [0, 1, 2] rfl (hj4 _ h)
    · refine m_iinc C (dOf DX3_recordsFrom 12 rfl) (w := 1) ki_1 1 rfl (by decide) h (fun v6 h => ⟨[(2, .int v6), (0, .ref (G.1 + b0)), (3, .int x1.2)], rfl, ?_⟩)
      exact m_sub [1, 0, 2] rfl (hj4 _ h)
/-- TraceRing$Ring.overwriteHead()I -/
def f_X4_overwriteHead (S : St) (b0 : Nat) : Option (Int32 × St) :=
  gI_ S b0 4 12 fun v1 =>
  ck_ S b0 4 <| cP_ (f_X4_pageAt S b0 v1) fun a2 =>
  ck_ S a2 3 <| cP_ (f_X3_recordsFrom S a2 0) fun v3 =>
  ck_ S a2 3 <| cV_ (f_X3_clear S a2) fun S4 =>
  ck_ S4 b0 4 <| cP_ (f_X4_placeOf S4 b0 1) fun v5 =>
  pI_ S4 b0 4 12 v5 fun S6 =>
  gI_ S6 b0 4 13 fun v7 =>
  lt_ (v7 - 1 : Int32) fun v8 =>
  pI_ S6 b0 4 13 v8 fun S9 =>
  ck_ S9 b0 4 <| cV_ (f_X4_raise S9 b0 8 v3) fun S10 =>
  rt_ (v3, S10)
set_option maxRecDepth 100000 in
set_option maxHeartbeats 4000000 in
theorem c_X4_overwriteHead (l : Launch) (G : Gx) (S : St) (b0 : Nat) (o : (Int32 × St)) (h : f_X4_overwriteHead S b0 = some o) : Met l yX4_overwriteHead (Cond.code yX4_overwriteHead cX4_overwriteHead 3 (some (.int)) :: wAll) ({ frames := 2, cells := 0, slots := 0, locals := 44 } : Room) (va_Pc [.ref (G.1 + b0)] (wPre G S)) (qI G o) 0 0 (wA G) := by
  refine m_start (by decide +kernel) (Nat.le_of_ble_eq_true rfl) (fun X C => ?_)
  unfold f_X4_overwriteHead at h
  show WM X G 3 0 0 (wQ X G (qI G o) 0 0) 0 [(0, .ref (G.1 + b0))] [] S
  refine m_aload_n C (dOf DX4_overwriteHead 0 rfl) rfl 0 rfl ?_
  refine m_aload_n C (dOf DX4_overwriteHead 1 rfl) rfl 0 rfl ?_
  refine m_gI C (dOf DX4_overwriteHead 2 rfl) kf_X4_75 fg_4_12 h (fun v1 h => ?_)
  obtain ⟨hc, h⟩ := ck_spec h
  refine m_cN (st := []) h (fun o' ho H locs ls hl hr hs => ⟨_, m_runV C (dOf DX4_overwriteHead 3 rfl) km_X4_46 ky_X4_pageAt (by decide) ⟨rfl, rfl⟩ (c_X4_pageAt _ G _ _ _ o' ho) hc.1 hc.2 (by decide) rfl rfl rfl (Nat.le_of_ble_eq_true rfl) ⟨Nat.le_refl _, Nat.le_refl _⟩ hl hr hs⟩) (fun a2 h => ?_)
  refine m_astore_n C (dOf DX4_overwriteHead 4 rfl) rfl (by decide) (lv' := [(1, .ref (G.1 + a2)), (0, .ref (G.1 + b0))]) rfl ?_
  refine m_aload_n C (dOf DX4_overwriteHead 5 rfl) rfl 0 rfl ?_
  refine m_iconst C (dOf DX4_overwriteHead 6 rfl) (v := 0) ki_0 ?_
  obtain ⟨hc, h⟩ := ck_spec h
  refine m_cP (st := []) h (fun o' ho H locs ls hl hr hs => ⟨_, m_runV C (dOf DX4_overwriteHead 7 rfl) km_X4_146 ky_X3_recordsFrom (by decide) ⟨rfl, rfl⟩ (c_X3_recordsFrom _ G _ _ _ o' ho) hc.1 hc.2 (by decide) rfl rfl rfl (Nat.le_of_ble_eq_true rfl) ⟨Nat.le_refl _, Nat.le_refl _⟩ hl hr hs⟩) (fun v3 h => ?_)
  refine m_istore_n C (dOf DX4_overwriteHead 8 rfl) rfl (by decide) (lv' := [(2, .int v3), (1, .ref (G.1 + a2)), (0, .ref (G.1 + b0))]) rfl ?_
  refine m_aload_n C (dOf DX4_overwriteHead 9 rfl) rfl 1 rfl ?_
  obtain ⟨hc, h⟩ := ck_spec h
  refine m_cV (st := []) h (fun o' ho H locs ls hl hr hs => ⟨_, m_runV C (dOf DX4_overwriteHead 10 rfl) km_X4_50 ky_X3_clear (by decide) ⟨rfl, rfl⟩ (c_X3_clear _ G _ _ o' ho) hc.1 hc.2 (by decide) rfl rfl rfl (Nat.le_of_ble_eq_true rfl) ⟨Nat.le_refl _, Nat.le_refl _⟩ hl hr hs⟩) (fun S4 h => ?_)
  refine m_aload_n C (dOf DX4_overwriteHead 11 rfl) rfl 2 rfl ?_
  refine m_aload_n C (dOf DX4_overwriteHead 12 rfl) rfl 2 rfl ?_
  refine m_iconst C (dOf DX4_overwriteHead 13 rfl) (v := 1) ki_1 ?_
  obtain ⟨hc, h⟩ := ck_spec h
  refine m_cP (st := [.ref (G.1 + b0)]) h (fun o' ho H locs ls hl hr hs => ⟨_, m_runV C (dOf DX4_overwriteHead 14 rfl) km_X4_98 ky_X4_placeOf (by decide) ⟨rfl, rfl⟩ (c_X4_placeOf _ G _ _ _ o' ho) hc.1 hc.2 (by decide) rfl rfl rfl (Nat.le_of_ble_eq_true rfl) ⟨Nat.le_refl _, Nat.le_refl _⟩ hl hr hs⟩) (fun v5 h => ?_)
  refine m_pI C (dOf DX4_overwriteHead 15 rfl) kf_X4_75 fp_4_12 h (fun S6 h => ?_)
  refine m_aload_n C (dOf DX4_overwriteHead 16 rfl) rfl 2 rfl ?_
  refine m_dup C (dOf DX4_overwriteHead 17 rfl) rfl ?_
  refine m_gI C (dOf DX4_overwriteHead 18 rfl) kf_X4_78 fg_4_13 h (fun v7 h => ?_)
  refine m_iconst C (dOf DX4_overwriteHead 19 rfl) (v := 1) ki_1 ?_
  refine m_isub C (dOf DX4_overwriteHead 20 rfl) h (fun v8 h => ?_)
  refine m_pI C (dOf DX4_overwriteHead 21 rfl) kf_X4_78 fp_4_13 h (fun S9 h => ?_)
  refine m_aload_n C (dOf DX4_overwriteHead 22 rfl) rfl 2 rfl ?_
  refine m_bipush C (dOf DX4_overwriteHead 23 rfl) (v := 8) kb_8 ?_
  refine m_iload_n C (dOf DX4_overwriteHead 24 rfl) rfl 0 rfl ?_
  obtain ⟨hc, h⟩ := ck_spec h
  refine m_cV (st := []) h (fun o' ho H locs ls hl hr hs => ⟨_, m_runV C (dOf DX4_overwriteHead 25 rfl) km_X4_136 ky_X4_raise (by decide) ⟨rfl, rfl⟩ (c_X4_raise _ G _ _ _ _ o' ho) hc.1 hc.2 (by decide) rfl rfl rfl (Nat.le_of_ble_eq_true rfl) ⟨Nat.le_refl _, Nat.le_refl _⟩ hl hr hs⟩) (fun S10 h => ?_)
  refine m_iload_n C (dOf DX4_overwriteHead 26 rfl) rfl 0 rfl ?_
  exact m_iret C rfl (dOf DX4_overwriteHead 27 rfl) h
/-- TraceRing$Page.layDown(IIII)I -/
def f_X3_layDown (S : St) (b0 : Nat) (p1 : Int32) (p2 : Int32) (p3 : Int32) (p4 : Int32) : Option (Int32 × St) :=
  gI_ S b0 3 8 fun v1 =>
  ck_ S b0 3 <| cP_ (f_X3_deltaAt S b0 p3) fun v2 =>
  jn_ (fun (x3 : Int32) =>
    jn_ (fun (x4 : St) =>
      jn_ (fun (x5 : Int32) =>
        gR_ x4 b0 3 0 fun a6 =>
        jn_ (fun (x7 : Int32) =>
          cV_ (f_X8_set x4 a6 x5 x7) fun S8 =>
          gR_ S8 b0 3 1 fun a9 =>
          cV_ (f_X8_set S8 a9 v1 p1) fun S10 =>
          gR_ S10 b0 3 2 fun a11 =>
          cV_ (f_X8_set S10 a11 v1 p2) fun S12 =>
          gR_ S12 b0 3 3 fun a13 =>
          cV_ (f_X8_set S12 a13 v1 p3) fun S14 =>
          gR_ S14 b0 3 4 fun a15 =>
          gI_ S14 b0 3 9 fun v16 =>
          cV_ (f_X8_set S14 a15 v1 v16) fun S17 =>
          gR_ S17 b0 3 5 fun a18 =>
          cV_ (f_X8_set S17 a18 v1 x5) fun S19 =>
          gR_ S19 b0 3 6 fun a20 =>
          cV_ (f_X8_set S19 a20 v1 p4) fun S21 =>
          jn_ (fun (x22 : St) =>
            lt_ (v1 + 1 : Int32) fun v23 =>
            pI_ x22 b0 3 8 v23 fun S24 =>
            lt_ (x5 + 1 : Int32) fun v25 =>
            lt_ (v25 + p4 : Int32) fun v26 =>
            pI_ S24 b0 3 9 v26 fun S27 =>
            rt_ (v1, S27)
          ) fun j22 =>
          if v1 < 0 then
            j22 (S21)
          else
            gR_ S21 b0 3 7 fun a28 =>
            al_ S21 a28 13 fun v29 =>
            if v29 ≤ v1 then
              j22 (S21)
            else
              gR_ S21 b0 3 7 fun a30 =>
              sZ_ S21 a30 v1 0 fun S31 =>
              j22 (S31)
        ) fun j7 =>
        if x3 = 0 then
          lt_ (16 * p4 : Int32) fun v32 =>
          lt_ (v32 + v2 : Int32) fun v33 =>
          j7 (v33)
        else
          lt_ (16 * p4 : Int32) fun v34 =>
          j7 (v34)
      ) fun j5 =>
      if x3 = 0 then
        gI_ x4 b0 3 9 fun v35 =>
        j5 (v35)
      else
        gI_ x4 b0 3 9 fun v36 =>
        lt_ (v36 + 3 : Int32) fun v37 =>
        j5 (v37)
    ) fun j4 =>
    if x3 = 0 then
      j4 (S)
    else
      gR_ S b0 3 0 fun a38 =>
      gI_ S b0 3 9 fun v39 =>
      rm_ v2 16 fun v40 =>
      lt_ (240 + v40 : Int32) fun v41 =>
      cV_ (f_X8_set S a38 v39 v41) fun S42 =>
      gR_ S42 b0 3 0 fun a43 =>
      gI_ S42 b0 3 9 fun v44 =>
      lt_ (v44 + 1 : Int32) fun v45 =>
      dv_ v2 16 fun v46 =>
      rm_ v46 256 fun v47 =>
      cV_ (f_X8_set S42 a43 v45 v47) fun S48 =>
      gR_ S48 b0 3 0 fun a49 =>
      gI_ S48 b0 3 9 fun v50 =>
      lt_ (v50 + 2 : Int32) fun v51 =>
      dv_ v2 4096 fun v52 =>
      cV_ (f_X8_set S48 a49 v51 v52) fun S53 =>
      j4 (S53)
  ) fun j3 =>
  if v2 ≤ 15 then
    j3 (0)
  else
    j3 (1)
set_option maxRecDepth 100000 in
set_option maxHeartbeats 4000000 in
theorem c_X3_layDown (l : Launch) (G : Gx) (S : St) (b0 : Nat) (p1 : Int32) (p2 : Int32) (p3 : Int32) (p4 : Int32) (o : (Int32 × St)) (h : f_X3_layDown S b0 p1 p2 p3 p4 = some o) : Met l yX3_layDown (Cond.code yX3_layDown cX3_layDown 9 (some (.int)) :: wAll) ({ frames := 1, cells := 0, slots := 0, locals := 22 } : Room) (va_Pc [.ref (G.1 + b0), .int p1, .int p2, .int p3, .int p4] (wPre G S)) (qI G o) 0 0 (wA G) := by
  refine m_start (by decide +kernel) (Nat.le_of_ble_eq_true rfl) (fun X C => ?_)
  unfold f_X3_layDown at h
  show WM X G 9 0 0 (wQ X G (qI G o) 0 0) 0 [(0, .ref (G.1 + b0)), (1, .int p1), (2, .int p2), (3, .int p3), (4, .int p4)] [] S
  refine m_aload_n C (dOf DX3_layDown 0 rfl) rfl 0 rfl ?_
  refine m_gI C (dOf DX3_layDown 1 rfl) kf_X3_37 fg_3_8 h (fun v1 h => ?_)
  refine m_istore C (dOf DX3_layDown 2 rfl) (by decide) (lv' := [(5, .int v1), (0, .ref (G.1 + b0)), (1, .int p1), (2, .int p2), (3, .int p3), (4, .int p4)]) rfl ?_
  refine m_aload_n C (dOf DX3_layDown 3 rfl) rfl 1 rfl ?_
  refine m_iload_n C (dOf DX3_layDown 4 rfl) rfl 4 rfl ?_
  obtain ⟨hc, h⟩ := ck_spec h
  refine m_cP (st := []) h (fun o' ho H locs ls hl hr hs => ⟨_, m_runV C (dOf DX3_layDown 5 rfl) km_X3_51 ky_X3_deltaAt (by decide) ⟨rfl, rfl⟩ (c_X3_deltaAt _ G _ _ _ o' ho) hc.1 hc.2 (by decide) rfl rfl rfl (Nat.le_of_ble_eq_true rfl) ⟨Nat.le_refl _, Nat.le_refl _⟩ hl hr hs⟩) (fun v2 h => ?_)
  refine m_istore C (dOf DX3_layDown 6 rfl) (by decide) (lv' := [(6, .int v2), (5, .int v1), (0, .ref (G.1 + b0)), (1, .int p1), (2, .int p2), (3, .int p3), (4, .int p4)]) rfl ?_
  refine m_iload C (dOf DX3_layDown 7 rfl) 0 rfl ?_
  refine m_bipush C (dOf DX3_layDown 8 rfl) (v := 15) kb_15 ?_
  refine m_jn (J := fun (x3 : Int32) => WM X G 9 0 0 (wQ X G (qI G o) 0 0) 25 [(0, .ref (G.1 + b0)), (1, .int p1), (2, .int p2), (3, .int p3), (4, .int p4), (5, .int v1), (6, .int v2)] [.int x3] S) h (fun x3 h => ?_) (fun j3 hj3 h => ?_)
  · refine m_istore C (dOf DX3_layDown 13 rfl) (by decide) (lv' := [(7, .int x3), (0, .ref (G.1 + b0)), (1, .int p1), (2, .int p2), (3, .int p3), (4, .int p4), (5, .int v1), (6, .int v2)]) rfl ?_
    refine m_iload C (dOf DX3_layDown 14 rfl) 0 rfl ?_
    refine m_jn (J := fun (x4 : St) => WM X G 9 0 0 (wQ X G (qI G o) 0 0) 93 [(0, .ref (G.1 + b0)), (1, .int p1), (2, .int p2), (3, .int p3), (4, .int p4), (5, .int v1), (6, .int v2), (7, .int x3)] [] x4) h (fun x4 h => ?_) (fun j4 hj4 h => ?_)
    · refine m_iload C (dOf DX3_layDown 48 rfl) 7 rfl ?_
      refine m_jn (J := fun (x5 : Int32) => WM X G 9 0 0 (wQ X G (qI G o) 0 0) 111 [(0, .ref (G.1 + b0)), (1, .int p1), (2, .int p2), (3, .int p3), (4, .int p4), (5, .int v1), (6, .int v2), (7, .int x3)] [.int x5] x4) h (fun x5 h => ?_) (fun j5 hj5 h => ?_)
      · refine m_istore C (dOf DX3_layDown 57 rfl) (by decide) (lv' := [(8, .int x5), (0, .ref (G.1 + b0)), (1, .int p1), (2, .int p2), (3, .int p3), (4, .int p4), (5, .int v1), (6, .int v2), (7, .int x3)]) rfl ?_
        refine m_aload_n C (dOf DX3_layDown 58 rfl) rfl 1 rfl ?_
        refine m_gR C (dOf DX3_layDown 59 rfl) kf_X3_9 fg_3_0 h (fun a6 h => ?_)
        refine m_iload C (dOf DX3_layDown 60 rfl) 0 rfl ?_
        refine m_iload C (dOf DX3_layDown 61 rfl) 8 rfl ?_
        refine m_jn (J := fun (x7 : Int32) => WM X G 9 0 0 (wQ X G (qI G o) 0 0) 140 [(0, .ref (G.1 + b0)), (1, .int p1), (2, .int p2), (3, .int p3), (4, .int p4), (5, .int v1), (8, .int x5)] [.int x7, .int x5, .ref (G.1 + a6)] x4) h (fun x7 h => ?_) (fun j7 hj7 h => ?_)
        · refine m_cV (st := []) h (fun o' ho H locs ls hl hr hs => ⟨_, m_runSN C (dOf DX3_layDown 72 rfl) kn_X3_55 ks_X8_set (by decide) ⟨rfl, rfl⟩ (c_X8_set _ G _ _ _ _ o' ho) rfl rfl (Nat.le_of_ble_eq_true rfl) ⟨Nat.le_refl _, Nat.le_refl _⟩ hl hr hs⟩) (fun S8 h => ?_)
          refine m_aload_n C (dOf DX3_layDown 73 rfl) rfl 0 rfl ?_
          refine m_gR C (dOf DX3_layDown 74 rfl) kf_X3_15 fg_3_1 h (fun a9 h => ?_)
          refine m_iload C (dOf DX3_layDown 75 rfl) 5 rfl ?_
          refine m_iload_n C (dOf DX3_layDown 76 rfl) rfl 1 rfl ?_
          refine m_cV (st := []) h (fun o' ho H locs ls hl hr hs => ⟨_, m_runSN C (dOf DX3_layDown 77 rfl) kn_X3_55 ks_X8_set (by decide) ⟨rfl, rfl⟩ (c_X8_set _ G _ _ _ _ o' ho) rfl rfl (Nat.le_of_ble_eq_true rfl) ⟨Nat.le_refl _, Nat.le_refl _⟩ hl hr hs⟩) (fun S10 h => ?_)
          refine m_aload_n C (dOf DX3_layDown 78 rfl) rfl 0 rfl ?_
          refine m_gR C (dOf DX3_layDown 79 rfl) kf_X3_18 fg_3_2 h (fun a11 h => ?_)
          refine m_iload C (dOf DX3_layDown 80 rfl) 5 rfl ?_
          refine m_iload_n C (dOf DX3_layDown 81 rfl) rfl 2 rfl ?_
          refine m_cV (st := []) h (fun o' ho H locs ls hl hr hs => ⟨_, m_runSN C (dOf DX3_layDown 82 rfl) kn_X3_55 ks_X8_set (by decide) ⟨rfl, rfl⟩ (c_X8_set _ G _ _ _ _ o' ho) rfl rfl (Nat.le_of_ble_eq_true rfl) ⟨Nat.le_refl _, Nat.le_refl _⟩ hl hr hs⟩) (fun S12 h => ?_)
          refine m_aload_n C (dOf DX3_layDown 83 rfl) rfl 0 rfl ?_
          refine m_gR C (dOf DX3_layDown 84 rfl) kf_X3_21 fg_3_3 h (fun a13 h => ?_)
          refine m_iload C (dOf DX3_layDown 85 rfl) 5 rfl ?_
          refine m_iload_n C (dOf DX3_layDown 86 rfl) rfl 3 rfl ?_
          refine m_cV (st := []) h (fun o' ho H locs ls hl hr hs => ⟨_, m_runSN C (dOf DX3_layDown 87 rfl) kn_X3_55 ks_X8_set (by decide) ⟨rfl, rfl⟩ (c_X8_set _ G _ _ _ _ o' ho) rfl rfl (Nat.le_of_ble_eq_true rfl) ⟨Nat.le_refl _, Nat.le_refl _⟩ hl hr hs⟩) (fun S14 h => ?_)
          refine m_aload_n C (dOf DX3_layDown 88 rfl) rfl 0 rfl ?_
          refine m_gR C (dOf DX3_layDown 89 rfl) kf_X3_24 fg_3_4 h (fun a15 h => ?_)
          refine m_iload C (dOf DX3_layDown 90 rfl) 5 rfl ?_
          refine m_aload_n C (dOf DX3_layDown 91 rfl) rfl 0 rfl ?_
          refine m_gI C (dOf DX3_layDown 92 rfl) kf_X3_41 fg_3_9 h (fun v16 h => ?_)
          refine m_cV (st := []) h (fun o' ho H locs ls hl hr hs => ⟨_, m_runSN C (dOf DX3_layDown 93 rfl) kn_X3_55 ks_X8_set (by decide) ⟨rfl, rfl⟩ (c_X8_set _ G _ _ _ _ o' ho) rfl rfl (Nat.le_of_ble_eq_true rfl) ⟨Nat.le_refl _, Nat.le_refl _⟩ hl hr hs⟩) (fun S17 h => ?_)
          refine m_aload_n C (dOf DX3_layDown 94 rfl) rfl 0 rfl ?_
          refine m_gR C (dOf DX3_layDown 95 rfl) kf_X3_27 fg_3_5 h (fun a18 h => ?_)
          refine m_iload C (dOf DX3_layDown 96 rfl) 5 rfl ?_
          refine m_iload C (dOf DX3_layDown 97 rfl) 6 rfl ?_
          refine m_cV (st := []) h (fun o' ho H locs ls hl hr hs => ⟨_, m_runSN C (dOf DX3_layDown 98 rfl) kn_X3_55 ks_X8_set (by decide) ⟨rfl, rfl⟩ (c_X8_set _ G _ _ _ _ o' ho) rfl rfl (Nat.le_of_ble_eq_true rfl) ⟨Nat.le_refl _, Nat.le_refl _⟩ hl hr hs⟩) (fun S19 h => ?_)
          refine m_aload_n C (dOf DX3_layDown 99 rfl) rfl 0 rfl ?_
          refine m_gR C (dOf DX3_layDown 100 rfl) kf_X3_30 fg_3_6 h (fun a20 h => ?_)
          refine m_iload C (dOf DX3_layDown 101 rfl) 5 rfl ?_
          refine m_iload C (dOf DX3_layDown 102 rfl) 4 rfl ?_
          refine m_cV (st := []) h (fun o' ho H locs ls hl hr hs => ⟨_, m_runSN C (dOf DX3_layDown 103 rfl) kn_X3_55 ks_X8_set (by decide) ⟨rfl, rfl⟩ (c_X8_set _ G _ _ _ _ o' ho) rfl rfl (Nat.le_of_ble_eq_true rfl) ⟨Nat.le_refl _, Nat.le_refl _⟩ hl hr hs⟩) (fun S21 h => ?_)
          refine m_iload C (dOf DX3_layDown 104 rfl) 5 rfl ?_
          refine m_jn (J := fun (x22 : St) => WM X G 9 0 0 (wQ X G (qI G o) 0 0) 231 [(0, .ref (G.1 + b0)), (4, .int p4), (5, .int v1), (8, .int x5)] [] x22) h (fun x22 h => ?_) (fun j22 hj22 h => ?_)
          · refine m_aload_n C (dOf DX3_layDown 116 rfl) rfl 0 rfl ?_
            refine m_iload C (dOf DX3_layDown 117 rfl) 2 rfl ?_
            refine m_iconst C (dOf DX3_layDown 118 rfl) (v := 1) ki_1 ?_
            refine m_iadd C (dOf DX3_layDown 119 rfl) h (fun v23 h => ?_)
            refine m_pI C (dOf DX3_layDown_1 0 rfl) kf_X3_37 fp_3_8 h (fun S24 h => ?_)
            refine m_aload_n C (dOf DX3_layDown_1 1 rfl) rfl 0 rfl ?_
            refine m_iload C (dOf DX3_layDown_1 2 rfl) 3 rfl ?_
            refine m_iconst C (dOf DX3_layDown_1 3 rfl) (v := 1) ki_1 ?_
            refine m_iadd C (dOf DX3_layDown_1 4 rfl) h (fun v25 h => ?_)
            refine m_iload C (dOf DX3_layDown_1 5 rfl) 1 rfl ?_
            refine m_iadd C (dOf DX3_layDown_1 6 rfl) h (fun v26 h => ?_)
            refine m_pI C (dOf DX3_layDown_1 7 rfl) kf_X3_41 fp_3_9 h (fun S27 h => ?_)
            refine m_iload C (dOf DX3_layDown_1 8 rfl) 2 rfl ?_
            exact m_iret C rfl (dOf DX3_layDown_1 9 rfl) h
          refine m_iflt C (dOf DX3_layDown 105 rfl) (tgt := 231) rfl h (fun h => ?_) (fun h => ?_)
          · exact m_sub [0, 4, 5, 6] rfl (hj22 _ h)
          · refine m_iload C (dOf DX3_layDown 106 rfl) 5 rfl ?_
            refine m_aload_n C (dOf DX3_layDown 107 rfl) rfl 0 rfl ?_
            refine m_gR C (dOf DX3_layDown 108 rfl) kf_X3_33 fg_3_7 h (fun a28 h => ?_)
            refine m_al C (dOf DX3_layDown 109 rfl) (by decide) h (fun v29 h => ?_)
            refine m_icmpge C (dOf DX3_layDown 110 rfl) (tgt := 231) rfl h (fun h => ?_) (fun h => ?_)
            · exact m_sub [0, 4, 5, 6] rfl (hj22 _ h)
            · refine m_aload_n C (dOf DX3_layDown 111 rfl) rfl 0 rfl ?_
              refine m_gR C (dOf DX3_layDown 112 rfl) kf_X3_33 fg_3_7 h (fun a30 h => ?_)
              refine m_iload C (dOf DX3_layDown 113 rfl) 5 rfl ?_
              refine m_iconst C (dOf DX3_layDown 114 rfl) (v := 0) ki_0 ?_
              refine m_sZ C (dOf DX3_layDown 115 rfl) h (fun S31 h => ?_)
              exact m_sub [0, 4, 5, 6] rfl (hj22 _ h)
        refine m_ifeq C (dOf DX3_layDown 62 rfl) (tgt := 132) rfl h (fun h => ?_) (fun h => ?_)
        · refine m_bipush C (dOf DX3_layDown 67 rfl) (v := 16) kb_16 ?_
          refine m_iload C (dOf DX3_layDown 68 rfl) 5 rfl ?_
          refine m_imul C (dOf DX3_layDown 69 rfl) h (fun v32 h => ?_)
          refine m_iload C (dOf DX3_layDown 70 rfl) 7 rfl ?_
          refine m_iadd C (dOf DX3_layDown 71 rfl) h (fun v33 h => ?_)
          exact m_sub [1, 2, 3, 4, 5, 6, 0] rfl (hj7 _ h)
        · refine m_bipush C (dOf DX3_layDown 63 rfl) (v := 16) kb_16 ?_
          refine m_iload C (dOf DX3_layDown 64 rfl) 5 rfl ?_
          refine m_imul C (dOf DX3_layDown 65 rfl) h (fun v34 h => ?_)
          refine m_goto C (dOf DX3_layDown 66 rfl) (tgt := 140) rfl ?_
          exact m_sub [1, 2, 3, 4, 5, 6, 0] rfl (hj7 _ h)
      refine m_ifeq C (dOf DX3_layDown 49 rfl) (tgt := 107) rfl h (fun h => ?_) (fun h => ?_)
      · refine m_aload_n C (dOf DX3_layDown 55 rfl) rfl 0 rfl ?_
        refine m_gI C (dOf DX3_layDown 56 rfl) kf_X3_41 fg_3_9 h (fun v35 h => ?_)
        exact m_sub [0, 1, 2, 3, 4, 5, 6, 7] rfl (hj5 _ h)
      · refine m_aload_n C (dOf DX3_layDown 50 rfl) rfl 0 rfl ?_
        refine m_gI C (dOf DX3_layDown 51 rfl) kf_X3_41 fg_3_9 h (fun v36 h => ?_)
        refine m_iconst C (dOf DX3_layDown 52 rfl) (v := 3) ki_3 ?_
        refine m_iadd C (dOf DX3_layDown 53 rfl) h (fun v37 h => ?_)
        refine m_goto C (dOf DX3_layDown 54 rfl) (tgt := 111) rfl ?_
        exact m_sub [0, 1, 2, 3, 4, 5, 6, 7] rfl (hj5 _ h)
    refine m_ifeq C (dOf DX3_layDown 15 rfl) (tgt := 93) rfl h (fun h => ?_) (fun h => ?_)
    · exact m_sub [1, 2, 3, 4, 5, 6, 7, 0] rfl (hj4 _ h)
    · refine m_aload_n C (dOf DX3_layDown 16 rfl) rfl 1 rfl ?_
      refine m_gR C (dOf DX3_layDown 17 rfl) kf_X3_9 fg_3_0 h (fun a38 h => ?_)
      refine m_aload_n C (dOf DX3_layDown 18 rfl) rfl 1 rfl ?_
      refine m_gI C (dOf DX3_layDown 19 rfl) kf_X3_41 fg_3_9 h (fun v39 h => ?_)
      refine m_sipush C (dOf DX3_layDown 20 rfl) (v := 240) ks_240 ?_
      refine m_iload C (dOf DX3_layDown 21 rfl) 7 rfl ?_
      refine m_bipush C (dOf DX3_layDown 22 rfl) (v := 16) kb_16 ?_
      refine m_irem C (dOf DX3_layDown 23 rfl) h (fun v40 h => ?_)
      refine m_iadd C (dOf DX3_layDown 24 rfl) h (fun v41 h => ?_)
      refine m_cV (st := []) h (fun o' ho H locs ls hl hr hs => ⟨_, m_runSN C (dOf DX3_layDown 25 rfl) kn_X3_55 ks_X8_set (by decide) ⟨rfl, rfl⟩ (c_X8_set _ G _ _ _ _ o' ho) rfl rfl (Nat.le_of_ble_eq_true rfl) ⟨Nat.le_refl _, Nat.le_refl _⟩ hl hr hs⟩) (fun S42 h => ?_)
      refine m_aload_n C (dOf DX3_layDown 26 rfl) rfl 1 rfl ?_
      refine m_gR C (dOf DX3_layDown 27 rfl) kf_X3_9 fg_3_0 h (fun a43 h => ?_)
      refine m_aload_n C (dOf DX3_layDown 28 rfl) rfl 1 rfl ?_
      refine m_gI C (dOf DX3_layDown 29 rfl) kf_X3_41 fg_3_9 h (fun v44 h => ?_)
      refine m_iconst C (dOf DX3_layDown 30 rfl) (v := 1) ki_1 ?_
      refine m_iadd C (dOf DX3_layDown 31 rfl) h (fun v45 h => ?_)
      refine m_iload C (dOf DX3_layDown 32 rfl) 7 rfl ?_
      refine m_bipush C (dOf DX3_layDown 33 rfl) (v := 16) kb_16 ?_
      refine m_idiv C (dOf DX3_layDown 34 rfl) h (fun v46 h => ?_)
      refine m_sipush C (dOf DX3_layDown 35 rfl) (v := 256) ks_256 ?_
      refine m_irem C (dOf DX3_layDown 36 rfl) h (fun v47 h => ?_)
      refine m_cV (st := []) h (fun o' ho H locs ls hl hr hs => ⟨_, m_runSN C (dOf DX3_layDown 37 rfl) kn_X3_55 ks_X8_set (by decide) ⟨rfl, rfl⟩ (c_X8_set _ G _ _ _ _ o' ho) rfl rfl (Nat.le_of_ble_eq_true rfl) ⟨Nat.le_refl _, Nat.le_refl _⟩ hl hr hs⟩) (fun S48 h => ?_)
      refine m_aload_n C (dOf DX3_layDown 38 rfl) rfl 1 rfl ?_
      refine m_gR C (dOf DX3_layDown 39 rfl) kf_X3_9 fg_3_0 h (fun a49 h => ?_)
      refine m_aload_n C (dOf DX3_layDown 40 rfl) rfl 1 rfl ?_
      refine m_gI C (dOf DX3_layDown 41 rfl) kf_X3_41 fg_3_9 h (fun v50 h => ?_)
      refine m_iconst C (dOf DX3_layDown 42 rfl) (v := 2) ki_2 ?_
      refine m_iadd C (dOf DX3_layDown 43 rfl) h (fun v51 h => ?_)
      refine m_iload C (dOf DX3_layDown 44 rfl) 7 rfl ?_
      refine m_sipush C (dOf DX3_layDown 45 rfl) (v := 4096) ks_4096 ?_
      refine m_idiv C (dOf DX3_layDown 46 rfl) h (fun v52 h => ?_)
      refine m_cV (st := []) h (fun o' ho H locs ls hl hr hs => ⟨_, m_runSN C (dOf DX3_layDown 47 rfl) kn_X3_55 ks_X8_set (by decide) ⟨rfl, rfl⟩ (c_X8_set _ G _ _ _ _ o' ho) rfl rfl (Nat.le_of_ble_eq_true rfl) ⟨Nat.le_refl _, Nat.le_refl _⟩ hl hr hs⟩) (fun S53 h => ?_)
      exact m_sub [1, 2, 3, 4, 5, 6, 7, 0] rfl (hj4 _ h)
  refine m_icmple C (dOf DX3_layDown 9 rfl) (tgt := 24) rfl h (fun h => ?_) (fun h => ?_)
  · refine m_iconst C (dOf DX3_layDown 12 rfl) (v := 0) ki_0 ?_
    exact m_sub [2, 3, 4, 5, 6, 1, 0] rfl (hj3 _ h)
  · refine m_iconst C (dOf DX3_layDown 10 rfl) (v := 1) ki_1 ?_
    refine m_goto C (dOf DX3_layDown 11 rfl) (tgt := 25) rfl ?_
    exact m_sub [2, 3, 4, 5, 6, 1, 0] rfl (hj3 _ h)
/-- TraceRing$Ring.raiseTo(II)V -/
def f_X4_raiseTo (S : St) (b0 : Nat) (p1 : Int32) (p2 : Int32) : Option St :=
  gR_ S b0 4 4 fun a1 =>
  gR_ S b0 4 4 fun a2 =>
  cP_ (f_X8_at S a2 p1) fun v3 =>
  lt_ (if v3 < p2 then p2 else v3) fun v4 =>
  cV_ (f_X8_set S a1 p1 v4) fun S5 =>
  rt_ S5
set_option maxRecDepth 100000 in
set_option maxHeartbeats 4000000 in
theorem c_X4_raiseTo (l : Launch) (G : Gx) (S : St) (b0 : Nat) (p1 : Int32) (p2 : Int32) (o : St) (h : f_X4_raiseTo S b0 p1 p2 = some o) : Met l yX4_raiseTo (Cond.code yX4_raiseTo cX4_raiseTo 3 none :: wAll) ({ frames := 1, cells := 0, slots := 0, locals := 24 } : Room) (va_Pc [.ref (G.1 + b0), .int p1, .int p2] (wPre G S)) (qV G o) 0 0 (wA G) := by
  refine m_start (by decide +kernel) (Nat.le_of_ble_eq_true rfl) (fun X C => ?_)
  unfold f_X4_raiseTo at h
  show WM X G 3 0 0 (wQ X G (qV G o) 0 0) 0 [(0, .ref (G.1 + b0)), (1, .int p1), (2, .int p2)] [] S
  refine m_aload_n C (dOf DX4_raiseTo 0 rfl) rfl 0 rfl ?_
  refine m_gR C (dOf DX4_raiseTo 1 rfl) kf_X4_27 fg_4_4 h (fun a1 h => ?_)
  refine m_iload_n C (dOf DX4_raiseTo 2 rfl) rfl 1 rfl ?_
  refine m_aload_n C (dOf DX4_raiseTo 3 rfl) rfl 0 rfl ?_
  refine m_gR C (dOf DX4_raiseTo 4 rfl) kf_X4_27 fg_4_4 h (fun a2 h => ?_)
  refine m_iload_n C (dOf DX4_raiseTo 5 rfl) rfl 1 rfl ?_
  refine m_cP (st := [.int p1, .ref (G.1 + a1)]) h (fun o' ho H locs ls hl hr hs => ⟨_, m_runSN C (dOf DX4_raiseTo 6 rfl) kn_X4_102 ks_X8_at (by decide) ⟨rfl, rfl⟩ (c_X8_at _ G _ _ _ o' ho) rfl rfl (Nat.le_of_ble_eq_true rfl) ⟨Nat.le_refl _, Nat.le_refl _⟩ hl hr hs⟩) (fun v3 h => ?_)
  refine m_iload_n C (dOf DX4_raiseTo 7 rfl) rfl 2 rfl ?_
  refine m_max C (dOf DX4_raiseTo 8 rfl) km_X4_106 kw_max ⟨by decide, Nat.le_of_ble_eq_true rfl⟩ ⟨Nat.le_refl _, Nat.le_refl _⟩ h (fun v4 h => ?_)
  refine m_cV (st := []) h (fun o' ho H locs ls hl hr hs => ⟨_, m_runSN C (dOf DX4_raiseTo 9 rfl) kn_X4_53 ks_X8_set (by decide) ⟨rfl, rfl⟩ (c_X8_set _ G _ _ _ _ o' ho) rfl rfl (Nat.le_of_ble_eq_true rfl) ⟨Nat.le_refl _, Nat.le_refl _⟩ hl hr hs⟩) (fun S5 h => ?_)
  exact m_vret C rfl (dOf DX4_raiseTo 10 rfl) h
/-- TraceRing$Ring.openBehindTail(II)V -/
def f_X4_openBehindTail (S : St) (b0 : Nat) (p1 : Int32) (p2 : Int32) : Option St :=
  ck_ S b0 4 <| cP_ (f_X4_tailPlace S b0) fun v1 =>
  ck_ S b0 4 <| cP_ (f_X4_pageAt S b0 v1) fun a2 =>
  gI_ S b0 4 11 fun v3 =>
  ck_ S a2 3 <| cP_ (f_X3_deltaAt S a2 v3) fun v4 =>
  jn_ (fun (x5 : St) =>
    gR_ x5 b0 4 1 fun a6 =>
    gI_ x5 b0 4 15 fun v7 =>
    ck_ x5 b0 4 <| cP_ (f_X4_tailPlace x5 b0) fun v8 =>
    cV_ (f_X8_set x5 a6 v7 v8) fun S9 =>
    gR_ S9 b0 4 2 fun a10 =>
    gI_ S9 b0 4 15 fun v11 =>
    gR_ S9 b0 4 4 fun a12 =>
    cP_ (f_X8_at S9 a12 6) fun v13 =>
    gI_ S9 b0 4 11 fun v14 =>
    ck_ S9 a2 3 <| cI_ (f_X3_layDown S9 a2 v13 p1 v14 p2) fun v16 S15 =>
    cV_ (f_X8_set S15 a10 v11 v16) fun S17 =>
    gR_ S17 b0 4 3 fun a18 =>
    gI_ S17 b0 4 15 fun v19 =>
    cV_ (f_X8_set S17 a18 v19 0) fun S20 =>
    gI_ S20 b0 4 15 fun v21 =>
    lt_ (v21 + 1 : Int32) fun v22 =>
    pI_ S20 b0 4 15 v22 fun S23 =>
    lt_ (20 + p1 : Int32) fun v24 =>
    ck_ S23 b0 4 <| cV_ (f_X4_raise S23 b0 v24 1) fun S25 =>
    ck_ S25 b0 4 <| cV_ (f_X4_raiseTo S25 b0 18 v4) fun S26 =>
    gI_ S26 b0 4 15 fun v27 =>
    ck_ S26 b0 4 <| cV_ (f_X4_raiseTo S26 b0 19 v27) fun S28 =>
    rt_ S28
  ) fun j5 =>
  if v4 ≤ 15 then
    j5 (S)
  else
    ck_ S b0 4 <| cV_ (f_X4_raise S b0 13 1) fun S29 =>
    j5 (S29)
set_option maxRecDepth 100000 in
set_option maxHeartbeats 4000000 in
theorem c_X4_openBehindTail (l : Launch) (G : Gx) (S : St) (b0 : Nat) (p1 : Int32) (p2 : Int32) (o : St) (h : f_X4_openBehindTail S b0 p1 p2 = some o) : Met l yX4_openBehindTail (Cond.code yX4_openBehindTail cX4_openBehindTail 5 none :: wAll) ({ frames := 2, cells := 0, slots := 0, locals := 50 } : Room) (va_Pc [.ref (G.1 + b0), .int p1, .int p2] (wPre G S)) (qV G o) 0 0 (wA G) := by
  refine m_start (by decide +kernel) (Nat.le_of_ble_eq_true rfl) (fun X C => ?_)
  unfold f_X4_openBehindTail at h
  show WM X G 5 0 0 (wQ X G (qV G o) 0 0) 0 [(0, .ref (G.1 + b0)), (1, .int p1), (2, .int p2)] [] S
  refine m_aload_n C (dOf DX4_openBehindTail 0 rfl) rfl 0 rfl ?_
  refine m_aload_n C (dOf DX4_openBehindTail 1 rfl) rfl 0 rfl ?_
  obtain ⟨hc, h⟩ := ck_spec h
  refine m_cP (st := [.ref (G.1 + b0)]) h (fun o' ho H locs ls hl hr hs => ⟨_, m_runV C (dOf DX4_openBehindTail 2 rfl) km_X4_120 ky_X4_tailPlace (by decide) ⟨rfl, rfl⟩ (c_X4_tailPlace _ G _ _ o' ho) hc.1 hc.2 (by decide) rfl rfl rfl (Nat.le_of_ble_eq_true rfl) ⟨Nat.le_refl _, Nat.le_refl _⟩ hl hr hs⟩) (fun v1 h => ?_)
  obtain ⟨hc, h⟩ := ck_spec h
  refine m_cN (st := []) h (fun o' ho H locs ls hl hr hs => ⟨_, m_runV C (dOf DX4_openBehindTail 3 rfl) km_X4_46 ky_X4_pageAt (by decide) ⟨rfl, rfl⟩ (c_X4_pageAt _ G _ _ _ o' ho) hc.1 hc.2 (by decide) rfl rfl rfl (Nat.le_of_ble_eq_true rfl) ⟨Nat.le_refl _, Nat.le_refl _⟩ hl hr hs⟩) (fun a2 h => ?_)
  refine m_astore_n C (dOf DX4_openBehindTail 4 rfl) rfl (by decide) (lv' := [(3, .ref (G.1 + a2)), (0, .ref (G.1 + b0)), (1, .int p1), (2, .int p2)]) rfl ?_
  refine m_aload_n C (dOf DX4_openBehindTail 5 rfl) rfl 0 rfl ?_
  refine m_aload_n C (dOf DX4_openBehindTail 6 rfl) rfl 1 rfl ?_
  refine m_gI C (dOf DX4_openBehindTail 7 rfl) kf_X4_72 fg_4_11 h (fun v3 h => ?_)
  obtain ⟨hc, h⟩ := ck_spec h
  refine m_cP (st := []) h (fun o' ho H locs ls hl hr hs => ⟨_, m_runV C (dOf DX4_openBehindTail 8 rfl) km_X4_149 ky_X3_deltaAt (by decide) ⟨rfl, rfl⟩ (c_X3_deltaAt _ G _ _ _ o' ho) hc.1 hc.2 (by decide) rfl rfl rfl (Nat.le_of_ble_eq_true rfl) ⟨Nat.le_refl _, Nat.le_refl _⟩ hl hr hs⟩) (fun v4 h => ?_)
  refine m_istore C (dOf DX4_openBehindTail 9 rfl) (by decide) (lv' := [(4, .int v4), (3, .ref (G.1 + a2)), (0, .ref (G.1 + b0)), (1, .int p1), (2, .int p2)]) rfl ?_
  refine m_iload C (dOf DX4_openBehindTail 10 rfl) 0 rfl ?_
  refine m_bipush C (dOf DX4_openBehindTail 11 rfl) (v := 15) kb_15 ?_
  refine m_jn (J := fun (x5 : St) => WM X G 5 0 0 (wQ X G (qV G o) 0 0) 33 [(0, .ref (G.1 + b0)), (1, .int p1), (2, .int p2), (3, .ref (G.1 + a2)), (4, .int v4)] [] x5) h (fun x5 h => ?_) (fun j5 hj5 h => ?_)
  · refine m_aload_n C (dOf DX4_openBehindTail 17 rfl) rfl 0 rfl ?_
    refine m_gR C (dOf DX4_openBehindTail 18 rfl) kf_X4_17 fg_4_1 h (fun a6 h => ?_)
    refine m_aload_n C (dOf DX4_openBehindTail 19 rfl) rfl 0 rfl ?_
    refine m_gI C (dOf DX4_openBehindTail 20 rfl) kf_X4_84 fg_4_15 h (fun v7 h => ?_)
    refine m_aload_n C (dOf DX4_openBehindTail 21 rfl) rfl 0 rfl ?_
    obtain ⟨hc, h⟩ := ck_spec h
    refine m_cP (st := [.int v7, .ref (G.1 + a6)]) h (fun o' ho H locs ls hl hr hs => ⟨_, m_runV C (dOf DX4_openBehindTail 22 rfl) km_X4_120 ky_X4_tailPlace (by decide) ⟨rfl, rfl⟩ (c_X4_tailPlace _ G _ _ o' ho) hc.1 hc.2 (by decide) rfl rfl rfl (Nat.le_of_ble_eq_true rfl) ⟨Nat.le_refl _, Nat.le_refl _⟩ hl hr hs⟩) (fun v8 h => ?_)
    refine m_cV (st := []) h (fun o' ho H locs ls hl hr hs => ⟨_, m_runSN C (dOf DX4_openBehindTail 23 rfl) kn_X4_53 ks_X8_set (by decide) ⟨rfl, rfl⟩ (c_X8_set _ G _ _ _ _ o' ho) rfl rfl (Nat.le_of_ble_eq_true rfl) ⟨Nat.le_refl _, Nat.le_refl _⟩ hl hr hs⟩) (fun S9 h => ?_)
    refine m_aload_n C (dOf DX4_openBehindTail 24 rfl) rfl 0 rfl ?_
    refine m_gR C (dOf DX4_openBehindTail 25 rfl) kf_X4_21 fg_4_2 h (fun a10 h => ?_)
    refine m_aload_n C (dOf DX4_openBehindTail 26 rfl) rfl 0 rfl ?_
    refine m_gI C (dOf DX4_openBehindTail 27 rfl) kf_X4_84 fg_4_15 h (fun v11 h => ?_)
    refine m_aload_n C (dOf DX4_openBehindTail 28 rfl) rfl 3 rfl ?_
    refine m_aload_n C (dOf DX4_openBehindTail 29 rfl) rfl 0 rfl ?_
    refine m_gR C (dOf DX4_openBehindTail 30 rfl) kf_X4_27 fg_4_4 h (fun a12 h => ?_)
    refine m_bipush C (dOf DX4_openBehindTail 31 rfl) (v := 6) kb_6 ?_
    refine m_cP (st := [.ref (G.1 + a2), .int v11, .ref (G.1 + a10)]) h (fun o' ho H locs ls hl hr hs => ⟨_, m_runSN C (dOf DX4_openBehindTail 32 rfl) kn_X4_102 ks_X8_at (by decide) ⟨rfl, rfl⟩ (c_X8_at _ G _ _ _ o' ho) rfl rfl (Nat.le_of_ble_eq_true rfl) ⟨Nat.le_refl _, Nat.le_refl _⟩ hl hr hs⟩) (fun v13 h => ?_)
    refine m_iload_n C (dOf DX4_openBehindTail 33 rfl) rfl 1 rfl ?_
    refine m_aload_n C (dOf DX4_openBehindTail 34 rfl) rfl 0 rfl ?_
    refine m_gI C (dOf DX4_openBehindTail 35 rfl) kf_X4_72 fg_4_11 h (fun v14 h => ?_)
    refine m_iload_n C (dOf DX4_openBehindTail 36 rfl) rfl 2 rfl ?_
    obtain ⟨hc, h⟩ := ck_spec h
    refine m_cI (st := [.int v11, .ref (G.1 + a10)]) h (fun o' ho H locs ls hl hr hs => ⟨_, m_runV C (dOf DX4_openBehindTail 37 rfl) km_X4_152 ky_X3_layDown (by decide) ⟨rfl, rfl⟩ (c_X3_layDown _ G _ _ _ _ _ _ o' ho) hc.1 hc.2 (by decide) rfl rfl rfl (Nat.le_of_ble_eq_true rfl) ⟨Nat.le_refl _, Nat.le_refl _⟩ hl hr hs⟩) (fun v16 S15 h => ?_)
    refine m_cV (st := []) h (fun o' ho H locs ls hl hr hs => ⟨_, m_runSN C (dOf DX4_openBehindTail 38 rfl) kn_X4_53 ks_X8_set (by decide) ⟨rfl, rfl⟩ (c_X8_set _ G _ _ _ _ o' ho) rfl rfl (Nat.le_of_ble_eq_true rfl) ⟨Nat.le_refl _, Nat.le_refl _⟩ hl hr hs⟩) (fun S17 h => ?_)
    refine m_aload_n C (dOf DX4_openBehindTail 39 rfl) rfl 0 rfl ?_
    refine m_gR C (dOf DX4_openBehindTail 40 rfl) kf_X4_24 fg_4_3 h (fun a18 h => ?_)
    refine m_aload_n C (dOf DX4_openBehindTail 41 rfl) rfl 0 rfl ?_
    refine m_gI C (dOf DX4_openBehindTail 42 rfl) kf_X4_84 fg_4_15 h (fun v19 h => ?_)
    refine m_iconst C (dOf DX4_openBehindTail 43 rfl) (v := 0) ki_0 ?_
    refine m_cV (st := []) h (fun o' ho H locs ls hl hr hs => ⟨_, m_runSN C (dOf DX4_openBehindTail 44 rfl) kn_X4_53 ks_X8_set (by decide) ⟨rfl, rfl⟩ (c_X8_set _ G _ _ _ _ o' ho) rfl rfl (Nat.le_of_ble_eq_true rfl) ⟨Nat.le_refl _, Nat.le_refl _⟩ hl hr hs⟩) (fun S20 h => ?_)
    refine m_aload_n C (dOf DX4_openBehindTail 45 rfl) rfl 0 rfl ?_
    refine m_dup C (dOf DX4_openBehindTail 46 rfl) rfl ?_
    refine m_gI C (dOf DX4_openBehindTail 47 rfl) kf_X4_84 fg_4_15 h (fun v21 h => ?_)
    refine m_iconst C (dOf DX4_openBehindTail 48 rfl) (v := 1) ki_1 ?_
    refine m_iadd C (dOf DX4_openBehindTail 49 rfl) h (fun v22 h => ?_)
    refine m_pI C (dOf DX4_openBehindTail 50 rfl) kf_X4_84 fp_4_15 h (fun S23 h => ?_)
    refine m_aload_n C (dOf DX4_openBehindTail 51 rfl) rfl 0 rfl ?_
    refine m_bipush C (dOf DX4_openBehindTail 52 rfl) (v := 20) kb_20 ?_
    refine m_iload_n C (dOf DX4_openBehindTail 53 rfl) rfl 1 rfl ?_
    refine m_iadd C (dOf DX4_openBehindTail 54 rfl) h (fun v24 h => ?_)
    refine m_iconst C (dOf DX4_openBehindTail 55 rfl) (v := 1) ki_1 ?_
    obtain ⟨hc, h⟩ := ck_spec h
    refine m_cV (st := []) h (fun o' ho H locs ls hl hr hs => ⟨_, m_runV C (dOf DX4_openBehindTail 56 rfl) km_X4_136 ky_X4_raise (by decide) ⟨rfl, rfl⟩ (c_X4_raise _ G _ _ _ _ o' ho) hc.1 hc.2 (by decide) rfl rfl rfl (Nat.le_of_ble_eq_true rfl) ⟨Nat.le_refl _, Nat.le_refl _⟩ hl hr hs⟩) (fun S25 h => ?_)
    refine m_aload_n C (dOf DX4_openBehindTail 57 rfl) rfl 0 rfl ?_
    refine m_bipush C (dOf DX4_openBehindTail 58 rfl) (v := 18) kb_18 ?_
    refine m_iload C (dOf DX4_openBehindTail 59 rfl) 4 rfl ?_
    obtain ⟨hc, h⟩ := ck_spec h
    refine m_cV (st := []) h (fun o' ho H locs ls hl hr hs => ⟨_, m_runV C (dOf DX4_openBehindTail 60 rfl) km_X4_156 ky_X4_raiseTo (by decide) ⟨rfl, rfl⟩ (c_X4_raiseTo _ G _ _ _ _ o' ho) hc.1 hc.2 (by decide) rfl rfl rfl (Nat.le_of_ble_eq_true rfl) ⟨Nat.le_refl _, Nat.le_refl _⟩ hl hr hs⟩) (fun S26 h => ?_)
    refine m_aload_n C (dOf DX4_openBehindTail 61 rfl) rfl 0 rfl ?_
    refine m_bipush C (dOf DX4_openBehindTail 62 rfl) (v := 19) kb_19 ?_
    refine m_aload_n C (dOf DX4_openBehindTail 63 rfl) rfl 0 rfl ?_
    refine m_gI C (dOf DX4_openBehindTail 64 rfl) kf_X4_84 fg_4_15 h (fun v27 h => ?_)
    obtain ⟨hc, h⟩ := ck_spec h
    refine m_cV (st := []) h (fun o' ho H locs ls hl hr hs => ⟨_, m_runV C (dOf DX4_openBehindTail 65 rfl) km_X4_156 ky_X4_raiseTo (by decide) ⟨rfl, rfl⟩ (c_X4_raiseTo _ G _ _ _ _ o' ho) hc.1 hc.2 (by decide) rfl rfl rfl (Nat.le_of_ble_eq_true rfl) ⟨Nat.le_refl _, Nat.le_refl _⟩ hl hr hs⟩) (fun S28 h => ?_)
    exact m_vret C rfl (dOf DX4_openBehindTail 66 rfl) h
  refine m_icmple C (dOf DX4_openBehindTail 12 rfl) (tgt := 33) rfl h (fun h => ?_) (fun h => ?_)
  · exact m_sub [2, 3, 4, 1, 0] rfl (hj5 _ h)
  · refine m_aload_n C (dOf DX4_openBehindTail 13 rfl) rfl 2 rfl ?_
    refine m_bipush C (dOf DX4_openBehindTail 14 rfl) (v := 13) kb_13 ?_
    refine m_iconst C (dOf DX4_openBehindTail 15 rfl) (v := 1) ki_1 ?_
    obtain ⟨hc, h⟩ := ck_spec h
    refine m_cV (st := []) h (fun o' ho H locs ls hl hr hs => ⟨_, m_runV C (dOf DX4_openBehindTail 16 rfl) km_X4_136 ky_X4_raise (by decide) ⟨rfl, rfl⟩ (c_X4_raise _ G _ _ _ _ o' ho) hc.1 hc.2 (by decide) rfl rfl rfl (Nat.le_of_ble_eq_true rfl) ⟨Nat.le_refl _, Nat.le_refl _⟩ hl hr hs⟩) (fun S29 h => ?_)
    exact m_sub [2, 3, 4, 1, 0] rfl (hj5 _ h)
/-- TraceRing$Ring.takeRoom(II)I -/
def f_X4_takeRoom (S : St) (b0 : Nat) (p1 : Int32) (p2 : Int32) : Option (Int32 × St) :=
  ck_ S b0 4 <| cP_ (f_X4_wayOf S b0 p1 p2) fun v1 =>
  jn_ (fun (x2 : Unit) =>
    rt_ (v1, S)
  ) fun j2 =>
  if v1 = (-1) then
    j2 ()
  else
    if v1 = (-2) then
      j2 ()
    else
      ck_ S b0 4 <| cV_ (f_X4_raise S b0 6 1) fun S3 =>
      if v1 = (-3) then
        ck_ S3 b0 4 <| cV_ (f_X4_raise S3 b0 7 1) fun S14 =>
        lt_ (30 + p1 : Int32) fun v15 =>
        ck_ S14 b0 4 <| cV_ (f_X4_raise S14 b0 v15 1) fun S16 =>
        rt_ ((-3), S16)
      else
        jn_ (fun (x4 : St) =>
          jn_ (fun (x5 : St) =>
            ck_ x5 b0 4 <| cV_ (f_X4_openBehindTail x5 b0 p1 p2) fun S6 =>
            gR_ S6 b0 4 4 fun a7 =>
            cP_ (f_X8_at S6 a7 6) fun v8 =>
            rt_ (v8, S6)
          ) fun j5 =>
          if v1 = 0 then
            j5 (x4)
          else
            gI_ x4 b0 4 13 fun v9 =>
            lt_ (v9 + 1 : Int32) fun v10 =>
            pI_ x4 b0 4 13 v10 fun S11 =>
            j5 (S11)
        ) fun j4 =>
        if v1 = 2 then
          ck_ S3 b0 4 <| cI_ (f_X4_overwriteHead S3 b0) fun v13 S12 =>
          j4 (S12)
        else
          j4 (S3)
set_option maxRecDepth 100000 in
set_option maxHeartbeats 4000000 in
theorem c_X4_takeRoom (l : Launch) (G : Gx) (S : St) (b0 : Nat) (p1 : Int32) (p2 : Int32) (o : (Int32 × St)) (h : f_X4_takeRoom S b0 p1 p2 = some o) : Met l yX4_takeRoom (Cond.code yX4_takeRoom cX4_takeRoom 4 (some (.int)) :: wAll) ({ frames := 3, cells := 0, slots := 0, locals := 74 } : Room) (va_Pc [.ref (G.1 + b0), .int p1, .int p2] (wPre G S)) (qI G o) 0 0 (wA G) := by
  refine m_start (by decide +kernel) (Nat.le_of_ble_eq_true rfl) (fun X C => ?_)
  unfold f_X4_takeRoom at h
  show WM X G 4 0 0 (wQ X G (qI G o) 0 0) 0 [(0, .ref (G.1 + b0)), (1, .int p1), (2, .int p2)] [] S
  refine m_aload_n C (dOf DX4_takeRoom 0 rfl) rfl 0 rfl ?_
  refine m_iload_n C (dOf DX4_takeRoom 1 rfl) rfl 1 rfl ?_
  refine m_iload_n C (dOf DX4_takeRoom 2 rfl) rfl 2 rfl ?_
  obtain ⟨hc, h⟩ := ck_spec h
  refine m_cP (st := []) h (fun o' ho H locs ls hl hr hs => ⟨_, m_runV C (dOf DX4_takeRoom 3 rfl) km_X4_133 ky_X4_wayOf (by decide) ⟨rfl, rfl⟩ (c_X4_wayOf _ G _ _ _ _ o' ho) hc.1 hc.2 (by decide) rfl rfl rfl (Nat.le_of_ble_eq_true rfl) ⟨Nat.le_refl _, Nat.le_refl _⟩ hl hr hs⟩) (fun v1 h => ?_)
  refine m_istore_n C (dOf DX4_takeRoom 4 rfl) rfl (by decide) (lv' := [(3, .int v1), (0, .ref (G.1 + b0)), (1, .int p1), (2, .int p2)]) rfl ?_
  refine m_iload_n C (dOf DX4_takeRoom 5 rfl) rfl 0 rfl ?_
  refine m_iconst C (dOf DX4_takeRoom 6 rfl) (v := (-1)) ki_m1 ?_
  refine m_jn (J := fun (x2 : Unit) => WM X G 4 0 0 (wQ X G (qI G o) 0 0) 18 [(3, .int v1)] [] S) h (fun x2 h => ?_) (fun j2 hj2 h => ?_)
  · refine m_iload_n C (dOf DX4_takeRoom 11 rfl) rfl 0 rfl ?_
    exact m_iret C rfl (dOf DX4_takeRoom 12 rfl) h
  refine m_icmpeq C (dOf DX4_takeRoom 7 rfl) (tgt := 18) rfl h (fun h => ?_) (fun h => ?_)
  · exact m_sub [0] rfl (hj2 _ h)
  · refine m_iload_n C (dOf DX4_takeRoom 8 rfl) rfl 0 rfl ?_
    refine m_bipush C (dOf DX4_takeRoom 9 rfl) (v := (-2)) kb_m2 ?_
    refine m_icmpne C (dOf DX4_takeRoom 10 rfl) (tgt := 20) rfl h (fun h => ?_) (fun h => ?_)
    · refine m_aload_n C (dOf DX4_takeRoom 13 rfl) rfl 1 rfl ?_
      refine m_bipush C (dOf DX4_takeRoom 14 rfl) (v := 6) kb_6 ?_
      refine m_iconst C (dOf DX4_takeRoom 15 rfl) (v := 1) ki_1 ?_
      obtain ⟨hc, h⟩ := ck_spec h
      refine m_cV (st := []) h (fun o' ho H locs ls hl hr hs => ⟨_, m_runV C (dOf DX4_takeRoom 16 rfl) km_X4_136 ky_X4_raise (by decide) ⟨rfl, rfl⟩ (c_X4_raise _ G _ _ _ _ o' ho) hc.1 hc.2 (by decide) rfl rfl rfl (Nat.le_of_ble_eq_true rfl) ⟨Nat.le_refl _, Nat.le_refl _⟩ hl hr hs⟩) (fun S3 h => ?_)
      refine m_iload_n C (dOf DX4_takeRoom 17 rfl) rfl 0 rfl ?_
      refine m_bipush C (dOf DX4_takeRoom 18 rfl) (v := (-3)) kb_m3 ?_
      refine m_icmpne C (dOf DX4_takeRoom 19 rfl) (tgt := 52) rfl h (fun h => ?_) (fun h => ?_)
      · refine m_iload_n C (dOf DX4_takeRoom 32 rfl) rfl 0 rfl ?_
        refine m_iconst C (dOf DX4_takeRoom 33 rfl) (v := 2) ki_2 ?_
        refine m_jn (J := fun (x4 : St) => WM X G 4 0 0 (wQ X G (qI G o) 0 0) 62 [(0, .ref (G.1 + b0)), (1, .int p1), (2, .int p2), (3, .int v1)] [] x4) h (fun x4 h => ?_) (fun j4 hj4 h => ?_)
        · refine m_iload_n C (dOf DX4_takeRoom 38 rfl) rfl 3 rfl ?_
          refine m_jn (J := fun (x5 : St) => WM X G 4 0 0 (wQ X G (qI G o) 0 0) 76 [(0, .ref (G.1 + b0)), (1, .int p1), (2, .int p2)] [] x5) h (fun x5 h => ?_) (fun j5 hj5 h => ?_)
          · refine m_aload_n C (dOf DX4_takeRoom 46 rfl) rfl 0 rfl ?_
            refine m_iload_n C (dOf DX4_takeRoom 47 rfl) rfl 1 rfl ?_
            refine m_iload_n C (dOf DX4_takeRoom 48 rfl) rfl 2 rfl ?_
            obtain ⟨hc, h⟩ := ck_spec h
            refine m_cV (st := []) h (fun o' ho H locs ls hl hr hs => ⟨_, m_runV C (dOf DX4_takeRoom 49 rfl) km_X4_143 ky_X4_openBehindTail (by decide) ⟨rfl, rfl⟩ (c_X4_openBehindTail _ G _ _ _ _ o' ho) hc.1 hc.2 (by decide) rfl rfl rfl (Nat.le_of_ble_eq_true rfl) ⟨Nat.le_refl _, Nat.le_refl _⟩ hl hr hs⟩) (fun S6 h => ?_)
            refine m_aload_n C (dOf DX4_takeRoom 50 rfl) rfl 0 rfl ?_
            refine m_gR C (dOf DX4_takeRoom 51 rfl) kf_X4_27 fg_4_4 h (fun a7 h => ?_)
            refine m_bipush C (dOf DX4_takeRoom 52 rfl) (v := 6) kb_6 ?_
            refine m_cP (st := []) h (fun o' ho H locs ls hl hr hs => ⟨_, m_runSN C (dOf DX4_takeRoom 53 rfl) kn_X4_102 ks_X8_at (by decide) ⟨rfl, rfl⟩ (c_X8_at _ G _ _ _ o' ho) rfl rfl (Nat.le_of_ble_eq_true rfl) ⟨Nat.le_refl _, Nat.le_refl _⟩ hl hr hs⟩) (fun v8 h => ?_)
            exact m_iret C rfl (dOf DX4_takeRoom 54 rfl) h
          refine m_ifeq C (dOf DX4_takeRoom 39 rfl) (tgt := 76) rfl h (fun h => ?_) (fun h => ?_)
          · exact m_sub [0, 1, 2] rfl (hj5 _ h)
          · refine m_aload_n C (dOf DX4_takeRoom 40 rfl) rfl 0 rfl ?_
            refine m_dup C (dOf DX4_takeRoom 41 rfl) rfl ?_
            refine m_gI C (dOf DX4_takeRoom 42 rfl) kf_X4_78 fg_4_13 h (fun v9 h => ?_)
            refine m_iconst C (dOf DX4_takeRoom 43 rfl) (v := 1) ki_1 ?_
            refine m_iadd C (dOf DX4_takeRoom 44 rfl) h (fun v10 h => ?_)
            refine m_pI C (dOf DX4_takeRoom 45 rfl) kf_X4_78 fp_4_13 h (fun S11 h => ?_)
            exact m_sub [0, 1, 2] rfl (hj5 _ h)
        refine m_icmpne C (dOf DX4_takeRoom 34 rfl) (tgt := 62) rfl h (fun h => ?_) (fun h => ?_)
        · exact m_sub [1, 2, 3, 0] rfl (hj4 _ h)
        · refine m_aload_n C (dOf DX4_takeRoom 35 rfl) rfl 1 rfl ?_
          obtain ⟨hc, h⟩ := ck_spec h
          refine m_cI (st := []) h (fun o' ho H locs ls hl hr hs => ⟨_, m_runV C (dOf DX4_takeRoom 36 rfl) km_X4_140 ky_X4_overwriteHead (by decide) ⟨rfl, rfl⟩ (c_X4_overwriteHead _ G _ _ o' ho) hc.1 hc.2 (by decide) rfl rfl rfl (Nat.le_of_ble_eq_true rfl) ⟨Nat.le_refl _, Nat.le_refl _⟩ hl hr hs⟩) (fun v13 S12 h => ?_)
          refine m_pop C (dOf DX4_takeRoom 37 rfl) rfl ?_
          exact m_sub [1, 2, 3, 0] rfl (hj4 _ h)
      · refine m_aload_n C (dOf DX4_takeRoom 20 rfl) rfl 1 rfl ?_
        refine m_bipush C (dOf DX4_takeRoom 21 rfl) (v := 7) kb_7 ?_
        refine m_iconst C (dOf DX4_takeRoom 22 rfl) (v := 1) ki_1 ?_
        obtain ⟨hc, h⟩ := ck_spec h
        refine m_cV (st := []) h (fun o' ho H locs ls hl hr hs => ⟨_, m_runV C (dOf DX4_takeRoom 23 rfl) km_X4_136 ky_X4_raise (by decide) ⟨rfl, rfl⟩ (c_X4_raise _ G _ _ _ _ o' ho) hc.1 hc.2 (by decide) rfl rfl rfl (Nat.le_of_ble_eq_true rfl) ⟨Nat.le_refl _, Nat.le_refl _⟩ hl hr hs⟩) (fun S14 h => ?_)
        refine m_aload_n C (dOf DX4_takeRoom 24 rfl) rfl 1 rfl ?_
        refine m_bipush C (dOf DX4_takeRoom 25 rfl) (v := 30) kb_30 ?_
        refine m_iload_n C (dOf DX4_takeRoom 26 rfl) rfl 2 rfl ?_
        refine m_iadd C (dOf DX4_takeRoom 27 rfl) h (fun v15 h => ?_)
        refine m_iconst C (dOf DX4_takeRoom 28 rfl) (v := 1) ki_1 ?_
        obtain ⟨hc, h⟩ := ck_spec h
        refine m_cV (st := []) h (fun o' ho H locs ls hl hr hs => ⟨_, m_runV C (dOf DX4_takeRoom 29 rfl) km_X4_136 ky_X4_raise (by decide) ⟨rfl, rfl⟩ (c_X4_raise _ G _ _ _ _ o' ho) hc.1 hc.2 (by decide) rfl rfl rfl (Nat.le_of_ble_eq_true rfl) ⟨Nat.le_refl _, Nat.le_refl _⟩ hl hr hs⟩) (fun S16 h => ?_)
        refine m_bipush C (dOf DX4_takeRoom 30 rfl) (v := (-3)) kb_m3 ?_
        exact m_iret C rfl (dOf DX4_takeRoom 31 rfl) h
    · exact m_sub [0] rfl (hj2 _ h)
