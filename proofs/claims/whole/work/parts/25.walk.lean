/-- TraceRing.page(II)I -/
def f_X8_page (S : St) (b0 : Nat) (p1 : Int32) (p2 : Int32) : Option Int32 :=
  gR_ S b0 8 0 fun a1 =>
  ck_ S a1 4 <| cP_ (f_X4_pageOf S a1 p1) fun a2 =>
  io_ a2 (
    rt_ (-2)
  ) fun a3 =>
  if p2 = 5 then
    jn_ (fun (x5 : Int32) =>
      rt_ x5
    ) fun j5 =>
    if p1 = (-1) then
      j5 ((-1))
    else
      gR_ S b0 8 0 fun a6 =>
      ck_ S a6 4 <| cP_ (f_X4_placeOf S a6 p1) fun v7 =>
      j5 (v7)
  else
    ck_ S a3 3 <| cP_ (f_X3_figure S a3 p2) fun v4 =>
    rt_ v4
set_option maxRecDepth 100000 in
set_option maxHeartbeats 4000000 in
theorem c_X8_page (l : Launch) (G : Gx) (S : St) (b0 : Nat) (p1 : Int32) (p2 : Int32) (o : Int32) (h : f_X8_page S b0 p1 p2 = some o) : Met l yX8_page (Cond.code yX8_page cX8_page 4 (some (.int)) :: wAll) ({ frames := 3, cells := 0, slots := 0, locals := 66 } : Room) (va_Pc [.ref (G.1 + b0), .int p1, .int p2] (wPre G S)) (qI G (o, S)) 0 0 (wA G) := by
  refine m_start (by decide +kernel) (Nat.le_of_ble_eq_true rfl) (fun X C => ?_)
  unfold f_X8_page at h
  show WM X G 4 0 0 (wQ X G (qI G (o, S)) 0 0) 0 [(0, .ref (G.1 + b0)), (1, .int p1), (2, .int p2)] [] S
  refine m_aload_n C (dOf DX8_page 0 rfl) rfl 0 rfl ?_
  refine m_gR C (dOf DX8_page 1 rfl) kf_X8_10 fg_8_0 h (fun a1 h => ?_)
  refine m_iload_n C (dOf DX8_page 2 rfl) rfl 1 rfl ?_
  obtain ⟨hc, h⟩ := ck_spec h
  refine m_cO (st := []) h (fun o' ho H locs ls hl hr hs => ⟨_, m_runV C (dOf DX8_page 3 rfl) km_X8_125 ky_X4_pageOf (by decide) ⟨rfl, rfl⟩ (c_X4_pageOf _ G _ _ _ o' ho) hc.1 hc.2 (by decide) rfl rfl rfl (Nat.le_of_ble_eq_true rfl) ⟨Nat.le_refl _, Nat.le_refl _⟩ hl hr hs⟩) (fun a2 h => ?_)
  refine m_astore_nO C (dOf DX8_page 4 rfl) rfl (by decide) (lv' := [(0, .ref (G.1 + b0)), (1, .int p1), (2, .int p2)]) (fun _ e => by rw [e]; rfl) ?_
  refine m_aload_nO C (dOf DX8_page 5 rfl) rfl 0 rfl ?_
  refine m_ifnonnullO C (dOf DX8_page 6 rfl) (tgt := 16) rfl h (fun e h => ?_) (fun a3 e hh => ?_)
  · refine m_bipush C (dOf DX8_page 7 rfl) (v := (-2)) kb_m2 ?_
    exact m_iretP C rfl (dOf DX8_page 8 rfl) h
  · subst e
    have h := hh
    refine m_iload_n C (dOf DX8_page 9 rfl) rfl 3 rfl ?_
    refine m_iconst C (dOf DX8_page 10 rfl) (v := 5) ki_5 ?_
    refine m_icmpne C (dOf DX8_page 11 rfl) (tgt := 39) rfl h (fun h => ?_) (fun h => ?_)
    · refine m_aload_n C (dOf DX8_page 22 rfl) rfl 0 rfl ?_
      refine m_iload_n C (dOf DX8_page 23 rfl) rfl 3 rfl ?_
      obtain ⟨hc, h⟩ := ck_spec h
      refine m_cP (st := []) h (fun o' ho H locs ls hl hr hs => ⟨_, m_runV C (dOf DX8_page 24 rfl) km_X8_132 ky_X3_figure (by decide) ⟨rfl, rfl⟩ (c_X3_figure _ G _ _ _ o' ho) hc.1 hc.2 (by decide) rfl rfl rfl (Nat.le_of_ble_eq_true rfl) ⟨Nat.le_refl _, Nat.le_refl _⟩ hl hr hs⟩) (fun v4 h => ?_)
      exact m_iretP C rfl (dOf DX8_page 25 rfl) h
    · refine m_iload_n C (dOf DX8_page 12 rfl) rfl 2 rfl ?_
      refine m_iconst C (dOf DX8_page 13 rfl) (v := (-1)) ki_m1 ?_
      refine m_jn (J := fun (x5 : Int32) => WM X G 4 0 0 (wQ X G (qI G (o, S)) 0 0) 38 [] [.int x5] S) h (fun x5 h => ?_) (fun j5 hj5 h => ?_)
      · exact m_iretP C rfl (dOf DX8_page 21 rfl) h
      refine m_icmpne C (dOf DX8_page 14 rfl) (tgt := 30) rfl h (fun h => ?_) (fun h => ?_)
      · refine m_aload_n C (dOf DX8_page 17 rfl) rfl 1 rfl ?_
        refine m_gR C (dOf DX8_page 18 rfl) kf_X8_10 fg_8_0 h (fun a6 h => ?_)
        refine m_iload_n C (dOf DX8_page 19 rfl) rfl 2 rfl ?_
        obtain ⟨hc, h⟩ := ck_spec h
        refine m_cP (st := []) h (fun o' ho H locs ls hl hr hs => ⟨_, m_runV C (dOf DX8_page 20 rfl) km_X8_129 ky_X4_placeOf (by decide) ⟨rfl, rfl⟩ (c_X4_placeOf _ G _ _ _ o' ho) hc.1 hc.2 (by decide) rfl rfl rfl (Nat.le_of_ble_eq_true rfl) ⟨Nat.le_refl _, Nat.le_refl _⟩ hl hr hs⟩) (fun v7 h => ?_)
        exact m_sub [] rfl (hj5 _ h)
      · refine m_iconst C (dOf DX8_page 15 rfl) (v := (-1)) ki_m1 ?_
        refine m_goto C (dOf DX8_page 16 rfl) (tgt := 38) rfl ?_
        exact m_sub [] rfl (hj5 _ h)
/-- TraceRing.cell(II)I -/
def f_X8_cell (S : St) (b0 : Nat) (p1 : Int32) (p2 : Int32) : Option Int32 :=
  gR_ S b0 8 0 fun a1 =>
  ck_ S a1 4 <| cP_ (f_X4_pageOf S a1 p1) fun a2 =>
  jn_ (fun (x3 : Unit) =>
    rt_ (-1)
  ) fun j3 =>
  io_ a2 (
    j3 ()
  ) fun a4 =>
  if p2 < 0 then
    j3 ()
  else
    gR_ S b0 8 0 fun a5 =>
    gI_ S a5 4 9 fun v6 =>
    if p2 < v6 then
      gR_ S a4 3 0 fun a7 =>
      cP_ (f_X8_at S a7 p2) fun v8 =>
      rt_ v8
    else
      j3 ()
set_option maxRecDepth 100000 in
set_option maxHeartbeats 4000000 in
theorem c_X8_cell (l : Launch) (G : Gx) (S : St) (b0 : Nat) (p1 : Int32) (p2 : Int32) (o : Int32) (h : f_X8_cell S b0 p1 p2 = some o) : Met l yX8_cell (Cond.code yX8_cell cX8_cell 4 (some (.int)) :: wAll) ({ frames := 2, cells := 0, slots := 0, locals := 43 } : Room) (va_Pc [.ref (G.1 + b0), .int p1, .int p2] (wPre G S)) (qI G (o, S)) 0 0 (wA G) := by
  refine m_start (by decide +kernel) (Nat.le_of_ble_eq_true rfl) (fun X C => ?_)
  unfold f_X8_cell at h
  show WM X G 4 0 0 (wQ X G (qI G (o, S)) 0 0) 0 [(0, .ref (G.1 + b0)), (1, .int p1), (2, .int p2)] [] S
  refine m_aload_n C (dOf DX8_cell 0 rfl) rfl 0 rfl ?_
  refine m_gR C (dOf DX8_cell 1 rfl) kf_X8_10 fg_8_0 h (fun a1 h => ?_)
  refine m_iload_n C (dOf DX8_cell 2 rfl) rfl 1 rfl ?_
  obtain ⟨hc, h⟩ := ck_spec h
  refine m_cO (st := []) h (fun o' ho H locs ls hl hr hs => ⟨_, m_runV C (dOf DX8_cell 3 rfl) km_X8_125 ky_X4_pageOf (by decide) ⟨rfl, rfl⟩ (c_X4_pageOf _ G _ _ _ o' ho) hc.1 hc.2 (by decide) rfl rfl rfl (Nat.le_of_ble_eq_true rfl) ⟨Nat.le_refl _, Nat.le_refl _⟩ hl hr hs⟩) (fun a2 h => ?_)
  refine m_astore_nO C (dOf DX8_cell 4 rfl) rfl (by decide) (lv' := [(0, .ref (G.1 + b0)), (1, .int p1), (2, .int p2)]) (fun _ e => by rw [e]; rfl) ?_
  refine m_aload_nO C (dOf DX8_cell 5 rfl) rfl 0 rfl ?_
  refine m_jn (J := fun (x3 : Unit) => WM X G 4 0 0 (wQ X G (qI G (o, S)) 0 0) 28 [] [] S) h (fun x3 h => ?_) (fun j3 hj3 h => ?_)
  · refine m_iconst C (dOf DX8_cell 14 rfl) (v := (-1)) ki_m1 ?_
    exact m_iretP C rfl (dOf DX8_cell 15 rfl) h
  refine m_ifnullO C (dOf DX8_cell 6 rfl) (tgt := 28) rfl h (fun e h => ?_) (fun a4 e hh => ?_)
  · exact m_sub [] rfl (hj3 _ h)
  · subst e
    have h := hh
    refine m_iload_n C (dOf DX8_cell 7 rfl) rfl 3 rfl ?_
    refine m_iflt C (dOf DX8_cell 8 rfl) (tgt := 28) rfl h (fun h => ?_) (fun h => ?_)
    · exact m_sub [] rfl (hj3 _ h)
    · refine m_iload_n C (dOf DX8_cell 9 rfl) rfl 3 rfl ?_
      refine m_aload_n C (dOf DX8_cell 10 rfl) rfl 1 rfl ?_
      refine m_gR C (dOf DX8_cell 11 rfl) kf_X8_10 fg_8_0 h (fun a5 h => ?_)
      refine m_gI C (dOf DX8_cell 12 rfl) kf_X8_66 fg_4_9 h (fun v6 h => ?_)
      refine m_icmplt C (dOf DX8_cell 13 rfl) (tgt := 30) rfl h (fun h => ?_) (fun h => ?_)
      · refine m_aload_n C (dOf DX8_cell 16 rfl) rfl 0 rfl ?_
        refine m_gR C (dOf DX8_cell 17 rfl) kf_X8_135 fg_3_0 h (fun a7 h => ?_)
        refine m_iload_n C (dOf DX8_cell 18 rfl) rfl 3 rfl ?_
        refine m_cP (st := []) h (fun o' ho H locs ls hl hr hs => ⟨_, m_runS C (dOf DX8_cell 19 rfl) km_X8_139 ks_X8_at rfl (by decide) ⟨rfl, rfl⟩ (c_X8_at _ G _ _ _ o' ho) rfl rfl (Nat.le_of_ble_eq_true rfl) ⟨Nat.le_refl _, Nat.le_refl _⟩ hl hr hs⟩) (fun v8 h => ?_)
        exact m_iretP C rfl (dOf DX8_cell 20 rfl) h
      · exact m_sub [] rfl (hj3 _ h)
/-- TraceRing.open(II)I -/
def f_X8_open (S : St) (b0 : Nat) (p1 : Int32) (p2 : Int32) : Option Int32 :=
  gR_ S b0 8 0 fun a1 =>
  ck_ S a1 4 <| cP_ (f_X4_openFigure S a1 p1 p2) fun v2 =>
  rt_ v2
set_option maxRecDepth 100000 in
set_option maxHeartbeats 4000000 in
theorem c_X8_open (l : Launch) (G : Gx) (S : St) (b0 : Nat) (p1 : Int32) (p2 : Int32) (o : Int32) (h : f_X8_open S b0 p1 p2 = some o) : Met l yX8_open (Cond.code yX8_open cX8_open 3 (some (.int)) :: wAll) ({ frames := 3, cells := 0, slots := 0, locals := 67 } : Room) (va_Pc [.ref (G.1 + b0), .int p1, .int p2] (wPre G S)) (qI G (o, S)) 0 0 (wA G) := by
  refine m_start (by decide +kernel) (Nat.le_of_ble_eq_true rfl) (fun X C => ?_)
  unfold f_X8_open at h
  show WM X G 3 0 0 (wQ X G (qI G (o, S)) 0 0) 0 [(0, .ref (G.1 + b0)), (1, .int p1), (2, .int p2)] [] S
  refine m_aload_n C (dOf DX8_open 0 rfl) rfl 0 rfl ?_
  refine m_gR C (dOf DX8_open 1 rfl) kf_X8_10 fg_8_0 h (fun a1 h => ?_)
  refine m_iload_n C (dOf DX8_open 2 rfl) rfl 1 rfl ?_
  refine m_iload_n C (dOf DX8_open 3 rfl) rfl 2 rfl ?_
  obtain ⟨hc, h⟩ := ck_spec h
  refine m_cP (st := []) h (fun o' ho H locs ls hl hr hs => ⟨_, m_runV C (dOf DX8_open 4 rfl) km_X8_143 ky_X4_openFigure (by decide) ⟨rfl, rfl⟩ (c_X4_openFigure _ G _ _ _ _ o' ho) hc.1 hc.2 (by decide) rfl rfl rfl (Nat.le_of_ble_eq_true rfl) ⟨Nat.le_refl _, Nat.le_refl _⟩ hl hr hs⟩) (fun v2 h => ?_)
  exact m_iretP C rfl (dOf DX8_open 5 rfl) h
/-- TraceRing.record(II)I -/
def f_X8_record (S : St) (b0 : Nat) (p1 : Int32) (p2 : Int32) : Option Int32 :=
  gR_ S b0 8 0 fun a1 =>
  ck_ S a1 4 <| cP_ (f_X4_readyFigure S a1 p1 p2) fun v2 =>
  rt_ v2
set_option maxRecDepth 100000 in
set_option maxHeartbeats 4000000 in
theorem c_X8_record (l : Launch) (G : Gx) (S : St) (b0 : Nat) (p1 : Int32) (p2 : Int32) (o : Int32) (h : f_X8_record S b0 p1 p2 = some o) : Met l yX8_record (Cond.code yX8_record cX8_record 3 (some (.int)) :: wAll) ({ frames := 4, cells := 0, slots := 0, locals := 92 } : Room) (va_Pc [.ref (G.1 + b0), .int p1, .int p2] (wPre G S)) (qI G (o, S)) 0 0 (wA G) := by
  refine m_start (by decide +kernel) (Nat.le_of_ble_eq_true rfl) (fun X C => ?_)
  unfold f_X8_record at h
  show WM X G 3 0 0 (wQ X G (qI G (o, S)) 0 0) 0 [(0, .ref (G.1 + b0)), (1, .int p1), (2, .int p2)] [] S
  refine m_aload_n C (dOf DX8_record 0 rfl) rfl 0 rfl ?_
  refine m_gR C (dOf DX8_record 1 rfl) kf_X8_10 fg_8_0 h (fun a1 h => ?_)
  refine m_iload_n C (dOf DX8_record 2 rfl) rfl 1 rfl ?_
  refine m_iload_n C (dOf DX8_record 3 rfl) rfl 2 rfl ?_
  obtain ⟨hc, h⟩ := ck_spec h
  refine m_cP (st := []) h (fun o' ho H locs ls hl hr hs => ⟨_, m_runV C (dOf DX8_record 4 rfl) km_X8_146 ky_X4_readyFigure (by decide) ⟨rfl, rfl⟩ (c_X4_readyFigure _ G _ _ _ _ o' ho) hc.1 hc.2 (by decide) rfl rfl rfl (Nat.le_of_ble_eq_true rfl) ⟨Nat.le_refl _, Nat.le_refl _⟩ hl hr hs⟩) (fun v2 h => ?_)
  exact m_iretP C rfl (dOf DX8_record 5 rfl) h
/-- TraceRing.latest(I)I -/
def f_X8_latest (S : St) (b0 : Nat) (p1 : Int32) : Option Int32 :=
  jn_ (fun (x1 : Int32) =>
    rt_ x1
  ) fun j1 =>
  if p1 = 5 then
    gR_ S b0 8 0 fun a5 =>
    gR_ S a5 4 6 fun a6 =>
    gR_ S b0 8 0 fun a7 =>
    gI_ S a7 4 7 fun v8 =>
    ck_ S a6 3 <| cP_ (f_X3_recordsFrom S a6 v8) fun v9 =>
    j1 (v9)
  else
    gR_ S b0 8 0 fun a2 =>
    gR_ S a2 4 5 fun a3 =>
    ck_ S a3 1 <| cP_ (f_X1_figure S a3 p1) fun v4 =>
    j1 (v4)
set_option maxRecDepth 100000 in
set_option maxHeartbeats 4000000 in
theorem c_X8_latest (l : Launch) (G : Gx) (S : St) (b0 : Nat) (p1 : Int32) (o : Int32) (h : f_X8_latest S b0 p1 = some o) : Met l yX8_latest (Cond.code yX8_latest cX8_latest 2 (some (.int)) :: wAll) ({ frames := 2, cells := 0, slots := 0, locals := 44 } : Room) (va_Pc [.ref (G.1 + b0), .int p1] (wPre G S)) (qI G (o, S)) 0 0 (wA G) := by
  refine m_start (by decide +kernel) (Nat.le_of_ble_eq_true rfl) (fun X C => ?_)
  unfold f_X8_latest at h
  show WM X G 2 0 0 (wQ X G (qI G (o, S)) 0 0) 0 [(0, .ref (G.1 + b0)), (1, .int p1)] [] S
  refine m_iload_n C (dOf DX8_latest 0 rfl) rfl 1 rfl ?_
  refine m_iconst C (dOf DX8_latest 1 rfl) (v := 5) ki_5 ?_
  refine m_jn (J := fun (x1 : Int32) => WM X G 2 0 0 (wQ X G (qI G (o, S)) 0 0) 36 [] [.int x1] S) h (fun x1 h => ?_) (fun j1 hj1 h => ?_)
  · exact m_iretP C rfl (dOf DX8_latest 16 rfl) h
  refine m_icmpne C (dOf DX8_latest 2 rfl) (tgt := 25) rfl h (fun h => ?_) (fun h => ?_)
  · refine m_aload_n C (dOf DX8_latest 11 rfl) rfl 0 rfl ?_
    refine m_gR C (dOf DX8_latest 12 rfl) kf_X8_10 fg_8_0 h (fun a2 h => ?_)
    refine m_gR C (dOf DX8_latest 13 rfl) kf_X8_159 fg_4_5 h (fun a3 h => ?_)
    refine m_iload_n C (dOf DX8_latest 14 rfl) rfl 1 rfl ?_
    obtain ⟨hc, h⟩ := ck_spec h
    refine m_cP (st := []) h (fun o' ho H locs ls hl hr hs => ⟨_, m_runV C (dOf DX8_latest 15 rfl) km_X8_163 ky_X1_figure (by decide) ⟨rfl, rfl⟩ (c_X1_figure _ G _ _ _ o' ho) hc.1 hc.2 (by decide) rfl rfl rfl (Nat.le_of_ble_eq_true rfl) ⟨Nat.le_refl _, Nat.le_refl _⟩ hl hr hs⟩) (fun v4 h => ?_)
    exact m_sub [] rfl (hj1 _ h)
  · refine m_aload_n C (dOf DX8_latest 3 rfl) rfl 0 rfl ?_
    refine m_gR C (dOf DX8_latest 4 rfl) kf_X8_10 fg_8_0 h (fun a5 h => ?_)
    refine m_gR C (dOf DX8_latest 5 rfl) kf_X8_149 fg_4_6 h (fun a6 h => ?_)
    refine m_aload_n C (dOf DX8_latest 6 rfl) rfl 0 rfl ?_
    refine m_gR C (dOf DX8_latest 7 rfl) kf_X8_10 fg_8_0 h (fun a7 h => ?_)
    refine m_gI C (dOf DX8_latest 8 rfl) kf_X8_153 fg_4_7 h (fun v8 h => ?_)
    obtain ⟨hc, h⟩ := ck_spec h
    refine m_cP (st := []) h (fun o' ho H locs ls hl hr hs => ⟨_, m_runV C (dOf DX8_latest 9 rfl) km_X8_156 ky_X3_recordsFrom (by decide) ⟨rfl, rfl⟩ (c_X3_recordsFrom _ G _ _ _ o' ho) hc.1 hc.2 (by decide) rfl rfl rfl (Nat.le_of_ble_eq_true rfl) ⟨Nat.le_refl _, Nat.le_refl _⟩ hl hr hs⟩) (fun v9 h => ?_)
    refine m_goto C (dOf DX8_latest 10 rfl) (tgt := 36) rfl ?_
    exact m_sub [] rfl (hj1 _ h)
/-- TraceRing.parsed(III)I -/
def f_X8_parsed (S : St) (b0 : Nat) (p1 : Int32) (p2 : Int32) (p3 : Int32) : Option Int32 :=
  gR_ S b0 8 0 fun a1 =>
  ck_ S a1 4 <| cP_ (f_X4_pageOf S a1 p1) fun a2 =>
  io_ a2 (
    rt_ (-2)
  ) fun a3 =>
  if p2 = (-1) then
    jn_ (fun (x5 : Int32) =>
      rt_ x5
    ) fun j5 =>
    if p3 = 0 then
      ck_ S a3 3 <| cP_ (f_X3_howManyLie S a3) fun v6 =>
      j5 (v6)
    else
      j5 ((-2))
  else
    ck_ S a3 3 <| cP_ (f_X3_parse S a3 p2 p3) fun v4 =>
    rt_ v4
set_option maxRecDepth 100000 in
set_option maxHeartbeats 4000000 in
theorem c_X8_parsed (l : Launch) (G : Gx) (S : St) (b0 : Nat) (p1 : Int32) (p2 : Int32) (p3 : Int32) (o : Int32) (h : f_X8_parsed S b0 p1 p2 p3 = some o) : Met l yX8_parsed (Cond.code yX8_parsed cX8_parsed 5 (some (.int)) :: wAll) ({ frames := 5, cells := 0, slots := 0, locals := 110 } : Room) (va_Pc [.ref (G.1 + b0), .int p1, .int p2, .int p3] (wPre G S)) (qI G (o, S)) 0 0 (wA G) := by
  refine m_start (by decide +kernel) (Nat.le_of_ble_eq_true rfl) (fun X C => ?_)
  unfold f_X8_parsed at h
  show WM X G 5 0 0 (wQ X G (qI G (o, S)) 0 0) 0 [(0, .ref (G.1 + b0)), (1, .int p1), (2, .int p2), (3, .int p3)] [] S
  refine m_aload_n C (dOf DX8_parsed 0 rfl) rfl 0 rfl ?_
  refine m_gR C (dOf DX8_parsed 1 rfl) kf_X8_10 fg_8_0 h (fun a1 h => ?_)
  refine m_iload_n C (dOf DX8_parsed 2 rfl) rfl 1 rfl ?_
  obtain ⟨hc, h⟩ := ck_spec h
  refine m_cO (st := []) h (fun o' ho H locs ls hl hr hs => ⟨_, m_runV C (dOf DX8_parsed 3 rfl) km_X8_125 ky_X4_pageOf (by decide) ⟨rfl, rfl⟩ (c_X4_pageOf _ G _ _ _ o' ho) hc.1 hc.2 (by decide) rfl rfl rfl (Nat.le_of_ble_eq_true rfl) ⟨Nat.le_refl _, Nat.le_refl _⟩ hl hr hs⟩) (fun a2 h => ?_)
  refine m_astoreO C (dOf DX8_parsed 4 rfl) (by decide) (lv' := [(0, .ref (G.1 + b0)), (1, .int p1), (2, .int p2), (3, .int p3)]) (fun _ e => by rw [e]; rfl) ?_
  refine m_aloadO C (dOf DX8_parsed 5 rfl) 0 rfl ?_
  refine m_ifnonnullO C (dOf DX8_parsed 6 rfl) (tgt := 18) rfl h (fun e h => ?_) (fun a3 e hh => ?_)
  · refine m_bipush C (dOf DX8_parsed 7 rfl) (v := (-2)) kb_m2 ?_
    exact m_iretP C rfl (dOf DX8_parsed 8 rfl) h
  · subst e
    have h := hh
    refine m_iload_n C (dOf DX8_parsed 9 rfl) rfl 3 rfl ?_
    refine m_iconst C (dOf DX8_parsed 10 rfl) (v := (-1)) ki_m1 ?_
    refine m_icmpne C (dOf DX8_parsed 11 rfl) (tgt := 38) rfl h (fun h => ?_) (fun h => ?_)
    · refine m_aload C (dOf DX8_parsed 19 rfl) 0 rfl ?_
      refine m_iload_n C (dOf DX8_parsed 20 rfl) rfl 3 rfl ?_
      refine m_iload_n C (dOf DX8_parsed 21 rfl) rfl 4 rfl ?_
      obtain ⟨hc, h⟩ := ck_spec h
      refine m_cP (st := []) h (fun o' ho H locs ls hl hr hs => ⟨_, m_runV C (dOf DX8_parsed 22 rfl) km_X8_169 ky_X3_parse (by decide) ⟨rfl, rfl⟩ (c_X3_parse _ G _ _ _ _ o' ho) hc.1 hc.2 (by decide) rfl rfl rfl (Nat.le_of_ble_eq_true rfl) ⟨Nat.le_refl _, Nat.le_refl _⟩ hl hr hs⟩) (fun v4 h => ?_)
      exact m_iretP C rfl (dOf DX8_parsed 23 rfl) h
    · refine m_iload_n C (dOf DX8_parsed 12 rfl) rfl 4 rfl ?_
      refine m_jn (J := fun (x5 : Int32) => WM X G 5 0 0 (wQ X G (qI G (o, S)) 0 0) 37 [] [.int x5] S) h (fun x5 h => ?_) (fun j5 hj5 h => ?_)
      · exact m_iretP C rfl (dOf DX8_parsed 18 rfl) h
      refine m_ifne C (dOf DX8_parsed 13 rfl) (tgt := 35) rfl h (fun h => ?_) (fun h => ?_)
      · refine m_bipush C (dOf DX8_parsed 17 rfl) (v := (-2)) kb_m2 ?_
        exact m_sub [] rfl (hj5 _ h)
      · refine m_aload C (dOf DX8_parsed 14 rfl) 0 rfl ?_
        obtain ⟨hc, h⟩ := ck_spec h
        refine m_cP (st := []) h (fun o' ho H locs ls hl hr hs => ⟨_, m_runV C (dOf DX8_parsed 15 rfl) km_X8_166 ky_X3_howManyLie (by decide) ⟨rfl, rfl⟩ (c_X3_howManyLie _ G _ _ o' ho) hc.1 hc.2 (by decide) rfl rfl rfl (Nat.le_of_ble_eq_true rfl) ⟨Nat.le_refl _, Nat.le_refl _⟩ hl hr hs⟩) (fun v6 h => ?_)
        refine m_goto C (dOf DX8_parsed 16 rfl) (tgt := 37) rfl ?_
        exact m_sub [] rfl (hj5 _ h)
/-- TraceRing.between(IIZ)I -/
def f_X8_between (S : St) (b0 : Nat) (p1 : Int32) (p2 : Int32) (p3 : Int32) : Option Int32 :=
  jn_ (fun (x1 : Int32) =>
    rt_ x1
  ) fun j1 =>
  if p3 = 0 then
    gR_ S b0 8 0 fun a2 =>
    ck_ S a2 4 <| cP_ (f_X4_howManyWithin S a2 p1 p2) fun v3 =>
    j1 (v3)
  else
    gR_ S b0 8 0 fun a4 =>
    ck_ S a4 4 <| cP_ (f_X4_firstWithin S a4 p1 p2) fun v5 =>
    j1 (v5)
set_option maxRecDepth 100000 in
set_option maxHeartbeats 4000000 in
theorem c_X8_between (l : Launch) (G : Gx) (S : St) (b0 : Nat) (p1 : Int32) (p2 : Int32) (p3 : Int32) (o : Int32) (h : f_X8_between S b0 p1 p2 p3 = some o) : Met l yX8_between (Cond.code yX8_between cX8_between 4 (some (.int)) :: wAll) ({ frames := 3, cells := 0, slots := 0, locals := 72 } : Room) (va_Pc [.ref (G.1 + b0), .int p1, .int p2, .int p3] (wPre G S)) (qI G (o, S)) 0 0 (wA G) := by
  refine m_start (by decide +kernel) (Nat.le_of_ble_eq_true rfl) (fun X C => ?_)
  unfold f_X8_between at h
  show WM X G 4 0 0 (wQ X G (qI G (o, S)) 0 0) 0 [(0, .ref (G.1 + b0)), (1, .int p1), (2, .int p2), (3, .int p3)] [] S
  refine m_iload_n C (dOf DX8_between 0 rfl) rfl 3 rfl ?_
  refine m_jn (J := fun (x1 : Int32) => WM X G 4 0 0 (wQ X G (qI G (o, S)) 0 0) 25 [] [.int x1] S) h (fun x1 h => ?_) (fun j1 hj1 h => ?_)
  · exact m_iretP C rfl (dOf DX8_between 13 rfl) h
  refine m_ifeq C (dOf DX8_between 1 rfl) (tgt := 16) rfl h (fun h => ?_) (fun h => ?_)
  · refine m_aload_n C (dOf DX8_between 8 rfl) rfl 0 rfl ?_
    refine m_gR C (dOf DX8_between 9 rfl) kf_X8_10 fg_8_0 h (fun a2 h => ?_)
    refine m_iload_n C (dOf DX8_between 10 rfl) rfl 1 rfl ?_
    refine m_iload_n C (dOf DX8_between 11 rfl) rfl 2 rfl ?_
    obtain ⟨hc, h⟩ := ck_spec h
    refine m_cP (st := []) h (fun o' ho H locs ls hl hr hs => ⟨_, m_runV C (dOf DX8_between 12 rfl) km_X8_175 ky_X4_howManyWithin (by decide) ⟨rfl, rfl⟩ (c_X4_howManyWithin _ G _ _ _ _ o' ho) hc.1 hc.2 (by decide) rfl rfl rfl (Nat.le_of_ble_eq_true rfl) ⟨Nat.le_refl _, Nat.le_refl _⟩ hl hr hs⟩) (fun v3 h => ?_)
    exact m_sub [] rfl (hj1 _ h)
  · refine m_aload_n C (dOf DX8_between 2 rfl) rfl 0 rfl ?_
    refine m_gR C (dOf DX8_between 3 rfl) kf_X8_10 fg_8_0 h (fun a4 h => ?_)
    refine m_iload_n C (dOf DX8_between 4 rfl) rfl 1 rfl ?_
    refine m_iload_n C (dOf DX8_between 5 rfl) rfl 2 rfl ?_
    obtain ⟨hc, h⟩ := ck_spec h
    refine m_cP (st := []) h (fun o' ho H locs ls hl hr hs => ⟨_, m_runV C (dOf DX8_between 6 rfl) km_X8_172 ky_X4_firstWithin (by decide) ⟨rfl, rfl⟩ (c_X4_firstWithin _ G _ _ _ _ o' ho) hc.1 hc.2 (by decide) rfl rfl rfl (Nat.le_of_ble_eq_true rfl) ⟨Nat.le_refl _, Nat.le_refl _⟩ hl hr hs⟩) (fun v5 h => ?_)
    refine m_goto C (dOf DX8_between 7 rfl) (tgt := 25) rfl ?_
    exact m_sub [] rfl (hj1 _ h)
/-- TraceRing.sum(III)I -/
def f_X8_sum (S : St) (b0 : Nat) (p1 : Int32) (p2 : Int32) (p3 : Int32) : Option Int32 :=
  gR_ S b0 8 0 fun a1 =>
  ck_ S a1 4 <| cP_ (f_X4_pageOf S a1 p1) fun a2 =>
  jn_ (fun (x3 : Unit) =>
    rt_ (-1)
  ) fun j3 =>
  io_ a2 (
    j3 ()
  ) fun a4 =>
  if p3 < 0 then
    j3 ()
  else
    if 0 ≤ p2 then
      gR_ S b0 8 0 fun a5 =>
      gI_ S a5 4 9 fun v6 =>
      jn_ (fun (x7 : Unit) =>
        rt_ (-1)
      ) fun j7 =>
      if v6 < p2 then
        j7 ()
      else
        gR_ S b0 8 0 fun a8 =>
        gI_ S a8 4 9 fun v9 =>
        lt_ (v9 - p2 : Int32) fun v10 =>
        if p3 ≤ v10 then
          ck_ S a4 3 <| cP_ (f_X3_sumOf S a4 p2 p3) fun v11 =>
          rt_ v11
        else
          j7 ()
    else
      j3 ()
set_option maxRecDepth 100000 in
set_option maxHeartbeats 4000000 in
theorem c_X8_sum (l : Launch) (G : Gx) (S : St) (b0 : Nat) (p1 : Int32) (p2 : Int32) (p3 : Int32) (o : Int32) (h : f_X8_sum S b0 p1 p2 p3 = some o) : Met l yX8_sum (Cond.code yX8_sum cX8_sum 5 (some (.int)) :: wAll) ({ frames := 2, cells := 0, slots := 0, locals := 45 } : Room) (va_Pc [.ref (G.1 + b0), .int p1, .int p2, .int p3] (wPre G S)) (qI G (o, S)) 0 0 (wA G) := by
  refine m_start (by decide +kernel) (Nat.le_of_ble_eq_true rfl) (fun X C => ?_)
  unfold f_X8_sum at h
  show WM X G 5 0 0 (wQ X G (qI G (o, S)) 0 0) 0 [(0, .ref (G.1 + b0)), (1, .int p1), (2, .int p2), (3, .int p3)] [] S
  refine m_aload_n C (dOf DX8_sum 0 rfl) rfl 0 rfl ?_
  refine m_gR C (dOf DX8_sum 1 rfl) kf_X8_10 fg_8_0 h (fun a1 h => ?_)
  refine m_iload_n C (dOf DX8_sum 2 rfl) rfl 1 rfl ?_
  obtain ⟨hc, h⟩ := ck_spec h
  refine m_cO (st := []) h (fun o' ho H locs ls hl hr hs => ⟨_, m_runV C (dOf DX8_sum 3 rfl) km_X8_125 ky_X4_pageOf (by decide) ⟨rfl, rfl⟩ (c_X4_pageOf _ G _ _ _ o' ho) hc.1 hc.2 (by decide) rfl rfl rfl (Nat.le_of_ble_eq_true rfl) ⟨Nat.le_refl _, Nat.le_refl _⟩ hl hr hs⟩) (fun a2 h => ?_)
  refine m_astoreO C (dOf DX8_sum 4 rfl) (by decide) (lv' := [(0, .ref (G.1 + b0)), (1, .int p1), (2, .int p2), (3, .int p3)]) (fun _ e => by rw [e]; rfl) ?_
  refine m_aloadO C (dOf DX8_sum 5 rfl) 0 rfl ?_
  refine m_jn (J := fun (x3 : Unit) => WM X G 5 0 0 (wQ X G (qI G (o, S)) 0 0) 23 [] [] S) h (fun x3 h => ?_) (fun j3 hj3 h => ?_)
  · refine m_iconst C (dOf DX8_sum 11 rfl) (v := (-1)) ki_m1 ?_
    exact m_iretP C rfl (dOf DX8_sum 12 rfl) h
  refine m_ifnullO C (dOf DX8_sum 6 rfl) (tgt := 23) rfl h (fun e h => ?_) (fun a4 e hh => ?_)
  · exact m_sub [] rfl (hj3 _ h)
  · subst e
    have h := hh
    refine m_iload_n C (dOf DX8_sum 7 rfl) rfl 4 rfl ?_
    refine m_iflt C (dOf DX8_sum 8 rfl) (tgt := 23) rfl h (fun h => ?_) (fun h => ?_)
    · exact m_sub [] rfl (hj3 _ h)
    · refine m_iload_n C (dOf DX8_sum 9 rfl) rfl 3 rfl ?_
      refine m_ifge C (dOf DX8_sum 10 rfl) (tgt := 25) rfl h (fun h => ?_) (fun h => ?_)
      · refine m_iload_n C (dOf DX8_sum 13 rfl) rfl 3 rfl ?_
        refine m_aload_n C (dOf DX8_sum 14 rfl) rfl 1 rfl ?_
        refine m_gR C (dOf DX8_sum 15 rfl) kf_X8_10 fg_8_0 h (fun a5 h => ?_)
        refine m_gI C (dOf DX8_sum 16 rfl) kf_X8_66 fg_4_9 h (fun v6 h => ?_)
        refine m_jn (J := fun (x7 : Unit) => WM X G 5 0 0 (wQ X G (qI G (o, S)) 0 0) 49 [] [] S) h (fun x7 h => ?_) (fun j7 hj7 h => ?_)
        · refine m_iconst C (dOf DX8_sum 25 rfl) (v := (-1)) ki_m1 ?_
          exact m_iretP C rfl (dOf DX8_sum 26 rfl) h
        refine m_icmpgt C (dOf DX8_sum 17 rfl) (tgt := 49) rfl h (fun h => ?_) (fun h => ?_)
        · exact m_sub [] rfl (hj7 _ h)
        · refine m_iload_n C (dOf DX8_sum 18 rfl) rfl 4 rfl ?_
          refine m_aload_n C (dOf DX8_sum 19 rfl) rfl 1 rfl ?_
          refine m_gR C (dOf DX8_sum 20 rfl) kf_X8_10 fg_8_0 h (fun a8 h => ?_)
          refine m_gI C (dOf DX8_sum 21 rfl) kf_X8_66 fg_4_9 h (fun v9 h => ?_)
          refine m_iload_n C (dOf DX8_sum 22 rfl) rfl 3 rfl ?_
          refine m_isub C (dOf DX8_sum 23 rfl) h (fun v10 h => ?_)
          refine m_icmple C (dOf DX8_sum 24 rfl) (tgt := 51) rfl h (fun h => ?_) (fun h => ?_)
          · refine m_aload C (dOf DX8_sum 27 rfl) 0 rfl ?_
            refine m_iload_n C (dOf DX8_sum 28 rfl) rfl 3 rfl ?_
            refine m_iload_n C (dOf DX8_sum 29 rfl) rfl 4 rfl ?_
            obtain ⟨hc, h⟩ := ck_spec h
            refine m_cP (st := []) h (fun o' ho H locs ls hl hr hs => ⟨_, m_runV C (dOf DX8_sum 30 rfl) km_X8_178 ky_X3_sumOf (by decide) ⟨rfl, rfl⟩ (c_X3_sumOf _ G _ _ _ _ o' ho) hc.1 hc.2 (by decide) rfl rfl rfl (Nat.le_of_ble_eq_true rfl) ⟨Nat.le_refl _, Nat.le_refl _⟩ hl hr hs⟩) (fun v11 h => ?_)
            exact m_iretP C rfl (dOf DX8_sum 31 rfl) h
          · exact m_sub [] rfl (hj7 _ h)
      · exact m_sub [] rfl (hj3 _ h)
/-- TraceRing.would(II)I -/
def f_X8_would (S : St) (b0 : Nat) (p1 : Int32) (p2 : Int32) : Option Int32 :=
  gR_ S b0 8 0 fun a1 =>
  ck_ S a1 4 <| cP_ (f_X4_wayOf S a1 p1 p2) fun v2 =>
  rt_ v2
set_option maxRecDepth 100000 in
set_option maxHeartbeats 4000000 in
theorem c_X8_would (l : Launch) (G : Gx) (S : St) (b0 : Nat) (p1 : Int32) (p2 : Int32) (o : Int32) (h : f_X8_would S b0 p1 p2 = some o) : Met l yX8_would (Cond.code yX8_would cX8_would 3 (some (.int)) :: wAll) ({ frames := 3, cells := 0, slots := 0, locals := 67 } : Room) (va_Pc [.ref (G.1 + b0), .int p1, .int p2] (wPre G S)) (qI G (o, S)) 0 0 (wA G) := by
  refine m_start (by decide +kernel) (Nat.le_of_ble_eq_true rfl) (fun X C => ?_)
  unfold f_X8_would at h
  show WM X G 3 0 0 (wQ X G (qI G (o, S)) 0 0) 0 [(0, .ref (G.1 + b0)), (1, .int p1), (2, .int p2)] [] S
  refine m_aload_n C (dOf DX8_would 0 rfl) rfl 0 rfl ?_
  refine m_gR C (dOf DX8_would 1 rfl) kf_X8_10 fg_8_0 h (fun a1 h => ?_)
  refine m_iload_n C (dOf DX8_would 2 rfl) rfl 1 rfl ?_
  refine m_iload_n C (dOf DX8_would 3 rfl) rfl 2 rfl ?_
  obtain ⟨hc, h⟩ := ck_spec h
  refine m_cP (st := []) h (fun o' ho H locs ls hl hr hs => ⟨_, m_runV C (dOf DX8_would 4 rfl) km_X8_181 ky_X4_wayOf (by decide) ⟨rfl, rfl⟩ (c_X4_wayOf _ G _ _ _ _ o' ho) hc.1 hc.2 (by decide) rfl rfl rfl (Nat.le_of_ble_eq_true rfl) ⟨Nat.le_refl _, Nat.le_refl _⟩ hl hr hs⟩) (fun v2 h => ?_)
  exact m_iretP C rfl (dOf DX8_would 5 rfl) h
/-- TraceRing.room(I)I -/
def f_X8_room (S : St) (b0 : Nat) (p1 : Int32) : Option Int32 :=
  gR_ S b0 8 0 fun a1 =>
  ck_ S a1 4 <| cP_ (f_X4_roomFor S a1 p1) fun v2 =>
  rt_ v2
set_option maxRecDepth 100000 in
set_option maxHeartbeats 4000000 in
theorem c_X8_room (l : Launch) (G : Gx) (S : St) (b0 : Nat) (p1 : Int32) (o : Int32) (h : f_X8_room S b0 p1 = some o) : Met l yX8_room (Cond.code yX8_room cX8_room 2 (some (.int)) :: wAll) ({ frames := 3, cells := 0, slots := 0, locals := 69 } : Room) (va_Pc [.ref (G.1 + b0), .int p1] (wPre G S)) (qI G (o, S)) 0 0 (wA G) := by
  refine m_start (by decide +kernel) (Nat.le_of_ble_eq_true rfl) (fun X C => ?_)
  unfold f_X8_room at h
  show WM X G 2 0 0 (wQ X G (qI G (o, S)) 0 0) 0 [(0, .ref (G.1 + b0)), (1, .int p1)] [] S
  refine m_aload_n C (dOf DX8_room 0 rfl) rfl 0 rfl ?_
  refine m_gR C (dOf DX8_room 1 rfl) kf_X8_10 fg_8_0 h (fun a1 h => ?_)
  refine m_iload_n C (dOf DX8_room 2 rfl) rfl 1 rfl ?_
  obtain ⟨hc, h⟩ := ck_spec h
  refine m_cP (st := []) h (fun o' ho H locs ls hl hr hs => ⟨_, m_runV C (dOf DX8_room 3 rfl) km_X8_184 ky_X4_roomFor (by decide) ⟨rfl, rfl⟩ (c_X4_roomFor _ G _ _ _ o' ho) hc.1 hc.2 (by decide) rfl rfl rfl (Nat.le_of_ble_eq_true rfl) ⟨Nat.le_refl _, Nat.le_refl _⟩ hl hr hs⟩) (fun v2 h => ?_)
  exact m_iretP C rfl (dOf DX8_room 4 rfl) h
/-- TraceRing.after(III)I -/
def f_X8_after (S : St) (b0 : Nat) (p1 : Int32) (p2 : Int32) (p3 : Int32) : Option (Int32 × St) :=
  cP_ (f_X8_isStorm S p2) fun v1 =>
  if v1 = 0 then
    rt_ ((-1), S)
  else
    if p3 = 15 then
      gR_ S b0 8 2 fun a10 =>
      gI_ S a10 6 1 fun v11 =>
      rt_ (v11, S)
    else
      gR_ S b0 8 1 fun a2 =>
      gR_ S b0 8 0 fun a3 =>
      ck_ S a2 4 <| cV_ (f_X4_copyFrom S a2 a3) fun S4 =>
      gR_ S4 b0 8 4 fun a5 =>
      gR_ S4 b0 8 1 fun a6 =>
      ck_ S4 a5 5 <| cV_ (f_X5_blow S4 a5 a6 p1 p2) fun S7 =>
      gR_ S7 b0 8 1 fun a8 =>
      ck_ S7 a8 4 <| cP_ (f_X4_figure S7 a8 p3) fun v9 =>
      rt_ (v9, S7)
set_option maxRecDepth 100000 in
set_option maxHeartbeats 4000000 in
theorem c_X8_after (l : Launch) (G : Gx) (S : St) (b0 : Nat) (p1 : Int32) (p2 : Int32) (p3 : Int32) (o : (Int32 × St)) (h : f_X8_after S b0 p1 p2 p3 = some o) : Met l yX8_after (Cond.code yX8_after cX8_after 4 (some (.int)) :: wAll) ({ frames := 6, cells := 0, slots := 0, locals := 145 } : Room) (va_Pc [.ref (G.1 + b0), .int p1, .int p2, .int p3] (wPre G S)) (qI G o) 0 0 (wA G) := by
  refine m_start (by decide +kernel) (Nat.le_of_ble_eq_true rfl) (fun X C => ?_)
  unfold f_X8_after at h
  show WM X G 4 0 0 (wQ X G (qI G o) 0 0) 0 [(0, .ref (G.1 + b0)), (1, .int p1), (2, .int p2), (3, .int p3)] [] S
  refine m_iload_n C (dOf DX8_after 0 rfl) rfl 2 rfl ?_
  refine m_cP (st := []) h (fun o' ho H locs ls hl hr hs => ⟨_, m_runS C (dOf DX8_after 1 rfl) km_X8_115 ks_X8_isStorm rfl (by decide) ⟨rfl, rfl⟩ (c_X8_isStorm _ G _ _ o' ho) rfl rfl (Nat.le_of_ble_eq_true rfl) ⟨Nat.le_refl _, Nat.le_refl _⟩ hl hr hs⟩) (fun v1 h => ?_)
  refine m_ifne C (dOf DX8_after 2 rfl) (tgt := 9) rfl h (fun h => ?_) (fun h => ?_)
  · refine m_iload_n C (dOf DX8_after 5 rfl) rfl 3 rfl ?_
    refine m_bipush C (dOf DX8_after 6 rfl) (v := 15) kb_15 ?_
    refine m_icmpne C (dOf DX8_after 7 rfl) (tgt := 23) rfl h (fun h => ?_) (fun h => ?_)
    · refine m_aload_n C (dOf DX8_after 12 rfl) rfl 0 rfl ?_
      refine m_gR C (dOf DX8_after 13 rfl) kf_X8_16 fg_8_1 h (fun a2 h => ?_)
      refine m_aload_n C (dOf DX8_after 14 rfl) rfl 0 rfl ?_
      refine m_gR C (dOf DX8_after 15 rfl) kf_X8_10 fg_8_0 h (fun a3 h => ?_)
      obtain ⟨hc, h⟩ := ck_spec h
      refine m_cV (st := []) h (fun o' ho H locs ls hl hr hs => ⟨_, m_runV C (dOf DX8_after 16 rfl) km_X8_187 ky_X4_copyFrom (by decide) ⟨rfl, rfl⟩ (c_X4_copyFrom _ G _ _ _ o' ho) hc.1 hc.2 (by decide) rfl rfl rfl (Nat.le_of_ble_eq_true rfl) ⟨Nat.le_refl _, Nat.le_refl _⟩ hl hr hs⟩) (fun S4 h => ?_)
      refine m_aload_n C (dOf DX8_after 17 rfl) rfl 0 rfl ?_
      refine m_gR C (dOf DX8_after 18 rfl) kf_X8_36 fg_8_4 h (fun a5 h => ?_)
      refine m_aload_n C (dOf DX8_after 19 rfl) rfl 0 rfl ?_
      refine m_gR C (dOf DX8_after 20 rfl) kf_X8_16 fg_8_1 h (fun a6 h => ?_)
      refine m_iload_n C (dOf DX8_after 21 rfl) rfl 1 rfl ?_
      refine m_iload_n C (dOf DX8_after 22 rfl) rfl 2 rfl ?_
      obtain ⟨hc, h⟩ := ck_spec h
      refine m_cV (st := []) h (fun o' ho H locs ls hl hr hs => ⟨_, m_runV C (dOf DX8_after 23 rfl) km_X8_121 ky_X5_blow (by decide) ⟨rfl, rfl⟩ (c_X5_blow _ G _ _ _ _ _ o' ho) hc.1 hc.2 (by decide) rfl rfl rfl (Nat.le_of_ble_eq_true rfl) ⟨Nat.le_refl _, Nat.le_refl _⟩ hl hr hs⟩) (fun S7 h => ?_)
      refine m_aload_n C (dOf DX8_after 24 rfl) rfl 0 rfl ?_
      refine m_gR C (dOf DX8_after 25 rfl) kf_X8_16 fg_8_1 h (fun a8 h => ?_)
      refine m_iload_n C (dOf DX8_after 26 rfl) rfl 3 rfl ?_
      obtain ⟨hc, h⟩ := ck_spec h
      refine m_cP (st := []) h (fun o' ho H locs ls hl hr hs => ⟨_, m_runV C (dOf DX8_after 27 rfl) km_X8_118 ky_X4_figure (by decide) ⟨rfl, rfl⟩ (c_X4_figure _ G _ _ _ o' ho) hc.1 hc.2 (by decide) rfl rfl rfl (Nat.le_of_ble_eq_true rfl) ⟨Nat.le_refl _, Nat.le_refl _⟩ hl hr hs⟩) (fun v9 h => ?_)
      exact m_iret C rfl (dOf DX8_after 28 rfl) h
    · refine m_aload_n C (dOf DX8_after 8 rfl) rfl 0 rfl ?_
      refine m_gR C (dOf DX8_after 9 rfl) kf_X8_22 fg_8_2 h (fun a10 h => ?_)
      refine m_gI C (dOf DX8_after 10 rfl) kf_X8_55 fg_6_1 h (fun v11 h => ?_)
      exact m_iret C rfl (dOf DX8_after 11 rfl) h
  · refine m_iconst C (dOf DX8_after 3 rfl) (v := (-1)) ki_m1 ?_
    exact m_iret C rfl (dOf DX8_after 4 rfl) h
/-- TraceRing.fewest(II)I -/
def f_X8_fewest (S : St) (b0 : Nat) (p1 : Int32) (p2 : Int32) : Option (Int32 × St) :=
  cP_ (f_X8_isStorm S p2) fun v1 =>
  if v1 = 0 then
    rt_ ((-1), S)
  else
    lp_ (fun self2 (x2 : Int32 × St) =>
      if 6 < x2.1 then
        rt_ ((-1), x2.2)
      else
        gR_ x2.2 b0 8 1 fun a3 =>
        gR_ x2.2 b0 8 0 fun a4 =>
        gI_ x2.2 a4 4 9 fun v5 =>
        gR_ x2.2 b0 8 0 fun a6 =>
        gI_ x2.2 a6 4 10 fun v7 =>
        ck_ x2.2 a3 4 <| cV_ (f_X4_begin x2.2 a3 x2.1 v5 v7) fun S8 =>
        gR_ S8 b0 8 4 fun a9 =>
        gR_ S8 b0 8 1 fun a10 =>
        ck_ S8 a9 5 <| cV_ (f_X5_blow S8 a9 a10 p1 p2) fun S11 =>
        gR_ S11 b0 8 1 fun a12 =>
        ck_ S11 a12 4 <| cP_ (f_X4_figure S11 a12 7) fun v13 =>
        jn_ (fun (x14 : Unit) =>
          lt_ (x2.1 + 1) fun v15 =>
          self2 (v15, S11)
        ) fun j14 =>
        if v13 = 0 then
          gR_ S11 b0 8 1 fun a16 =>
          ck_ S11 a16 4 <| cP_ (f_X4_figure S11 a16 8) fun v17 =>
          if v17 = 0 then
            rt_ (x2.1, S11)
          else
            j14 ()
        else
          j14 ()
    ) FU (2, S)
set_option maxRecDepth 100000 in
set_option maxHeartbeats 4000000 in
theorem c_X8_fewest (l : Launch) (G : Gx) (S : St) (b0 : Nat) (p1 : Int32) (p2 : Int32) (o : (Int32 × St)) (h : f_X8_fewest S b0 p1 p2 = some o) : Met l yX8_fewest (Cond.code yX8_fewest cX8_fewest 4 (some (.int)) :: wAll) ({ frames := 6, cells := 0, slots := 0, locals := 143 } : Room) (va_Pc [.ref (G.1 + b0), .int p1, .int p2] (wPre G S)) (qI G o) 0 0 (wA G) := by
  refine m_start (by decide +kernel) (Nat.le_of_ble_eq_true rfl) (fun X C => ?_)
  unfold f_X8_fewest at h
  show WM X G 4 0 0 (wQ X G (qI G o) 0 0) 0 [(0, .ref (G.1 + b0)), (1, .int p1), (2, .int p2)] [] S
  refine m_iload_n C (dOf DX8_fewest 0 rfl) rfl 2 rfl ?_
  refine m_cP (st := []) h (fun o' ho H locs ls hl hr hs => ⟨_, m_runS C (dOf DX8_fewest 1 rfl) km_X8_115 ks_X8_isStorm rfl (by decide) ⟨rfl, rfl⟩ (c_X8_isStorm _ G _ _ o' ho) rfl rfl (Nat.le_of_ble_eq_true rfl) ⟨Nat.le_refl _, Nat.le_refl _⟩ hl hr hs⟩) (fun v1 h => ?_)
  refine m_ifne C (dOf DX8_fewest 2 rfl) (tgt := 9) rfl h (fun h => ?_) (fun h => ?_)
  · refine m_iconst C (dOf DX8_fewest 5 rfl) (v := 2) ki_2 ?_
    refine m_istore_n C (dOf DX8_fewest 6 rfl) rfl (by decide) (lv' := [(3, .int 2), (0, .ref (G.1 + b0)), (1, .int p1), (2, .int p2)]) rfl ?_
    refine m_sub [1, 2, 3, 0] rfl (m_lp (J := fun (x2 : Int32 × St) => WM X G 4 0 0 (wQ X G (qI G o) 0 0) 11 [(0, .ref (G.1 + b0)), (1, .int p1), (2, .int p2), (3, .int x2.1)] [] x2.2) h (fun self2 hself2 x2 h => ?_))
    refine m_iload_n C (dOf DX8_fewest 7 rfl) rfl 3 rfl ?_
    refine m_bipush C (dOf DX8_fewest 8 rfl) (v := 6) kb_6 ?_
    refine m_icmpgt C (dOf DX8_fewest 9 rfl) (tgt := 84) rfl h (fun h => ?_) (fun h => ?_)
    · refine m_iconst C (dOf DX8_fewest 41 rfl) (v := (-1)) ki_m1 ?_
      exact m_iret C rfl (dOf DX8_fewest 42 rfl) h
    · refine m_aload_n C (dOf DX8_fewest 10 rfl) rfl 0 rfl ?_
      refine m_gR C (dOf DX8_fewest 11 rfl) kf_X8_16 fg_8_1 h (fun a3 h => ?_)
      refine m_iload_n C (dOf DX8_fewest 12 rfl) rfl 3 rfl ?_
      refine m_aload_n C (dOf DX8_fewest 13 rfl) rfl 0 rfl ?_
      refine m_gR C (dOf DX8_fewest 14 rfl) kf_X8_10 fg_8_0 h (fun a4 h => ?_)
      refine m_gI C (dOf DX8_fewest 15 rfl) kf_X8_66 fg_4_9 h (fun v5 h => ?_)
      refine m_aload_n C (dOf DX8_fewest 16 rfl) rfl 0 rfl ?_
      refine m_gR C (dOf DX8_fewest 17 rfl) kf_X8_10 fg_8_0 h (fun a6 h => ?_)
      refine m_gI C (dOf DX8_fewest 18 rfl) kf_X8_104 fg_4_10 h (fun v7 h => ?_)
      obtain ⟨hc, h⟩ := ck_spec h
      refine m_cV (st := []) h (fun o' ho H locs ls hl hr hs => ⟨_, m_runV C (dOf DX8_fewest 19 rfl) km_X8_190 ky_X4_begin (by decide) ⟨rfl, rfl⟩ (c_X4_begin _ G _ _ _ _ _ o' ho) hc.1 hc.2 (by decide) rfl rfl rfl (Nat.le_of_ble_eq_true rfl) ⟨Nat.le_refl _, Nat.le_refl _⟩ hl hr hs⟩) (fun S8 h => ?_)
      refine m_aload_n C (dOf DX8_fewest 20 rfl) rfl 0 rfl ?_
      refine m_gR C (dOf DX8_fewest 21 rfl) kf_X8_36 fg_8_4 h (fun a9 h => ?_)
      refine m_aload_n C (dOf DX8_fewest 22 rfl) rfl 0 rfl ?_
      refine m_gR C (dOf DX8_fewest 23 rfl) kf_X8_16 fg_8_1 h (fun a10 h => ?_)
      refine m_iload_n C (dOf DX8_fewest 24 rfl) rfl 1 rfl ?_
      refine m_iload_n C (dOf DX8_fewest 25 rfl) rfl 2 rfl ?_
      obtain ⟨hc, h⟩ := ck_spec h
      refine m_cV (st := []) h (fun o' ho H locs ls hl hr hs => ⟨_, m_runV C (dOf DX8_fewest 26 rfl) km_X8_121 ky_X5_blow (by decide) ⟨rfl, rfl⟩ (c_X5_blow _ G _ _ _ _ _ o' ho) hc.1 hc.2 (by decide) rfl rfl rfl (Nat.le_of_ble_eq_true rfl) ⟨Nat.le_refl _, Nat.le_refl _⟩ hl hr hs⟩) (fun S11 h => ?_)
      refine m_aload_n C (dOf DX8_fewest 27 rfl) rfl 0 rfl ?_
      refine m_gR C (dOf DX8_fewest 28 rfl) kf_X8_16 fg_8_1 h (fun a12 h => ?_)
      refine m_bipush C (dOf DX8_fewest 29 rfl) (v := 7) kb_7 ?_
      obtain ⟨hc, h⟩ := ck_spec h
      refine m_cP (st := []) h (fun o' ho H locs ls hl hr hs => ⟨_, m_runV C (dOf DX8_fewest 30 rfl) km_X8_118 ky_X4_figure (by decide) ⟨rfl, rfl⟩ (c_X4_figure _ G _ _ _ o' ho) hc.1 hc.2 (by decide) rfl rfl rfl (Nat.le_of_ble_eq_true rfl) ⟨Nat.le_refl _, Nat.le_refl _⟩ hl hr hs⟩) (fun v13 h => ?_)
      refine m_jn (J := fun (x14 : Unit) => WM X G 4 0 0 (wQ X G (qI G o) 0 0) 78 [(0, .ref (G.1 + b0)), (1, .int p1), (2, .int p2), (3, .int x2.1)] [] S11) h (fun x14 h => ?_) (fun j14 hj14 h => ?_)
      · refine m_iinc C (dOf DX8_fewest 39 rfl) (w := 1) ki_1 3 rfl (by decide) h (fun v15 h => ⟨[(3, .int v15), (0, .ref (G.1 + b0)), (1, .int p1), (2, .int p2)], rfl, ?_⟩)
        refine m_goto C (dOf DX8_fewest 40 rfl) (tgt := 11) rfl ?_
        exact m_sub [1, 2, 3, 0] rfl (hself2 _ h)
      refine m_ifne C (dOf DX8_fewest 31 rfl) (tgt := 78) rfl h (fun h => ?_) (fun h => ?_)
      · exact m_sub [0, 1, 2, 3] rfl (hj14 _ h)
      · refine m_aload_n C (dOf DX8_fewest 32 rfl) rfl 0 rfl ?_
        refine m_gR C (dOf DX8_fewest 33 rfl) kf_X8_16 fg_8_1 h (fun a16 h => ?_)
        refine m_bipush C (dOf DX8_fewest 34 rfl) (v := 8) kb_8 ?_
        obtain ⟨hc, h⟩ := ck_spec h
        refine m_cP (st := []) h (fun o' ho H locs ls hl hr hs => ⟨_, m_runV C (dOf DX8_fewest 35 rfl) km_X8_118 ky_X4_figure (by decide) ⟨rfl, rfl⟩ (c_X4_figure _ G _ _ _ o' ho) hc.1 hc.2 (by decide) rfl rfl rfl (Nat.le_of_ble_eq_true rfl) ⟨Nat.le_refl _, Nat.le_refl _⟩ hl hr hs⟩) (fun v17 h => ?_)
        refine m_ifne C (dOf DX8_fewest 36 rfl) (tgt := 78) rfl h (fun h => ?_) (fun h => ?_)
        · exact m_sub [0, 1, 2, 3] rfl (hj14 _ h)
        · refine m_iload_n C (dOf DX8_fewest 37 rfl) rfl 3 rfl ?_
          exact m_iret C rfl (dOf DX8_fewest 38 rfl) h
  · refine m_iconst C (dOf DX8_fewest 3 rfl) (v := (-1)) ki_m1 ?_
    exact m_iret C rfl (dOf DX8_fewest 4 rfl) h
/-- TraceRing.imageOf(I)LTraceRing$Image; -/
def f_X8_imageOf (S : St) (b0 : Nat) (p1 : Int32) : Option (Option Nat) :=
  jn_ (fun (x1 : Option Nat) =>
    rt_ x1
  ) fun j1 =>
  jn_ (fun (x2 : Unit) =>
    j1 (none)
  ) fun j2 =>
  if p1 < 0 then
    j2 ()
  else
    gR_ S b0 8 5 fun a3 =>
    al_ S a3 14 fun v4 =>
    if p1 < v4 then
      gR_ S b0 8 5 fun a5 =>
      aR_ S a5 14 p1 fun a6 =>
      j1 (some a6)
    else
      j2 ()
set_option maxRecDepth 100000 in
set_option maxHeartbeats 4000000 in
theorem c_X8_imageOf (l : Launch) (G : Gx) (S : St) (b0 : Nat) (p1 : Int32) (o : Option Nat) (h : f_X8_imageOf S b0 p1 = some o) : Met l yX8_imageOf (Cond.code yX8_imageOf cX8_imageOf 2 (some (.object "TraceRing$Image")) :: wAll) ({ frames := 0, cells := 0, slots := 0, locals := 0 } : Room) (va_Pc [.ref (G.1 + b0), .int p1] (wPre G S)) (qR G (o, S)) 0 0 (wA G) := by
  refine m_start (by decide +kernel) (Nat.le_of_ble_eq_true rfl) (fun X C => ?_)
  unfold f_X8_imageOf at h
  show WM X G 2 0 0 (wQ X G (qR G (o, S)) 0 0) 0 [(0, .ref (G.1 + b0)), (1, .int p1)] [] S
  refine m_iload_n C (dOf DX8_imageOf 0 rfl) rfl 1 rfl ?_
  refine m_jn (J := fun (x1 : Option Nat) => WM X G 2 0 0 (wQ X G (qR G (o, S)) 0 0) 23 [] [rfB G.1 x1] S) h (fun x1 h => ?_) (fun j1 hj1 h => ?_)
  · exact m_aretO (r := x1) C rfl (Or.inl ⟨_, rfl⟩) (dOf DX8_imageOf 13 rfl) h
  refine m_jn (J := fun (x2 : Unit) => WM X G 2 0 0 (wQ X G (qR G (o, S)) 0 0) 13 [] [] S) h (fun x2 h => ?_) (fun j2 hj2 h => ?_)
  · refine m_null C (dOf DX8_imageOf 7 rfl) ?_
    refine m_goto C (dOf DX8_imageOf 8 rfl) (tgt := 23) rfl ?_
    exact m_sub [] rfl (hj1 _ h)
  refine m_iflt C (dOf DX8_imageOf 1 rfl) (tgt := 13) rfl h (fun h => ?_) (fun h => ?_)
  · exact m_sub [] rfl (hj2 _ h)
  · refine m_iload_n C (dOf DX8_imageOf 2 rfl) rfl 1 rfl ?_
    refine m_aload_n C (dOf DX8_imageOf 3 rfl) rfl 0 rfl ?_
    refine m_gR C (dOf DX8_imageOf 4 rfl) kf_X8_42 fg_8_5 h (fun a3 h => ?_)
    refine m_al C (dOf DX8_imageOf 5 rfl) (by decide) h (fun v4 h => ?_)
    refine m_icmplt C (dOf DX8_imageOf 6 rfl) (tgt := 17) rfl h (fun h => ?_) (fun h => ?_)
    · refine m_aload_n C (dOf DX8_imageOf 9 rfl) rfl 0 rfl ?_
      refine m_gR C (dOf DX8_imageOf 10 rfl) kf_X8_42 fg_8_5 h (fun a5 h => ?_)
      refine m_iload_n C (dOf DX8_imageOf 11 rfl) rfl 1 rfl ?_
      refine m_aR C (dOf DX8_imageOf 12 rfl) (by decide) h (fun a6 h => ?_)
      exact m_sub [] rfl (hj1 _ h)
    · exact m_sub [] rfl (hj2 _ h)
/-- TraceRing.image(I)Z -/
def f_X8_image (S : St) (b0 : Nat) (p1 : Int32) : Option (Int32 × St) :=
  ck_ S b0 8 <| cP_ (f_X8_imageOf S b0 p1) fun a1 =>
  io_ a1 (
    rz_ 0 S
  ) fun a2 =>
  gR_ S a2 0 0 fun a3 =>
  gR_ S b0 8 0 fun a4 =>
  ck_ S a3 4 <| cV_ (f_X4_copyFrom S a3 a4) fun S5 =>
  gR_ S5 a2 0 1 fun a6 =>
  gR_ S5 b0 8 2 fun a7 =>
  ck_ S5 a6 6 <| cV_ (f_X6_copyFrom S5 a6 a7) fun S8 =>
  pZ_ S8 a2 0 2 1 fun S9 =>
  rz_ 1 S9
set_option maxRecDepth 100000 in
set_option maxHeartbeats 4000000 in
theorem c_X8_image (l : Launch) (G : Gx) (S : St) (b0 : Nat) (p1 : Int32) (o : (Int32 × St)) (h : f_X8_image S b0 p1 = some o) : Met l yX8_image (Cond.code yX8_image cX8_image 3 (some (.boolean)) :: wAll) ({ frames := 4, cells := 0, slots := 0, locals := 145 } : Room) (va_Pc [.ref (G.1 + b0), .int p1] (wPre G S)) (qI G o) 0 0 (wA G) := by
  refine m_start (by decide +kernel) (Nat.le_of_ble_eq_true rfl) (fun X C => ?_)
  unfold f_X8_image at h
  show WM X G 3 0 0 (wQ X G (qI G o) 0 0) 0 [(0, .ref (G.1 + b0)), (1, .int p1)] [] S
  refine m_aload_n C (dOf DX8_image 0 rfl) rfl 0 rfl ?_
  refine m_iload_n C (dOf DX8_image 1 rfl) rfl 1 rfl ?_
  obtain ⟨hc, h⟩ := ck_spec h
  refine m_cO (st := []) h (fun o' ho H locs ls hl hr hs => ⟨_, m_runV C (dOf DX8_image 2 rfl) km_X8_194 ky_X8_imageOf (by decide) ⟨rfl, rfl⟩ (c_X8_imageOf _ G _ _ _ o' ho) hc.1 hc.2 (by decide) rfl rfl rfl (Nat.le_of_ble_eq_true rfl) ⟨Nat.le_refl _, Nat.le_refl _⟩ hl hr hs⟩) (fun a1 h => ?_)
  refine m_astore_nO C (dOf DX8_image 3 rfl) rfl (by decide) (lv' := [(0, .ref (G.1 + b0)), (1, .int p1)]) (fun _ e => by rw [e]; rfl) ?_
  refine m_aload_nO C (dOf DX8_image 4 rfl) rfl 0 rfl ?_
  refine m_ifnonnullO C (dOf DX8_image 5 rfl) (tgt := 12) rfl h (fun e h => ?_) (fun a2 e hh => ?_)
  · refine m_iconst C (dOf DX8_image 6 rfl) (v := 0) ki_0 ?_
    exact m_zret C rfl (dOf DX8_image 7 rfl) h
  · subst e
    have h := hh
    refine m_aload_n C (dOf DX8_image 8 rfl) rfl 0 rfl ?_
    refine m_gR C (dOf DX8_image 9 rfl) kf_X8_198 fg_0_0 h (fun a3 h => ?_)
    refine m_aload_n C (dOf DX8_image 10 rfl) rfl 1 rfl ?_
    refine m_gR C (dOf DX8_image 11 rfl) kf_X8_10 fg_8_0 h (fun a4 h => ?_)
    obtain ⟨hc, h⟩ := ck_spec h
    refine m_cV (st := []) h (fun o' ho H locs ls hl hr hs => ⟨_, m_runV C (dOf DX8_image 12 rfl) km_X8_187 ky_X4_copyFrom (by decide) ⟨rfl, rfl⟩ (c_X4_copyFrom _ G _ _ _ o' ho) hc.1 hc.2 (by decide) rfl rfl rfl (Nat.le_of_ble_eq_true rfl) ⟨Nat.le_refl _, Nat.le_refl _⟩ hl hr hs⟩) (fun S5 h => ?_)
    refine m_aload_n C (dOf DX8_image 13 rfl) rfl 0 rfl ?_
    refine m_gR C (dOf DX8_image 14 rfl) kf_X8_199 fg_0_1 h (fun a6 h => ?_)
    refine m_aload_n C (dOf DX8_image 15 rfl) rfl 1 rfl ?_
    refine m_gR C (dOf DX8_image 16 rfl) kf_X8_22 fg_8_2 h (fun a7 h => ?_)
    obtain ⟨hc, h⟩ := ck_spec h
    refine m_cV (st := []) h (fun o' ho H locs ls hl hr hs => ⟨_, m_runV C (dOf DX8_image 17 rfl) km_X8_200 ky_X6_copyFrom (by decide) ⟨rfl, rfl⟩ (c_X6_copyFrom _ G _ _ _ o' ho) hc.1 hc.2 (by decide) rfl rfl rfl (Nat.le_of_ble_eq_true rfl) ⟨Nat.le_refl _, Nat.le_refl _⟩ hl hr hs⟩) (fun S8 h => ?_)
    refine m_aload_n C (dOf DX8_image 18 rfl) rfl 0 rfl ?_
    refine m_iconst C (dOf DX8_image 19 rfl) (v := 1) ki_1 ?_
    refine m_pZ C (dOf DX8_image 20 rfl) kf_X8_203 fp_0_2 h (fun S9 h => ?_)
    refine m_iconst C (dOf DX8_image 21 rfl) (v := 1) ki_1 ?_
    exact m_zret C rfl (dOf DX8_image 22 rfl) h
/-- TraceRing.again(I)Z -/
def f_X8_again (S : St) (b0 : Nat) (p1 : Int32) : Option (Int32 × St) :=
  ck_ S b0 8 <| cP_ (f_X8_imageOf S b0 p1) fun a1 =>
  jn_ (fun (x2 : Unit) =>
    rz_ 0 S
  ) fun j2 =>
  io_ a1 (
    j2 ()
  ) fun a3 =>
  gI_ S a3 0 2 fun v4 =>
  if v4 = 0 then
    j2 ()
  else
    gR_ S b0 8 0 fun a5 =>
    gR_ S a3 0 0 fun a6 =>
    ck_ S a5 4 <| cV_ (f_X4_copyFrom S a5 a6) fun S7 =>
    gR_ S7 b0 8 2 fun a8 =>
    gR_ S7 a3 0 1 fun a9 =>
    ck_ S7 a8 6 <| cV_ (f_X6_copyFrom S7 a8 a9) fun S10 =>
    rz_ 1 S10
set_option maxRecDepth 100000 in
set_option maxHeartbeats 4000000 in
theorem c_X8_again (l : Launch) (G : Gx) (S : St) (b0 : Nat) (p1 : Int32) (o : (Int32 × St)) (h : f_X8_again S b0 p1 = some o) : Met l yX8_again (Cond.code yX8_again cX8_again 3 (some (.boolean)) :: wAll) ({ frames := 4, cells := 0, slots := 0, locals := 145 } : Room) (va_Pc [.ref (G.1 + b0), .int p1] (wPre G S)) (qI G o) 0 0 (wA G) := by
  refine m_start (by decide +kernel) (Nat.le_of_ble_eq_true rfl) (fun X C => ?_)
  unfold f_X8_again at h
  show WM X G 3 0 0 (wQ X G (qI G o) 0 0) 0 [(0, .ref (G.1 + b0)), (1, .int p1)] [] S
  refine m_aload_n C (dOf DX8_again 0 rfl) rfl 0 rfl ?_
  refine m_iload_n C (dOf DX8_again 1 rfl) rfl 1 rfl ?_
  obtain ⟨hc, h⟩ := ck_spec h
  refine m_cO (st := []) h (fun o' ho H locs ls hl hr hs => ⟨_, m_runV C (dOf DX8_again 2 rfl) km_X8_194 ky_X8_imageOf (by decide) ⟨rfl, rfl⟩ (c_X8_imageOf _ G _ _ _ o' ho) hc.1 hc.2 (by decide) rfl rfl rfl (Nat.le_of_ble_eq_true rfl) ⟨Nat.le_refl _, Nat.le_refl _⟩ hl hr hs⟩) (fun a1 h => ?_)
  refine m_astore_nO C (dOf DX8_again 3 rfl) rfl (by decide) (lv' := [(0, .ref (G.1 + b0)), (1, .int p1)]) (fun _ e => by rw [e]; rfl) ?_
  refine m_aload_nO C (dOf DX8_again 4 rfl) rfl 0 rfl ?_
  refine m_jn (J := fun (x2 : Unit) => WM X G 3 0 0 (wQ X G (qI G o) 0 0) 17 [] [] S) h (fun x2 h => ?_) (fun j2 hj2 h => ?_)
  · refine m_iconst C (dOf DX8_again 9 rfl) (v := 0) ki_0 ?_
    exact m_zret C rfl (dOf DX8_again 10 rfl) h
  refine m_ifnullO C (dOf DX8_again 5 rfl) (tgt := 17) rfl h (fun e h => ?_) (fun a3 e hh => ?_)
  · exact m_sub [] rfl (hj2 _ h)
  · subst e
    have h := hh
    refine m_aload_n C (dOf DX8_again 6 rfl) rfl 0 rfl ?_
    refine m_gI C (dOf DX8_again 7 rfl) kf_X8_203 fg_0_2 h (fun v4 h => ?_)
    refine m_ifne C (dOf DX8_again 8 rfl) (tgt := 19) rfl h (fun h => ?_) (fun h => ?_)
    · refine m_aload_n C (dOf DX8_again 11 rfl) rfl 1 rfl ?_
      refine m_gR C (dOf DX8_again 12 rfl) kf_X8_10 fg_8_0 h (fun a5 h => ?_)
      refine m_aload_n C (dOf DX8_again 13 rfl) rfl 0 rfl ?_
      refine m_gR C (dOf DX8_again 14 rfl) kf_X8_198 fg_0_0 h (fun a6 h => ?_)
      obtain ⟨hc, h⟩ := ck_spec h
      refine m_cV (st := []) h (fun o' ho H locs ls hl hr hs => ⟨_, m_runV C (dOf DX8_again 15 rfl) km_X8_187 ky_X4_copyFrom (by decide) ⟨rfl, rfl⟩ (c_X4_copyFrom _ G _ _ _ o' ho) hc.1 hc.2 (by decide) rfl rfl rfl (Nat.le_of_ble_eq_true rfl) ⟨Nat.le_refl _, Nat.le_refl _⟩ hl hr hs⟩) (fun S7 h => ?_)
      refine m_aload_n C (dOf DX8_again 16 rfl) rfl 1 rfl ?_
      refine m_gR C (dOf DX8_again 17 rfl) kf_X8_22 fg_8_2 h (fun a8 h => ?_)
      refine m_aload_n C (dOf DX8_again 18 rfl) rfl 0 rfl ?_
      refine m_gR C (dOf DX8_again 19 rfl) kf_X8_199 fg_0_1 h (fun a9 h => ?_)
      obtain ⟨hc, h⟩ := ck_spec h
      refine m_cV (st := []) h (fun o' ho H locs ls hl hr hs => ⟨_, m_runV C (dOf DX8_again 20 rfl) km_X8_200 ky_X6_copyFrom (by decide) ⟨rfl, rfl⟩ (c_X6_copyFrom _ G _ _ _ o' ho) hc.1 hc.2 (by decide) rfl rfl rfl (Nat.le_of_ble_eq_true rfl) ⟨Nat.le_refl _, Nat.le_refl _⟩ hl hr hs⟩) (fun S10 h => ?_)
      refine m_iconst C (dOf DX8_again 21 rfl) (v := 1) ki_1 ?_
      exact m_zret C rfl (dOf DX8_again 22 rfl) h
    · exact m_sub [] rfl (hj2 _ h)
/-- TraceRingModel.in(III)Z -/
def f_X9_in (S : St) (p0 : Int32) (p1 : Int32) (p2 : Int32) : Option Int32 :=
  jn_ (fun (x1 : Int32) =>
    rzP_ x1
  ) fun j1 =>
  jn_ (fun (x2 : Unit) =>
    j1 (0)
  ) fun j2 =>
  if p0 < p1 then
    j2 ()
  else
    if p2 < p0 then
      j2 ()
    else
      j1 (1)
set_option maxRecDepth 100000 in
set_option maxHeartbeats 4000000 in
theorem c_X9_in (l : Launch) (G : Gx) (S : St) (p0 : Int32) (p1 : Int32) (p2 : Int32) (o : Int32) (h : f_X9_in S p0 p1 p2 = some o) : Met l yX9_in (Cond.code yX9_in cX9_in 3 (some (.boolean)) :: wAll) ({ frames := 0, cells := 0, slots := 0, locals := 0 } : Room) (va_Pc [.int p0, .int p1, .int p2] (wPre G S)) (qI G (o, S)) 0 0 (wA G) := by
  refine m_start (by decide +kernel) (Nat.le_of_ble_eq_true rfl) (fun X C => ?_)
  unfold f_X9_in at h
  show WM X G 3 0 0 (wQ X G (qI G (o, S)) 0 0) 0 [(0, .int p0), (1, .int p1), (2, .int p2)] [] S
  refine m_iload_n C (dOf DX9_in 0 rfl) rfl 0 rfl ?_
  refine m_iload_n C (dOf DX9_in 1 rfl) rfl 1 rfl ?_
  refine m_jn (J := fun (x1 : Int32) => WM X G 3 0 0 (wQ X G (qI G (o, S)) 0 0) 15 [] [.int x1] S) h (fun x1 h => ?_) (fun j1 hj1 h => ?_)
  · exact m_zretP C rfl (dOf DX9_in 9 rfl) h
  refine m_jn (J := fun (x2 : Unit) => WM X G 3 0 0 (wQ X G (qI G (o, S)) 0 0) 14 [] [] S) h (fun x2 h => ?_) (fun j2 hj2 h => ?_)
  · refine m_iconst C (dOf DX9_in 8 rfl) (v := 0) ki_0 ?_
    exact m_sub [] rfl (hj1 _ h)
  refine m_icmplt C (dOf DX9_in 2 rfl) (tgt := 14) rfl h (fun h => ?_) (fun h => ?_)
  · exact m_sub [] rfl (hj2 _ h)
  · refine m_iload_n C (dOf DX9_in 3 rfl) rfl 0 rfl ?_
    refine m_iload_n C (dOf DX9_in 4 rfl) rfl 2 rfl ?_
    refine m_icmpgt C (dOf DX9_in 5 rfl) (tgt := 14) rfl h (fun h => ?_) (fun h => ?_)
    · exact m_sub [] rfl (hj2 _ h)
    · refine m_iconst C (dOf DX9_in 6 rfl) (v := 1) ki_1 ?_
      refine m_goto C (dOf DX9_in 7 rfl) (tgt := 15) rfl ?_
      exact m_sub [] rfl (hj1 _ h)
/-- TraceRingModel.greater(II)I -/
def f_X9_greater (S : St) (p0 : Int32) (p1 : Int32) : Option Int32 :=
  jn_ (fun (x1 : Int32) =>
    rt_ x1
  ) fun j1 =>
  if p0 ≤ p1 then
    j1 (p1)
  else
    j1 (p0)
set_option maxRecDepth 100000 in
set_option maxHeartbeats 4000000 in
theorem c_X9_greater (l : Launch) (G : Gx) (S : St) (p0 : Int32) (p1 : Int32) (o : Int32) (h : f_X9_greater S p0 p1 = some o) : Met l yX9_greater (Cond.code yX9_greater cX9_greater 2 (some (.int)) :: wAll) ({ frames := 0, cells := 0, slots := 0, locals := 0 } : Room) (va_Pc [.int p0, .int p1] (wPre G S)) (qI G (o, S)) 0 0 (wA G) := by
  refine m_start (by decide +kernel) (Nat.le_of_ble_eq_true rfl) (fun X C => ?_)
  unfold f_X9_greater at h
  show WM X G 2 0 0 (wQ X G (qI G (o, S)) 0 0) 0 [(0, .int p0), (1, .int p1)] [] S
  refine m_iload_n C (dOf DX9_greater 0 rfl) rfl 0 rfl ?_
  refine m_iload_n C (dOf DX9_greater 1 rfl) rfl 1 rfl ?_
  refine m_jn (J := fun (x1 : Int32) => WM X G 2 0 0 (wQ X G (qI G (o, S)) 0 0) 10 [] [.int x1] S) h (fun x1 h => ?_) (fun j1 hj1 h => ?_)
  · exact m_iretP C rfl (dOf DX9_greater 6 rfl) h
  refine m_icmple C (dOf DX9_greater 2 rfl) (tgt := 9) rfl h (fun h => ?_) (fun h => ?_)
  · refine m_iload_n C (dOf DX9_greater 5 rfl) rfl 1 rfl ?_
    exact m_sub [] rfl (hj1 _ h)
  · refine m_iload_n C (dOf DX9_greater 3 rfl) rfl 0 rfl ?_
    refine m_goto C (dOf DX9_greater 4 rfl) (tgt := 10) rfl ?_
    exact m_sub [] rfl (hj1 _ h)
/-- TraceRingModel.tell(J)I -/
def f_X9_tell (S : St) (b0 : Nat) (q1 : Int64) : Option (Int32 × St) :=
  pI_ S b0 9 0 0 fun S1 =>
  lp_ (fun self2 (x2 : Int32) =>
    jn_ (fun (x3 : Unit) =>
      gR_ S1 b0 9 1 fun a4 =>
      aI_ S1 a4 11 985 fun v5 =>
      lt_ (v5 + x2 : Int32) fun v6 =>
      if v6 ≤ 400 then
        lp_ (fun self7 (x7 : Int32 × St) =>
          if x2 ≤ x7.1 then
            gR_ x7.2 b0 9 1 fun a8 =>
            aI_ x7.2 a8 11 985 fun v9 =>
            rt_ (v9, x7.2)
          else
            gR_ x7.2 b0 9 2 fun a10 =>
            gR_ x7.2 b0 9 1 fun a11 =>
            aI_ x7.2 a11 11 985 fun v12 =>
            lt_ (8 * x7.1 : Int32) fun v13 =>
            lt_ (56 - v13 : Int32) fun v14 =>
            lt_ (q1 >>> (Int32.toInt64 v14 &&& 63) : Int64) fun v15 =>
            lt_ (Int64.toInt32 v15) fun v16 =>
            lt_ ((Int32.toInt8 v16).toInt32) fun v17 =>
            sB_ x7.2 a10 v12 v17 fun S18 =>
            gR_ S18 b0 9 1 fun a19 =>
            aI_ S18 a19 11 985 fun v20 =>
            lt_ (v20 + 1 : Int32) fun v21 =>
            sI_ S18 a19 985 v21 fun S22 =>
            lt_ (x7.1 + 1) fun v23 =>
            self7 (v23, S22)
        ) FU (0, S1)
      else
        rt_ ((-1), S1)
    ) fun j3 =>
    if 8 ≤ x2 then
      j3 ()
    else
      lt_ (8 * x2 : Int32) fun v24 =>
      lt_ (56 - v24 : Int32) fun v25 =>
      lt_ (q1 >>> (Int32.toInt64 v25 &&& 63) : Int64) fun v26 =>
      lt_ (v26 &&& 255 : Int64) fun v27 =>
      lt_ (lg_cmp v27 0 : Int32) fun v28 =>
      if v28 = 0 then
        j3 ()
      else
        lt_ (x2 + 1) fun v29 =>
        self2 (v29)
  ) FU (0)
set_option maxRecDepth 100000 in
set_option maxHeartbeats 4000000 in
theorem c_X9_tell (l : Launch) (G : Gx) (S : St) (b0 : Nat) (q1 : Int64) (o : (Int32 × St)) (h : f_X9_tell S b0 q1 = some o) : Met l yX9_tell (Cond.code yX9_tell cX9_tell 5 (some (.int)) :: wAll) ({ frames := 0, cells := 0, slots := 0, locals := 0 } : Room) (va_Pc [.ref (G.1 + b0), .long q1] (wPre G S)) (qI G o) 0 0 (wA G) := by
  refine m_start (by decide +kernel) (Nat.le_of_ble_eq_true rfl) (fun X C => ?_)
  unfold f_X9_tell at h
  show WM X G 5 0 0 (wQ X G (qI G o) 0 0) 0 [(0, .ref (G.1 + b0)), (1, .long q1)] [] S
  refine m_aload_n C (dOf DX9_tell 0 rfl) rfl 0 rfl ?_
  refine m_iconst C (dOf DX9_tell 1 rfl) (v := 0) ki_0 ?_
  refine m_pI C (dOf DX9_tell 2 rfl) kf_X9_51 fp_9_0 h (fun S1 h => ?_)
  refine m_iconst C (dOf DX9_tell 3 rfl) (v := 0) ki_0 ?_
  refine m_istore_n C (dOf DX9_tell 4 rfl) rfl (by decide) (lv' := [(3, .int 0), (0, .ref (G.1 + b0)), (1, .long q1)]) rfl ?_
  refine m_sub [1, 2, 0] rfl (m_lp (J := fun (x2 : Int32) => WM X G 5 0 0 (wQ X G (qI G o) 0 0) 7 [(0, .ref (G.1 + b0)), (1, .long q1), (3, .int x2)] [] S1) h (fun self2 hself2 x2 h => ?_))
  refine m_iload_n C (dOf DX9_tell 5 rfl) rfl 2 rfl ?_
  refine m_bipush C (dOf DX9_tell 6 rfl) (v := 8) kb_8 ?_
  refine m_jn (J := fun (x3 : Unit) => WM X G 5 0 0 (wQ X G (qI G o) 0 0) 37 [(0, .ref (G.1 + b0)), (1, .long q1), (3, .int x2)] [] S1) h (fun x3 h => ?_) (fun j3 hj3 h => ?_)
  · refine m_aload_n C (dOf DX9_tell 22 rfl) rfl 0 rfl ?_
    refine m_gR C (dOf DX9_tell 23 rfl) kf_X9_7 fg_9_1 h (fun a4 h => ?_)
    refine m_sipush C (dOf DX9_tell 24 rfl) (v := 985) ks_985 ?_
    refine m_aI C (dOf DX9_tell 25 rfl) h (fun v5 h => ?_)
    refine m_iload_n C (dOf DX9_tell 26 rfl) rfl 2 rfl ?_
    refine m_iadd C (dOf DX9_tell 27 rfl) h (fun v6 h => ?_)
    refine m_sipush C (dOf DX9_tell 28 rfl) (v := 400) ks_400 ?_
    refine m_icmple C (dOf DX9_tell 29 rfl) (tgt := 55) rfl h (fun h => ?_) (fun h => ?_)
    · refine m_iconst C (dOf DX9_tell 32 rfl) (v := 0) ki_0 ?_
      refine m_istore C (dOf DX9_tell 33 rfl) (by decide) (lv' := [(4, .int 0), (0, .ref (G.1 + b0)), (1, .long q1), (3, .int x2)]) rfl ?_
      refine m_sub [1, 2, 3, 0] rfl (m_lp (J := fun (x7 : Int32 × St) => WM X G 5 0 0 (wQ X G (qI G o) 0 0) 58 [(0, .ref (G.1 + b0)), (1, .long q1), (3, .int x2), (4, .int x7.1)] [] x7.2) h (fun self7 hself7 x7 h => ?_))
      refine m_iload C (dOf DX9_tell 34 rfl) 3 rfl ?_
      refine m_iload_n C (dOf DX9_tell 35 rfl) rfl 2 rfl ?_
      refine m_icmpge C (dOf DX9_tell 36 rfl) (tgt := 107) rfl h (fun h => ?_) (fun h => ?_)
      · refine m_aload_n C (dOf DX9_tell 63 rfl) rfl 0 rfl ?_
        refine m_gR C (dOf DX9_tell 64 rfl) kf_X9_7 fg_9_1 h (fun a8 h => ?_)
        refine m_sipush C (dOf DX9_tell 65 rfl) (v := 985) ks_985 ?_
        refine m_aI C (dOf DX9_tell 66 rfl) h (fun v9 h => ?_)
        exact m_iret C rfl (dOf DX9_tell 67 rfl) h
      · refine m_aload_n C (dOf DX9_tell 37 rfl) rfl 0 rfl ?_
        refine m_gR C (dOf DX9_tell 38 rfl) kf_X9_13 fg_9_2 h (fun a10 h => ?_)
        refine m_aload_n C (dOf DX9_tell 39 rfl) rfl 0 rfl ?_
        refine m_gR C (dOf DX9_tell 40 rfl) kf_X9_7 fg_9_1 h (fun a11 h => ?_)
        refine m_sipush C (dOf DX9_tell 41 rfl) (v := 985) ks_985 ?_
        refine m_aI C (dOf DX9_tell 42 rfl) h (fun v12 h => ?_)
        refine m_lload_n C (dOf DX9_tell 43 rfl) rfl 1 rfl ?_
        refine m_bipush C (dOf DX9_tell 44 rfl) (v := 56) kb_56 ?_
        refine m_bipush C (dOf DX9_tell 45 rfl) (v := 8) kb_8 ?_
        refine m_iload C (dOf DX9_tell 46 rfl) 3 rfl ?_
        refine m_imul C (dOf DX9_tell 47 rfl) h (fun v13 h => ?_)
        refine m_isub C (dOf DX9_tell 48 rfl) h (fun v14 h => ?_)
        refine m_lshr C (dOf DX9_tell 49 rfl) h (fun v15 h => ?_)
        refine m_l2i C (dOf DX9_tell 50 rfl) h (fun v16 h => ?_)
        refine m_i2b C (dOf DX9_tell 51 rfl) h (fun v17 h => ?_)
        refine m_sB C (dOf DX9_tell 52 rfl) h (fun S18 h => ?_)
        refine m_aload_n C (dOf DX9_tell 53 rfl) rfl 0 rfl ?_
        refine m_gR C (dOf DX9_tell 54 rfl) kf_X9_7 fg_9_1 h (fun a19 h => ?_)
        refine m_sipush C (dOf DX9_tell 55 rfl) (v := 985) ks_985 ?_
        refine m_dup2 C (dOf DX9_tell 56 rfl) rfl rfl ?_
        refine m_aI C (dOf DX9_tell 57 rfl) h (fun v20 h => ?_)
        refine m_iconst C (dOf DX9_tell 58 rfl) (v := 1) ki_1 ?_
        refine m_iadd C (dOf DX9_tell 59 rfl) h (fun v21 h => ?_)
        refine m_sI C (dOf DX9_tell 60 rfl) h (fun S22 h => ?_)
        refine m_iinc C (dOf DX9_tell 61 rfl) (w := 1) ki_1 3 rfl (by decide) h (fun v23 h => ⟨[(4, .int v23), (0, .ref (G.1 + b0)), (1, .long q1), (3, .int x2)], rfl, ?_⟩)
        refine m_goto C (dOf DX9_tell 62 rfl) (tgt := 58) rfl ?_
        exact m_sub [1, 2, 3, 0] rfl (hself7 _ h)
    · refine m_iconst C (dOf DX9_tell 30 rfl) (v := (-1)) ki_m1 ?_
      exact m_iret C rfl (dOf DX9_tell 31 rfl) h
  refine m_icmpge C (dOf DX9_tell 7 rfl) (tgt := 37) rfl h (fun h => ?_) (fun h => ?_)
  · exact m_sub [0, 1, 2] rfl (hj3 _ h)
  · refine m_lload_n C (dOf DX9_tell 8 rfl) rfl 1 rfl ?_
    refine m_bipush C (dOf DX9_tell 9 rfl) (v := 56) kb_56 ?_
    refine m_bipush C (dOf DX9_tell 10 rfl) (v := 8) kb_8 ?_
    refine m_iload_n C (dOf DX9_tell 11 rfl) rfl 2 rfl ?_
    refine m_imul C (dOf DX9_tell 12 rfl) h (fun v24 h => ?_)
    refine m_isub C (dOf DX9_tell 13 rfl) h (fun v25 h => ?_)
    refine m_lshr C (dOf DX9_tell 14 rfl) h (fun v26 h => ?_)
    refine m_ldc2 C (dOf DX9_tell 15 rfl) kc_X9_54 ?_
    refine m_land C (dOf DX9_tell 16 rfl) h (fun v27 h => ?_)
    refine m_lconst C (dOf DX9_tell 17 rfl) (v := 0) (by decide) ?_
    refine m_lcmp C (dOf DX9_tell 18 rfl) h (fun v28 h => ?_)
    refine m_ifeq C (dOf DX9_tell 19 rfl) (tgt := 37) rfl h (fun h => ?_) (fun h => ?_)
    · exact m_sub [0, 1, 2] rfl (hj3 _ h)
    · refine m_iinc C (dOf DX9_tell 20 rfl) (w := 1) ki_1 2 rfl (by decide) h (fun v29 h => ⟨[(3, .int v29), (0, .ref (G.1 + b0)), (1, .long q1)], rfl, ?_⟩)
      refine m_goto C (dOf DX9_tell 21 rfl) (tgt := 7) rfl ?_
      exact m_sub [1, 2, 0] rfl (hself2 _ h)
/-- TraceRingModel.see()I -/
def f_X9_see (S : St) (b0 : Nat) : Option Int32 :=
  gI_ S b0 9 4 fun v1 =>
  gI_ S b0 9 5 fun v2 =>
  jn_ (fun (x3 : Int32) =>
    rt_ x3
  ) fun j3 =>
  if v2 ≤ v1 then
    j3 ((-1))
  else
    gR_ S b0 9 2 fun a4 =>
    gI_ S b0 9 4 fun v5 =>
    aI_ S a4 10 v5 fun v6 =>
    lt_ (v6 &&& 255 : Int32) fun v7 =>
    j3 (v7)
set_option maxRecDepth 100000 in
set_option maxHeartbeats 4000000 in
theorem c_X9_see (l : Launch) (G : Gx) (S : St) (b0 : Nat) (o : Int32) (h : f_X9_see S b0 = some o) : Met l yX9_see (Cond.code yX9_see cX9_see 1 (some (.int)) :: wAll) ({ frames := 0, cells := 0, slots := 0, locals := 0 } : Room) (va_Pc [.ref (G.1 + b0)] (wPre G S)) (qI G (o, S)) 0 0 (wA G) := by
  refine m_start (by decide +kernel) (Nat.le_of_ble_eq_true rfl) (fun X C => ?_)
  unfold f_X9_see at h
  show WM X G 1 0 0 (wQ X G (qI G (o, S)) 0 0) 0 [(0, .ref (G.1 + b0))] [] S
  refine m_aload_n C (dOf DX9_see 0 rfl) rfl 0 rfl ?_
  refine m_gI C (dOf DX9_see 1 rfl) kf_X9_56 fg_9_4 h (fun v1 h => ?_)
  refine m_aload_n C (dOf DX9_see 2 rfl) rfl 0 rfl ?_
  refine m_gI C (dOf DX9_see 3 rfl) kf_X9_59 fg_9_5 h (fun v2 h => ?_)
  refine m_jn (J := fun (x3 : Int32) => WM X G 1 0 0 (wQ X G (qI G (o, S)) 0 0) 28 [] [.int x3] S) h (fun x3 h => ?_) (fun j3 hj3 h => ?_)
  · exact m_iretP C rfl (dOf DX9_see 14 rfl) h
  refine m_icmpge C (dOf DX9_see 4 rfl) (tgt := 27) rfl h (fun h => ?_) (fun h => ?_)
  · refine m_iconst C (dOf DX9_see 13 rfl) (v := (-1)) ki_m1 ?_
    exact m_sub [] rfl (hj3 _ h)
  · refine m_aload_n C (dOf DX9_see 5 rfl) rfl 0 rfl ?_
    refine m_gR C (dOf DX9_see 6 rfl) kf_X9_13 fg_9_2 h (fun a4 h => ?_)
    refine m_aload_n C (dOf DX9_see 7 rfl) rfl 0 rfl ?_
    refine m_gI C (dOf DX9_see 8 rfl) kf_X9_56 fg_9_4 h (fun v5 h => ?_)
    refine m_aB C (dOf DX9_see 9 rfl) h (fun v6 h => ?_)
    refine m_sipush C (dOf DX9_see 10 rfl) (v := 255) ks_255 ?_
    refine m_iand C (dOf DX9_see 11 rfl) h (fun v7 h => ?_)
    refine m_goto C (dOf DX9_see 12 rfl) (tgt := 28) rfl ?_
    exact m_sub [] rfl (hj3 _ h)
/-- TraceRingModel.token()V -/
def f_X9_token (S : St) (b0 : Nat) : Option St :=
  lp_ (fun self1 (x1 : St) =>
    ck_ x1 b0 9 <| cP_ (f_X9_see x1 b0) fun v2 =>
    jn_ (fun (x3 : Unit) =>
      gI_ x1 b0 9 4 fun v4 =>
      lt_ (v4 + 1 : Int32) fun v5 =>
      pI_ x1 b0 9 4 v5 fun S6 =>
      self1 (S6)
    ) fun j3 =>
    if v2 = 10 then
      j3 ()
    else
      ck_ x1 b0 9 <| cP_ (f_X9_see x1 b0) fun v7 =>
      if v7 = 32 then
        j3 ()
      else
        gI_ x1 b0 9 4 fun v8 =>
        pI_ x1 b0 9 6 v8 fun S9 =>
        ck_ S9 b0 9 <| cP_ (f_X9_see S9 b0) fun v10 =>
        pJ_ S9 b0 9 9 0 fun S11 =>
        jn_ (fun (x12 : St) =>
          rt_ x12
        ) fun j12 =>
        if 0 ≤ v10 then
          cP_ (f_X9_in S11 v10 97 122) fun v13 =>
          if v13 = 0 then
            cP_ (f_X9_in S11 v10 48 57) fun v14 =>
            if v14 = 0 then
              gI_ S11 b0 9 4 fun v15 =>
              lt_ (v15 + 1 : Int32) fun v16 =>
              pI_ S11 b0 9 4 v16 fun S17 =>
              jn_ (fun (x18 : Int32) =>
                pI_ S17 b0 9 7 x18 fun S19 =>
                j12 (S19)
              ) fun j18 =>
              if v10 = 59 then
                j18 (4)
              else
                j18 (1)
            else
              pI_ S11 b0 9 8 0 fun S20 =>
              lp_ (fun self21 (x21 : Int32 × St) =>
                ck_ x21.2 b0 9 <| cP_ (f_X9_see x21.2 b0) fun v22 =>
                cP_ (f_X9_in x21.2 v22 48 57) fun v23 =>
                if v23 = 0 then
                  jn_ (fun (x24 : Int32) =>
                    pI_ x21.2 b0 9 7 x24 fun S25 =>
                    j12 (S25)
                  ) fun j24 =>
                  if x21.1 ≤ 6 then
                    j24 (3)
                  else
                    j24 (1)
                else
                  jn_ (fun (x26 : Int32) =>
                    pI_ x21.2 b0 9 8 x26 fun S27 =>
                    gI_ S27 b0 9 4 fun v28 =>
                    lt_ (v28 + 1 : Int32) fun v29 =>
                    pI_ S27 b0 9 4 v29 fun S30 =>
                    lt_ (x21.1 + 1) fun v31 =>
                    self21 (v31, S30)
                  ) fun j26 =>
                  if 6 ≤ x21.1 then
                    gI_ x21.2 b0 9 8 fun v32 =>
                    j26 (v32)
                  else
                    gI_ x21.2 b0 9 8 fun v33 =>
                    lt_ (10 * v33 : Int32) fun v34 =>
                    ck_ x21.2 b0 9 <| cP_ (f_X9_see x21.2 b0) fun v35 =>
                    lt_ (v34 + v35 : Int32) fun v36 =>
                    lt_ (v36 - 48 : Int32) fun v37 =>
                    j26 (v37)
              ) FU (0, S20)
          else
            lp_ (fun self38 (x38 : Int32 × St) =>
              ck_ x38.2 b0 9 <| cP_ (f_X9_see x38.2 b0) fun v39 =>
              cP_ (f_X9_in x38.2 v39 97 122) fun v40 =>
              if v40 = 0 then
                jn_ (fun (x41 : Int64) =>
                  pJ_ x38.2 b0 9 9 x41 fun S42 =>
                  pI_ S42 b0 9 7 2 fun S43 =>
                  j12 (S43)
                ) fun j41 =>
                if x38.1 ≤ 8 then
                  gJ_ x38.2 b0 9 9 fun v44 =>
                  j41 (v44)
                else
                  j41 (0)
              else
                gJ_ x38.2 b0 9 9 fun v45 =>
                lt_ (v45 <<< (Int32.toInt64 8 &&& 63) : Int64) fun v46 =>
                ck_ x38.2 b0 9 <| cP_ (f_X9_see x38.2 b0) fun v47 =>
                lt_ (Int32.toInt64 v47) fun v48 =>
                lt_ (v46 ||| v48 : Int64) fun v49 =>
                pJ_ x38.2 b0 9 9 v49 fun S50 =>
                gI_ S50 b0 9 4 fun v51 =>
                lt_ (v51 + 1 : Int32) fun v52 =>
                pI_ S50 b0 9 4 v52 fun S53 =>
                lt_ (x38.1 + 1) fun v54 =>
                self38 (v54, S53)
            ) FU (0, S11)
        else
          pI_ S11 b0 9 7 0 fun S55 =>
          j12 (S55)
  ) FU (S)
set_option maxRecDepth 100000 in
set_option maxHeartbeats 4000000 in
theorem c_X9_token (l : Launch) (G : Gx) (S : St) (b0 : Nat) (o : St) (h : f_X9_token S b0 = some o) : Met l yX9_token (Cond.code yX9_token cX9_token 3 none :: wAll) ({ frames := 1, cells := 0, slots := 0, locals := 22 } : Room) (va_Pc [.ref (G.1 + b0)] (wPre G S)) (qV G o) 0 0 (wA G) := by
  refine m_start (by decide +kernel) (Nat.le_of_ble_eq_true rfl) (fun X C => ?_)
  unfold f_X9_token at h
  show WM X G 3 0 0 (wQ X G (qV G o) 0 0) 0 [(0, .ref (G.1 + b0))] [] S
  refine m_sub [0] rfl (m_lp (J := fun (x1 : St) => WM X G 3 0 0 (wQ X G (qV G o) 0 0) 0 [(0, .ref (G.1 + b0))] [] x1) h (fun self1 hself1 x1 h => ?_))
  refine m_aload_n C (dOf DX9_token 0 rfl) rfl 0 rfl ?_
  obtain ⟨hc, h⟩ := ck_spec h
  refine m_cP (st := []) h (fun o' ho H locs ls hl hr hs => ⟨_, m_runV C (dOf DX9_token 1 rfl) km_X9_62 ky_X9_see (by decide) ⟨rfl, rfl⟩ (c_X9_see _ G _ _ o' ho) hc.1 hc.2 (by decide) rfl rfl rfl (Nat.le_of_ble_eq_true rfl) ⟨Nat.le_refl _, Nat.le_refl _⟩ hl hr hs⟩) (fun v2 h => ?_)
  refine m_bipush C (dOf DX9_token 2 rfl) (v := 10) kb_10 ?_
  refine m_jn (J := fun (x3 : Unit) => WM X G 3 0 0 (wQ X G (qV G o) 0 0) 18 [(0, .ref (G.1 + b0))] [] x1) h (fun x3 h => ?_) (fun j3 hj3 h => ?_)
  · refine m_aload_n C (dOf DX9_token 8 rfl) rfl 0 rfl ?_
    refine m_dup C (dOf DX9_token 9 rfl) rfl ?_
    refine m_gI C (dOf DX9_token 10 rfl) kf_X9_56 fg_9_4 h (fun v4 h => ?_)
    refine m_iconst C (dOf DX9_token 11 rfl) (v := 1) ki_1 ?_
    refine m_iadd C (dOf DX9_token 12 rfl) h (fun v5 h => ?_)
    refine m_pI C (dOf DX9_token 13 rfl) kf_X9_56 fp_9_4 h (fun S6 h => ?_)
    refine m_goto C (dOf DX9_token 14 rfl) (tgt := 0) rfl ?_
    exact m_sub [0] rfl (hself1 _ h)
  refine m_icmpeq C (dOf DX9_token 3 rfl) (tgt := 18) rfl h (fun h => ?_) (fun h => ?_)
  · exact m_sub [0] rfl (hj3 _ h)
  · refine m_aload_n C (dOf DX9_token 4 rfl) rfl 0 rfl ?_
    obtain ⟨hc, h⟩ := ck_spec h
    refine m_cP (st := []) h (fun o' ho H locs ls hl hr hs => ⟨_, m_runV C (dOf DX9_token 5 rfl) km_X9_62 ky_X9_see (by decide) ⟨rfl, rfl⟩ (c_X9_see _ G _ _ o' ho) hc.1 hc.2 (by decide) rfl rfl rfl (Nat.le_of_ble_eq_true rfl) ⟨Nat.le_refl _, Nat.le_refl _⟩ hl hr hs⟩) (fun v7 h => ?_)
    refine m_bipush C (dOf DX9_token 6 rfl) (v := 32) kb_32 ?_
    refine m_icmpne C (dOf DX9_token 7 rfl) (tgt := 31) rfl h (fun h => ?_) (fun h => ?_)
    · refine m_aload_n C (dOf DX9_token 15 rfl) rfl 0 rfl ?_
      refine m_aload_n C (dOf DX9_token 16 rfl) rfl 0 rfl ?_
      refine m_gI C (dOf DX9_token 17 rfl) kf_X9_56 fg_9_4 h (fun v8 h => ?_)
      refine m_pI C (dOf DX9_token 18 rfl) kf_X9_66 fp_9_6 h (fun S9 h => ?_)
      refine m_aload_n C (dOf DX9_token 19 rfl) rfl 0 rfl ?_
      obtain ⟨hc, h⟩ := ck_spec h
      refine m_cP (st := []) h (fun o' ho H locs ls hl hr hs => ⟨_, m_runV C (dOf DX9_token 20 rfl) km_X9_62 ky_X9_see (by decide) ⟨rfl, rfl⟩ (c_X9_see _ G _ _ o' ho) hc.1 hc.2 (by decide) rfl rfl rfl (Nat.le_of_ble_eq_true rfl) ⟨Nat.le_refl _, Nat.le_refl _⟩ hl hr hs⟩) (fun v10 h => ?_)
      refine m_istore_n C (dOf DX9_token 21 rfl) rfl (by decide) (lv' := [(1, .int v10), (0, .ref (G.1 + b0))]) rfl ?_
      refine m_aload_n C (dOf DX9_token 22 rfl) rfl 1 rfl ?_
      refine m_lconst C (dOf DX9_token 23 rfl) (v := 0) (by decide) ?_
      refine m_pJ C (dOf DX9_token 24 rfl) kf_X9_69 fp_9_9 h (fun S11 h => ?_)
      refine m_iconst C (dOf DX9_token 25 rfl) (v := 0) ki_0 ?_
      refine m_istore_n C (dOf DX9_token 26 rfl) rfl (by decide) (lv' := [(2, .int 0), (1, .int v10), (0, .ref (G.1 + b0))]) rfl ?_
      refine m_iload_n C (dOf DX9_token 27 rfl) rfl 1 rfl ?_
      refine m_jn (J := fun (x12 : St) => WM X G 3 0 0 (wQ X G (qV G o) 0 0) 268 [] [] x12) h (fun x12 h => ?_) (fun j12 hj12 h => ?_)
      · exact m_vret C rfl (dOf DX9_token_1 17 rfl) h
      refine m_ifge C (dOf DX9_token 28 rfl) (tgt := 63) rfl h (fun h => ?_) (fun h => ?_)
      · refine m_iload_n C (dOf DX9_token 33 rfl) rfl 1 rfl ?_
        refine m_bipush C (dOf DX9_token 34 rfl) (v := 97) kb_97 ?_
        refine m_bipush C (dOf DX9_token 35 rfl) (v := 122) kb_122 ?_
        refine m_cP (st := []) h (fun o' ho H locs ls hl hr hs => ⟨_, m_runS C (dOf DX9_token 36 rfl) km_X9_76 ks_X9_in rfl (by decide) ⟨rfl, rfl⟩ (c_X9_in _ G _ _ _ _ o' ho) rfl rfl (Nat.le_of_ble_eq_true rfl) ⟨Nat.le_refl _, Nat.le_refl _⟩ hl hr hs⟩) (fun v13 h => ?_)
        refine m_ifeq C (dOf DX9_token 37 rfl) (tgt := 147) rfl h (fun h => ?_) (fun h => ?_)
        · refine m_iload_n C (dOf DX9_token 75 rfl) rfl 1 rfl ?_
          refine m_bipush C (dOf DX9_token 76 rfl) (v := 48) kb_48 ?_
          refine m_bipush C (dOf DX9_token 77 rfl) (v := 57) kb_57 ?_
          refine m_cP (st := []) h (fun o' ho H locs ls hl hr hs => ⟨_, m_runS C (dOf DX9_token 78 rfl) km_X9_76 ks_X9_in rfl (by decide) ⟨rfl, rfl⟩ (c_X9_in _ G _ _ _ _ o' ho) rfl rfl (Nat.le_of_ble_eq_true rfl) ⟨Nat.le_refl _, Nat.le_refl _⟩ hl hr hs⟩) (fun v14 h => ?_)
          refine m_ifeq C (dOf DX9_token 79 rfl) (tgt := 243) rfl h (fun h => ?_) (fun h => ?_)
          · refine m_aload_n C (dOf DX9_token_1 3 rfl) rfl 2 rfl ?_
            refine m_dup C (dOf DX9_token_1 4 rfl) rfl ?_
            refine m_gI C (dOf DX9_token_1 5 rfl) kf_X9_56 fg_9_4 h (fun v15 h => ?_)
            refine m_iconst C (dOf DX9_token_1 6 rfl) (v := 1) ki_1 ?_
            refine m_iadd C (dOf DX9_token_1 7 rfl) h (fun v16 h => ?_)
            refine m_pI C (dOf DX9_token_1 8 rfl) kf_X9_56 fp_9_4 h (fun S17 h => ?_)
            refine m_aload_n C (dOf DX9_token_1 9 rfl) rfl 2 rfl ?_
            refine m_iload_n C (dOf DX9_token_1 10 rfl) rfl 1 rfl ?_
            refine m_bipush C (dOf DX9_token_1 11 rfl) (v := 59) kb_59 ?_
            refine m_jn (J := fun (x18 : Int32) => WM X G 3 0 0 (wQ X G (qV G o) 0 0) 265 [] [.int x18, .ref (G.1 + b0)] S17) h (fun x18 h => ?_) (fun j18 hj18 h => ?_)
            · refine m_pI C (dOf DX9_token_1 16 rfl) kf_X9_73 fp_9_7 h (fun S19 h => ?_)
              exact m_sub [] rfl (hj12 _ h)
            refine m_icmpne C (dOf DX9_token_1 12 rfl) (tgt := 264) rfl h (fun h => ?_) (fun h => ?_)
            · refine m_iconst C (dOf DX9_token_1 15 rfl) (v := 1) ki_1 ?_
              exact m_sub [] rfl (hj18 _ h)
            · refine m_iconst C (dOf DX9_token_1 13 rfl) (v := 4) ki_4 ?_
              refine m_goto C (dOf DX9_token_1 14 rfl) (tgt := 265) rfl ?_
              exact m_sub [] rfl (hj18 _ h)
          · refine m_aload_n C (dOf DX9_token 80 rfl) rfl 2 rfl ?_
            refine m_iconst C (dOf DX9_token 81 rfl) (v := 0) ki_0 ?_
            refine m_pI C (dOf DX9_token 82 rfl) kf_X9_80 fp_9_8 h (fun S20 h => ?_)
            refine m_sub [2, 0] rfl (m_lp (J := fun (x21 : Int32 × St) => WM X G 3 0 0 (wQ X G (qV G o) 0 0) 163 [(0, .ref (G.1 + b0)), (2, .int x21.1)] [] x21.2) h (fun self21 hself21 x21 h => ?_))
            refine m_aload_n C (dOf DX9_token 83 rfl) rfl 0 rfl ?_
            obtain ⟨hc, h⟩ := ck_spec h
            refine m_cP (st := []) h (fun o' ho H locs ls hl hr hs => ⟨_, m_runV C (dOf DX9_token 84 rfl) km_X9_62 ky_X9_see (by decide) ⟨rfl, rfl⟩ (c_X9_see _ G _ _ o' ho) hc.1 hc.2 (by decide) rfl rfl rfl (Nat.le_of_ble_eq_true rfl) ⟨Nat.le_refl _, Nat.le_refl _⟩ hl hr hs⟩) (fun v22 h => ?_)
            refine m_bipush C (dOf DX9_token 85 rfl) (v := 48) kb_48 ?_
            refine m_bipush C (dOf DX9_token 86 rfl) (v := 57) kb_57 ?_
            refine m_cP (st := []) h (fun o' ho H locs ls hl hr hs => ⟨_, m_runS C (dOf DX9_token 87 rfl) km_X9_76 ks_X9_in rfl (by decide) ⟨rfl, rfl⟩ (c_X9_in _ G _ _ _ _ o' ho) rfl rfl (Nat.le_of_ble_eq_true rfl) ⟨Nat.le_refl _, Nat.le_refl _⟩ hl hr hs⟩) (fun v23 h => ?_)
            refine m_ifeq C (dOf DX9_token 88 rfl) (tgt := 225) rfl h (fun h => ?_) (fun h => ?_)
            · refine m_aload_n C (dOf DX9_token 114 rfl) rfl 0 rfl ?_
              refine m_iload_n C (dOf DX9_token 115 rfl) rfl 1 rfl ?_
              refine m_bipush C (dOf DX9_token 116 rfl) (v := 6) kb_6 ?_
              refine m_jn (J := fun (x24 : Int32) => WM X G 3 0 0 (wQ X G (qV G o) 0 0) 237 [] [.int x24, .ref (G.1 + b0)] x21.2) h (fun x24 h => ?_) (fun j24 hj24 h => ?_)
              · refine m_pI C (dOf DX9_token_1 1 rfl) kf_X9_73 fp_9_7 h (fun S25 h => ?_)
                refine m_goto C (dOf DX9_token_1 2 rfl) (tgt := 268) rfl ?_
                exact m_sub [] rfl (hj12 _ h)
              refine m_icmple C (dOf DX9_token 117 rfl) (tgt := 236) rfl h (fun h => ?_) (fun h => ?_)
              · refine m_iconst C (dOf DX9_token_1 0 rfl) (v := 3) ki_3 ?_
                exact m_sub [] rfl (hj24 _ h)
              · refine m_iconst C (dOf DX9_token 118 rfl) (v := 1) ki_1 ?_
                refine m_goto C (dOf DX9_token 119 rfl) (tgt := 237) rfl ?_
                exact m_sub [] rfl (hj24 _ h)
            · refine m_aload_n C (dOf DX9_token 89 rfl) rfl 0 rfl ?_
              refine m_iload_n C (dOf DX9_token 90 rfl) rfl 1 rfl ?_
              refine m_bipush C (dOf DX9_token 91 rfl) (v := 6) kb_6 ?_
              refine m_jn (J := fun (x26 : Int32) => WM X G 3 0 0 (wQ X G (qV G o) 0 0) 206 [(0, .ref (G.1 + b0)), (2, .int x21.1)] [.int x26, .ref (G.1 + b0)] x21.2) h (fun x26 h => ?_) (fun j26 hj26 h => ?_)
              · refine m_pI C (dOf DX9_token 105 rfl) kf_X9_80 fp_9_8 h (fun S27 h => ?_)
                refine m_aload_n C (dOf DX9_token 106 rfl) rfl 0 rfl ?_
                refine m_dup C (dOf DX9_token 107 rfl) rfl ?_
                refine m_gI C (dOf DX9_token 108 rfl) kf_X9_56 fg_9_4 h (fun v28 h => ?_)
                refine m_iconst C (dOf DX9_token 109 rfl) (v := 1) ki_1 ?_
                refine m_iadd C (dOf DX9_token 110 rfl) h (fun v29 h => ?_)
                refine m_pI C (dOf DX9_token 111 rfl) kf_X9_56 fp_9_4 h (fun S30 h => ?_)
                refine m_iinc C (dOf DX9_token 112 rfl) (w := 1) ki_1 1 rfl (by decide) h (fun v31 h => ⟨[(2, .int v31), (0, .ref (G.1 + b0))], rfl, ?_⟩)
                refine m_goto C (dOf DX9_token 113 rfl) (tgt := 163) rfl ?_
                exact m_sub [1, 0] rfl (hself21 _ h)
              refine m_icmpge C (dOf DX9_token 92 rfl) (tgt := 202) rfl h (fun h => ?_) (fun h => ?_)
              · refine m_aload_n C (dOf DX9_token 103 rfl) rfl 0 rfl ?_
                refine m_gI C (dOf DX9_token 104 rfl) kf_X9_80 fg_9_8 h (fun v32 h => ?_)
                exact m_sub [0, 1] rfl (hj26 _ h)
              · refine m_bipush C (dOf DX9_token 93 rfl) (v := 10) kb_10 ?_
                refine m_aload_n C (dOf DX9_token 94 rfl) rfl 0 rfl ?_
                refine m_gI C (dOf DX9_token 95 rfl) kf_X9_80 fg_9_8 h (fun v33 h => ?_)
                refine m_imul C (dOf DX9_token 96 rfl) h (fun v34 h => ?_)
                refine m_aload_n C (dOf DX9_token 97 rfl) rfl 0 rfl ?_
                obtain ⟨hc, h⟩ := ck_spec h
                refine m_cP (st := [.int v34, .ref (G.1 + b0)]) h (fun o' ho H locs ls hl hr hs => ⟨_, m_runV C (dOf DX9_token 98 rfl) km_X9_62 ky_X9_see (by decide) ⟨rfl, rfl⟩ (c_X9_see _ G _ _ o' ho) hc.1 hc.2 (by decide) rfl rfl rfl (Nat.le_of_ble_eq_true rfl) ⟨Nat.le_refl _, Nat.le_refl _⟩ hl hr hs⟩) (fun v35 h => ?_)
                refine m_iadd C (dOf DX9_token 99 rfl) h (fun v36 h => ?_)
                refine m_bipush C (dOf DX9_token 100 rfl) (v := 48) kb_48 ?_
                refine m_isub C (dOf DX9_token 101 rfl) h (fun v37 h => ?_)
                refine m_goto C (dOf DX9_token 102 rfl) (tgt := 206) rfl ?_
                exact m_sub [0, 1] rfl (hj26 _ h)
        · refine m_sub [2, 0] rfl (m_lp (J := fun (x38 : Int32 × St) => WM X G 3 0 0 (wQ X G (qV G o) 0 0) 74 [(0, .ref (G.1 + b0)), (2, .int x38.1)] [] x38.2) h (fun self38 hself38 x38 h => ?_))
          refine m_aload_n C (dOf DX9_token 38 rfl) rfl 0 rfl ?_
          obtain ⟨hc, h⟩ := ck_spec h
          refine m_cP (st := []) h (fun o' ho H locs ls hl hr hs => ⟨_, m_runV C (dOf DX9_token 39 rfl) km_X9_62 ky_X9_see (by decide) ⟨rfl, rfl⟩ (c_X9_see _ G _ _ o' ho) hc.1 hc.2 (by decide) rfl rfl rfl (Nat.le_of_ble_eq_true rfl) ⟨Nat.le_refl _, Nat.le_refl _⟩ hl hr hs⟩) (fun v39 h => ?_)
          refine m_bipush C (dOf DX9_token 40 rfl) (v := 97) kb_97 ?_
          refine m_bipush C (dOf DX9_token 41 rfl) (v := 122) kb_122 ?_
          refine m_cP (st := []) h (fun o' ho H locs ls hl hr hs => ⟨_, m_runS C (dOf DX9_token 42 rfl) km_X9_76 ks_X9_in rfl (by decide) ⟨rfl, rfl⟩ (c_X9_in _ G _ _ _ _ o' ho) rfl rfl (Nat.le_of_ble_eq_true rfl) ⟨Nat.le_refl _, Nat.le_refl _⟩ hl hr hs⟩) (fun v40 h => ?_)
          refine m_ifeq C (dOf DX9_token 43 rfl) (tgt := 121) rfl h (fun h => ?_) (fun h => ?_)
          · refine m_aload_n C (dOf DX9_token 62 rfl) rfl 0 rfl ?_
            refine m_iload_n C (dOf DX9_token 63 rfl) rfl 1 rfl ?_
            refine m_bipush C (dOf DX9_token 64 rfl) (v := 8) kb_8 ?_
            refine m_jn (J := fun (x41 : Int64) => WM X G 3 0 0 (wQ X G (qV G o) 0 0) 136 [(0, .ref (G.1 + b0))] [.long x41, .ref (G.1 + b0)] x38.2) h (fun x41 h => ?_) (fun j41 hj41 h => ?_)
            · refine m_pJ C (dOf DX9_token 70 rfl) kf_X9_69 fp_9_9 h (fun S42 h => ?_)
              refine m_aload_n C (dOf DX9_token 71 rfl) rfl 0 rfl ?_
              refine m_iconst C (dOf DX9_token 72 rfl) (v := 2) ki_2 ?_
              refine m_pI C (dOf DX9_token 73 rfl) kf_X9_73 fp_9_7 h (fun S43 h => ?_)
              refine m_goto C (dOf DX9_token 74 rfl) (tgt := 268) rfl ?_
              exact m_sub [] rfl (hj12 _ h)
            refine m_icmple C (dOf DX9_token 65 rfl) (tgt := 132) rfl h (fun h => ?_) (fun h => ?_)
            · refine m_aload_n C (dOf DX9_token 68 rfl) rfl 0 rfl ?_
              refine m_gJ C (dOf DX9_token 69 rfl) kf_X9_69 fg_9_9 h (fun v44 h => ?_)
              exact m_sub [0] rfl (hj41 _ h)
            · refine m_lconst C (dOf DX9_token 66 rfl) (v := 0) (by decide) ?_
              refine m_goto C (dOf DX9_token 67 rfl) (tgt := 136) rfl ?_
              exact m_sub [0] rfl (hj41 _ h)
          · refine m_aload_n C (dOf DX9_token 44 rfl) rfl 0 rfl ?_
            refine m_aload_n C (dOf DX9_token 45 rfl) rfl 0 rfl ?_
            refine m_gJ C (dOf DX9_token 46 rfl) kf_X9_69 fg_9_9 h (fun v45 h => ?_)
            refine m_bipush C (dOf DX9_token 47 rfl) (v := 8) kb_8 ?_
            refine m_lshl C (dOf DX9_token 48 rfl) h (fun v46 h => ?_)
            refine m_aload_n C (dOf DX9_token 49 rfl) rfl 0 rfl ?_
            obtain ⟨hc, h⟩ := ck_spec h
            refine m_cP (st := [.long v46, .ref (G.1 + b0)]) h (fun o' ho H locs ls hl hr hs => ⟨_, m_runV C (dOf DX9_token 50 rfl) km_X9_62 ky_X9_see (by decide) ⟨rfl, rfl⟩ (c_X9_see _ G _ _ o' ho) hc.1 hc.2 (by decide) rfl rfl rfl (Nat.le_of_ble_eq_true rfl) ⟨Nat.le_refl _, Nat.le_refl _⟩ hl hr hs⟩) (fun v47 h => ?_)
            refine m_i2l C (dOf DX9_token 51 rfl) h (fun v48 h => ?_)
            refine m_lor C (dOf DX9_token 52 rfl) h (fun v49 h => ?_)
            refine m_pJ C (dOf DX9_token 53 rfl) kf_X9_69 fp_9_9 h (fun S50 h => ?_)
            refine m_aload_n C (dOf DX9_token 54 rfl) rfl 0 rfl ?_
            refine m_dup C (dOf DX9_token 55 rfl) rfl ?_
            refine m_gI C (dOf DX9_token 56 rfl) kf_X9_56 fg_9_4 h (fun v51 h => ?_)
            refine m_iconst C (dOf DX9_token 57 rfl) (v := 1) ki_1 ?_
            refine m_iadd C (dOf DX9_token 58 rfl) h (fun v52 h => ?_)
            refine m_pI C (dOf DX9_token 59 rfl) kf_X9_56 fp_9_4 h (fun S53 h => ?_)
            refine m_iinc C (dOf DX9_token 60 rfl) (w := 1) ki_1 1 rfl (by decide) h (fun v54 h => ⟨[(2, .int v54), (0, .ref (G.1 + b0))], rfl, ?_⟩)
            refine m_goto C (dOf DX9_token 61 rfl) (tgt := 74) rfl ?_
            exact m_sub [1, 0] rfl (hself38 _ h)
      · refine m_aload_n C (dOf DX9_token 29 rfl) rfl 2 rfl ?_
        refine m_iconst C (dOf DX9_token 30 rfl) (v := 0) ki_0 ?_
        refine m_pI C (dOf DX9_token 31 rfl) kf_X9_73 fp_9_7 h (fun S55 h => ?_)
        refine m_goto C (dOf DX9_token 32 rfl) (tgt := 268) rfl ?_
        exact m_sub [] rfl (hj12 _ h)
    · exact m_sub [0] rfl (hj3 _ h)
/-- TraceRingModel.fails()Z -/
def f_X9_fails (S : St) (b0 : Nat) : Option (Int32 × St) :=
  gI_ S b0 9 6 fun v1 =>
  pI_ S b0 9 10 v1 fun S2 =>
  rz_ 0 S2
set_option maxRecDepth 100000 in
set_option maxHeartbeats 4000000 in
theorem c_X9_fails (l : Launch) (G : Gx) (S : St) (b0 : Nat) (o : (Int32 × St)) (h : f_X9_fails S b0 = some o) : Met l yX9_fails (Cond.code yX9_fails cX9_fails 1 (some (.boolean)) :: wAll) ({ frames := 0, cells := 0, slots := 0, locals := 0 } : Room) (va_Pc [.ref (G.1 + b0)] (wPre G S)) (qI G o) 0 0 (wA G) := by
  refine m_start (by decide +kernel) (Nat.le_of_ble_eq_true rfl) (fun X C => ?_)
  unfold f_X9_fails at h
  show WM X G 1 0 0 (wQ X G (qI G o) 0 0) 0 [(0, .ref (G.1 + b0))] [] S
  refine m_aload_n C (dOf DX9_fails 0 rfl) rfl 0 rfl ?_
  refine m_aload_n C (dOf DX9_fails 1 rfl) rfl 0 rfl ?_
  refine m_gI C (dOf DX9_fails 2 rfl) kf_X9_66 fg_9_6 h (fun v1 h => ?_)
  refine m_pI C (dOf DX9_fails 3 rfl) kf_X9_83 fp_9_10 h (fun S2 h => ?_)
  refine m_iconst C (dOf DX9_fails 4 rfl) (v := 0) ki_0 ?_
  exact m_zret C rfl (dOf DX9_fails 5 rfl) h
/-- TraceRingModel.takes(III)Z -/
def f_X9_takes (S : St) (b0 : Nat) (p1 : Int32) (p2 : Int32) (p3 : Int32) : Option (Int32 × St) :=
  gI_ S b0 9 7 fun v1 =>
  if v1 = 3 then
    gR_ S b0 9 12 fun a2 =>
    gI_ S b0 9 8 fun v3 =>
    sI_ S a2 p1 v3 fun S4 =>
    gI_ S4 b0 9 11 fun v5 =>
    jn_ (fun (x6 : Int32) =>
      pI_ S4 b0 9 11 x6 fun S7 =>
      ck_ S7 b0 9 <| cV_ (f_X9_token S7 b0) fun S8 =>
      rz_ 1 S8
    ) fun j6 =>
    jn_ (fun (x9 : Unit) =>
      gI_ S4 b0 9 11 fun v10 =>
      j6 (v10)
    ) fun j9 =>
    if v5 = (-1) then
      gI_ S4 b0 9 8 fun v11 =>
      cP_ (f_X9_in S4 v11 p2 p3) fun v12 =>
      if v12 = 0 then
        gI_ S4 b0 9 6 fun v13 =>
        j6 (v13)
      else
        j9 ()
    else
      j9 ()
  else
    ck_ S b0 9 <| cI_ (f_X9_fails S b0) fun v15 S14 =>
    rz_ v15 S14
set_option maxRecDepth 100000 in
set_option maxHeartbeats 4000000 in
theorem c_X9_takes (l : Launch) (G : Gx) (S : St) (b0 : Nat) (p1 : Int32) (p2 : Int32) (p3 : Int32) (o : (Int32 × St)) (h : f_X9_takes S b0 p1 p2 p3 = some o) : Met l yX9_takes (Cond.code yX9_takes cX9_takes 4 (some (.boolean)) :: wAll) ({ frames := 2, cells := 0, slots := 0, locals := 44 } : Room) (va_Pc [.ref (G.1 + b0), .int p1, .int p2, .int p3] (wPre G S)) (qI G o) 0 0 (wA G) := by
  refine m_start (by decide +kernel) (Nat.le_of_ble_eq_true rfl) (fun X C => ?_)
  unfold f_X9_takes at h
  show WM X G 4 0 0 (wQ X G (qI G o) 0 0) 0 [(0, .ref (G.1 + b0)), (1, .int p1), (2, .int p2), (3, .int p3)] [] S
  refine m_aload_n C (dOf DX9_takes 0 rfl) rfl 0 rfl ?_
  refine m_gI C (dOf DX9_takes 1 rfl) kf_X9_73 fg_9_7 h (fun v1 h => ?_)
  refine m_iconst C (dOf DX9_takes 2 rfl) (v := 3) ki_3 ?_
  refine m_icmpeq C (dOf DX9_takes 3 rfl) (tgt := 13) rfl h (fun h => ?_) (fun h => ?_)
  · refine m_aload_n C (dOf DX9_takes 7 rfl) rfl 0 rfl ?_
    refine m_gR C (dOf DX9_takes 8 rfl) kf_X9_21 fg_9_12 h (fun a2 h => ?_)
    refine m_iload_n C (dOf DX9_takes 9 rfl) rfl 1 rfl ?_
    refine m_aload_n C (dOf DX9_takes 10 rfl) rfl 0 rfl ?_
    refine m_gI C (dOf DX9_takes 11 rfl) kf_X9_80 fg_9_8 h (fun v3 h => ?_)
    refine m_sI C (dOf DX9_takes 12 rfl) h (fun S4 h => ?_)
    refine m_aload_n C (dOf DX9_takes 13 rfl) rfl 0 rfl ?_
    refine m_aload_n C (dOf DX9_takes 14 rfl) rfl 0 rfl ?_
    refine m_gI C (dOf DX9_takes 15 rfl) kf_X9_90 fg_9_11 h (fun v5 h => ?_)
    refine m_iconst C (dOf DX9_takes 16 rfl) (v := (-1)) ki_m1 ?_
    refine m_jn (J := fun (x6 : Int32) => WM X G 4 0 0 (wQ X G (qI G o) 0 0) 55 [(0, .ref (G.1 + b0))] [.int x6, .ref (G.1 + b0)] S4) h (fun x6 h => ?_) (fun j6 hj6 h => ?_)
    · refine m_pI C (dOf DX9_takes 29 rfl) kf_X9_90 fp_9_11 h (fun S7 h => ?_)
      refine m_aload_n C (dOf DX9_takes 30 rfl) rfl 0 rfl ?_
      obtain ⟨hc, h⟩ := ck_spec h
      refine m_cV (st := []) h (fun o' ho H locs ls hl hr hs => ⟨_, m_runV C (dOf DX9_takes 31 rfl) km_X9_93 ky_X9_token (by decide) ⟨rfl, rfl⟩ (c_X9_token _ G _ _ o' ho) hc.1 hc.2 (by decide) rfl rfl rfl (Nat.le_of_ble_eq_true rfl) ⟨Nat.le_refl _, Nat.le_refl _⟩ hl hr hs⟩) (fun S8 h => ?_)
      refine m_iconst C (dOf DX9_takes 32 rfl) (v := 1) ki_1 ?_
      exact m_zret C rfl (dOf DX9_takes 33 rfl) h
    refine m_jn (J := fun (x9 : Unit) => WM X G 4 0 0 (wQ X G (qI G o) 0 0) 51 [(0, .ref (G.1 + b0))] [.ref (G.1 + b0)] S4) h (fun x9 h => ?_) (fun j9 hj9 h => ?_)
    · refine m_aload_n C (dOf DX9_takes 27 rfl) rfl 0 rfl ?_
      refine m_gI C (dOf DX9_takes 28 rfl) kf_X9_90 fg_9_11 h (fun v10 h => ?_)
      exact m_sub [0] rfl (hj6 _ h)
    refine m_icmpne C (dOf DX9_takes 17 rfl) (tgt := 51) rfl h (fun h => ?_) (fun h => ?_)
    · exact m_sub [0] rfl (hj9 _ h)
    · refine m_aload_n C (dOf DX9_takes 18 rfl) rfl 0 rfl ?_
      refine m_gI C (dOf DX9_takes 19 rfl) kf_X9_80 fg_9_8 h (fun v11 h => ?_)
      refine m_iload_n C (dOf DX9_takes 20 rfl) rfl 2 rfl ?_
      refine m_iload_n C (dOf DX9_takes 21 rfl) rfl 3 rfl ?_
      refine m_cP (st := [.ref (G.1 + b0)]) h (fun o' ho H locs ls hl hr hs => ⟨_, m_runS C (dOf DX9_takes 22 rfl) km_X9_76 ks_X9_in rfl (by decide) ⟨rfl, rfl⟩ (c_X9_in _ G _ _ _ _ o' ho) rfl rfl (Nat.le_of_ble_eq_true rfl) ⟨Nat.le_refl _, Nat.le_refl _⟩ hl hr hs⟩) (fun v12 h => ?_)
      refine m_ifne C (dOf DX9_takes 23 rfl) (tgt := 51) rfl h (fun h => ?_) (fun h => ?_)
      · exact m_sub [0] rfl (hj9 _ h)
      · refine m_aload_n C (dOf DX9_takes 24 rfl) rfl 0 rfl ?_
        refine m_gI C (dOf DX9_takes 25 rfl) kf_X9_66 fg_9_6 h (fun v13 h => ?_)
        refine m_goto C (dOf DX9_takes 26 rfl) (tgt := 55) rfl ?_
        exact m_sub [0] rfl (hj6 _ h)
  · refine m_aload_n C (dOf DX9_takes 4 rfl) rfl 0 rfl ?_
    obtain ⟨hc, h⟩ := ck_spec h
    refine m_cI (st := []) h (fun o' ho H locs ls hl hr hs => ⟨_, m_runV C (dOf DX9_takes 5 rfl) km_X9_86 ky_X9_fails (by decide) ⟨rfl, rfl⟩ (c_X9_fails _ G _ _ o' ho) hc.1 hc.2 (by decide) rfl rfl rfl (Nat.le_of_ble_eq_true rfl) ⟨Nat.le_refl _, Nat.le_refl _⟩ hl hr hs⟩) (fun v15 S14 h => ?_)
    exact m_zret C rfl (dOf DX9_takes 6 rfl) h
/-- TraceRingModel.atFirst()V -/
def f_X9_atFirst (S : St) (b0 : Nat) : Option St :=
  pI_ S b0 9 13 3 fun S1 =>
  pI_ S1 b0 9 14 16 fun S2 =>
  pI_ S2 b0 9 15 1 fun S3 =>
  rt_ S3
set_option maxRecDepth 100000 in
set_option maxHeartbeats 4000000 in
theorem c_X9_atFirst (l : Launch) (G : Gx) (S : St) (b0 : Nat) (o : St) (h : f_X9_atFirst S b0 = some o) : Met l yX9_atFirst (Cond.code yX9_atFirst cX9_atFirst 1 none :: wAll) ({ frames := 0, cells := 0, slots := 0, locals := 0 } : Room) (va_Pc [.ref (G.1 + b0)] (wPre G S)) (qV G o) 0 0 (wA G) := by
  refine m_start (by decide +kernel) (Nat.le_of_ble_eq_true rfl) (fun X C => ?_)
  unfold f_X9_atFirst at h
  show WM X G 1 0 0 (wQ X G (qV G o) 0 0) 0 [(0, .ref (G.1 + b0))] [] S
  refine m_aload_n C (dOf DX9_atFirst 0 rfl) rfl 0 rfl ?_
  refine m_iconst C (dOf DX9_atFirst 1 rfl) (v := 3) ki_3 ?_
  refine m_pI C (dOf DX9_atFirst 2 rfl) kf_X9_37 fp_9_13 h (fun S1 h => ?_)
  refine m_aload_n C (dOf DX9_atFirst 3 rfl) rfl 0 rfl ?_
  refine m_bipush C (dOf DX9_atFirst 4 rfl) (v := 16) kb_16 ?_
  refine m_pI C (dOf DX9_atFirst 5 rfl) kf_X9_41 fp_9_14 h (fun S2 h => ?_)
  refine m_aload_n C (dOf DX9_atFirst 6 rfl) rfl 0 rfl ?_
  refine m_iconst C (dOf DX9_atFirst 7 rfl) (v := 1) ki_1 ?_
  refine m_pI C (dOf DX9_atFirst 8 rfl) kf_X9_44 fp_9_15 h (fun S3 h => ?_)
  exact m_vret C rfl (dOf DX9_atFirst 9 rfl) h
/-- TraceRingModel.ringLine(J)Z -/
def f_X9_ringLine (S : St) (b0 : Nat) (q1 : Int64) : Option (Int32 × St) :=
  lt_ (lg_cmp q1 1870030194 : Int32) fun v1 =>
  jn_ (fun (x2 : Unit) =>
    lt_ (lg_cmp q1 1870030194 : Int32) fun v3 =>
    jn_ (fun (x4 : Int32) =>
      pI_ S b0 9 15 x4 fun S5 =>
      ck_ S5 b0 9 <| cV_ (f_X9_token S5 b0) fun S6 =>
      rz_ 1 S6
    ) fun j4 =>
    if v3 = 0 then
      j4 (1)
    else
      j4 (0)
  ) fun j2 =>
  if v1 = 0 then
    j2 ()
  else
    lt_ (lg_cmp q1 125779836236645 : Int32) fun v7 =>
    if v7 = 0 then
      j2 ()
    else
      lt_ (lg_cmp q1 482670503283 : Int32) fun v8 =>
      jn_ (fun (x9 : Unit) =>
        ck_ S b0 9 <| cV_ (f_X9_token S b0) fun S10 =>
        lt_ (lg_cmp q1 482670503283 : Int32) fun v11 =>
        jn_ (fun (x12 : Int32 × St) =>
          lt_ (lg_cmp q1 482670503283 : Int32) fun v13 =>
          jn_ (fun (x14 : Int32) =>
            pI_ x12.2 b0 9 13 x14 fun S15 =>
            lt_ (lg_cmp q1 426903366771 : Int32) fun v16 =>
            jn_ (fun (x17 : Int32) =>
              pI_ S15 b0 9 14 x17 fun S18 =>
              rz_ x12.1 S18
            ) fun j17 =>
            if v16 = 0 then
              gR_ S15 b0 9 12 fun a20 =>
              aI_ S15 a20 11 0 fun v21 =>
              j17 (v21)
            else
              gI_ S15 b0 9 14 fun v19 =>
              j17 (v19)
          ) fun j14 =>
          if v13 = 0 then
            gR_ x12.2 b0 9 12 fun a23 =>
            aI_ x12.2 a23 11 0 fun v24 =>
            j14 (v24)
          else
            gI_ x12.2 b0 9 13 fun v22 =>
            j14 (v22)
        ) fun j12 =>
        if v11 = 0 then
          ck_ S10 b0 9 <| cI_ (f_X9_takes S10 b0 0 2 6) fun v28 S27 =>
          j12 (v28, S27)
        else
          ck_ S10 b0 9 <| cI_ (f_X9_takes S10 b0 0 12 32) fun v26 S25 =>
          j12 (v26, S25)
      ) fun j9 =>
      if v8 = 0 then
        j9 ()
      else
        lt_ (lg_cmp q1 426903366771 : Int32) fun v29 =>
        if v29 = 0 then
          j9 ()
        else
          ck_ S b0 9 <| cI_ (f_X9_fails S b0) fun v31 S30 =>
          rz_ v31 S30
set_option maxRecDepth 100000 in
set_option maxHeartbeats 4000000 in
theorem c_X9_ringLine (l : Launch) (G : Gx) (S : St) (b0 : Nat) (q1 : Int64) (o : (Int32 × St)) (h : f_X9_ringLine S b0 q1 = some o) : Met l yX9_ringLine (Cond.code yX9_ringLine cX9_ringLine 4 (some (.boolean)) :: wAll) ({ frames := 3, cells := 0, slots := 0, locals := 67 } : Room) (va_Pc [.ref (G.1 + b0), .long q1] (wPre G S)) (qI G o) 0 0 (wA G) := by
  refine m_start (by decide +kernel) (Nat.le_of_ble_eq_true rfl) (fun X C => ?_)
  unfold f_X9_ringLine at h
  show WM X G 4 0 0 (wQ X G (qI G o) 0 0) 0 [(0, .ref (G.1 + b0)), (1, .long q1)] [] S
  refine m_lload_n C (dOf DX9_ringLine 0 rfl) rfl 1 rfl ?_
  refine m_ldc2 C (dOf DX9_ringLine 1 rfl) kc_X9_96 ?_
  refine m_lcmp C (dOf DX9_ringLine 2 rfl) h (fun v1 h => ?_)
  refine m_jn (J := fun (x2 : Unit) => WM X G 4 0 0 (wQ X G (qI G o) 0 0) 16 [(0, .ref (G.1 + b0)), (1, .long q1)] [] S) h (fun x2 h => ?_) (fun j2 hj2 h => ?_)
  · refine m_aload_n C (dOf DX9_ringLine 8 rfl) rfl 0 rfl ?_
    refine m_lload_n C (dOf DX9_ringLine 9 rfl) rfl 1 rfl ?_
    refine m_ldc2 C (dOf DX9_ringLine 10 rfl) kc_X9_96 ?_
    refine m_lcmp C (dOf DX9_ringLine 11 rfl) h (fun v3 h => ?_)
    refine m_jn (J := fun (x4 : Int32) => WM X G 4 0 0 (wQ X G (qI G o) 0 0) 30 [(0, .ref (G.1 + b0))] [.int x4, .ref (G.1 + b0)] S) h (fun x4 h => ?_) (fun j4 hj4 h => ?_)
    · refine m_pI C (dOf DX9_ringLine 16 rfl) kf_X9_44 fp_9_15 h (fun S5 h => ?_)
      refine m_aload_n C (dOf DX9_ringLine 17 rfl) rfl 0 rfl ?_
      obtain ⟨hc, h⟩ := ck_spec h
      refine m_cV (st := []) h (fun o' ho H locs ls hl hr hs => ⟨_, m_runV C (dOf DX9_ringLine 18 rfl) km_X9_93 ky_X9_token (by decide) ⟨rfl, rfl⟩ (c_X9_token _ G _ _ o' ho) hc.1 hc.2 (by decide) rfl rfl rfl (Nat.le_of_ble_eq_true rfl) ⟨Nat.le_refl _, Nat.le_refl _⟩ hl hr hs⟩) (fun S6 h => ?_)
      refine m_iconst C (dOf DX9_ringLine 19 rfl) (v := 1) ki_1 ?_
      exact m_zret C rfl (dOf DX9_ringLine 20 rfl) h
    refine m_ifne C (dOf DX9_ringLine 12 rfl) (tgt := 29) rfl h (fun h => ?_) (fun h => ?_)
    · refine m_iconst C (dOf DX9_ringLine 15 rfl) (v := 0) ki_0 ?_
      exact m_sub [0] rfl (hj4 _ h)
    · refine m_iconst C (dOf DX9_ringLine 13 rfl) (v := 1) ki_1 ?_
      refine m_goto C (dOf DX9_ringLine 14 rfl) (tgt := 30) rfl ?_
      exact m_sub [0] rfl (hj4 _ h)
  refine m_ifeq C (dOf DX9_ringLine 3 rfl) (tgt := 16) rfl h (fun h => ?_) (fun h => ?_)
  · exact m_sub [0, 1] rfl (hj2 _ h)
  · refine m_lload_n C (dOf DX9_ringLine 4 rfl) rfl 1 rfl ?_
    refine m_ldc2 C (dOf DX9_ringLine 5 rfl) kc_X9_98 ?_
    refine m_lcmp C (dOf DX9_ringLine 6 rfl) h (fun v7 h => ?_)
    refine m_ifne C (dOf DX9_ringLine 7 rfl) (tgt := 39) rfl h (fun h => ?_) (fun h => ?_)
    · refine m_lload_n C (dOf DX9_ringLine 21 rfl) rfl 1 rfl ?_
      refine m_ldc2 C (dOf DX9_ringLine 22 rfl) kc_X9_100 ?_
      refine m_lcmp C (dOf DX9_ringLine 23 rfl) h (fun v8 h => ?_)
      refine m_jn (J := fun (x9 : Unit) => WM X G 4 0 0 (wQ X G (qI G o) 0 0) 60 [(0, .ref (G.1 + b0)), (1, .long q1)] [] S) h (fun x9 h => ?_) (fun j9 hj9 h => ?_)
      · refine m_aload_n C (dOf DX9_ringLine 32 rfl) rfl 0 rfl ?_
        obtain ⟨hc, h⟩ := ck_spec h
        refine m_cV (st := []) h (fun o' ho H locs ls hl hr hs => ⟨_, m_runV C (dOf DX9_ringLine 33 rfl) km_X9_93 ky_X9_token (by decide) ⟨rfl, rfl⟩ (c_X9_token _ G _ _ o' ho) hc.1 hc.2 (by decide) rfl rfl rfl (Nat.le_of_ble_eq_true rfl) ⟨Nat.le_refl _, Nat.le_refl _⟩ hl hr hs⟩) (fun S10 h => ?_)
        refine m_lload_n C (dOf DX9_ringLine 34 rfl) rfl 1 rfl ?_
        refine m_ldc2 C (dOf DX9_ringLine 35 rfl) kc_X9_100 ?_
        refine m_lcmp C (dOf DX9_ringLine 36 rfl) h (fun v11 h => ?_)
        refine m_jn (J := fun (x12 : Int32 × St) => WM X G 4 0 0 (wQ X G (qI G o) 0 0) 92 [(0, .ref (G.1 + b0)), (1, .long q1)] [.int x12.1] x12.2) h (fun x12 h => ?_) (fun j12 hj12 h => ?_)
        · refine m_istore_n C (dOf DX9_ringLine 49 rfl) rfl (by decide) (lv' := [(3, .int x12.1), (0, .ref (G.1 + b0)), (1, .long q1)]) rfl ?_
          refine m_aload_n C (dOf DX9_ringLine 50 rfl) rfl 1 rfl ?_
          refine m_lload_n C (dOf DX9_ringLine 51 rfl) rfl 2 rfl ?_
          refine m_ldc2 C (dOf DX9_ringLine 52 rfl) kc_X9_100 ?_
          refine m_lcmp C (dOf DX9_ringLine 53 rfl) h (fun v13 h => ?_)
          refine m_jn (J := fun (x14 : Int32) => WM X G 4 0 0 (wQ X G (qI G o) 0 0) 115 [(0, .ref (G.1 + b0)), (1, .long q1), (3, .int x12.1)] [.int x14, .ref (G.1 + b0)] x12.2) h (fun x14 h => ?_) (fun j14 hj14 h => ?_)
          · refine m_pI C (dOf DX9_ringLine 62 rfl) kf_X9_37 fp_9_13 h (fun S15 h => ?_)
            refine m_aload_n C (dOf DX9_ringLine 63 rfl) rfl 0 rfl ?_
            refine m_lload_n C (dOf DX9_ringLine 64 rfl) rfl 1 rfl ?_
            refine m_ldc2 C (dOf DX9_ringLine 65 rfl) kc_X9_102 ?_
            refine m_lcmp C (dOf DX9_ringLine 66 rfl) h (fun v16 h => ?_)
            refine m_jn (J := fun (x17 : Int32) => WM X G 4 0 0 (wQ X G (qI G o) 0 0) 140 [(3, .int x12.1)] [.int x17, .ref (G.1 + b0)] S15) h (fun x17 h => ?_) (fun j17 hj17 h => ?_)
            · refine m_pI C (dOf DX9_ringLine 75 rfl) kf_X9_41 fp_9_14 h (fun S18 h => ?_)
              refine m_iload_n C (dOf DX9_ringLine 76 rfl) rfl 0 rfl ?_
              exact m_zret C rfl (dOf DX9_ringLine 77 rfl) h
            refine m_ifne C (dOf DX9_ringLine 67 rfl) (tgt := 136) rfl h (fun h => ?_) (fun h => ?_)
            · refine m_aload_n C (dOf DX9_ringLine 73 rfl) rfl 0 rfl ?_
              refine m_gI C (dOf DX9_ringLine 74 rfl) kf_X9_41 fg_9_14 h (fun v19 h => ?_)
              exact m_sub [2] rfl (hj17 _ h)
            · refine m_aload_n C (dOf DX9_ringLine 68 rfl) rfl 0 rfl ?_
              refine m_gR C (dOf DX9_ringLine 69 rfl) kf_X9_21 fg_9_12 h (fun a20 h => ?_)
              refine m_iconst C (dOf DX9_ringLine 70 rfl) (v := 0) ki_0 ?_
              refine m_aI C (dOf DX9_ringLine 71 rfl) h (fun v21 h => ?_)
              refine m_goto C (dOf DX9_ringLine 72 rfl) (tgt := 140) rfl ?_
              exact m_sub [2] rfl (hj17 _ h)
          refine m_ifne C (dOf DX9_ringLine 54 rfl) (tgt := 111) rfl h (fun h => ?_) (fun h => ?_)
          · refine m_aload_n C (dOf DX9_ringLine 60 rfl) rfl 1 rfl ?_
            refine m_gI C (dOf DX9_ringLine 61 rfl) kf_X9_37 fg_9_13 h (fun v22 h => ?_)
            exact m_sub [1, 2, 0] rfl (hj14 _ h)
          · refine m_aload_n C (dOf DX9_ringLine 55 rfl) rfl 1 rfl ?_
            refine m_gR C (dOf DX9_ringLine 56 rfl) kf_X9_21 fg_9_12 h (fun a23 h => ?_)
            refine m_iconst C (dOf DX9_ringLine 57 rfl) (v := 0) ki_0 ?_
            refine m_aI C (dOf DX9_ringLine 58 rfl) h (fun v24 h => ?_)
            refine m_goto C (dOf DX9_ringLine 59 rfl) (tgt := 115) rfl ?_
            exact m_sub [1, 2, 0] rfl (hj14 _ h)
        refine m_ifne C (dOf DX9_ringLine 37 rfl) (tgt := 83) rfl h (fun h => ?_) (fun h => ?_)
        · refine m_aload_n C (dOf DX9_ringLine 44 rfl) rfl 0 rfl ?_
          refine m_iconst C (dOf DX9_ringLine 45 rfl) (v := 0) ki_0 ?_
          refine m_bipush C (dOf DX9_ringLine 46 rfl) (v := 12) kb_12 ?_
          refine m_bipush C (dOf DX9_ringLine 47 rfl) (v := 32) kb_32 ?_
          obtain ⟨hc, h⟩ := ck_spec h
          refine m_cI (st := []) h (fun o' ho H locs ls hl hr hs => ⟨_, m_runV C (dOf DX9_ringLine 48 rfl) km_X9_104 ky_X9_takes (by decide) ⟨rfl, rfl⟩ (c_X9_takes _ G _ _ _ _ _ o' ho) hc.1 hc.2 (by decide) rfl rfl rfl (Nat.le_of_ble_eq_true rfl) ⟨Nat.le_refl _, Nat.le_refl _⟩ hl hr hs⟩) (fun v26 S25 h => ?_)
          exact m_sub [0, 1] rfl (hj12 _ h)
        · refine m_aload_n C (dOf DX9_ringLine 38 rfl) rfl 0 rfl ?_
          refine m_iconst C (dOf DX9_ringLine 39 rfl) (v := 0) ki_0 ?_
          refine m_iconst C (dOf DX9_ringLine 40 rfl) (v := 2) ki_2 ?_
          refine m_bipush C (dOf DX9_ringLine 41 rfl) (v := 6) kb_6 ?_
          obtain ⟨hc, h⟩ := ck_spec h
          refine m_cI (st := []) h (fun o' ho H locs ls hl hr hs => ⟨_, m_runV C (dOf DX9_ringLine 42 rfl) km_X9_104 ky_X9_takes (by decide) ⟨rfl, rfl⟩ (c_X9_takes _ G _ _ _ _ _ o' ho) hc.1 hc.2 (by decide) rfl rfl rfl (Nat.le_of_ble_eq_true rfl) ⟨Nat.le_refl _, Nat.le_refl _⟩ hl hr hs⟩) (fun v28 S27 h => ?_)
          refine m_goto C (dOf DX9_ringLine 43 rfl) (tgt := 92) rfl ?_
          exact m_sub [0, 1] rfl (hj12 _ h)
      refine m_ifeq C (dOf DX9_ringLine 24 rfl) (tgt := 60) rfl h (fun h => ?_) (fun h => ?_)
      · exact m_sub [0, 1] rfl (hj9 _ h)
      · refine m_lload_n C (dOf DX9_ringLine 25 rfl) rfl 1 rfl ?_
        refine m_ldc2 C (dOf DX9_ringLine 26 rfl) kc_X9_102 ?_
        refine m_lcmp C (dOf DX9_ringLine 27 rfl) h (fun v29 h => ?_)
        refine m_ifeq C (dOf DX9_ringLine 28 rfl) (tgt := 60) rfl h (fun h => ?_) (fun h => ?_)
        · exact m_sub [0, 1] rfl (hj9 _ h)
        · refine m_aload_n C (dOf DX9_ringLine 29 rfl) rfl 0 rfl ?_
          obtain ⟨hc, h⟩ := ck_spec h
          refine m_cI (st := []) h (fun o' ho H locs ls hl hr hs => ⟨_, m_runV C (dOf DX9_ringLine 30 rfl) km_X9_86 ky_X9_fails (by decide) ⟨rfl, rfl⟩ (c_X9_fails _ G _ _ o' ho) hc.1 hc.2 (by decide) rfl rfl rfl (Nat.le_of_ble_eq_true rfl) ⟨Nat.le_refl _, Nat.le_refl _⟩ hl hr hs⟩) (fun v31 S30 h => ?_)
          exact m_zret C rfl (dOf DX9_ringLine 31 rfl) h
    · exact m_sub [0, 1] rfl (hj2 _ h)
