/-- TraceRingModel.storms(II)I -/
def f_X9_storms (S : St) (b0 : Nat) (p1 : Int32) (p2 : Int32) : Option (Int32 × St) :=
  pI_ S b0 9 20 p1 fun S1 =>
  gR_ S1 b0 9 1 fun a2 =>
  aI_ S1 a2 11 11 fun v3 =>
  lp_ (fun self4 (x4 : Int32 × St) =>
    if p2 ≤ x4.1 then
      gR_ x4.2 b0 9 1 fun a5 =>
      aI_ x4.2 a5 11 11 fun v6 =>
      lt_ (v6 - v3 : Int32) fun v7 =>
      rt_ (v7, x4.2)
    else
      ck_ x4.2 b0 9 <| cV_ (f_X9_blows x4.2 b0) fun S8 =>
      lt_ (x4.1 + 1) fun v9 =>
      self4 (v9, S8)
  ) FU (0, S1)
set_option maxRecDepth 100000 in
set_option maxHeartbeats 4000000 in
theorem c_X9_storms (l : Launch) (G : Gx) (S : St) (b0 : Nat) (p1 : Int32) (p2 : Int32) (o : (Int32 × St)) (h : f_X9_storms S b0 p1 p2 = some o) : Met l yX9_storms (Cond.code yX9_storms cX9_storms 5 (some (.int)) :: wAll) ({ frames := 7, cells := 0, slots := 0, locals := 158 } : Room) (va_Pc [.ref (G.1 + b0), .int p1, .int p2] (wPre G S)) (qI G o) 0 0 (wA G) := by
  refine m_start (by decide +kernel) (Nat.le_of_ble_eq_true rfl) (fun X C => ?_)
  unfold f_X9_storms at h
  show WM X G 5 0 0 (wQ X G (qI G o) 0 0) 0 [(0, .ref (G.1 + b0)), (1, .int p1), (2, .int p2)] [] S
  refine m_aload_n C (dOf DX9_storms 0 rfl) rfl 0 rfl ?_
  refine m_iload_n C (dOf DX9_storms 1 rfl) rfl 1 rfl ?_
  refine m_pI C (dOf DX9_storms 2 rfl) kf_X9_252 fp_9_20 h (fun S1 h => ?_)
  refine m_aload_n C (dOf DX9_storms 3 rfl) rfl 0 rfl ?_
  refine m_gR C (dOf DX9_storms 4 rfl) kf_X9_7 fg_9_1 h (fun a2 h => ?_)
  refine m_bipush C (dOf DX9_storms 5 rfl) (v := 11) kb_11 ?_
  refine m_aI C (dOf DX9_storms 6 rfl) h (fun v3 h => ?_)
  refine m_istore_n C (dOf DX9_storms 7 rfl) rfl (by decide) (lv' := [(3, .int v3), (0, .ref (G.1 + b0)), (1, .int p1), (2, .int p2)]) rfl ?_
  refine m_iconst C (dOf DX9_storms 8 rfl) (v := 0) ki_0 ?_
  refine m_istore C (dOf DX9_storms 9 rfl) (by decide) (lv' := [(4, .int 0), (3, .int v3), (0, .ref (G.1 + b0)), (1, .int p1), (2, .int p2)]) rfl ?_
  refine m_sub [2, 4, 1, 0] rfl (m_lp (J := fun (x4 : Int32 × St) => WM X G 5 0 0 (wQ X G (qI G o) 0 0) 16 [(0, .ref (G.1 + b0)), (2, .int p2), (3, .int v3), (4, .int x4.1)] [] x4.2) h (fun self4 hself4 x4 h => ?_))
  refine m_iload C (dOf DX9_storms 10 rfl) 3 rfl ?_
  refine m_iload_n C (dOf DX9_storms 11 rfl) rfl 1 rfl ?_
  refine m_icmpge C (dOf DX9_storms 12 rfl) (tgt := 32) rfl h (fun h => ?_) (fun h => ?_)
  · refine m_aload_n C (dOf DX9_storms 17 rfl) rfl 0 rfl ?_
    refine m_gR C (dOf DX9_storms 18 rfl) kf_X9_7 fg_9_1 h (fun a5 h => ?_)
    refine m_bipush C (dOf DX9_storms 19 rfl) (v := 11) kb_11 ?_
    refine m_aI C (dOf DX9_storms 20 rfl) h (fun v6 h => ?_)
    refine m_iload_n C (dOf DX9_storms 21 rfl) rfl 2 rfl ?_
    refine m_isub C (dOf DX9_storms 22 rfl) h (fun v7 h => ?_)
    exact m_iret C rfl (dOf DX9_storms 23 rfl) h
  · refine m_aload_n C (dOf DX9_storms 13 rfl) rfl 0 rfl ?_
    obtain ⟨hc, h⟩ := ck_spec h
    refine m_cV (st := []) h (fun o' ho H locs ls hl hr hs => ⟨_, m_runV C (dOf DX9_storms 14 rfl) km_X9_259 ky_X9_blows (by decide) ⟨rfl, rfl⟩ (c_X9_blows _ G _ _ o' ho) hc.1 hc.2 (by decide) rfl rfl rfl (Nat.le_of_ble_eq_true rfl) ⟨Nat.le_refl _, Nat.le_refl _⟩ hl hr hs⟩) (fun S8 h => ?_)
    refine m_iinc C (dOf DX9_storms 15 rfl) (w := 1) ki_1 3 rfl (by decide) h (fun v9 h => ⟨[(4, .int v9), (0, .ref (G.1 + b0)), (2, .int p2), (3, .int v3)], rfl, ?_⟩)
    refine m_goto C (dOf DX9_storms 16 rfl) (tgt := 16) rfl ?_
    exact m_sub [1, 2, 3, 0] rfl (hself4 _ h)
/-- TraceRingModel.tick(I)I -/
def f_X9_tick (S : St) (b0 : Nat) (p1 : Int32) : Option (Int32 × St) :=
  pI_ S b0 9 0 0 fun S1 =>
  ck_ S1 b0 9 <| cI_ (f_X9_ticked S1 b0 p1) fun v3 S2 =>
  rt_ (v3, S2)
set_option maxRecDepth 100000 in
set_option maxHeartbeats 4000000 in
theorem c_X9_tick (l : Launch) (G : Gx) (S : St) (b0 : Nat) (p1 : Int32) (o : (Int32 × St)) (h : f_X9_tick S b0 p1 = some o) : Met l yX9_tick (Cond.code yX9_tick cX9_tick 2 (some (.int)) :: wAll) ({ frames := 2, cells := 0, slots := 0, locals := 43 } : Room) (va_Pc [.ref (G.1 + b0), .int p1] (wPre G S)) (qI G o) 0 0 (wA G) := by
  refine m_start (by decide +kernel) (Nat.le_of_ble_eq_true rfl) (fun X C => ?_)
  unfold f_X9_tick at h
  show WM X G 2 0 0 (wQ X G (qI G o) 0 0) 0 [(0, .ref (G.1 + b0)), (1, .int p1)] [] S
  refine m_aload_n C (dOf DX9_tick 0 rfl) rfl 0 rfl ?_
  refine m_iconst C (dOf DX9_tick 1 rfl) (v := 0) ki_0 ?_
  refine m_pI C (dOf DX9_tick 2 rfl) kf_X9_51 fp_9_0 h (fun S1 h => ?_)
  refine m_aload_n C (dOf DX9_tick 3 rfl) rfl 0 rfl ?_
  refine m_iload_n C (dOf DX9_tick 4 rfl) rfl 1 rfl ?_
  obtain ⟨hc, h⟩ := ck_spec h
  refine m_cI (st := []) h (fun o' ho H locs ls hl hr hs => ⟨_, m_runV C (dOf DX9_tick 5 rfl) km_X9_220 ky_X9_ticked (by decide) ⟨rfl, rfl⟩ (c_X9_ticked _ G _ _ _ o' ho) hc.1 hc.2 (by decide) rfl rfl rfl (Nat.le_of_ble_eq_true rfl) ⟨Nat.le_refl _, Nat.le_refl _⟩ hl hr hs⟩) (fun v3 S2 h => ?_)
  exact m_iret C rfl (dOf DX9_tick 6 rfl) h
/-- TraceRingModel.isTake(II)Z -/
def f_X9_isTake (S : St) (p0 : Int32) (p1 : Int32) : Option Int32 :=
  cP_ (f_X9_in S p0 0 3) fun v1 =>
  jn_ (fun (x2 : Int32) =>
    rzP_ x2
  ) fun j2 =>
  jn_ (fun (x3 : Unit) =>
    j2 (0)
  ) fun j3 =>
  if v1 = 0 then
    j3 ()
  else
    cP_ (f_X9_in S p1 1 8) fun v4 =>
    if v4 = 0 then
      j3 ()
    else
      j2 (1)
set_option maxRecDepth 100000 in
set_option maxHeartbeats 4000000 in
theorem c_X9_isTake (l : Launch) (G : Gx) (S : St) (p0 : Int32) (p1 : Int32) (o : Int32) (h : f_X9_isTake S p0 p1 = some o) : Met l yX9_isTake (Cond.code yX9_isTake cX9_isTake 2 (some (.boolean)) :: wAll) ({ frames := 1, cells := 0, slots := 0, locals := 22 } : Room) (va_Pc [.int p0, .int p1] (wPre G S)) (qI G (o, S)) 0 0 (wA G) := by
  refine m_start (by decide +kernel) (Nat.le_of_ble_eq_true rfl) (fun X C => ?_)
  unfold f_X9_isTake at h
  show WM X G 2 0 0 (wQ X G (qI G (o, S)) 0 0) 0 [(0, .int p0), (1, .int p1)] [] S
  refine m_iload_n C (dOf DX9_isTake 0 rfl) rfl 0 rfl ?_
  refine m_iconst C (dOf DX9_isTake 1 rfl) (v := 0) ki_0 ?_
  refine m_iconst C (dOf DX9_isTake 2 rfl) (v := 3) ki_3 ?_
  refine m_cP (st := []) h (fun o' ho H locs ls hl hr hs => ⟨_, m_runS C (dOf DX9_isTake 3 rfl) km_X9_76 ks_X9_in rfl (by decide) ⟨rfl, rfl⟩ (c_X9_in _ G _ _ _ _ o' ho) rfl rfl (Nat.le_of_ble_eq_true rfl) ⟨Nat.le_refl _, Nat.le_refl _⟩ hl hr hs⟩) (fun v1 h => ?_)
  refine m_jn (J := fun (x2 : Int32) => WM X G 2 0 0 (wQ X G (qI G (o, S)) 0 0) 24 [] [.int x2] S) h (fun x2 h => ?_) (fun j2 hj2 h => ?_)
  · exact m_zretP C rfl (dOf DX9_isTake 13 rfl) h
  refine m_jn (J := fun (x3 : Unit) => WM X G 2 0 0 (wQ X G (qI G (o, S)) 0 0) 23 [] [] S) h (fun x3 h => ?_) (fun j3 hj3 h => ?_)
  · refine m_iconst C (dOf DX9_isTake 12 rfl) (v := 0) ki_0 ?_
    exact m_sub [] rfl (hj2 _ h)
  refine m_ifeq C (dOf DX9_isTake 4 rfl) (tgt := 23) rfl h (fun h => ?_) (fun h => ?_)
  · exact m_sub [] rfl (hj3 _ h)
  · refine m_iload_n C (dOf DX9_isTake 5 rfl) rfl 1 rfl ?_
    refine m_iconst C (dOf DX9_isTake 6 rfl) (v := 1) ki_1 ?_
    refine m_bipush C (dOf DX9_isTake 7 rfl) (v := 8) kb_8 ?_
    refine m_cP (st := []) h (fun o' ho H locs ls hl hr hs => ⟨_, m_runS C (dOf DX9_isTake 8 rfl) km_X9_76 ks_X9_in rfl (by decide) ⟨rfl, rfl⟩ (c_X9_in _ G _ _ _ _ o' ho) rfl rfl (Nat.le_of_ble_eq_true rfl) ⟨Nat.le_refl _, Nat.le_refl _⟩ hl hr hs⟩) (fun v4 h => ?_)
    refine m_ifeq C (dOf DX9_isTake 9 rfl) (tgt := 23) rfl h (fun h => ?_) (fun h => ?_)
    · exact m_sub [] rfl (hj3 _ h)
    · refine m_iconst C (dOf DX9_isTake 10 rfl) (v := 1) ki_1 ?_
      refine m_goto C (dOf DX9_isTake 11 rfl) (tgt := 24) rfl ?_
      exact m_sub [] rfl (hj2 _ h)
/-- TraceRingModel.take(II)I -/
def f_X9_take (S : St) (b0 : Nat) (p1 : Int32) (p2 : Int32) : Option (Int32 × St) :=
  pI_ S b0 9 0 0 fun S1 =>
  cP_ (f_X9_isTake S1 p1 p2) fun v2 =>
  jn_ (fun (x3 : Int32 × St) =>
    rt_ (x3.1, x3.2)
  ) fun j3 =>
  if v2 = 0 then
    j3 ((-1), S1)
  else
    ck_ S1 b0 9 <| cI_ (f_X9_taken S1 b0 p1 p2) fun v5 S4 =>
    j3 (v5, S4)
set_option maxRecDepth 100000 in
set_option maxHeartbeats 4000000 in
theorem c_X9_take (l : Launch) (G : Gx) (S : St) (b0 : Nat) (p1 : Int32) (p2 : Int32) (o : (Int32 × St)) (h : f_X9_take S b0 p1 p2 = some o) : Met l yX9_take (Cond.code yX9_take cX9_take 3 (some (.int)) :: wAll) ({ frames := 6, cells := 0, slots := 0, locals := 134 } : Room) (va_Pc [.ref (G.1 + b0), .int p1, .int p2] (wPre G S)) (qI G o) 0 0 (wA G) := by
  refine m_start (by decide +kernel) (Nat.le_of_ble_eq_true rfl) (fun X C => ?_)
  unfold f_X9_take at h
  show WM X G 3 0 0 (wQ X G (qI G o) 0 0) 0 [(0, .ref (G.1 + b0)), (1, .int p1), (2, .int p2)] [] S
  refine m_aload_n C (dOf DX9_take 0 rfl) rfl 0 rfl ?_
  refine m_iconst C (dOf DX9_take 1 rfl) (v := 0) ki_0 ?_
  refine m_pI C (dOf DX9_take 2 rfl) kf_X9_51 fp_9_0 h (fun S1 h => ?_)
  refine m_iload_n C (dOf DX9_take 3 rfl) rfl 1 rfl ?_
  refine m_iload_n C (dOf DX9_take 4 rfl) rfl 2 rfl ?_
  refine m_cP (st := []) h (fun o' ho H locs ls hl hr hs => ⟨_, m_runS C (dOf DX9_take 5 rfl) km_X9_262 ks_X9_isTake rfl (by decide) ⟨rfl, rfl⟩ (c_X9_isTake _ G _ _ _ o' ho) rfl rfl (Nat.le_of_ble_eq_true rfl) ⟨Nat.le_refl _, Nat.le_refl _⟩ hl hr hs⟩) (fun v2 h => ?_)
  refine m_jn (J := fun (x3 : Int32 × St) => WM X G 3 0 0 (wQ X G (qI G o) 0 0) 23 [] [.int x3.1] x3.2) h (fun x3 h => ?_) (fun j3 hj3 h => ?_)
  · exact m_iret C rfl (dOf DX9_take 13 rfl) h
  refine m_ifeq C (dOf DX9_take 6 rfl) (tgt := 22) rfl h (fun h => ?_) (fun h => ?_)
  · refine m_iconst C (dOf DX9_take 12 rfl) (v := (-1)) ki_m1 ?_
    exact m_sub [] rfl (hj3 _ h)
  · refine m_aload_n C (dOf DX9_take 7 rfl) rfl 0 rfl ?_
    refine m_iload_n C (dOf DX9_take 8 rfl) rfl 1 rfl ?_
    refine m_iload_n C (dOf DX9_take 9 rfl) rfl 2 rfl ?_
    obtain ⟨hc, h⟩ := ck_spec h
    refine m_cI (st := []) h (fun o' ho H locs ls hl hr hs => ⟨_, m_runV C (dOf DX9_take 10 rfl) km_X9_223 ky_X9_taken (by decide) ⟨rfl, rfl⟩ (c_X9_taken _ G _ _ _ _ o' ho) hc.1 hc.2 (by decide) rfl rfl rfl (Nat.le_of_ble_eq_true rfl) ⟨Nat.le_refl _, Nat.le_refl _⟩ hl hr hs⟩) (fun v5 S4 h => ?_)
    refine m_goto C (dOf DX9_take 11 rfl) (tgt := 23) rfl ?_
    exact m_sub [] rfl (hj3 _ h)
/-- TraceRingModel.put(II)I -/
def f_X9_put (S : St) (b0 : Nat) (p1 : Int32) (p2 : Int32) : Option (Int32 × St) :=
  pI_ S b0 9 0 0 fun S1 =>
  cP_ (f_X9_in S1 p2 0 255) fun v2 =>
  jn_ (fun (x3 : Int32 × St) =>
    rt_ (x3.1, x3.2)
  ) fun j3 =>
  if v2 = 0 then
    j3 ((-1), S1)
  else
    ck_ S1 b0 9 <| cI_ (f_X9_puts S1 b0 p1 p2) fun v5 S4 =>
    j3 (v5, S4)
set_option maxRecDepth 100000 in
set_option maxHeartbeats 4000000 in
theorem c_X9_put (l : Launch) (G : Gx) (S : St) (b0 : Nat) (p1 : Int32) (p2 : Int32) (o : (Int32 × St)) (h : f_X9_put S b0 p1 p2 = some o) : Met l yX9_put (Cond.code yX9_put cX9_put 3 (some (.int)) :: wAll) ({ frames := 4, cells := 0, slots := 0, locals := 92 } : Room) (va_Pc [.ref (G.1 + b0), .int p1, .int p2] (wPre G S)) (qI G o) 0 0 (wA G) := by
  refine m_start (by decide +kernel) (Nat.le_of_ble_eq_true rfl) (fun X C => ?_)
  unfold f_X9_put at h
  show WM X G 3 0 0 (wQ X G (qI G o) 0 0) 0 [(0, .ref (G.1 + b0)), (1, .int p1), (2, .int p2)] [] S
  refine m_aload_n C (dOf DX9_put 0 rfl) rfl 0 rfl ?_
  refine m_iconst C (dOf DX9_put 1 rfl) (v := 0) ki_0 ?_
  refine m_pI C (dOf DX9_put 2 rfl) kf_X9_51 fp_9_0 h (fun S1 h => ?_)
  refine m_iload_n C (dOf DX9_put 3 rfl) rfl 2 rfl ?_
  refine m_iconst C (dOf DX9_put 4 rfl) (v := 0) ki_0 ?_
  refine m_sipush C (dOf DX9_put 5 rfl) (v := 255) ks_255 ?_
  refine m_cP (st := []) h (fun o' ho H locs ls hl hr hs => ⟨_, m_runS C (dOf DX9_put 6 rfl) km_X9_76 ks_X9_in rfl (by decide) ⟨rfl, rfl⟩ (c_X9_in _ G _ _ _ _ o' ho) rfl rfl (Nat.le_of_ble_eq_true rfl) ⟨Nat.le_refl _, Nat.le_refl _⟩ hl hr hs⟩) (fun v2 h => ?_)
  refine m_jn (J := fun (x3 : Int32 × St) => WM X G 3 0 0 (wQ X G (qI G o) 0 0) 26 [] [.int x3.1] x3.2) h (fun x3 h => ?_) (fun j3 hj3 h => ?_)
  · exact m_iret C rfl (dOf DX9_put 14 rfl) h
  refine m_ifeq C (dOf DX9_put 7 rfl) (tgt := 25) rfl h (fun h => ?_) (fun h => ?_)
  · refine m_iconst C (dOf DX9_put 13 rfl) (v := (-1)) ki_m1 ?_
    exact m_sub [] rfl (hj3 _ h)
  · refine m_aload_n C (dOf DX9_put 8 rfl) rfl 0 rfl ?_
    refine m_iload_n C (dOf DX9_put 9 rfl) rfl 1 rfl ?_
    refine m_iload_n C (dOf DX9_put 10 rfl) rfl 2 rfl ?_
    obtain ⟨hc, h⟩ := ck_spec h
    refine m_cI (st := []) h (fun o' ho H locs ls hl hr hs => ⟨_, m_runV C (dOf DX9_put 11 rfl) km_X9_226 ky_X9_puts (by decide) ⟨rfl, rfl⟩ (c_X9_puts _ G _ _ _ _ o' ho) hc.1 hc.2 (by decide) rfl rfl rfl (Nat.le_of_ble_eq_true rfl) ⟨Nat.le_refl _, Nat.le_refl _⟩ hl hr hs⟩) (fun v5 S4 h => ?_)
    refine m_goto C (dOf DX9_put 12 rfl) (tgt := 26) rfl ?_
    exact m_sub [] rfl (hj3 _ h)
/-- TraceRingModel.end(I)I -/
def f_X9_end (S : St) (b0 : Nat) (p1 : Int32) : Option (Int32 × St) :=
  pI_ S b0 9 0 0 fun S1 =>
  ck_ S1 b0 9 <| cI_ (f_X9_ended S1 b0 p1) fun v3 S2 =>
  rt_ (v3, S2)
set_option maxRecDepth 100000 in
set_option maxHeartbeats 4000000 in
theorem c_X9_end (l : Launch) (G : Gx) (S : St) (b0 : Nat) (p1 : Int32) (o : (Int32 × St)) (h : f_X9_end S b0 p1 = some o) : Met l yX9_end (Cond.code yX9_end cX9_end 2 (some (.int)) :: wAll) ({ frames := 4, cells := 0, slots := 0, locals := 89 } : Room) (va_Pc [.ref (G.1 + b0), .int p1] (wPre G S)) (qI G o) 0 0 (wA G) := by
  refine m_start (by decide +kernel) (Nat.le_of_ble_eq_true rfl) (fun X C => ?_)
  unfold f_X9_end at h
  show WM X G 2 0 0 (wQ X G (qI G o) 0 0) 0 [(0, .ref (G.1 + b0)), (1, .int p1)] [] S
  refine m_aload_n C (dOf DX9_end 0 rfl) rfl 0 rfl ?_
  refine m_iconst C (dOf DX9_end 1 rfl) (v := 0) ki_0 ?_
  refine m_pI C (dOf DX9_end 2 rfl) kf_X9_51 fp_9_0 h (fun S1 h => ?_)
  refine m_aload_n C (dOf DX9_end 3 rfl) rfl 0 rfl ?_
  refine m_iload_n C (dOf DX9_end 4 rfl) rfl 1 rfl ?_
  obtain ⟨hc, h⟩ := ck_spec h
  refine m_cI (st := []) h (fun o' ho H locs ls hl hr hs => ⟨_, m_runV C (dOf DX9_end 5 rfl) km_X9_229 ky_X9_ended (by decide) ⟨rfl, rfl⟩ (c_X9_ended _ G _ _ _ o' ho) hc.1 hc.2 (by decide) rfl rfl rfl (Nat.le_of_ble_eq_true rfl) ⟨Nat.le_refl _, Nat.le_refl _⟩ hl hr hs⟩) (fun v3 S2 h => ?_)
  exact m_iret C rfl (dOf DX9_end 6 rfl) h
/-- TraceRingModel.drop(I)I -/
def f_X9_drop (S : St) (b0 : Nat) (p1 : Int32) : Option (Int32 × St) :=
  pI_ S b0 9 0 0 fun S1 =>
  ck_ S1 b0 9 <| cI_ (f_X9_dropped S1 b0 p1) fun v3 S2 =>
  rt_ (v3, S2)
set_option maxRecDepth 100000 in
set_option maxHeartbeats 4000000 in
theorem c_X9_drop (l : Launch) (G : Gx) (S : St) (b0 : Nat) (p1 : Int32) (o : (Int32 × St)) (h : f_X9_drop S b0 p1 = some o) : Met l yX9_drop (Cond.code yX9_drop cX9_drop 2 (some (.int)) :: wAll) ({ frames := 5, cells := 0, slots := 0, locals := 117 } : Room) (va_Pc [.ref (G.1 + b0), .int p1] (wPre G S)) (qI G o) 0 0 (wA G) := by
  refine m_start (by decide +kernel) (Nat.le_of_ble_eq_true rfl) (fun X C => ?_)
  unfold f_X9_drop at h
  show WM X G 2 0 0 (wQ X G (qI G o) 0 0) 0 [(0, .ref (G.1 + b0)), (1, .int p1)] [] S
  refine m_aload_n C (dOf DX9_drop 0 rfl) rfl 0 rfl ?_
  refine m_iconst C (dOf DX9_drop 1 rfl) (v := 0) ki_0 ?_
  refine m_pI C (dOf DX9_drop 2 rfl) kf_X9_51 fp_9_0 h (fun S1 h => ?_)
  refine m_aload_n C (dOf DX9_drop 3 rfl) rfl 0 rfl ?_
  refine m_iload_n C (dOf DX9_drop 4 rfl) rfl 1 rfl ?_
  obtain ⟨hc, h⟩ := ck_spec h
  refine m_cI (st := []) h (fun o' ho H locs ls hl hr hs => ⟨_, m_runV C (dOf DX9_drop 5 rfl) km_X9_232 ky_X9_dropped (by decide) ⟨rfl, rfl⟩ (c_X9_dropped _ G _ _ _ o' ho) hc.1 hc.2 (by decide) rfl rfl rfl (Nat.le_of_ble_eq_true rfl) ⟨Nat.le_refl _, Nat.le_refl _⟩ hl hr hs⟩) (fun v3 S2 h => ?_)
  exact m_iret C rfl (dOf DX9_drop 6 rfl) h
/-- TraceRingModel.swap(Z)I -/
def f_X9_swap (S : St) (b0 : Nat) (p1 : Int32) : Option (Int32 × St) :=
  pI_ S b0 9 0 0 fun S1 =>
  ck_ S1 b0 9 <| cI_ (f_X9_swapped S1 b0 p1) fun v3 S2 =>
  rt_ (v3, S2)
set_option maxRecDepth 100000 in
set_option maxHeartbeats 4000000 in
theorem c_X9_swap (l : Launch) (G : Gx) (S : St) (b0 : Nat) (p1 : Int32) (o : (Int32 × St)) (h : f_X9_swap S b0 p1 = some o) : Met l yX9_swap (Cond.code yX9_swap cX9_swap 2 (some (.int)) :: wAll) ({ frames := 4, cells := 0, slots := 0, locals := 94 } : Room) (va_Pc [.ref (G.1 + b0), .int p1] (wPre G S)) (qI G o) 0 0 (wA G) := by
  refine m_start (by decide +kernel) (Nat.le_of_ble_eq_true rfl) (fun X C => ?_)
  unfold f_X9_swap at h
  show WM X G 2 0 0 (wQ X G (qI G o) 0 0) 0 [(0, .ref (G.1 + b0)), (1, .int p1)] [] S
  refine m_aload_n C (dOf DX9_swap 0 rfl) rfl 0 rfl ?_
  refine m_iconst C (dOf DX9_swap 1 rfl) (v := 0) ki_0 ?_
  refine m_pI C (dOf DX9_swap 2 rfl) kf_X9_51 fp_9_0 h (fun S1 h => ?_)
  refine m_aload_n C (dOf DX9_swap 3 rfl) rfl 0 rfl ?_
  refine m_iload_n C (dOf DX9_swap 4 rfl) rfl 1 rfl ?_
  obtain ⟨hc, h⟩ := ck_spec h
  refine m_cI (st := []) h (fun o' ho H locs ls hl hr hs => ⟨_, m_runV C (dOf DX9_swap 5 rfl) km_X9_235 ky_X9_swapped (by decide) ⟨rfl, rfl⟩ (c_X9_swapped _ G _ _ _ o' ho) hc.1 hc.2 (by decide) rfl rfl rfl (Nat.le_of_ble_eq_true rfl) ⟨Nat.le_refl _, Nat.le_refl _⟩ hl hr hs⟩) (fun v3 S2 h => ?_)
  exact m_iret C rfl (dOf DX9_swap 6 rfl) h
/-- TraceRingModel.read()I -/
def f_X9_read (S : St) (b0 : Nat) : Option (Int32 × St) :=
  pI_ S b0 9 0 0 fun S1 =>
  ck_ S1 b0 9 <| cI_ (f_X9_readOne S1 b0) fun v3 S2 =>
  rt_ (v3, S2)
set_option maxRecDepth 100000 in
set_option maxHeartbeats 4000000 in
theorem c_X9_read (l : Launch) (G : Gx) (S : St) (b0 : Nat) (o : (Int32 × St)) (h : f_X9_read S b0 = some o) : Met l yX9_read (Cond.code yX9_read cX9_read 1 (some (.int)) :: wAll) ({ frames := 3, cells := 0, slots := 0, locals := 70 } : Room) (va_Pc [.ref (G.1 + b0)] (wPre G S)) (qI G o) 0 0 (wA G) := by
  refine m_start (by decide +kernel) (Nat.le_of_ble_eq_true rfl) (fun X C => ?_)
  unfold f_X9_read at h
  show WM X G 1 0 0 (wQ X G (qI G o) 0 0) 0 [(0, .ref (G.1 + b0))] [] S
  refine m_aload_n C (dOf DX9_read 0 rfl) rfl 0 rfl ?_
  refine m_iconst C (dOf DX9_read 1 rfl) (v := 0) ki_0 ?_
  refine m_pI C (dOf DX9_read 2 rfl) kf_X9_51 fp_9_0 h (fun S1 h => ?_)
  refine m_aload_n C (dOf DX9_read 3 rfl) rfl 0 rfl ?_
  obtain ⟨hc, h⟩ := ck_spec h
  refine m_cI (st := []) h (fun o' ho H locs ls hl hr hs => ⟨_, m_runV C (dOf DX9_read 4 rfl) km_X9_217 ky_X9_readOne (by decide) ⟨rfl, rfl⟩ (c_X9_readOne _ G _ _ o' ho) hc.1 hc.2 (by decide) rfl rfl rfl (Nat.le_of_ble_eq_true rfl) ⟨Nat.le_refl _, Nat.le_refl _⟩ hl hr hs⟩) (fun v3 S2 h => ?_)
  exact m_iret C rfl (dOf DX9_read 5 rfl) h
/-- TraceRingModel.mode(Z)Z -/
def f_X9_mode (S : St) (b0 : Nat) (p1 : Int32) : Option (Int32 × St) :=
  pI_ S b0 9 0 0 fun S1 =>
  jn_ (fun (x2 : Int32) =>
    gR_ S1 b0 9 1 fun a3 =>
    aI_ S1 a3 11 2 fun v4 =>
    jn_ (fun (x5 : Int32) =>
      gR_ S1 b0 9 1 fun a6 =>
      sI_ S1 a6 2 x2 fun S7 =>
      rz_ x5 S7
    ) fun j5 =>
    if v4 = x2 then
      j5 (0)
    else
      j5 (1)
  ) fun j2 =>
  if p1 = 0 then
    j2 (0)
  else
    j2 (1)
set_option maxRecDepth 100000 in
set_option maxHeartbeats 4000000 in
theorem c_X9_mode (l : Launch) (G : Gx) (S : St) (b0 : Nat) (p1 : Int32) (o : (Int32 × St)) (h : f_X9_mode S b0 p1 = some o) : Met l yX9_mode (Cond.code yX9_mode cX9_mode 4 (some (.boolean)) :: wAll) ({ frames := 0, cells := 0, slots := 0, locals := 0 } : Room) (va_Pc [.ref (G.1 + b0), .int p1] (wPre G S)) (qI G o) 0 0 (wA G) := by
  refine m_start (by decide +kernel) (Nat.le_of_ble_eq_true rfl) (fun X C => ?_)
  unfold f_X9_mode at h
  show WM X G 4 0 0 (wQ X G (qI G o) 0 0) 0 [(0, .ref (G.1 + b0)), (1, .int p1)] [] S
  refine m_aload_n C (dOf DX9_mode 0 rfl) rfl 0 rfl ?_
  refine m_iconst C (dOf DX9_mode 1 rfl) (v := 0) ki_0 ?_
  refine m_pI C (dOf DX9_mode 2 rfl) kf_X9_51 fp_9_0 h (fun S1 h => ?_)
  refine m_iload_n C (dOf DX9_mode 3 rfl) rfl 1 rfl ?_
  refine m_jn (J := fun (x2 : Int32) => WM X G 4 0 0 (wQ X G (qI G o) 0 0) 14 [(0, .ref (G.1 + b0))] [.int x2] S1) h (fun x2 h => ?_) (fun j2 hj2 h => ?_)
  · refine m_istore_n C (dOf DX9_mode 8 rfl) rfl (by decide) (lv' := [(2, .int x2), (0, .ref (G.1 + b0))]) rfl ?_
    refine m_aload_n C (dOf DX9_mode 9 rfl) rfl 1 rfl ?_
    refine m_gR C (dOf DX9_mode 10 rfl) kf_X9_7 fg_9_1 h (fun a3 h => ?_)
    refine m_iconst C (dOf DX9_mode 11 rfl) (v := 2) ki_2 ?_
    refine m_aI C (dOf DX9_mode 12 rfl) h (fun v4 h => ?_)
    refine m_iload_n C (dOf DX9_mode 13 rfl) rfl 0 rfl ?_
    refine m_jn (J := fun (x5 : Int32) => WM X G 4 0 0 (wQ X G (qI G o) 0 0) 30 [(0, .ref (G.1 + b0)), (2, .int x2)] [.int x5] S1) h (fun x5 h => ?_) (fun j5 hj5 h => ?_)
    · refine m_istore_n C (dOf DX9_mode 18 rfl) rfl (by decide) (lv' := [(3, .int x5), (0, .ref (G.1 + b0)), (2, .int x2)]) rfl ?_
      refine m_aload_n C (dOf DX9_mode 19 rfl) rfl 1 rfl ?_
      refine m_gR C (dOf DX9_mode 20 rfl) kf_X9_7 fg_9_1 h (fun a6 h => ?_)
      refine m_iconst C (dOf DX9_mode 21 rfl) (v := 2) ki_2 ?_
      refine m_iload_n C (dOf DX9_mode 22 rfl) rfl 2 rfl ?_
      refine m_sI C (dOf DX9_mode 23 rfl) h (fun S7 h => ?_)
      refine m_iload_n C (dOf DX9_mode 24 rfl) rfl 0 rfl ?_
      exact m_zret C rfl (dOf DX9_mode 25 rfl) h
    refine m_icmpeq C (dOf DX9_mode 14 rfl) (tgt := 29) rfl h (fun h => ?_) (fun h => ?_)
    · refine m_iconst C (dOf DX9_mode 17 rfl) (v := 0) ki_0 ?_
      exact m_sub [1, 0] rfl (hj5 _ h)
    · refine m_iconst C (dOf DX9_mode 15 rfl) (v := 1) ki_1 ?_
      refine m_goto C (dOf DX9_mode 16 rfl) (tgt := 30) rfl ?_
      exact m_sub [1, 0] rfl (hj5 _ h)
  refine m_ifeq C (dOf DX9_mode 4 rfl) (tgt := 13) rfl h (fun h => ?_) (fun h => ?_)
  · refine m_iconst C (dOf DX9_mode 7 rfl) (v := 0) ki_0 ?_
    exact m_sub [0] rfl (hj2 _ h)
  · refine m_iconst C (dOf DX9_mode 5 rfl) (v := 1) ki_1 ?_
    refine m_goto C (dOf DX9_mode 6 rfl) (tgt := 14) rfl ?_
    exact m_sub [0] rfl (hj2 _ h)
/-- TraceRingModel.mask(I)Z -/
def f_X9_mask (S : St) (b0 : Nat) (p1 : Int32) : Option (Int32 × St) :=
  pI_ S b0 9 0 0 fun S1 =>
  ck_ S1 b0 9 <| cI_ (f_X9_masked S1 b0 p1) fun v3 S2 =>
  rz_ v3 S2
set_option maxRecDepth 100000 in
set_option maxHeartbeats 4000000 in
theorem c_X9_mask (l : Launch) (G : Gx) (S : St) (b0 : Nat) (p1 : Int32) (o : (Int32 × St)) (h : f_X9_mask S b0 p1 = some o) : Met l yX9_mask (Cond.code yX9_mask cX9_mask 2 (some (.boolean)) :: wAll) ({ frames := 2, cells := 0, slots := 0, locals := 43 } : Room) (va_Pc [.ref (G.1 + b0), .int p1] (wPre G S)) (qI G o) 0 0 (wA G) := by
  refine m_start (by decide +kernel) (Nat.le_of_ble_eq_true rfl) (fun X C => ?_)
  unfold f_X9_mask at h
  show WM X G 2 0 0 (wQ X G (qI G o) 0 0) 0 [(0, .ref (G.1 + b0)), (1, .int p1)] [] S
  refine m_aload_n C (dOf DX9_mask 0 rfl) rfl 0 rfl ?_
  refine m_iconst C (dOf DX9_mask 1 rfl) (v := 0) ki_0 ?_
  refine m_pI C (dOf DX9_mask 2 rfl) kf_X9_51 fp_9_0 h (fun S1 h => ?_)
  refine m_aload_n C (dOf DX9_mask 3 rfl) rfl 0 rfl ?_
  refine m_iload_n C (dOf DX9_mask 4 rfl) rfl 1 rfl ?_
  obtain ⟨hc, h⟩ := ck_spec h
  refine m_cI (st := []) h (fun o' ho H locs ls hl hr hs => ⟨_, m_runV C (dOf DX9_mask 5 rfl) km_X9_242 ky_X9_masked (by decide) ⟨rfl, rfl⟩ (c_X9_masked _ G _ _ _ o' ho) hc.1 hc.2 (by decide) rfl rfl rfl (Nat.le_of_ble_eq_true rfl) ⟨Nat.le_refl _, Nat.le_refl _⟩ hl hr hs⟩) (fun v3 S2 h => ?_)
  exact m_zret C rfl (dOf DX9_mask 6 rfl) h
/-- TraceRingModel.resize(I)I -/
def f_X9_resize (S : St) (b0 : Nat) (p1 : Int32) : Option (Int32 × St) :=
  pI_ S b0 9 0 0 fun S1 =>
  ck_ S1 b0 9 <| cI_ (f_X9_resized S1 b0 p1) fun v3 S2 =>
  rt_ (v3, S2)
set_option maxRecDepth 100000 in
set_option maxHeartbeats 4000000 in
theorem c_X9_resize (l : Launch) (G : Gx) (S : St) (b0 : Nat) (p1 : Int32) (o : (Int32 × St)) (h : f_X9_resize S b0 p1 = some o) : Met l yX9_resize (Cond.code yX9_resize cX9_resize 2 (some (.int)) :: wAll) ({ frames := 5, cells := 0, slots := 0, locals := 116 } : Room) (va_Pc [.ref (G.1 + b0), .int p1] (wPre G S)) (qI G o) 0 0 (wA G) := by
  refine m_start (by decide +kernel) (Nat.le_of_ble_eq_true rfl) (fun X C => ?_)
  unfold f_X9_resize at h
  show WM X G 2 0 0 (wQ X G (qI G o) 0 0) 0 [(0, .ref (G.1 + b0)), (1, .int p1)] [] S
  refine m_aload_n C (dOf DX9_resize 0 rfl) rfl 0 rfl ?_
  refine m_iconst C (dOf DX9_resize 1 rfl) (v := 0) ki_0 ?_
  refine m_pI C (dOf DX9_resize 2 rfl) kf_X9_51 fp_9_0 h (fun S1 h => ?_)
  refine m_aload_n C (dOf DX9_resize 3 rfl) rfl 0 rfl ?_
  refine m_iload_n C (dOf DX9_resize 4 rfl) rfl 1 rfl ?_
  obtain ⟨hc, h⟩ := ck_spec h
  refine m_cI (st := []) h (fun o' ho H locs ls hl hr hs => ⟨_, m_runV C (dOf DX9_resize 5 rfl) km_X9_245 ky_X9_resized (by decide) ⟨rfl, rfl⟩ (c_X9_resized _ G _ _ _ o' ho) hc.1 hc.2 (by decide) rfl rfl rfl (Nat.le_of_ble_eq_true rfl) ⟨Nat.le_refl _, Nat.le_refl _⟩ hl hr hs⟩) (fun v3 S2 h => ?_)
  exact m_iret C rfl (dOf DX9_resize 6 rfl) h
/-- TraceRingModel.storm(II)I -/
def f_X9_storm (S : St) (b0 : Nat) (p1 : Int32) (p2 : Int32) : Option (Int32 × St) :=
  pI_ S b0 9 0 0 fun S1 =>
  cP_ (f_X9_in S1 p2 1 60) fun v2 =>
  jn_ (fun (x3 : Int32 × St) =>
    rt_ (x3.1, x3.2)
  ) fun j3 =>
  if v2 = 0 then
    j3 ((-1), S1)
  else
    ck_ S1 b0 9 <| cI_ (f_X9_storms S1 b0 p1 p2) fun v5 S4 =>
    j3 (v5, S4)
set_option maxRecDepth 100000 in
set_option maxHeartbeats 4000000 in
theorem c_X9_storm (l : Launch) (G : Gx) (S : St) (b0 : Nat) (p1 : Int32) (p2 : Int32) (o : (Int32 × St)) (h : f_X9_storm S b0 p1 p2 = some o) : Met l yX9_storm (Cond.code yX9_storm cX9_storm 3 (some (.int)) :: wAll) ({ frames := 8, cells := 0, slots := 0, locals := 182 } : Room) (va_Pc [.ref (G.1 + b0), .int p1, .int p2] (wPre G S)) (qI G o) 0 0 (wA G) := by
  refine m_start (by decide +kernel) (Nat.le_of_ble_eq_true rfl) (fun X C => ?_)
  unfold f_X9_storm at h
  show WM X G 3 0 0 (wQ X G (qI G o) 0 0) 0 [(0, .ref (G.1 + b0)), (1, .int p1), (2, .int p2)] [] S
  refine m_aload_n C (dOf DX9_storm 0 rfl) rfl 0 rfl ?_
  refine m_iconst C (dOf DX9_storm 1 rfl) (v := 0) ki_0 ?_
  refine m_pI C (dOf DX9_storm 2 rfl) kf_X9_51 fp_9_0 h (fun S1 h => ?_)
  refine m_iload_n C (dOf DX9_storm 3 rfl) rfl 2 rfl ?_
  refine m_iconst C (dOf DX9_storm 4 rfl) (v := 1) ki_1 ?_
  refine m_bipush C (dOf DX9_storm 5 rfl) (v := 60) kb_60 ?_
  refine m_cP (st := []) h (fun o' ho H locs ls hl hr hs => ⟨_, m_runS C (dOf DX9_storm 6 rfl) km_X9_76 ks_X9_in rfl (by decide) ⟨rfl, rfl⟩ (c_X9_in _ G _ _ _ _ o' ho) rfl rfl (Nat.le_of_ble_eq_true rfl) ⟨Nat.le_refl _, Nat.le_refl _⟩ hl hr hs⟩) (fun v2 h => ?_)
  refine m_jn (J := fun (x3 : Int32 × St) => WM X G 3 0 0 (wQ X G (qI G o) 0 0) 25 [] [.int x3.1] x3.2) h (fun x3 h => ?_) (fun j3 hj3 h => ?_)
  · exact m_iret C rfl (dOf DX9_storm 14 rfl) h
  refine m_ifeq C (dOf DX9_storm 7 rfl) (tgt := 24) rfl h (fun h => ?_) (fun h => ?_)
  · refine m_iconst C (dOf DX9_storm 13 rfl) (v := (-1)) ki_m1 ?_
    exact m_sub [] rfl (hj3 _ h)
  · refine m_aload_n C (dOf DX9_storm 8 rfl) rfl 0 rfl ?_
    refine m_iload_n C (dOf DX9_storm 9 rfl) rfl 1 rfl ?_
    refine m_iload_n C (dOf DX9_storm 10 rfl) rfl 2 rfl ?_
    obtain ⟨hc, h⟩ := ck_spec h
    refine m_cI (st := []) h (fun o' ho H locs ls hl hr hs => ⟨_, m_runV C (dOf DX9_storm 11 rfl) km_X9_265 ky_X9_storms (by decide) ⟨rfl, rfl⟩ (c_X9_storms _ G _ _ _ _ o' ho) hc.1 hc.2 (by decide) rfl rfl rfl (Nat.le_of_ble_eq_true rfl) ⟨Nat.le_refl _, Nat.le_refl _⟩ hl hr hs⟩) (fun v5 S4 h => ?_)
    refine m_goto C (dOf DX9_storm 12 rfl) (tgt := 25) rfl ?_
    exact m_sub [] rfl (hj3 _ h)
/-- TraceRingModel.isReady(II)Z -/
def f_X9_isReady (S : St) (b0 : Nat) (p1 : Int32) (p2 : Int32) : Option Int32 :=
  ck_ S b0 9 <| cP_ (f_X9_item S b0 p1 p2 0) fun v1 =>
  jn_ (fun (x2 : Int32) =>
    rzP_ x2
  ) fun j2 =>
  jn_ (fun (x3 : Unit) =>
    j2 (0)
  ) fun j3 =>
  if v1 = 0 then
    ck_ S b0 9 <| cP_ (f_X9_endOf S b0 p1 p2) fun v4 =>
    ck_ S b0 9 <| cP_ (f_X9_of S b0 p1 2) fun v5 =>
    if v5 < v4 then
      j3 ()
    else
      j2 (1)
  else
    j3 ()
set_option maxRecDepth 100000 in
set_option maxHeartbeats 4000000 in
theorem c_X9_isReady (l : Launch) (G : Gx) (S : St) (b0 : Nat) (p1 : Int32) (p2 : Int32) (o : Int32) (h : f_X9_isReady S b0 p1 p2 = some o) : Met l yX9_isReady (Cond.code yX9_isReady cX9_isReady 3 (some (.boolean)) :: wAll) ({ frames := 3, cells := 0, slots := 0, locals := 67 } : Room) (va_Pc [.ref (G.1 + b0), .int p1, .int p2] (wPre G S)) (qI G (o, S)) 0 0 (wA G) := by
  refine m_start (by decide +kernel) (Nat.le_of_ble_eq_true rfl) (fun X C => ?_)
  unfold f_X9_isReady at h
  show WM X G 3 0 0 (wQ X G (qI G (o, S)) 0 0) 0 [(0, .ref (G.1 + b0)), (1, .int p1), (2, .int p2)] [] S
  refine m_aload_n C (dOf DX9_isReady 0 rfl) rfl 0 rfl ?_
  refine m_iload_n C (dOf DX9_isReady 1 rfl) rfl 1 rfl ?_
  refine m_iload_n C (dOf DX9_isReady 2 rfl) rfl 2 rfl ?_
  refine m_iconst C (dOf DX9_isReady 3 rfl) (v := 0) ki_0 ?_
  obtain ⟨hc, h⟩ := ck_spec h
  refine m_cP (st := []) h (fun o' ho H locs ls hl hr hs => ⟨_, m_runV C (dOf DX9_isReady 4 rfl) km_X9_155 ky_X9_item (by decide) ⟨rfl, rfl⟩ (c_X9_item _ G _ _ _ _ _ o' ho) hc.1 hc.2 (by decide) rfl rfl rfl (Nat.le_of_ble_eq_true rfl) ⟨Nat.le_refl _, Nat.le_refl _⟩ hl hr hs⟩) (fun v1 h => ?_)
  refine m_jn (J := fun (x2 : Int32) => WM X G 3 0 0 (wQ X G (qI G (o, S)) 0 0) 30 [] [.int x2] S) h (fun x2 h => ?_) (fun j2 hj2 h => ?_)
  · exact m_zretP C rfl (dOf DX9_isReady 18 rfl) h
  refine m_jn (J := fun (x3 : Unit) => WM X G 3 0 0 (wQ X G (qI G (o, S)) 0 0) 29 [] [] S) h (fun x3 h => ?_) (fun j3 hj3 h => ?_)
  · refine m_iconst C (dOf DX9_isReady 17 rfl) (v := 0) ki_0 ?_
    exact m_sub [] rfl (hj2 _ h)
  refine m_ifne C (dOf DX9_isReady 5 rfl) (tgt := 29) rfl h (fun h => ?_) (fun h => ?_)
  · exact m_sub [] rfl (hj3 _ h)
  · refine m_aload_n C (dOf DX9_isReady 6 rfl) rfl 0 rfl ?_
    refine m_iload_n C (dOf DX9_isReady 7 rfl) rfl 1 rfl ?_
    refine m_iload_n C (dOf DX9_isReady 8 rfl) rfl 2 rfl ?_
    obtain ⟨hc, h⟩ := ck_spec h
    refine m_cP (st := []) h (fun o' ho H locs ls hl hr hs => ⟨_, m_runV C (dOf DX9_isReady 9 rfl) km_X9_159 ky_X9_endOf (by decide) ⟨rfl, rfl⟩ (c_X9_endOf _ G _ _ _ _ o' ho) hc.1 hc.2 (by decide) rfl rfl rfl (Nat.le_of_ble_eq_true rfl) ⟨Nat.le_refl _, Nat.le_refl _⟩ hl hr hs⟩) (fun v4 h => ?_)
    refine m_aload_n C (dOf DX9_isReady 10 rfl) rfl 0 rfl ?_
    refine m_iload_n C (dOf DX9_isReady 11 rfl) rfl 1 rfl ?_
    refine m_iconst C (dOf DX9_isReady 12 rfl) (v := 2) ki_2 ?_
    obtain ⟨hc, h⟩ := ck_spec h
    refine m_cP (st := [.int v4]) h (fun o' ho H locs ls hl hr hs => ⟨_, m_runV C (dOf DX9_isReady 13 rfl) km_X9_144 ky_X9_of (by decide) ⟨rfl, rfl⟩ (c_X9_of _ G _ _ _ _ o' ho) hc.1 hc.2 (by decide) rfl rfl rfl (Nat.le_of_ble_eq_true rfl) ⟨Nat.le_refl _, Nat.le_refl _⟩ hl hr hs⟩) (fun v5 h => ?_)
    refine m_icmpgt C (dOf DX9_isReady 14 rfl) (tgt := 29) rfl h (fun h => ?_) (fun h => ?_)
    · exact m_sub [] rfl (hj3 _ h)
    · refine m_iconst C (dOf DX9_isReady 15 rfl) (v := 1) ki_1 ?_
      refine m_goto C (dOf DX9_isReady 16 rfl) (tgt := 30) rfl ?_
      exact m_sub [] rfl (hj2 _ h)
/-- TraceRingModel.readyMany()I -/
def f_X9_readyMany (S : St) (b0 : Nat) : Option Int32 :=
  lp_ (fun self1 (x1 : Int32 × Int32) =>
    ck_ S b0 9 <| cP_ (f_X9_live S b0) fun v2 =>
    if v2 ≤ x1.2 then
      rt_ x1.1
    else
      ck_ S b0 9 <| cP_ (f_X9_livePage S b0 x1.2) fun v3 =>
      lp_ (fun self4 (x4 : Int32 × Int32) =>
        ck_ S b0 9 <| cP_ (f_X9_of S b0 v3 3) fun v5 =>
        if v5 ≤ x4.2 then
          lt_ (x1.2 + 1) fun v6 =>
          self1 (x4.1, v6)
        else
          ck_ S b0 9 <| cP_ (f_X9_isReady S b0 v3 x4.2) fun v7 =>
          jn_ (fun (x8 : Int32) =>
            lt_ (x4.1 + x8 : Int32) fun v9 =>
            lt_ (x4.2 + 1) fun v10 =>
            self4 (v9, v10)
          ) fun j8 =>
          if v7 = 0 then
            j8 (0)
          else
            j8 (1)
      ) FU (x1.1, 0)
  ) FU (0, 0)
set_option maxRecDepth 100000 in
set_option maxHeartbeats 4000000 in
theorem c_X9_readyMany (l : Launch) (G : Gx) (S : St) (b0 : Nat) (o : Int32) (h : f_X9_readyMany S b0 = some o) : Met l yX9_readyMany (Cond.code yX9_readyMany cX9_readyMany 5 (some (.int)) :: wAll) ({ frames := 4, cells := 0, slots := 0, locals := 89 } : Room) (va_Pc [.ref (G.1 + b0)] (wPre G S)) (qI G (o, S)) 0 0 (wA G) := by
  refine m_start (by decide +kernel) (Nat.le_of_ble_eq_true rfl) (fun X C => ?_)
  unfold f_X9_readyMany at h
  show WM X G 5 0 0 (wQ X G (qI G (o, S)) 0 0) 0 [(0, .ref (G.1 + b0))] [] S
  refine m_iconst C (dOf DX9_readyMany 0 rfl) (v := 0) ki_0 ?_
  refine m_istore_n C (dOf DX9_readyMany 1 rfl) rfl (by decide) (lv' := [(1, .int 0), (0, .ref (G.1 + b0))]) rfl ?_
  refine m_iconst C (dOf DX9_readyMany 2 rfl) (v := 0) ki_0 ?_
  refine m_istore_n C (dOf DX9_readyMany 3 rfl) rfl (by decide) (lv' := [(2, .int 0), (1, .int 0), (0, .ref (G.1 + b0))]) rfl ?_
  refine m_sub [2, 1, 0] rfl (m_lp (J := fun (x1 : Int32 × Int32) => WM X G 5 0 0 (wQ X G (qI G (o, S)) 0 0) 4 [(0, .ref (G.1 + b0)), (1, .int x1.1), (2, .int x1.2)] [] S) h (fun self1 hself1 x1 h => ?_))
  refine m_iload_n C (dOf DX9_readyMany 4 rfl) rfl 2 rfl ?_
  refine m_aload_n C (dOf DX9_readyMany 5 rfl) rfl 0 rfl ?_
  obtain ⟨hc, h⟩ := ck_spec h
  refine m_cP (st := [.int x1.2]) h (fun o' ho H locs ls hl hr hs => ⟨_, m_runV C (dOf DX9_readyMany 6 rfl) km_X9_148 ky_X9_live (by decide) ⟨rfl, rfl⟩ (c_X9_live _ G _ _ o' ho) hc.1 hc.2 (by decide) rfl rfl rfl (Nat.le_of_ble_eq_true rfl) ⟨Nat.le_refl _, Nat.le_refl _⟩ hl hr hs⟩) (fun v2 h => ?_)
  refine m_icmpge C (dOf DX9_readyMany 7 rfl) (tgt := 62) rfl h (fun h => ?_) (fun h => ?_)
  · refine m_iload_n C (dOf DX9_readyMany 35 rfl) rfl 1 rfl ?_
    exact m_iretP C rfl (dOf DX9_readyMany 36 rfl) h
  · refine m_aload_n C (dOf DX9_readyMany 8 rfl) rfl 0 rfl ?_
    refine m_iload_n C (dOf DX9_readyMany 9 rfl) rfl 2 rfl ?_
    obtain ⟨hc, h⟩ := ck_spec h
    refine m_cP (st := []) h (fun o' ho H locs ls hl hr hs => ⟨_, m_runV C (dOf DX9_readyMany 10 rfl) km_X9_213 ky_X9_livePage (by decide) ⟨rfl, rfl⟩ (c_X9_livePage _ G _ _ _ o' ho) hc.1 hc.2 (by decide) rfl rfl rfl (Nat.le_of_ble_eq_true rfl) ⟨Nat.le_refl _, Nat.le_refl _⟩ hl hr hs⟩) (fun v3 h => ?_)
    refine m_istore_n C (dOf DX9_readyMany 11 rfl) rfl (by decide) (lv' := [(3, .int v3), (0, .ref (G.1 + b0)), (1, .int x1.1), (2, .int x1.2)]) rfl ?_
    refine m_iconst C (dOf DX9_readyMany 12 rfl) (v := 0) ki_0 ?_
    refine m_istore C (dOf DX9_readyMany 13 rfl) (by decide) (lv' := [(4, .int 0), (3, .int v3), (0, .ref (G.1 + b0)), (1, .int x1.1), (2, .int x1.2)]) rfl ?_
    refine m_sub [2, 3, 4, 1, 0] rfl (m_lp (J := fun (x4 : Int32 × Int32) => WM X G 5 0 0 (wQ X G (qI G (o, S)) 0 0) 21 [(0, .ref (G.1 + b0)), (1, .int x4.1), (2, .int x1.2), (3, .int v3), (4, .int x4.2)] [] S) h (fun self4 hself4 x4 h => ?_))
    refine m_iload C (dOf DX9_readyMany 14 rfl) 4 rfl ?_
    refine m_aload_n C (dOf DX9_readyMany 15 rfl) rfl 0 rfl ?_
    refine m_iload_n C (dOf DX9_readyMany 16 rfl) rfl 3 rfl ?_
    refine m_iconst C (dOf DX9_readyMany 17 rfl) (v := 3) ki_3 ?_
    obtain ⟨hc, h⟩ := ck_spec h
    refine m_cP (st := [.int x4.2]) h (fun o' ho H locs ls hl hr hs => ⟨_, m_runV C (dOf DX9_readyMany 18 rfl) km_X9_144 ky_X9_of (by decide) ⟨rfl, rfl⟩ (c_X9_of _ G _ _ _ _ o' ho) hc.1 hc.2 (by decide) rfl rfl rfl (Nat.le_of_ble_eq_true rfl) ⟨Nat.le_refl _, Nat.le_refl _⟩ hl hr hs⟩) (fun v5 h => ?_)
    refine m_icmpge C (dOf DX9_readyMany 19 rfl) (tgt := 56) rfl h (fun h => ?_) (fun h => ?_)
    · refine m_iinc C (dOf DX9_readyMany 33 rfl) (w := 1) ki_1 2 rfl (by decide) h (fun v6 h => ⟨[(2, .int v6), (0, .ref (G.1 + b0)), (1, .int x4.1), (3, .int v3), (4, .int x4.2)], rfl, ?_⟩)
      refine m_goto C (dOf DX9_readyMany 34 rfl) (tgt := 4) rfl ?_
      exact m_sub [1, 2, 0] rfl (hself1 _ h)
    · refine m_iload_n C (dOf DX9_readyMany 20 rfl) rfl 1 rfl ?_
      refine m_aload_n C (dOf DX9_readyMany 21 rfl) rfl 0 rfl ?_
      refine m_iload_n C (dOf DX9_readyMany 22 rfl) rfl 3 rfl ?_
      refine m_iload C (dOf DX9_readyMany 23 rfl) 4 rfl ?_
      obtain ⟨hc, h⟩ := ck_spec h
      refine m_cP (st := [.int x4.1]) h (fun o' ho H locs ls hl hr hs => ⟨_, m_runV C (dOf DX9_readyMany 24 rfl) km_X9_268 ky_X9_isReady (by decide) ⟨rfl, rfl⟩ (c_X9_isReady _ G _ _ _ _ o' ho) hc.1 hc.2 (by decide) rfl rfl rfl (Nat.le_of_ble_eq_true rfl) ⟨Nat.le_refl _, Nat.le_refl _⟩ hl hr hs⟩) (fun v7 h => ?_)
      refine m_jn (J := fun (x8 : Int32) => WM X G 5 0 0 (wQ X G (qI G (o, S)) 0 0) 48 [(0, .ref (G.1 + b0)), (2, .int x1.2), (3, .int v3), (4, .int x4.2)] [.int x8, .int x4.1] S) h (fun x8 h => ?_) (fun j8 hj8 h => ?_)
      · refine m_iadd C (dOf DX9_readyMany 29 rfl) h (fun v9 h => ?_)
        refine m_istore_n C (dOf DX9_readyMany 30 rfl) rfl (by decide) (lv' := [(1, .int v9), (0, .ref (G.1 + b0)), (2, .int x1.2), (3, .int v3), (4, .int x4.2)]) rfl ?_
        refine m_iinc C (dOf DX9_readyMany 31 rfl) (w := 1) ki_1 4 rfl (by decide) h (fun v10 h => ⟨[(4, .int v10), (1, .int v9), (0, .ref (G.1 + b0)), (2, .int x1.2), (3, .int v3)], rfl, ?_⟩)
        refine m_goto C (dOf DX9_readyMany 32 rfl) (tgt := 21) rfl ?_
        exact m_sub [2, 1, 3, 4, 0] rfl (hself4 _ h)
      refine m_ifeq C (dOf DX9_readyMany 25 rfl) (tgt := 47) rfl h (fun h => ?_) (fun h => ?_)
      · refine m_iconst C (dOf DX9_readyMany 28 rfl) (v := 0) ki_0 ?_
        exact m_sub [0, 2, 3, 4] rfl (hj8 _ h)
      · refine m_iconst C (dOf DX9_readyMany 26 rfl) (v := 1) ki_1 ?_
        refine m_goto C (dOf DX9_readyMany 27 rfl) (tgt := 48) rfl ?_
        exact m_sub [0, 2, 3, 4] rfl (hj8 _ h)
/-- TraceRingModel.isCount(I)Z -/
def f_X9_isCount (S : St) (b0 : Nat) (p1 : Int32) : Option Int32 :=
  cP_ (f_X9_in S p1 0 19) fun v1 =>
  jn_ (fun (x2 : Int32) =>
    rzP_ x2
  ) fun j2 =>
  jn_ (fun (x3 : Unit) =>
    j2 (1)
  ) fun j3 =>
  if v1 = 0 then
    cP_ (f_X9_in S p1 20 23) fun v4 =>
    if v4 = 0 then
      cP_ (f_X9_in S p1 30 33) fun v5 =>
      if v5 = 0 then
        if p1 = 40 then
          j3 ()
        else
          j2 (0)
      else
        j3 ()
    else
      j3 ()
  else
    j3 ()
set_option maxRecDepth 100000 in
set_option maxHeartbeats 4000000 in
theorem c_X9_isCount (l : Launch) (G : Gx) (S : St) (b0 : Nat) (p1 : Int32) (o : Int32) (h : f_X9_isCount S b0 p1 = some o) : Met l yX9_isCount (Cond.code yX9_isCount cX9_isCount 2 (some (.boolean)) :: wAll) ({ frames := 1, cells := 0, slots := 0, locals := 22 } : Room) (va_Pc [.ref (G.1 + b0), .int p1] (wPre G S)) (qI G (o, S)) 0 0 (wA G) := by
  refine m_start (by decide +kernel) (Nat.le_of_ble_eq_true rfl) (fun X C => ?_)
  unfold f_X9_isCount at h
  show WM X G 2 0 0 (wQ X G (qI G (o, S)) 0 0) 0 [(0, .ref (G.1 + b0)), (1, .int p1)] [] S
  refine m_iload_n C (dOf DX9_isCount 0 rfl) rfl 1 rfl ?_
  refine m_iconst C (dOf DX9_isCount 1 rfl) (v := 0) ki_0 ?_
  refine m_bipush C (dOf DX9_isCount 2 rfl) (v := 19) kb_19 ?_
  refine m_cP (st := []) h (fun o' ho H locs ls hl hr hs => ⟨_, m_runS C (dOf DX9_isCount 3 rfl) km_X9_76 ks_X9_in rfl (by decide) ⟨rfl, rfl⟩ (c_X9_in _ G _ _ _ _ o' ho) rfl rfl (Nat.le_of_ble_eq_true rfl) ⟨Nat.le_refl _, Nat.le_refl _⟩ hl hr hs⟩) (fun v1 h => ?_)
  refine m_jn (J := fun (x2 : Int32) => WM X G 2 0 0 (wQ X G (qI G (o, S)) 0 0) 43 [] [.int x2] S) h (fun x2 h => ?_) (fun j2 hj2 h => ?_)
  · exact m_zretP C rfl (dOf DX9_isCount 21 rfl) h
  refine m_jn (J := fun (x3 : Unit) => WM X G 2 0 0 (wQ X G (qI G (o, S)) 0 0) 38 [] [] S) h (fun x3 h => ?_) (fun j3 hj3 h => ?_)
  · refine m_iconst C (dOf DX9_isCount 18 rfl) (v := 1) ki_1 ?_
    refine m_goto C (dOf DX9_isCount 19 rfl) (tgt := 43) rfl ?_
    exact m_sub [] rfl (hj2 _ h)
  refine m_ifne C (dOf DX9_isCount 4 rfl) (tgt := 38) rfl h (fun h => ?_) (fun h => ?_)
  · exact m_sub [] rfl (hj3 _ h)
  · refine m_iload_n C (dOf DX9_isCount 5 rfl) rfl 1 rfl ?_
    refine m_bipush C (dOf DX9_isCount 6 rfl) (v := 20) kb_20 ?_
    refine m_bipush C (dOf DX9_isCount 7 rfl) (v := 23) kb_23 ?_
    refine m_cP (st := []) h (fun o' ho H locs ls hl hr hs => ⟨_, m_runS C (dOf DX9_isCount 8 rfl) km_X9_76 ks_X9_in rfl (by decide) ⟨rfl, rfl⟩ (c_X9_in _ G _ _ _ _ o' ho) rfl rfl (Nat.le_of_ble_eq_true rfl) ⟨Nat.le_refl _, Nat.le_refl _⟩ hl hr hs⟩) (fun v4 h => ?_)
    refine m_ifne C (dOf DX9_isCount 9 rfl) (tgt := 38) rfl h (fun h => ?_) (fun h => ?_)
    · exact m_sub [] rfl (hj3 _ h)
    · refine m_iload_n C (dOf DX9_isCount 10 rfl) rfl 1 rfl ?_
      refine m_bipush C (dOf DX9_isCount 11 rfl) (v := 30) kb_30 ?_
      refine m_bipush C (dOf DX9_isCount 12 rfl) (v := 33) kb_33 ?_
      refine m_cP (st := []) h (fun o' ho H locs ls hl hr hs => ⟨_, m_runS C (dOf DX9_isCount 13 rfl) km_X9_76 ks_X9_in rfl (by decide) ⟨rfl, rfl⟩ (c_X9_in _ G _ _ _ _ o' ho) rfl rfl (Nat.le_of_ble_eq_true rfl) ⟨Nat.le_refl _, Nat.le_refl _⟩ hl hr hs⟩) (fun v5 h => ?_)
      refine m_ifne C (dOf DX9_isCount 14 rfl) (tgt := 38) rfl h (fun h => ?_) (fun h => ?_)
      · exact m_sub [] rfl (hj3 _ h)
      · refine m_iload_n C (dOf DX9_isCount 15 rfl) rfl 1 rfl ?_
        refine m_bipush C (dOf DX9_isCount 16 rfl) (v := 40) kb_40 ?_
        refine m_icmpne C (dOf DX9_isCount 17 rfl) (tgt := 42) rfl h (fun h => ?_) (fun h => ?_)
        · refine m_iconst C (dOf DX9_isCount 20 rfl) (v := 0) ki_0 ?_
          exact m_sub [] rfl (hj2 _ h)
        · exact m_sub [] rfl (hj3 _ h)
/-- TraceRingModel.told(I)I -/
def f_X9_told (S : St) (b0 : Nat) (p1 : Int32) : Option Int32 :=
  jn_ (fun (x1 : Unit) =>
    gR_ S b0 9 1 fun a2 =>
    aI_ S a2 11 p1 fun v3 =>
    rt_ v3
  ) fun j1 =>
  jn_ (fun (x4 : Unit) =>
    gR_ S b0 9 1 fun a5 =>
    lt_ (10 + p1 : Int32) fun v6 =>
    lt_ (v6 - 6 : Int32) fun v7 =>
    aI_ S a5 11 v7 fun v8 =>
    rt_ v8
  ) fun j4 =>
  jn_ (fun (x9 : Unit) =>
    gR_ S b0 9 1 fun a10 =>
    lt_ (16 + p1 : Int32) fun v11 =>
    lt_ (v11 - 13 : Int32) fun v12 =>
    aI_ S a10 11 v12 fun v13 =>
    rt_ v13
  ) fun j9 =>
  jn_ (fun (x14 : Unit) =>
    gR_ S b0 9 1 fun a15 =>
    lt_ (18 + p1 : Int32) fun v16 =>
    lt_ (v16 - 16 : Int32) fun v17 =>
    aI_ S a15 11 v17 fun v18 =>
    rt_ v18
  ) fun j14 =>
  jn_ (fun (x19 : Unit) =>
    jn_ (fun (x20 : Int32) =>
      rt_ x20
    ) fun j20 =>
    if 30 ≤ p1 then
      gR_ S b0 9 1 fun a21 =>
      lt_ (26 + p1 : Int32) fun v22 =>
      lt_ (v22 - 30 : Int32) fun v23 =>
      aI_ S a21 11 v23 fun v24 =>
      j20 (v24)
    else
      gR_ S b0 9 1 fun a25 =>
      lt_ (22 + p1 : Int32) fun v26 =>
      lt_ (v26 - 20 : Int32) fun v27 =>
      aI_ S a25 11 v27 fun v28 =>
      j20 (v28)
  ) fun j19 =>
  if p1 = 0 then
    j1 ()
  else
  if p1 = 1 then
    j1 ()
  else
  if p1 = 2 then
    j1 ()
  else
  if p1 = 3 then
    j1 ()
  else
  if p1 = 4 then
    gR_ S b0 9 1 fun a29 =>
    aI_ S a29 11 6 fun v30 =>
    rt_ v30
  else
  if p1 = 5 then
    ck_ S b0 9 <| cP_ (f_X9_live S b0) fun v31 =>
    rt_ v31
  else
  if p1 = 6 then
    j4 ()
  else
  if p1 = 7 then
    j4 ()
  else
  if p1 = 8 then
    j4 ()
  else
  if p1 = 9 then
    j4 ()
  else
  if p1 = 10 then
    j4 ()
  else
  if p1 = 11 then
    j4 ()
  else
  if p1 = 12 then
    ck_ S b0 9 <| cP_ (f_X9_readyMany S b0) fun v32 =>
    rt_ v32
  else
  if p1 = 13 then
    j9 ()
  else
  if p1 = 14 then
    j9 ()
  else
  if p1 = 15 then
    gR_ S b0 9 1 fun a33 =>
    aI_ S a33 11 985 fun v34 =>
    rt_ v34
  else
  if p1 = 16 then
    j14 ()
  else
  if p1 = 17 then
    j14 ()
  else
  if p1 = 18 then
    j14 ()
  else
  if p1 = 19 then
    j14 ()
  else
  if p1 = 20 then
    j19 ()
  else
  if p1 = 21 then
    j19 ()
  else
  if p1 = 22 then
    j19 ()
  else
  if p1 = 23 then
    j19 ()
  else
  if p1 = 24 then
    j19 ()
  else
  if p1 = 25 then
    j19 ()
  else
  if p1 = 26 then
    j19 ()
  else
  if p1 = 27 then
    j19 ()
  else
  if p1 = 28 then
    j19 ()
  else
  if p1 = 29 then
    j19 ()
  else
  if p1 = 30 then
    j19 ()
  else
  if p1 = 31 then
    j19 ()
  else
  if p1 = 32 then
    j19 ()
  else
  if p1 = 33 then
    j19 ()
  else
  if p1 = 34 then
    j19 ()
  else
  if p1 = 35 then
    j19 ()
  else
  if p1 = 36 then
    j19 ()
  else
  if p1 = 37 then
    j19 ()
  else
  if p1 = 38 then
    j19 ()
  else
  if p1 = 39 then
    j19 ()
  else
  if p1 = 40 then
    gR_ S b0 9 1 fun a35 =>
    aI_ S a35 11 9 fun v36 =>
    rt_ v36
  else
  j19 ()
set_option maxRecDepth 100000 in
set_option maxHeartbeats 4000000 in
theorem c_X9_told (l : Launch) (G : Gx) (S : St) (b0 : Nat) (p1 : Int32) (o : Int32) (h : f_X9_told S b0 p1 = some o) : Met l yX9_told (Cond.code yX9_told cX9_told 2 (some (.int)) :: wAll) ({ frames := 5, cells := 0, slots := 0, locals := 113 } : Room) (va_Pc [.ref (G.1 + b0), .int p1] (wPre G S)) (qI G (o, S)) 0 0 (wA G) := by
  refine m_start (by decide +kernel) (Nat.le_of_ble_eq_true rfl) (fun X C => ?_)
  unfold f_X9_told at h
  show WM X G 2 0 0 (wQ X G (qI G (o, S)) 0 0) 0 [(0, .ref (G.1 + b0)), (1, .int p1)] [] S
  refine m_iload_n C (dOf DX9_told 0 rfl) rfl 1 rfl ?_
  refine m_jn (J := fun (x1 : Unit) => WM X G 2 0 0 (wQ X G (qI G (o, S)) 0 0) 180 [(0, .ref (G.1 + b0)), (1, .int p1)] [] S) h (fun x1 h => ?_) (fun j1 hj1 h => ?_)
  · refine m_aload_n C (dOf DX9_told 2 rfl) rfl 0 rfl ?_
    refine m_gR C (dOf DX9_told 3 rfl) kf_X9_7 fg_9_1 h (fun a2 h => ?_)
    refine m_iload_n C (dOf DX9_told 4 rfl) rfl 1 rfl ?_
    refine m_aI C (dOf DX9_told 5 rfl) h (fun v3 h => ?_)
    exact m_iretP C rfl (dOf DX9_told 6 rfl) h
  refine m_jn (J := fun (x4 : Unit) => WM X G 2 0 0 (wQ X G (qI G (o, S)) 0 0) 200 [(0, .ref (G.1 + b0)), (1, .int p1)] [] S) h (fun x4 h => ?_) (fun j4 hj4 h => ?_)
  · refine m_aload_n C (dOf DX9_told 15 rfl) rfl 0 rfl ?_
    refine m_gR C (dOf DX9_told 16 rfl) kf_X9_7 fg_9_1 h (fun a5 h => ?_)
    refine m_bipush C (dOf DX9_told 17 rfl) (v := 10) kb_10 ?_
    refine m_iload_n C (dOf DX9_told 18 rfl) rfl 1 rfl ?_
    refine m_iadd C (dOf DX9_told 19 rfl) h (fun v6 h => ?_)
    refine m_bipush C (dOf DX9_told 20 rfl) (v := 6) kb_6 ?_
    refine m_isub C (dOf DX9_told 21 rfl) h (fun v7 h => ?_)
    refine m_aI C (dOf DX9_told 22 rfl) h (fun v8 h => ?_)
    exact m_iretP C rfl (dOf DX9_told 23 rfl) h
  refine m_jn (J := fun (x9 : Unit) => WM X G 2 0 0 (wQ X G (qI G (o, S)) 0 0) 218 [(0, .ref (G.1 + b0)), (1, .int p1)] [] S) h (fun x9 h => ?_) (fun j9 hj9 h => ?_)
  · refine m_aload_n C (dOf DX9_told 27 rfl) rfl 0 rfl ?_
    refine m_gR C (dOf DX9_told 28 rfl) kf_X9_7 fg_9_1 h (fun a10 h => ?_)
    refine m_bipush C (dOf DX9_told 29 rfl) (v := 16) kb_16 ?_
    refine m_iload_n C (dOf DX9_told 30 rfl) rfl 1 rfl ?_
    refine m_iadd C (dOf DX9_told 31 rfl) h (fun v11 h => ?_)
    refine m_bipush C (dOf DX9_told 32 rfl) (v := 13) kb_13 ?_
    refine m_isub C (dOf DX9_told 33 rfl) h (fun v12 h => ?_)
    refine m_aI C (dOf DX9_told 34 rfl) h (fun v13 h => ?_)
    exact m_iretP C rfl (dOf DX9_told 35 rfl) h
  refine m_jn (J := fun (x14 : Unit) => WM X G 2 0 0 (wQ X G (qI G (o, S)) 0 0) 240 [(0, .ref (G.1 + b0)), (1, .int p1)] [] S) h (fun x14 h => ?_) (fun j14 hj14 h => ?_)
  · refine m_aload_n C (dOf DX9_told 41 rfl) rfl 0 rfl ?_
    refine m_gR C (dOf DX9_told 42 rfl) kf_X9_7 fg_9_1 h (fun a15 h => ?_)
    refine m_bipush C (dOf DX9_told 43 rfl) (v := 18) kb_18 ?_
    refine m_iload_n C (dOf DX9_told 44 rfl) rfl 1 rfl ?_
    refine m_iadd C (dOf DX9_told 45 rfl) h (fun v16 h => ?_)
    refine m_bipush C (dOf DX9_told 46 rfl) (v := 16) kb_16 ?_
    refine m_isub C (dOf DX9_told 47 rfl) h (fun v17 h => ?_)
    refine m_aI C (dOf DX9_told 48 rfl) h (fun v18 h => ?_)
    exact m_iretP C rfl (dOf DX9_told 49 rfl) h
  refine m_jn (J := fun (x19 : Unit) => WM X G 2 0 0 (wQ X G (qI G (o, S)) 0 0) 261 [(0, .ref (G.1 + b0)), (1, .int p1)] [] S) h (fun x19 h => ?_) (fun j19 hj19 h => ?_)
  · refine m_iload_n C (dOf DX9_told 55 rfl) rfl 1 rfl ?_
    refine m_bipush C (dOf DX9_told 56 rfl) (v := 30) kb_30 ?_
    refine m_jn (J := fun (x20 : Int32) => WM X G 2 0 0 (wQ X G (qI G (o, S)) 0 0) 294 [] [.int x20] S) h (fun x20 h => ?_) (fun j20 hj20 h => ?_)
    · exact m_iretP C rfl (dOf DX9_told 75 rfl) h
    refine m_icmpge C (dOf DX9_told 57 rfl) (tgt := 282) rfl h (fun h => ?_) (fun h => ?_)
    · refine m_aload_n C (dOf DX9_told 67 rfl) rfl 0 rfl ?_
      refine m_gR C (dOf DX9_told 68 rfl) kf_X9_7 fg_9_1 h (fun a21 h => ?_)
      refine m_bipush C (dOf DX9_told 69 rfl) (v := 26) kb_26 ?_
      refine m_iload_n C (dOf DX9_told 70 rfl) rfl 1 rfl ?_
      refine m_iadd C (dOf DX9_told 71 rfl) h (fun v22 h => ?_)
      refine m_bipush C (dOf DX9_told 72 rfl) (v := 30) kb_30 ?_
      refine m_isub C (dOf DX9_told 73 rfl) h (fun v23 h => ?_)
      refine m_aI C (dOf DX9_told 74 rfl) h (fun v24 h => ?_)
      exact m_sub [] rfl (hj20 _ h)
    · refine m_aload_n C (dOf DX9_told 58 rfl) rfl 0 rfl ?_
      refine m_gR C (dOf DX9_told 59 rfl) kf_X9_7 fg_9_1 h (fun a25 h => ?_)
      refine m_bipush C (dOf DX9_told 60 rfl) (v := 22) kb_22 ?_
      refine m_iload_n C (dOf DX9_told 61 rfl) rfl 1 rfl ?_
      refine m_iadd C (dOf DX9_told 62 rfl) h (fun v26 h => ?_)
      refine m_bipush C (dOf DX9_told 63 rfl) (v := 20) kb_20 ?_
      refine m_isub C (dOf DX9_told 64 rfl) h (fun v27 h => ?_)
      refine m_aI C (dOf DX9_told 65 rfl) h (fun v28 h => ?_)
      refine m_goto C (dOf DX9_told 66 rfl) (tgt := 294) rfl ?_
      exact m_sub [] rfl (hj20 _ h)
  refine m_sw h (fun e h => ?_) (fun n0 h => ?_)
  · refine m_tin C (dOf DX9_told 1 rfl) 0 e (by decide) (by decide) (off := 179) rfl (tgt := 180) rfl ?_
    exact m_sub [0, 1] rfl (hj1 _ h)
  refine m_sw h (fun e h => ?_) (fun n1 h => ?_)
  · refine m_tin C (dOf DX9_told 1 rfl) 1 e (by decide) (by decide) (off := 179) rfl (tgt := 180) rfl ?_
    exact m_sub [0, 1] rfl (hj1 _ h)
  refine m_sw h (fun e h => ?_) (fun n2 h => ?_)
  · refine m_tin C (dOf DX9_told 1 rfl) 2 e (by decide) (by decide) (off := 179) rfl (tgt := 180) rfl ?_
    exact m_sub [0, 1] rfl (hj1 _ h)
  refine m_sw h (fun e h => ?_) (fun n3 h => ?_)
  · refine m_tin C (dOf DX9_told 1 rfl) 3 e (by decide) (by decide) (off := 179) rfl (tgt := 180) rfl ?_
    exact m_sub [0, 1] rfl (hj1 _ h)
  refine m_sw h (fun e h => ?_) (fun n4 h => ?_)
  · refine m_tin C (dOf DX9_told 1 rfl) 4 e (by decide) (by decide) (off := 186) rfl (tgt := 187) rfl ?_
    refine m_aload_n C (dOf DX9_told 7 rfl) rfl 0 rfl ?_
    refine m_gR C (dOf DX9_told 8 rfl) kf_X9_7 fg_9_1 h (fun a29 h => ?_)
    refine m_bipush C (dOf DX9_told 9 rfl) (v := 6) kb_6 ?_
    refine m_aI C (dOf DX9_told 10 rfl) h (fun v30 h => ?_)
    exact m_iretP C rfl (dOf DX9_told 11 rfl) h
  refine m_sw h (fun e h => ?_) (fun n5 h => ?_)
  · refine m_tin C (dOf DX9_told 1 rfl) 5 e (by decide) (by decide) (off := 194) rfl (tgt := 195) rfl ?_
    refine m_aload_n C (dOf DX9_told 12 rfl) rfl 0 rfl ?_
    obtain ⟨hc, h⟩ := ck_spec h
    refine m_cP (st := []) h (fun o' ho H locs ls hl hr hs => ⟨_, m_runV C (dOf DX9_told 13 rfl) km_X9_148 ky_X9_live (by decide) ⟨rfl, rfl⟩ (c_X9_live _ G _ _ o' ho) hc.1 hc.2 (by decide) rfl rfl rfl (Nat.le_of_ble_eq_true rfl) ⟨Nat.le_refl _, Nat.le_refl _⟩ hl hr hs⟩) (fun v31 h => ?_)
    exact m_iretP C rfl (dOf DX9_told 14 rfl) h
  refine m_sw h (fun e h => ?_) (fun n6 h => ?_)
  · refine m_tin C (dOf DX9_told 1 rfl) 6 e (by decide) (by decide) (off := 199) rfl (tgt := 200) rfl ?_
    exact m_sub [0, 1] rfl (hj4 _ h)
  refine m_sw h (fun e h => ?_) (fun n7 h => ?_)
  · refine m_tin C (dOf DX9_told 1 rfl) 7 e (by decide) (by decide) (off := 199) rfl (tgt := 200) rfl ?_
    exact m_sub [0, 1] rfl (hj4 _ h)
  refine m_sw h (fun e h => ?_) (fun n8 h => ?_)
  · refine m_tin C (dOf DX9_told 1 rfl) 8 e (by decide) (by decide) (off := 199) rfl (tgt := 200) rfl ?_
    exact m_sub [0, 1] rfl (hj4 _ h)
  refine m_sw h (fun e h => ?_) (fun n9 h => ?_)
  · refine m_tin C (dOf DX9_told 1 rfl) 9 e (by decide) (by decide) (off := 199) rfl (tgt := 200) rfl ?_
    exact m_sub [0, 1] rfl (hj4 _ h)
  refine m_sw h (fun e h => ?_) (fun n10 h => ?_)
  · refine m_tin C (dOf DX9_told 1 rfl) 10 e (by decide) (by decide) (off := 199) rfl (tgt := 200) rfl ?_
    exact m_sub [0, 1] rfl (hj4 _ h)
  refine m_sw h (fun e h => ?_) (fun n11 h => ?_)
  · refine m_tin C (dOf DX9_told 1 rfl) 11 e (by decide) (by decide) (off := 199) rfl (tgt := 200) rfl ?_
    exact m_sub [0, 1] rfl (hj4 _ h)
  refine m_sw h (fun e h => ?_) (fun n12 h => ?_)
  · refine m_tin C (dOf DX9_told 1 rfl) 12 e (by decide) (by decide) (off := 212) rfl (tgt := 213) rfl ?_
    refine m_aload_n C (dOf DX9_told 24 rfl) rfl 0 rfl ?_
    obtain ⟨hc, h⟩ := ck_spec h
    refine m_cP (st := []) h (fun o' ho H locs ls hl hr hs => ⟨_, m_runV C (dOf DX9_told 25 rfl) km_X9_271 ky_X9_readyMany (by decide) ⟨rfl, rfl⟩ (c_X9_readyMany _ G _ _ o' ho) hc.1 hc.2 (by decide) rfl rfl rfl (Nat.le_of_ble_eq_true rfl) ⟨Nat.le_refl _, Nat.le_refl _⟩ hl hr hs⟩) (fun v32 h => ?_)
    exact m_iretP C rfl (dOf DX9_told 26 rfl) h
  refine m_sw h (fun e h => ?_) (fun n13 h => ?_)
  · refine m_tin C (dOf DX9_told 1 rfl) 13 e (by decide) (by decide) (off := 217) rfl (tgt := 218) rfl ?_
    exact m_sub [0, 1] rfl (hj9 _ h)
  refine m_sw h (fun e h => ?_) (fun n14 h => ?_)
  · refine m_tin C (dOf DX9_told 1 rfl) 14 e (by decide) (by decide) (off := 217) rfl (tgt := 218) rfl ?_
    exact m_sub [0, 1] rfl (hj9 _ h)
  refine m_sw h (fun e h => ?_) (fun n15 h => ?_)
  · refine m_tin C (dOf DX9_told 1 rfl) 15 e (by decide) (by decide) (off := 230) rfl (tgt := 231) rfl ?_
    refine m_aload_n C (dOf DX9_told 36 rfl) rfl 0 rfl ?_
    refine m_gR C (dOf DX9_told 37 rfl) kf_X9_7 fg_9_1 h (fun a33 h => ?_)
    refine m_sipush C (dOf DX9_told 38 rfl) (v := 985) ks_985 ?_
    refine m_aI C (dOf DX9_told 39 rfl) h (fun v34 h => ?_)
    exact m_iretP C rfl (dOf DX9_told 40 rfl) h
  refine m_sw h (fun e h => ?_) (fun n16 h => ?_)
  · refine m_tin C (dOf DX9_told 1 rfl) 16 e (by decide) (by decide) (off := 239) rfl (tgt := 240) rfl ?_
    exact m_sub [0, 1] rfl (hj14 _ h)
  refine m_sw h (fun e h => ?_) (fun n17 h => ?_)
  · refine m_tin C (dOf DX9_told 1 rfl) 17 e (by decide) (by decide) (off := 239) rfl (tgt := 240) rfl ?_
    exact m_sub [0, 1] rfl (hj14 _ h)
  refine m_sw h (fun e h => ?_) (fun n18 h => ?_)
  · refine m_tin C (dOf DX9_told 1 rfl) 18 e (by decide) (by decide) (off := 239) rfl (tgt := 240) rfl ?_
    exact m_sub [0, 1] rfl (hj14 _ h)
  refine m_sw h (fun e h => ?_) (fun n19 h => ?_)
  · refine m_tin C (dOf DX9_told 1 rfl) 19 e (by decide) (by decide) (off := 239) rfl (tgt := 240) rfl ?_
    exact m_sub [0, 1] rfl (hj14 _ h)
  refine m_sw h (fun e h => ?_) (fun n20 h => ?_)
  · refine m_tin C (dOf DX9_told 1 rfl) 20 e (by decide) (by decide) (off := 260) rfl (tgt := 261) rfl ?_
    exact m_sub [0, 1] rfl (hj19 _ h)
  refine m_sw h (fun e h => ?_) (fun n21 h => ?_)
  · refine m_tin C (dOf DX9_told 1 rfl) 21 e (by decide) (by decide) (off := 260) rfl (tgt := 261) rfl ?_
    exact m_sub [0, 1] rfl (hj19 _ h)
  refine m_sw h (fun e h => ?_) (fun n22 h => ?_)
  · refine m_tin C (dOf DX9_told 1 rfl) 22 e (by decide) (by decide) (off := 260) rfl (tgt := 261) rfl ?_
    exact m_sub [0, 1] rfl (hj19 _ h)
  refine m_sw h (fun e h => ?_) (fun n23 h => ?_)
  · refine m_tin C (dOf DX9_told 1 rfl) 23 e (by decide) (by decide) (off := 260) rfl (tgt := 261) rfl ?_
    exact m_sub [0, 1] rfl (hj19 _ h)
  refine m_sw h (fun e h => ?_) (fun n24 h => ?_)
  · refine m_tin C (dOf DX9_told 1 rfl) 24 e (by decide) (by decide) (off := 260) rfl (tgt := 261) rfl ?_
    exact m_sub [0, 1] rfl (hj19 _ h)
  refine m_sw h (fun e h => ?_) (fun n25 h => ?_)
  · refine m_tin C (dOf DX9_told 1 rfl) 25 e (by decide) (by decide) (off := 260) rfl (tgt := 261) rfl ?_
    exact m_sub [0, 1] rfl (hj19 _ h)
  refine m_sw h (fun e h => ?_) (fun n26 h => ?_)
  · refine m_tin C (dOf DX9_told 1 rfl) 26 e (by decide) (by decide) (off := 260) rfl (tgt := 261) rfl ?_
    exact m_sub [0, 1] rfl (hj19 _ h)
  refine m_sw h (fun e h => ?_) (fun n27 h => ?_)
  · refine m_tin C (dOf DX9_told 1 rfl) 27 e (by decide) (by decide) (off := 260) rfl (tgt := 261) rfl ?_
    exact m_sub [0, 1] rfl (hj19 _ h)
  refine m_sw h (fun e h => ?_) (fun n28 h => ?_)
  · refine m_tin C (dOf DX9_told 1 rfl) 28 e (by decide) (by decide) (off := 260) rfl (tgt := 261) rfl ?_
    exact m_sub [0, 1] rfl (hj19 _ h)
  refine m_sw h (fun e h => ?_) (fun n29 h => ?_)
  · refine m_tin C (dOf DX9_told 1 rfl) 29 e (by decide) (by decide) (off := 260) rfl (tgt := 261) rfl ?_
    exact m_sub [0, 1] rfl (hj19 _ h)
  refine m_sw h (fun e h => ?_) (fun n30 h => ?_)
  · refine m_tin C (dOf DX9_told 1 rfl) 30 e (by decide) (by decide) (off := 260) rfl (tgt := 261) rfl ?_
    exact m_sub [0, 1] rfl (hj19 _ h)
  refine m_sw h (fun e h => ?_) (fun n31 h => ?_)
  · refine m_tin C (dOf DX9_told 1 rfl) 31 e (by decide) (by decide) (off := 260) rfl (tgt := 261) rfl ?_
    exact m_sub [0, 1] rfl (hj19 _ h)
  refine m_sw h (fun e h => ?_) (fun n32 h => ?_)
  · refine m_tin C (dOf DX9_told 1 rfl) 32 e (by decide) (by decide) (off := 260) rfl (tgt := 261) rfl ?_
    exact m_sub [0, 1] rfl (hj19 _ h)
  refine m_sw h (fun e h => ?_) (fun n33 h => ?_)
  · refine m_tin C (dOf DX9_told 1 rfl) 33 e (by decide) (by decide) (off := 260) rfl (tgt := 261) rfl ?_
    exact m_sub [0, 1] rfl (hj19 _ h)
  refine m_sw h (fun e h => ?_) (fun n34 h => ?_)
  · refine m_tin C (dOf DX9_told 1 rfl) 34 e (by decide) (by decide) (off := 260) rfl (tgt := 261) rfl ?_
    exact m_sub [0, 1] rfl (hj19 _ h)
  refine m_sw h (fun e h => ?_) (fun n35 h => ?_)
  · refine m_tin C (dOf DX9_told 1 rfl) 35 e (by decide) (by decide) (off := 260) rfl (tgt := 261) rfl ?_
    exact m_sub [0, 1] rfl (hj19 _ h)
  refine m_sw h (fun e h => ?_) (fun n36 h => ?_)
  · refine m_tin C (dOf DX9_told 1 rfl) 36 e (by decide) (by decide) (off := 260) rfl (tgt := 261) rfl ?_
    exact m_sub [0, 1] rfl (hj19 _ h)
  refine m_sw h (fun e h => ?_) (fun n37 h => ?_)
  · refine m_tin C (dOf DX9_told 1 rfl) 37 e (by decide) (by decide) (off := 260) rfl (tgt := 261) rfl ?_
    exact m_sub [0, 1] rfl (hj19 _ h)
  refine m_sw h (fun e h => ?_) (fun n38 h => ?_)
  · refine m_tin C (dOf DX9_told 1 rfl) 38 e (by decide) (by decide) (off := 260) rfl (tgt := 261) rfl ?_
    exact m_sub [0, 1] rfl (hj19 _ h)
  refine m_sw h (fun e h => ?_) (fun n39 h => ?_)
  · refine m_tin C (dOf DX9_told 1 rfl) 39 e (by decide) (by decide) (off := 260) rfl (tgt := 261) rfl ?_
    exact m_sub [0, 1] rfl (hj19 _ h)
  refine m_sw h (fun e h => ?_) (fun n40 h => ?_)
  · refine m_tin C (dOf DX9_told 1 rfl) 40 e (by decide) (by decide) (off := 252) rfl (tgt := 253) rfl ?_
    refine m_aload_n C (dOf DX9_told 50 rfl) rfl 0 rfl ?_
    refine m_gR C (dOf DX9_told 51 rfl) kf_X9_7 fg_9_1 h (fun a35 h => ?_)
    refine m_bipush C (dOf DX9_told 52 rfl) (v := 9) kb_9 ?_
    refine m_aI C (dOf DX9_told 53 rfl) h (fun v36 h => ?_)
    exact m_iretP C rfl (dOf DX9_told 54 rfl) h
  have qn0 := neT n0 kt_0
  have qn1 := neT n1 kt_1
  have qn2 := neT n2 kt_2
  have qn3 := neT n3 kt_3
  have qn4 := neT n4 kt_4
  have qn5 := neT n5 kt_5
  have qn6 := neT n6 kt_6
  have qn7 := neT n7 kt_7
  have qn8 := neT n8 kt_8
  have qn9 := neT n9 kt_9
  have qn10 := neT n10 kt_10
  have qn11 := neT n11 kt_11
  have qn12 := neT n12 kt_12
  have qn13 := neT n13 kt_13
  have qn14 := neT n14 kt_14
  have qn15 := neT n15 kt_15
  have qn16 := neT n16 kt_16
  have qn17 := neT n17 kt_17
  have qn18 := neT n18 kt_18
  have qn19 := neT n19 kt_19
  have qn20 := neT n20 kt_20
  have qn21 := neT n21 kt_21
  have qn22 := neT n22 kt_22
  have qn23 := neT n23 kt_23
  have qn24 := neT n24 kt_24
  have qn25 := neT n25 kt_25
  have qn26 := neT n26 kt_26
  have qn27 := neT n27 kt_27
  have qn28 := neT n28 kt_28
  have qn29 := neT n29 kt_29
  have qn30 := neT n30 kt_30
  have qn31 := neT n31 kt_31
  have qn32 := neT n32 kt_32
  have qn33 := neT n33 kt_33
  have qn34 := neT n34 kt_34
  have qn35 := neT n35 kt_35
  have qn36 := neT n36 kt_36
  have qn37 := neT n37 kt_37
  have qn38 := neT n38 kt_38
  have qn39 := neT n39 kt_39
  have qn40 := neT n40 kt_40
  refine m_tout C (dOf DX9_told 1 rfl) (tgt := 261) (by omega) rfl ?_
  exact m_sub [0, 1] rfl (hj19 _ h)
/-- TraceRingModel.count(I)I -/
def f_X9_count (S : St) (b0 : Nat) (p1 : Int32) : Option (Int32 × St) :=
  pI_ S b0 9 0 0 fun S1 =>
  ck_ S1 b0 9 <| cP_ (f_X9_isCount S1 b0 p1) fun v2 =>
  jn_ (fun (x3 : Int32) =>
    rt_ (x3, S1)
  ) fun j3 =>
  if v2 = 0 then
    j3 ((-1))
  else
    ck_ S1 b0 9 <| cP_ (f_X9_told S1 b0 p1) fun v4 =>
    j3 (v4)
set_option maxRecDepth 100000 in
set_option maxHeartbeats 4000000 in
theorem c_X9_count (l : Launch) (G : Gx) (S : St) (b0 : Nat) (p1 : Int32) (o : (Int32 × St)) (h : f_X9_count S b0 p1 = some o) : Met l yX9_count (Cond.code yX9_count cX9_count 2 (some (.int)) :: wAll) ({ frames := 6, cells := 0, slots := 0, locals := 134 } : Room) (va_Pc [.ref (G.1 + b0), .int p1] (wPre G S)) (qI G o) 0 0 (wA G) := by
  refine m_start (by decide +kernel) (Nat.le_of_ble_eq_true rfl) (fun X C => ?_)
  unfold f_X9_count at h
  show WM X G 2 0 0 (wQ X G (qI G o) 0 0) 0 [(0, .ref (G.1 + b0)), (1, .int p1)] [] S
  refine m_aload_n C (dOf DX9_count 0 rfl) rfl 0 rfl ?_
  refine m_iconst C (dOf DX9_count 1 rfl) (v := 0) ki_0 ?_
  refine m_pI C (dOf DX9_count 2 rfl) kf_X9_51 fp_9_0 h (fun S1 h => ?_)
  refine m_aload_n C (dOf DX9_count 3 rfl) rfl 0 rfl ?_
  refine m_iload_n C (dOf DX9_count 4 rfl) rfl 1 rfl ?_
  obtain ⟨hc, h⟩ := ck_spec h
  refine m_cP (st := []) h (fun o' ho H locs ls hl hr hs => ⟨_, m_runV C (dOf DX9_count 5 rfl) km_X9_274 ky_X9_isCount (by decide) ⟨rfl, rfl⟩ (c_X9_isCount _ G _ _ _ o' ho) hc.1 hc.2 (by decide) rfl rfl rfl (Nat.le_of_ble_eq_true rfl) ⟨Nat.le_refl _, Nat.le_refl _⟩ hl hr hs⟩) (fun v2 h => ?_)
  refine m_jn (J := fun (x3 : Int32) => WM X G 2 0 0 (wQ X G (qI G o) 0 0) 22 [] [.int x3] S1) h (fun x3 h => ?_) (fun j3 hj3 h => ?_)
  · exact m_iret C rfl (dOf DX9_count 12 rfl) h
  refine m_ifeq C (dOf DX9_count 6 rfl) (tgt := 21) rfl h (fun h => ?_) (fun h => ?_)
  · refine m_iconst C (dOf DX9_count 11 rfl) (v := (-1)) ki_m1 ?_
    exact m_sub [] rfl (hj3 _ h)
  · refine m_aload_n C (dOf DX9_count 7 rfl) rfl 0 rfl ?_
    refine m_iload_n C (dOf DX9_count 8 rfl) rfl 1 rfl ?_
    obtain ⟨hc, h⟩ := ck_spec h
    refine m_cP (st := []) h (fun o' ho H locs ls hl hr hs => ⟨_, m_runV C (dOf DX9_count 9 rfl) km_X9_277 ky_X9_told (by decide) ⟨rfl, rfl⟩ (c_X9_told _ G _ _ _ o' ho) hc.1 hc.2 (by decide) rfl rfl rfl (Nat.le_of_ble_eq_true rfl) ⟨Nat.le_refl _, Nat.le_refl _⟩ hl hr hs⟩) (fun v4 h => ?_)
    refine m_goto C (dOf DX9_count 10 rfl) (tgt := 22) rfl ?_
    exact m_sub [] rfl (hj3 _ h)
/-- TraceRingModel.placeOf(I)I -/
def f_X9_placeOf (S : St) (b0 : Nat) (p1 : Int32) : Option Int32 :=
  lp_ (fun self1 (x1 : Int32) =>
    gR_ S b0 9 1 fun a2 =>
    aI_ S a2 11 0 fun v3 =>
    if v3 ≤ x1 then
      rt_ (-1)
    else
      ck_ S b0 9 <| cP_ (f_X9_pageAt S b0 x1) fun v4 =>
      if v4 = p1 then
        rt_ x1
      else
        lt_ (x1 + 1) fun v5 =>
        self1 (v5)
  ) FU (0)
set_option maxRecDepth 100000 in
set_option maxHeartbeats 4000000 in
theorem c_X9_placeOf (l : Launch) (G : Gx) (S : St) (b0 : Nat) (p1 : Int32) (o : Int32) (h : f_X9_placeOf S b0 p1 = some o) : Met l yX9_placeOf (Cond.code yX9_placeOf cX9_placeOf 3 (some (.int)) :: wAll) ({ frames := 1, cells := 0, slots := 0, locals := 21 } : Room) (va_Pc [.ref (G.1 + b0), .int p1] (wPre G S)) (qI G (o, S)) 0 0 (wA G) := by
  refine m_start (by decide +kernel) (Nat.le_of_ble_eq_true rfl) (fun X C => ?_)
  unfold f_X9_placeOf at h
  show WM X G 3 0 0 (wQ X G (qI G (o, S)) 0 0) 0 [(0, .ref (G.1 + b0)), (1, .int p1)] [] S
  refine m_iconst C (dOf DX9_placeOf 0 rfl) (v := 0) ki_0 ?_
  refine m_istore_n C (dOf DX9_placeOf 1 rfl) rfl (by decide) (lv' := [(2, .int 0), (0, .ref (G.1 + b0)), (1, .int p1)]) rfl ?_
  refine m_sub [1, 2, 0] rfl (m_lp (J := fun (x1 : Int32) => WM X G 3 0 0 (wQ X G (qI G (o, S)) 0 0) 2 [(0, .ref (G.1 + b0)), (1, .int p1), (2, .int x1)] [] S) h (fun self1 hself1 x1 h => ?_))
  refine m_iload_n C (dOf DX9_placeOf 2 rfl) rfl 2 rfl ?_
  refine m_aload_n C (dOf DX9_placeOf 3 rfl) rfl 0 rfl ?_
  refine m_gR C (dOf DX9_placeOf 4 rfl) kf_X9_7 fg_9_1 h (fun a2 h => ?_)
  refine m_iconst C (dOf DX9_placeOf 5 rfl) (v := 0) ki_0 ?_
  refine m_aI C (dOf DX9_placeOf 6 rfl) h (fun v3 h => ?_)
  refine m_icmpge C (dOf DX9_placeOf 7 rfl) (tgt := 29) rfl h (fun h => ?_) (fun h => ?_)
  · refine m_iconst C (dOf DX9_placeOf 17 rfl) (v := (-1)) ki_m1 ?_
    exact m_iretP C rfl (dOf DX9_placeOf 18 rfl) h
  · refine m_aload_n C (dOf DX9_placeOf 8 rfl) rfl 0 rfl ?_
    refine m_iload_n C (dOf DX9_placeOf 9 rfl) rfl 2 rfl ?_
    obtain ⟨hc, h⟩ := ck_spec h
    refine m_cP (st := []) h (fun o' ho H locs ls hl hr hs => ⟨_, m_runV C (dOf DX9_placeOf 10 rfl) km_X9_151 ky_X9_pageAt (by decide) ⟨rfl, rfl⟩ (c_X9_pageAt _ G _ _ _ o' ho) hc.1 hc.2 (by decide) rfl rfl rfl (Nat.le_of_ble_eq_true rfl) ⟨Nat.le_refl _, Nat.le_refl _⟩ hl hr hs⟩) (fun v4 h => ?_)
    refine m_iload_n C (dOf DX9_placeOf 11 rfl) rfl 1 rfl ?_
    refine m_icmpne C (dOf DX9_placeOf 12 rfl) (tgt := 23) rfl h (fun h => ?_) (fun h => ?_)
    · refine m_iinc C (dOf DX9_placeOf 15 rfl) (w := 1) ki_1 2 rfl (by decide) h (fun v5 h => ⟨[(2, .int v5), (0, .ref (G.1 + b0)), (1, .int p1)], rfl, ?_⟩)
      refine m_goto C (dOf DX9_placeOf 16 rfl) (tgt := 2) rfl ?_
      exact m_sub [1, 2, 0] rfl (hself1 _ h)
    · refine m_iload_n C (dOf DX9_placeOf 13 rfl) rfl 2 rfl ?_
      exact m_iretP C rfl (dOf DX9_placeOf 14 rfl) h
/-- TraceRingModel.page(II)I -/
def f_X9_page (S : St) (b0 : Nat) (p1 : Int32) (p2 : Int32) : Option (Int32 × St) :=
  pI_ S b0 9 0 0 fun S1 =>
  ck_ S1 b0 9 <| cP_ (f_X9_livePage S1 b0 p1) fun v2 =>
  jn_ (fun (x3 : Unit) =>
    rt_ ((-2), S1)
  ) fun j3 =>
  if v2 = (-2) then
    j3 ()
  else
    cP_ (f_X9_in S1 p2 0 5) fun v4 =>
    if v4 = 0 then
      j3 ()
    else
      jn_ (fun (x5 : Int32) =>
        rt_ (x5, S1)
      ) fun j5 =>
      if 3 ≤ p2 then
        if p2 = 3 then
          ck_ S1 b0 9 <| cP_ (f_X9_recordsIn S1 b0 v2 0) fun v8 =>
          j5 (v8)
        else
          if p2 = 4 then
            ck_ S1 b0 9 <| cP_ (f_X9_recordsIn S1 b0 v2 1) fun v7 =>
            j5 (v7)
          else
            ck_ S1 b0 9 <| cP_ (f_X9_placeOf S1 b0 v2) fun v6 =>
            j5 (v6)
      else
        ck_ S1 b0 9 <| cP_ (f_X9_of S1 b0 v2 p2) fun v9 =>
        j5 (v9)
set_option maxRecDepth 100000 in
set_option maxHeartbeats 4000000 in
theorem c_X9_page (l : Launch) (G : Gx) (S : St) (b0 : Nat) (p1 : Int32) (p2 : Int32) (o : (Int32 × St)) (h : f_X9_page S b0 p1 p2 = some o) : Met l yX9_page (Cond.code yX9_page cX9_page 4 (some (.int)) :: wAll) ({ frames := 3, cells := 0, slots := 0, locals := 69 } : Room) (va_Pc [.ref (G.1 + b0), .int p1, .int p2] (wPre G S)) (qI G o) 0 0 (wA G) := by
  refine m_start (by decide +kernel) (Nat.le_of_ble_eq_true rfl) (fun X C => ?_)
  unfold f_X9_page at h
  show WM X G 4 0 0 (wQ X G (qI G o) 0 0) 0 [(0, .ref (G.1 + b0)), (1, .int p1), (2, .int p2)] [] S
  refine m_aload_n C (dOf DX9_page 0 rfl) rfl 0 rfl ?_
  refine m_iconst C (dOf DX9_page 1 rfl) (v := 0) ki_0 ?_
  refine m_pI C (dOf DX9_page 2 rfl) kf_X9_51 fp_9_0 h (fun S1 h => ?_)
  refine m_aload_n C (dOf DX9_page 3 rfl) rfl 0 rfl ?_
  refine m_iload_n C (dOf DX9_page 4 rfl) rfl 1 rfl ?_
  obtain ⟨hc, h⟩ := ck_spec h
  refine m_cP (st := []) h (fun o' ho H locs ls hl hr hs => ⟨_, m_runV C (dOf DX9_page 5 rfl) km_X9_213 ky_X9_livePage (by decide) ⟨rfl, rfl⟩ (c_X9_livePage _ G _ _ _ o' ho) hc.1 hc.2 (by decide) rfl rfl rfl (Nat.le_of_ble_eq_true rfl) ⟨Nat.le_refl _, Nat.le_refl _⟩ hl hr hs⟩) (fun v2 h => ?_)
  refine m_istore_n C (dOf DX9_page 6 rfl) rfl (by decide) (lv' := [(3, .int v2), (0, .ref (G.1 + b0)), (1, .int p1), (2, .int p2)]) rfl ?_
  refine m_iload_n C (dOf DX9_page 7 rfl) rfl 0 rfl ?_
  refine m_bipush C (dOf DX9_page 8 rfl) (v := (-2)) kb_m2 ?_
  refine m_jn (J := fun (x3 : Unit) => WM X G 4 0 0 (wQ X G (qI G o) 0 0) 26 [] [] S1) h (fun x3 h => ?_) (fun j3 hj3 h => ?_)
  · refine m_bipush C (dOf DX9_page 15 rfl) (v := (-2)) kb_m2 ?_
    exact m_iret C rfl (dOf DX9_page 16 rfl) h
  refine m_icmpeq C (dOf DX9_page 9 rfl) (tgt := 26) rfl h (fun h => ?_) (fun h => ?_)
  · exact m_sub [] rfl (hj3 _ h)
  · refine m_iload_n C (dOf DX9_page 10 rfl) rfl 3 rfl ?_
    refine m_iconst C (dOf DX9_page 11 rfl) (v := 0) ki_0 ?_
    refine m_iconst C (dOf DX9_page 12 rfl) (v := 5) ki_5 ?_
    refine m_cP (st := []) h (fun o' ho H locs ls hl hr hs => ⟨_, m_runS C (dOf DX9_page 13 rfl) km_X9_76 ks_X9_in rfl (by decide) ⟨rfl, rfl⟩ (c_X9_in _ G _ _ _ _ o' ho) rfl rfl (Nat.le_of_ble_eq_true rfl) ⟨Nat.le_refl _, Nat.le_refl _⟩ hl hr hs⟩) (fun v4 h => ?_)
    refine m_ifne C (dOf DX9_page 14 rfl) (tgt := 29) rfl h (fun h => ?_) (fun h => ?_)
    · refine m_iload_n C (dOf DX9_page 17 rfl) rfl 3 rfl ?_
      refine m_iconst C (dOf DX9_page 18 rfl) (v := 3) ki_3 ?_
      refine m_jn (J := fun (x5 : Int32) => WM X G 4 0 0 (wQ X G (qI G o) 0 0) 76 [] [.int x5] S1) h (fun x5 h => ?_) (fun j5 hj5 h => ?_)
      · exact m_iret C rfl (dOf DX9_page 44 rfl) h
      refine m_icmpge C (dOf DX9_page 19 rfl) (tgt := 43) rfl h (fun h => ?_) (fun h => ?_)
      · refine m_iload_n C (dOf DX9_page 25 rfl) rfl 3 rfl ?_
        refine m_iconst C (dOf DX9_page 26 rfl) (v := 3) ki_3 ?_
        refine m_icmpne C (dOf DX9_page 27 rfl) (tgt := 57) rfl h (fun h => ?_) (fun h => ?_)
        · refine m_iload_n C (dOf DX9_page 33 rfl) rfl 3 rfl ?_
          refine m_iconst C (dOf DX9_page 34 rfl) (v := 4) ki_4 ?_
          refine m_icmpne C (dOf DX9_page 35 rfl) (tgt := 71) rfl h (fun h => ?_) (fun h => ?_)
          · refine m_aload_n C (dOf DX9_page 41 rfl) rfl 1 rfl ?_
            refine m_iload_n C (dOf DX9_page 42 rfl) rfl 0 rfl ?_
            obtain ⟨hc, h⟩ := ck_spec h
            refine m_cP (st := []) h (fun o' ho H locs ls hl hr hs => ⟨_, m_runV C (dOf DX9_page 43 rfl) km_X9_280 ky_X9_placeOf (by decide) ⟨rfl, rfl⟩ (c_X9_placeOf _ G _ _ _ o' ho) hc.1 hc.2 (by decide) rfl rfl rfl (Nat.le_of_ble_eq_true rfl) ⟨Nat.le_refl _, Nat.le_refl _⟩ hl hr hs⟩) (fun v6 h => ?_)
            exact m_sub [] rfl (hj5 _ h)
          · refine m_aload_n C (dOf DX9_page 36 rfl) rfl 1 rfl ?_
            refine m_iload_n C (dOf DX9_page 37 rfl) rfl 0 rfl ?_
            refine m_iconst C (dOf DX9_page 38 rfl) (v := 1) ki_1 ?_
            obtain ⟨hc, h⟩ := ck_spec h
            refine m_cP (st := []) h (fun o' ho H locs ls hl hr hs => ⟨_, m_runV C (dOf DX9_page 39 rfl) km_X9_191 ky_X9_recordsIn (by decide) ⟨rfl, rfl⟩ (c_X9_recordsIn _ G _ _ _ _ o' ho) hc.1 hc.2 (by decide) rfl rfl rfl (Nat.le_of_ble_eq_true rfl) ⟨Nat.le_refl _, Nat.le_refl _⟩ hl hr hs⟩) (fun v7 h => ?_)
            refine m_goto C (dOf DX9_page 40 rfl) (tgt := 76) rfl ?_
            exact m_sub [] rfl (hj5 _ h)
        · refine m_aload_n C (dOf DX9_page 28 rfl) rfl 1 rfl ?_
          refine m_iload_n C (dOf DX9_page 29 rfl) rfl 0 rfl ?_
          refine m_iconst C (dOf DX9_page 30 rfl) (v := 0) ki_0 ?_
          obtain ⟨hc, h⟩ := ck_spec h
          refine m_cP (st := []) h (fun o' ho H locs ls hl hr hs => ⟨_, m_runV C (dOf DX9_page 31 rfl) km_X9_191 ky_X9_recordsIn (by decide) ⟨rfl, rfl⟩ (c_X9_recordsIn _ G _ _ _ _ o' ho) hc.1 hc.2 (by decide) rfl rfl rfl (Nat.le_of_ble_eq_true rfl) ⟨Nat.le_refl _, Nat.le_refl _⟩ hl hr hs⟩) (fun v8 h => ?_)
          refine m_goto C (dOf DX9_page 32 rfl) (tgt := 76) rfl ?_
          exact m_sub [] rfl (hj5 _ h)
      · refine m_aload_n C (dOf DX9_page 20 rfl) rfl 1 rfl ?_
        refine m_iload_n C (dOf DX9_page 21 rfl) rfl 0 rfl ?_
        refine m_iload_n C (dOf DX9_page 22 rfl) rfl 3 rfl ?_
        obtain ⟨hc, h⟩ := ck_spec h
        refine m_cP (st := []) h (fun o' ho H locs ls hl hr hs => ⟨_, m_runV C (dOf DX9_page 23 rfl) km_X9_144 ky_X9_of (by decide) ⟨rfl, rfl⟩ (c_X9_of _ G _ _ _ _ o' ho) hc.1 hc.2 (by decide) rfl rfl rfl (Nat.le_of_ble_eq_true rfl) ⟨Nat.le_refl _, Nat.le_refl _⟩ hl hr hs⟩) (fun v9 h => ?_)
        refine m_goto C (dOf DX9_page 24 rfl) (tgt := 76) rfl ?_
        exact m_sub [] rfl (hj5 _ h)
    · exact m_sub [] rfl (hj3 _ h)
/-- TraceRingModel.cell(II)I -/
def f_X9_cell (S : St) (b0 : Nat) (p1 : Int32) (p2 : Int32) : Option (Int32 × St) :=
  pI_ S b0 9 0 0 fun S1 =>
  ck_ S1 b0 9 <| cP_ (f_X9_livePage S1 b0 p1) fun v2 =>
  jn_ (fun (x3 : Int32) =>
    rt_ (x3, S1)
  ) fun j3 =>
  jn_ (fun (x4 : Unit) =>
    j3 ((-1))
  ) fun j4 =>
  if v2 = (-2) then
    j4 ()
  else
    gR_ S1 b0 9 1 fun a5 =>
    aI_ S1 a5 11 1 fun v6 =>
    lt_ (v6 - 1 : Int32) fun v7 =>
    cP_ (f_X9_in S1 p2 0 v7) fun v8 =>
    if v8 = 0 then
      j4 ()
    else
      lt_ (4 + p2 : Int32) fun v9 =>
      ck_ S1 b0 9 <| cP_ (f_X9_of S1 b0 v2 v9) fun v10 =>
      j3 (v10)
set_option maxRecDepth 100000 in
set_option maxHeartbeats 4000000 in
theorem c_X9_cell (l : Launch) (G : Gx) (S : St) (b0 : Nat) (p1 : Int32) (p2 : Int32) (o : (Int32 × St)) (h : f_X9_cell S b0 p1 p2 = some o) : Met l yX9_cell (Cond.code yX9_cell cX9_cell 4 (some (.int)) :: wAll) ({ frames := 2, cells := 0, slots := 0, locals := 43 } : Room) (va_Pc [.ref (G.1 + b0), .int p1, .int p2] (wPre G S)) (qI G o) 0 0 (wA G) := by
  refine m_start (by decide +kernel) (Nat.le_of_ble_eq_true rfl) (fun X C => ?_)
  unfold f_X9_cell at h
  show WM X G 4 0 0 (wQ X G (qI G o) 0 0) 0 [(0, .ref (G.1 + b0)), (1, .int p1), (2, .int p2)] [] S
  refine m_aload_n C (dOf DX9_cell 0 rfl) rfl 0 rfl ?_
  refine m_iconst C (dOf DX9_cell 1 rfl) (v := 0) ki_0 ?_
  refine m_pI C (dOf DX9_cell 2 rfl) kf_X9_51 fp_9_0 h (fun S1 h => ?_)
  refine m_aload_n C (dOf DX9_cell 3 rfl) rfl 0 rfl ?_
  refine m_iload_n C (dOf DX9_cell 4 rfl) rfl 1 rfl ?_
  obtain ⟨hc, h⟩ := ck_spec h
  refine m_cP (st := []) h (fun o' ho H locs ls hl hr hs => ⟨_, m_runV C (dOf DX9_cell 5 rfl) km_X9_213 ky_X9_livePage (by decide) ⟨rfl, rfl⟩ (c_X9_livePage _ G _ _ _ o' ho) hc.1 hc.2 (by decide) rfl rfl rfl (Nat.le_of_ble_eq_true rfl) ⟨Nat.le_refl _, Nat.le_refl _⟩ hl hr hs⟩) (fun v2 h => ?_)
  refine m_istore_n C (dOf DX9_cell 6 rfl) rfl (by decide) (lv' := [(3, .int v2), (0, .ref (G.1 + b0)), (1, .int p1), (2, .int p2)]) rfl ?_
  refine m_iload_n C (dOf DX9_cell 7 rfl) rfl 0 rfl ?_
  refine m_bipush C (dOf DX9_cell 8 rfl) (v := (-2)) kb_m2 ?_
  refine m_jn (J := fun (x3 : Int32) => WM X G 4 0 0 (wQ X G (qI G o) 0 0) 45 [] [.int x3] S1) h (fun x3 h => ?_) (fun j3 hj3 h => ?_)
  · exact m_iret C rfl (dOf DX9_cell 28 rfl) h
  refine m_jn (J := fun (x4 : Unit) => WM X G 4 0 0 (wQ X G (qI G o) 0 0) 33 [] [] S1) h (fun x4 h => ?_) (fun j4 hj4 h => ?_)
  · refine m_iconst C (dOf DX9_cell 20 rfl) (v := (-1)) ki_m1 ?_
    refine m_goto C (dOf DX9_cell 21 rfl) (tgt := 45) rfl ?_
    exact m_sub [] rfl (hj3 _ h)
  refine m_icmpeq C (dOf DX9_cell 9 rfl) (tgt := 33) rfl h (fun h => ?_) (fun h => ?_)
  · exact m_sub [] rfl (hj4 _ h)
  · refine m_iload_n C (dOf DX9_cell 10 rfl) rfl 3 rfl ?_
    refine m_iconst C (dOf DX9_cell 11 rfl) (v := 0) ki_0 ?_
    refine m_aload_n C (dOf DX9_cell 12 rfl) rfl 1 rfl ?_
    refine m_gR C (dOf DX9_cell 13 rfl) kf_X9_7 fg_9_1 h (fun a5 h => ?_)
    refine m_iconst C (dOf DX9_cell 14 rfl) (v := 1) ki_1 ?_
    refine m_aI C (dOf DX9_cell 15 rfl) h (fun v6 h => ?_)
    refine m_iconst C (dOf DX9_cell 16 rfl) (v := 1) ki_1 ?_
    refine m_isub C (dOf DX9_cell 17 rfl) h (fun v7 h => ?_)
    refine m_cP (st := []) h (fun o' ho H locs ls hl hr hs => ⟨_, m_runS C (dOf DX9_cell 18 rfl) km_X9_76 ks_X9_in rfl (by decide) ⟨rfl, rfl⟩ (c_X9_in _ G _ _ _ _ o' ho) rfl rfl (Nat.le_of_ble_eq_true rfl) ⟨Nat.le_refl _, Nat.le_refl _⟩ hl hr hs⟩) (fun v8 h => ?_)
    refine m_ifne C (dOf DX9_cell 19 rfl) (tgt := 37) rfl h (fun h => ?_) (fun h => ?_)
    · refine m_aload_n C (dOf DX9_cell 22 rfl) rfl 1 rfl ?_
      refine m_iload_n C (dOf DX9_cell 23 rfl) rfl 0 rfl ?_
      refine m_iconst C (dOf DX9_cell 24 rfl) (v := 4) ki_4 ?_
      refine m_iload_n C (dOf DX9_cell 25 rfl) rfl 3 rfl ?_
      refine m_iadd C (dOf DX9_cell 26 rfl) h (fun v9 h => ?_)
      obtain ⟨hc, h⟩ := ck_spec h
      refine m_cP (st := []) h (fun o' ho H locs ls hl hr hs => ⟨_, m_runV C (dOf DX9_cell 27 rfl) km_X9_144 ky_X9_of (by decide) ⟨rfl, rfl⟩ (c_X9_of _ G _ _ _ _ o' ho) hc.1 hc.2 (by decide) rfl rfl rfl (Nat.le_of_ble_eq_true rfl) ⟨Nat.le_refl _, Nat.le_refl _⟩ hl hr hs⟩) (fun v10 h => ?_)
      exact m_sub [] rfl (hj3 _ h)
    · exact m_sub [] rfl (hj4 _ h)
/-- TraceRingModel.liveOf(I)I -/
def f_X9_liveOf (S : St) (b0 : Nat) (p1 : Int32) : Option Int32 :=
  lp_ (fun self1 (x1 : Int32) =>
    ck_ S b0 9 <| cP_ (f_X9_live S b0) fun v2 =>
    jn_ (fun (x3 : Unit) =>
      rt_ x1
    ) fun j3 =>
    if v2 ≤ x1 then
      j3 ()
    else
      ck_ S b0 9 <| cP_ (f_X9_livePage S b0 x1) fun v4 =>
      if v4 = p1 then
        j3 ()
      else
        lt_ (x1 + 1) fun v5 =>
        self1 (v5)
  ) FU (0)
set_option maxRecDepth 100000 in
set_option maxHeartbeats 4000000 in
theorem c_X9_liveOf (l : Launch) (G : Gx) (S : St) (b0 : Nat) (p1 : Int32) (o : Int32) (h : f_X9_liveOf S b0 p1 = some o) : Met l yX9_liveOf (Cond.code yX9_liveOf cX9_liveOf 3 (some (.int)) :: wAll) ({ frames := 2, cells := 0, slots := 0, locals := 43 } : Room) (va_Pc [.ref (G.1 + b0), .int p1] (wPre G S)) (qI G (o, S)) 0 0 (wA G) := by
  refine m_start (by decide +kernel) (Nat.le_of_ble_eq_true rfl) (fun X C => ?_)
  unfold f_X9_liveOf at h
  show WM X G 3 0 0 (wQ X G (qI G (o, S)) 0 0) 0 [(0, .ref (G.1 + b0)), (1, .int p1)] [] S
  refine m_iconst C (dOf DX9_liveOf 0 rfl) (v := 0) ki_0 ?_
  refine m_istore_n C (dOf DX9_liveOf 1 rfl) rfl (by decide) (lv' := [(2, .int 0), (0, .ref (G.1 + b0)), (1, .int p1)]) rfl ?_
  refine m_sub [1, 2, 0] rfl (m_lp (J := fun (x1 : Int32) => WM X G 3 0 0 (wQ X G (qI G (o, S)) 0 0) 2 [(0, .ref (G.1 + b0)), (1, .int p1), (2, .int x1)] [] S) h (fun self1 hself1 x1 h => ?_))
  refine m_iload_n C (dOf DX9_liveOf 2 rfl) rfl 2 rfl ?_
  refine m_aload_n C (dOf DX9_liveOf 3 rfl) rfl 0 rfl ?_
  obtain ⟨hc, h⟩ := ck_spec h
  refine m_cP (st := [.int x1]) h (fun o' ho H locs ls hl hr hs => ⟨_, m_runV C (dOf DX9_liveOf 4 rfl) km_X9_148 ky_X9_live (by decide) ⟨rfl, rfl⟩ (c_X9_live _ G _ _ o' ho) hc.1 hc.2 (by decide) rfl rfl rfl (Nat.le_of_ble_eq_true rfl) ⟨Nat.le_refl _, Nat.le_refl _⟩ hl hr hs⟩) (fun v2 h => ?_)
  refine m_jn (J := fun (x3 : Unit) => WM X G 3 0 0 (wQ X G (qI G (o, S)) 0 0) 25 [(2, .int x1)] [] S) h (fun x3 h => ?_) (fun j3 hj3 h => ?_)
  · refine m_iload_n C (dOf DX9_liveOf 13 rfl) rfl 0 rfl ?_
    exact m_iretP C rfl (dOf DX9_liveOf 14 rfl) h
  refine m_icmpge C (dOf DX9_liveOf 5 rfl) (tgt := 25) rfl h (fun h => ?_) (fun h => ?_)
  · exact m_sub [2] rfl (hj3 _ h)
  · refine m_aload_n C (dOf DX9_liveOf 6 rfl) rfl 0 rfl ?_
    refine m_iload_n C (dOf DX9_liveOf 7 rfl) rfl 2 rfl ?_
    obtain ⟨hc, h⟩ := ck_spec h
    refine m_cP (st := []) h (fun o' ho H locs ls hl hr hs => ⟨_, m_runV C (dOf DX9_liveOf 8 rfl) km_X9_213 ky_X9_livePage (by decide) ⟨rfl, rfl⟩ (c_X9_livePage _ G _ _ _ o' ho) hc.1 hc.2 (by decide) rfl rfl rfl (Nat.le_of_ble_eq_true rfl) ⟨Nat.le_refl _, Nat.le_refl _⟩ hl hr hs⟩) (fun v4 h => ?_)
    refine m_iload_n C (dOf DX9_liveOf 9 rfl) rfl 1 rfl ?_
    refine m_icmpeq C (dOf DX9_liveOf 10 rfl) (tgt := 25) rfl h (fun h => ?_) (fun h => ?_)
    · exact m_sub [2] rfl (hj3 _ h)
    · refine m_iinc C (dOf DX9_liveOf 11 rfl) (w := 1) ki_1 2 rfl (by decide) h (fun v5 h => ⟨[(2, .int v5), (0, .ref (G.1 + b0)), (1, .int p1)], rfl, ?_⟩)
      refine m_goto C (dOf DX9_liveOf 12 rfl) (tgt := 2) rfl ?_
      exact m_sub [1, 2, 0] rfl (hself1 _ h)
/-- TraceRingModel.open(II)I -/
def f_X9_open (S : St) (b0 : Nat) (p1 : Int32) (p2 : Int32) : Option (Int32 × St) :=
  pI_ S b0 9 0 0 fun S1 =>
  gR_ S1 b0 9 1 fun a2 =>
  aI_ S1 a2 11 6 fun v3 =>
  lt_ (v3 - 1 : Int32) fun v4 =>
  cP_ (f_X9_in S1 p1 0 v4) fun v5 =>
  jn_ (fun (x6 : Unit) =>
    rt_ ((-2), S1)
  ) fun j6 =>
  if v5 = 0 then
    j6 ()
  else
    cP_ (f_X9_in S1 p2 0 6) fun v7 =>
    if v7 = 0 then
      j6 ()
    else
      ck_ S1 b0 9 <| cP_ (f_X9_openPage S1 b0 p1) fun v8 =>
      ck_ S1 b0 9 <| cP_ (f_X9_openItem S1 b0 p1) fun v9 =>
      jn_ (fun (x10 : Int32) =>
        rt_ (x10, S1)
      ) fun j10 =>
      if 4 ≤ p2 then
        if p2 = 4 then
          gR_ S1 b0 9 1 fun a13 =>
          lt_ (3 * p1 : Int32) fun v14 =>
          lt_ (43 + v14 : Int32) fun v15 =>
          lt_ (v15 + 2 : Int32) fun v16 =>
          aI_ S1 a13 11 v16 fun v17 =>
          j10 (v17)
        else
          if p2 = 5 then
            ck_ S1 b0 9 <| cP_ (f_X9_liveOf S1 b0 v8) fun v12 =>
            j10 (v12)
          else
            ck_ S1 b0 9 <| cP_ (f_X9_item S1 b0 v8 v9 5) fun v11 =>
            j10 (v11)
      else
        lt_ (1 + p2 : Int32) fun v18 =>
        ck_ S1 b0 9 <| cP_ (f_X9_item S1 b0 v8 v9 v18) fun v19 =>
        j10 (v19)
set_option maxRecDepth 100000 in
set_option maxHeartbeats 4000000 in
theorem c_X9_open (l : Launch) (G : Gx) (S : St) (b0 : Nat) (p1 : Int32) (p2 : Int32) (o : (Int32 × St)) (h : f_X9_open S b0 p1 p2 = some o) : Met l yX9_open (Cond.code yX9_open cX9_open 5 (some (.int)) :: wAll) ({ frames := 3, cells := 0, slots := 0, locals := 65 } : Room) (va_Pc [.ref (G.1 + b0), .int p1, .int p2] (wPre G S)) (qI G o) 0 0 (wA G) := by
  refine m_start (by decide +kernel) (Nat.le_of_ble_eq_true rfl) (fun X C => ?_)
  unfold f_X9_open at h
  show WM X G 5 0 0 (wQ X G (qI G o) 0 0) 0 [(0, .ref (G.1 + b0)), (1, .int p1), (2, .int p2)] [] S
  refine m_aload_n C (dOf DX9_open 0 rfl) rfl 0 rfl ?_
  refine m_iconst C (dOf DX9_open 1 rfl) (v := 0) ki_0 ?_
  refine m_pI C (dOf DX9_open 2 rfl) kf_X9_51 fp_9_0 h (fun S1 h => ?_)
  refine m_iload_n C (dOf DX9_open 3 rfl) rfl 1 rfl ?_
  refine m_iconst C (dOf DX9_open 4 rfl) (v := 0) ki_0 ?_
  refine m_aload_n C (dOf DX9_open 5 rfl) rfl 0 rfl ?_
  refine m_gR C (dOf DX9_open 6 rfl) kf_X9_7 fg_9_1 h (fun a2 h => ?_)
  refine m_bipush C (dOf DX9_open 7 rfl) (v := 6) kb_6 ?_
  refine m_aI C (dOf DX9_open 8 rfl) h (fun v3 h => ?_)
  refine m_iconst C (dOf DX9_open 9 rfl) (v := 1) ki_1 ?_
  refine m_isub C (dOf DX9_open 10 rfl) h (fun v4 h => ?_)
  refine m_cP (st := []) h (fun o' ho H locs ls hl hr hs => ⟨_, m_runS C (dOf DX9_open 11 rfl) km_X9_76 ks_X9_in rfl (by decide) ⟨rfl, rfl⟩ (c_X9_in _ G _ _ _ _ o' ho) rfl rfl (Nat.le_of_ble_eq_true rfl) ⟨Nat.le_refl _, Nat.le_refl _⟩ hl hr hs⟩) (fun v5 h => ?_)
  refine m_jn (J := fun (x6 : Unit) => WM X G 5 0 0 (wQ X G (qI G o) 0 0) 32 [] [] S1) h (fun x6 h => ?_) (fun j6 hj6 h => ?_)
  · refine m_bipush C (dOf DX9_open 18 rfl) (v := (-2)) kb_m2 ?_
    exact m_iret C rfl (dOf DX9_open 19 rfl) h
  refine m_ifeq C (dOf DX9_open 12 rfl) (tgt := 32) rfl h (fun h => ?_) (fun h => ?_)
  · exact m_sub [] rfl (hj6 _ h)
  · refine m_iload_n C (dOf DX9_open 13 rfl) rfl 2 rfl ?_
    refine m_iconst C (dOf DX9_open 14 rfl) (v := 0) ki_0 ?_
    refine m_bipush C (dOf DX9_open 15 rfl) (v := 6) kb_6 ?_
    refine m_cP (st := []) h (fun o' ho H locs ls hl hr hs => ⟨_, m_runS C (dOf DX9_open 16 rfl) km_X9_76 ks_X9_in rfl (by decide) ⟨rfl, rfl⟩ (c_X9_in _ G _ _ _ _ o' ho) rfl rfl (Nat.le_of_ble_eq_true rfl) ⟨Nat.le_refl _, Nat.le_refl _⟩ hl hr hs⟩) (fun v7 h => ?_)
    refine m_ifne C (dOf DX9_open 17 rfl) (tgt := 35) rfl h (fun h => ?_) (fun h => ?_)
    · refine m_aload_n C (dOf DX9_open 20 rfl) rfl 0 rfl ?_
      refine m_iload_n C (dOf DX9_open 21 rfl) rfl 1 rfl ?_
      obtain ⟨hc, h⟩ := ck_spec h
      refine m_cP (st := []) h (fun o' ho H locs ls hl hr hs => ⟨_, m_runV C (dOf DX9_open 22 rfl) km_X9_162 ky_X9_openPage (by decide) ⟨rfl, rfl⟩ (c_X9_openPage _ G _ _ _ o' ho) hc.1 hc.2 (by decide) rfl rfl rfl (Nat.le_of_ble_eq_true rfl) ⟨Nat.le_refl _, Nat.le_refl _⟩ hl hr hs⟩) (fun v8 h => ?_)
      refine m_istore_n C (dOf DX9_open 23 rfl) rfl (by decide) (lv' := [(3, .int v8), (0, .ref (G.1 + b0)), (1, .int p1), (2, .int p2)]) rfl ?_
      refine m_aload_n C (dOf DX9_open 24 rfl) rfl 1 rfl ?_
      refine m_iload_n C (dOf DX9_open 25 rfl) rfl 2 rfl ?_
      obtain ⟨hc, h⟩ := ck_spec h
      refine m_cP (st := []) h (fun o' ho H locs ls hl hr hs => ⟨_, m_runV C (dOf DX9_open 26 rfl) km_X9_165 ky_X9_openItem (by decide) ⟨rfl, rfl⟩ (c_X9_openItem _ G _ _ _ o' ho) hc.1 hc.2 (by decide) rfl rfl rfl (Nat.le_of_ble_eq_true rfl) ⟨Nat.le_refl _, Nat.le_refl _⟩ hl hr hs⟩) (fun v9 h => ?_)
      refine m_istore C (dOf DX9_open 27 rfl) (by decide) (lv' := [(4, .int v9), (3, .int v8), (0, .ref (G.1 + b0)), (1, .int p1), (2, .int p2)]) rfl ?_
      refine m_iload_n C (dOf DX9_open 28 rfl) rfl 4 rfl ?_
      refine m_iconst C (dOf DX9_open 29 rfl) (v := 4) ki_4 ?_
      refine m_jn (J := fun (x10 : Int32) => WM X G 5 0 0 (wQ X G (qI G o) 0 0) 108 [] [.int x10] S1) h (fun x10 h => ?_) (fun j10 hj10 h => ?_)
      · exact m_iret C rfl (dOf DX9_open 65 rfl) h
      refine m_icmpge C (dOf DX9_open 30 rfl) (tgt := 66) rfl h (fun h => ?_) (fun h => ?_)
      · refine m_iload_n C (dOf DX9_open 39 rfl) rfl 4 rfl ?_
        refine m_iconst C (dOf DX9_open 40 rfl) (v := 4) ki_4 ?_
        refine m_icmpne C (dOf DX9_open 41 rfl) (tgt := 87) rfl h (fun h => ?_) (fun h => ?_)
        · refine m_iload_n C (dOf DX9_open 53 rfl) rfl 4 rfl ?_
          refine m_iconst C (dOf DX9_open 54 rfl) (v := 5) ki_5 ?_
          refine m_icmpne C (dOf DX9_open 55 rfl) (tgt := 100) rfl h (fun h => ?_) (fun h => ?_)
          · refine m_aload_n C (dOf DX9_open 60 rfl) rfl 2 rfl ?_
            refine m_iload_n C (dOf DX9_open 61 rfl) rfl 1 rfl ?_
            refine m_iload C (dOf DX9_open 62 rfl) 0 rfl ?_
            refine m_iconst C (dOf DX9_open 63 rfl) (v := 5) ki_5 ?_
            obtain ⟨hc, h⟩ := ck_spec h
            refine m_cP (st := []) h (fun o' ho H locs ls hl hr hs => ⟨_, m_runV C (dOf DX9_open 64 rfl) km_X9_155 ky_X9_item (by decide) ⟨rfl, rfl⟩ (c_X9_item _ G _ _ _ _ _ o' ho) hc.1 hc.2 (by decide) rfl rfl rfl (Nat.le_of_ble_eq_true rfl) ⟨Nat.le_refl _, Nat.le_refl _⟩ hl hr hs⟩) (fun v11 h => ?_)
            exact m_sub [] rfl (hj10 _ h)
          · refine m_aload_n C (dOf DX9_open 56 rfl) rfl 2 rfl ?_
            refine m_iload_n C (dOf DX9_open 57 rfl) rfl 1 rfl ?_
            obtain ⟨hc, h⟩ := ck_spec h
            refine m_cP (st := []) h (fun o' ho H locs ls hl hr hs => ⟨_, m_runV C (dOf DX9_open 58 rfl) km_X9_283 ky_X9_liveOf (by decide) ⟨rfl, rfl⟩ (c_X9_liveOf _ G _ _ _ o' ho) hc.1 hc.2 (by decide) rfl rfl rfl (Nat.le_of_ble_eq_true rfl) ⟨Nat.le_refl _, Nat.le_refl _⟩ hl hr hs⟩) (fun v12 h => ?_)
            refine m_goto C (dOf DX9_open 59 rfl) (tgt := 108) rfl ?_
            exact m_sub [] rfl (hj10 _ h)
        · refine m_aload_n C (dOf DX9_open 42 rfl) rfl 2 rfl ?_
          refine m_gR C (dOf DX9_open 43 rfl) kf_X9_7 fg_9_1 h (fun a13 h => ?_)
          refine m_bipush C (dOf DX9_open 44 rfl) (v := 43) kb_43 ?_
          refine m_iconst C (dOf DX9_open 45 rfl) (v := 3) ki_3 ?_
          refine m_iload_n C (dOf DX9_open 46 rfl) rfl 3 rfl ?_
          refine m_imul C (dOf DX9_open 47 rfl) h (fun v14 h => ?_)
          refine m_iadd C (dOf DX9_open 48 rfl) h (fun v15 h => ?_)
          refine m_iconst C (dOf DX9_open 49 rfl) (v := 2) ki_2 ?_
          refine m_iadd C (dOf DX9_open 50 rfl) h (fun v16 h => ?_)
          refine m_aI C (dOf DX9_open 51 rfl) h (fun v17 h => ?_)
          refine m_goto C (dOf DX9_open 52 rfl) (tgt := 108) rfl ?_
          exact m_sub [] rfl (hj10 _ h)
      · refine m_aload_n C (dOf DX9_open 31 rfl) rfl 2 rfl ?_
        refine m_iload_n C (dOf DX9_open 32 rfl) rfl 1 rfl ?_
        refine m_iload C (dOf DX9_open 33 rfl) 0 rfl ?_
        refine m_iconst C (dOf DX9_open 34 rfl) (v := 1) ki_1 ?_
        refine m_iload_n C (dOf DX9_open 35 rfl) rfl 4 rfl ?_
        refine m_iadd C (dOf DX9_open 36 rfl) h (fun v18 h => ?_)
        obtain ⟨hc, h⟩ := ck_spec h
        refine m_cP (st := []) h (fun o' ho H locs ls hl hr hs => ⟨_, m_runV C (dOf DX9_open 37 rfl) km_X9_155 ky_X9_item (by decide) ⟨rfl, rfl⟩ (c_X9_item _ G _ _ _ _ _ o' ho) hc.1 hc.2 (by decide) rfl rfl rfl (Nat.le_of_ble_eq_true rfl) ⟨Nat.le_refl _, Nat.le_refl _⟩ hl hr hs⟩) (fun v19 h => ?_)
        refine m_goto C (dOf DX9_open 38 rfl) (tgt := 108) rfl ?_
        exact m_sub [] rfl (hj10 _ h)
    · exact m_sub [] rfl (hj6 _ h)
