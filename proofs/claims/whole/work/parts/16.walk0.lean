/-- TraceRing.at([II)I -/
def f_X8_at (S : St) (b0 : Nat) (p1 : Int32) : Option Int32 :=
  jn_ (fun (x1 : Int32) =>
    rt_ x1
  ) fun j1 =>
  jn_ (fun (x2 : Unit) =>
    j1 (0)
  ) fun j2 =>
  if p1 < 0 then
    j2 ()
  else
    al_ S b0 11 fun v3 =>
    if p1 < v3 then
      aI_ S b0 11 p1 fun v4 =>
      j1 (v4)
    else
      j2 ()
set_option maxRecDepth 100000 in
set_option maxHeartbeats 4000000 in
theorem c_X8_at (l : Launch) (G : Gx) (S : St) (b0 : Nat) (p1 : Int32) (o : Int32) (h : f_X8_at S b0 p1 = some o) : Met l yX8_at (Cond.code yX8_at cX8_at 2 (some (.int)) :: wAll) ({ frames := 0, cells := 0, slots := 0, locals := 0 } : Room) (va_Pc [.ref (G.1 + b0), .int p1] (wPre G S)) (qI G (o, S)) 0 0 (wA G) := by
  refine m_start (by decide +kernel) (Nat.le_of_ble_eq_true rfl) (fun X C => ?_)
  unfold f_X8_at at h
  show WM X G 2 0 0 (wQ X G (qI G (o, S)) 0 0) 0 [(0, .ref (G.1 + b0)), (1, .int p1)] [] S
  refine m_iload_n C (dOf DX8_at 0 rfl) rfl 1 rfl ?_
  refine m_jn (J := fun (x1 : Int32) => WM X G 2 0 0 (wQ X G (qI G (o, S)) 0 0) 17 [] [.int x1] S) h (fun x1 h => ?_) (fun j1 hj1 h => ?_)
  · exact m_iretP C rfl (dOf DX8_at 11 rfl) h
  refine m_jn (J := fun (x2 : Unit) => WM X G 2 0 0 (wQ X G (qI G (o, S)) 0 0) 10 [] [] S) h (fun x2 h => ?_) (fun j2 hj2 h => ?_)
  · refine m_iconst C (dOf DX8_at 6 rfl) (v := 0) ki_0 ?_
    refine m_goto C (dOf DX8_at 7 rfl) (tgt := 17) rfl ?_
    exact m_sub [] rfl (hj1 _ h)
  refine m_iflt C (dOf DX8_at 1 rfl) (tgt := 10) rfl h (fun h => ?_) (fun h => ?_)
  · exact m_sub [] rfl (hj2 _ h)
  · refine m_iload_n C (dOf DX8_at 2 rfl) rfl 1 rfl ?_
    refine m_aload_n C (dOf DX8_at 3 rfl) rfl 0 rfl ?_
    refine m_al C (dOf DX8_at 4 rfl) (by decide) h (fun v3 h => ?_)
    refine m_icmplt C (dOf DX8_at 5 rfl) (tgt := 14) rfl h (fun h => ?_) (fun h => ?_)
    · refine m_aload_n C (dOf DX8_at 8 rfl) rfl 0 rfl ?_
      refine m_iload_n C (dOf DX8_at 9 rfl) rfl 1 rfl ?_
      refine m_aI C (dOf DX8_at 10 rfl) h (fun v4 h => ?_)
      exact m_sub [] rfl (hj1 _ h)
    · exact m_sub [] rfl (hj2 _ h)
/-- TraceRing$Text.byteAt(I)I -/
def f_X6_byteAt (S : St) (b0 : Nat) (p1 : Int32) : Option Int32 :=
  gI_ S b0 6 1 fun v1 =>
  jn_ (fun (x2 : Int32) =>
    rt_ x2
  ) fun j2 =>
  if v1 ≤ p1 then
    j2 (0)
  else
    gR_ S b0 6 0 fun a3 =>
    cP_ (f_X8_at S a3 p1) fun v4 =>
    j2 (v4)
set_option maxRecDepth 100000 in
set_option maxHeartbeats 4000000 in
theorem c_X6_byteAt (l : Launch) (G : Gx) (S : St) (b0 : Nat) (p1 : Int32) (o : Int32) (h : f_X6_byteAt S b0 p1 = some o) : Met l yX6_byteAt (Cond.code yX6_byteAt cX6_byteAt 2 (some (.int)) :: wAll) ({ frames := 1, cells := 0, slots := 0, locals := 21 } : Room) (va_Pc [.ref (G.1 + b0), .int p1] (wPre G S)) (qI G (o, S)) 0 0 (wA G) := by
  refine m_start (by decide +kernel) (Nat.le_of_ble_eq_true rfl) (fun X C => ?_)
  unfold f_X6_byteAt at h
  show WM X G 2 0 0 (wQ X G (qI G (o, S)) 0 0) 0 [(0, .ref (G.1 + b0)), (1, .int p1)] [] S
  refine m_iload_n C (dOf DX6_byteAt 0 rfl) rfl 1 rfl ?_
  refine m_aload_n C (dOf DX6_byteAt 1 rfl) rfl 0 rfl ?_
  refine m_gI C (dOf DX6_byteAt 2 rfl) kf_X6_29 fg_6_1 h (fun v1 h => ?_)
  refine m_jn (J := fun (x2 : Int32) => WM X G 2 0 0 (wQ X G (qI G (o, S)) 0 0) 20 [] [.int x2] S) h (fun x2 h => ?_) (fun j2 hj2 h => ?_)
  · exact m_iretP C rfl (dOf DX6_byteAt 10 rfl) h
  refine m_icmpge C (dOf DX6_byteAt 3 rfl) (tgt := 19) rfl h (fun h => ?_) (fun h => ?_)
  · refine m_iconst C (dOf DX6_byteAt 9 rfl) (v := 0) ki_0 ?_
    exact m_sub [] rfl (hj2 _ h)
  · refine m_aload_n C (dOf DX6_byteAt 4 rfl) rfl 0 rfl ?_
    refine m_gR C (dOf DX6_byteAt 5 rfl) kf_X6_9 fg_6_0 h (fun a3 h => ?_)
    refine m_iload_n C (dOf DX6_byteAt 6 rfl) rfl 1 rfl ?_
    refine m_cP (st := []) h (fun o' ho H locs ls hl hr hs => ⟨_, m_runSN C (dOf DX6_byteAt 7 rfl) kn_X6_42 ks_X8_at (by decide) ⟨rfl, rfl⟩ (c_X8_at _ G _ _ _ o' ho) rfl rfl (Nat.le_of_ble_eq_true rfl) ⟨Nat.le_refl _, Nat.le_refl _⟩ hl hr hs⟩) (fun v4 h => ?_)
    refine m_goto C (dOf DX6_byteAt 8 rfl) (tgt := 20) rfl ?_
    exact m_sub [] rfl (hj2 _ h)
