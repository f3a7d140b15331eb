/-! makers: words -/
theorem kobj : Cond.instanceMethod objectInit ∈ wAll ∧ Cond.code objectInit ⟨#[0xb1]⟩ 1 none ∈ wAll := ⟨inA 80 (by decide +kernel) (by decide +kernel), inA 81 (by decide +kernel) (by decide +kernel)⟩
theorem kar_10 : Cond.arrayClass (aTy 10) ∈ wAll := inA 517 (by decide +kernel) (by decide +kernel)
theorem kar_11 : Cond.arrayClass (aTy 11) ∈ wAll := inA 116 (by decide +kernel) (by decide +kernel)
theorem kar_12 : Cond.arrayClass (.long) ∈ wAll := inA 1047 (by decide +kernel) (by decide +kernel)
theorem kar_13 : Cond.arrayClass (aTy 13) ∈ wAll := inA 172 (by decide +kernel) (by decide +kernel)
theorem kcl_L_7 : Cond.classLink RL 7 (CN 8) ∈ wAll ∧ Cond.instantiable (CN 8) (nF 8) ∈ wAll ∧ Cond.initialized (CN 8) ∈ wAll := ⟨inA 74 (by decide +kernel) (by decide +kernel), inA 75 (by decide +kernel) (by decide +kernel), inA 59 (by decide +kernel) (by decide +kernel)⟩
theorem kcl_L_7_a : Cond.classLink RL 7 "TraceRing" ∈ wAll := inA 74 (by decide +kernel) (by decide +kernel)
theorem kcl_X8_7 : Cond.classLink RX8 7 (CN 4) ∈ wAll ∧ Cond.instantiable (CN 4) (nF 4) ∈ wAll ∧ Cond.initialized (CN 4) ∈ wAll := ⟨inA 82 (by decide +kernel) (by decide +kernel), inA 83 (by decide +kernel) (by decide +kernel), inA 60 (by decide +kernel) (by decide +kernel)⟩
theorem kcl_X8_7_a : Cond.classLink RX8 7 "TraceRing$Ring" ∈ wAll := inA 82 (by decide +kernel) (by decide +kernel)
theorem kcl_X4_9 : Cond.classLink RX4 9 (CN 3) ∈ wAll ∧ Cond.instantiable (CN 3) (nF 3) ∈ wAll ∧ Cond.initialized (CN 3) ∈ wAll := ⟨inA 88 (by decide +kernel) (by decide +kernel), inA 117 (by decide +kernel) (by decide +kernel), inA 62 (by decide +kernel) (by decide +kernel)⟩
theorem kcl_X4_9_a : Cond.classLink RX4 9 "TraceRing$Page" ∈ wAll := inA 88 (by decide +kernel) (by decide +kernel)
theorem kcl_X4_30 : Cond.classLink RX4 30 (CN 1) ∈ wAll ∧ Cond.instantiable (CN 1) (nF 1) ∈ wAll ∧ Cond.initialized (CN 1) ∈ wAll := ⟨inA 90 (by decide +kernel) (by decide +kernel), inA 91 (by decide +kernel) (by decide +kernel), inA 61 (by decide +kernel) (by decide +kernel)⟩
theorem kcl_X4_30_a : Cond.classLink RX4 30 "TraceRing$Latest" ∈ wAll := inA 90 (by decide +kernel) (by decide +kernel)
theorem kcl_X8_19 : Cond.classLink RX8 19 (CN 6) ∈ wAll ∧ Cond.instantiable (CN 6) (nF 6) ∈ wAll ∧ Cond.initialized (CN 6) ∈ wAll := ⟨inA 247 (by decide +kernel) (by decide +kernel), inA 248 (by decide +kernel) (by decide +kernel), inA 63 (by decide +kernel) (by decide +kernel)⟩
theorem kcl_X8_19_a : Cond.classLink RX8 19 "TraceRing$Text" ∈ wAll := inA 247 (by decide +kernel) (by decide +kernel)
theorem kcl_X8_26 : Cond.classLink RX8 26 (CN 2) ∈ wAll ∧ Cond.instantiable (CN 2) (nF 2) ∈ wAll ∧ Cond.initialized (CN 2) ∈ wAll := ⟨inA 284 (by decide +kernel) (by decide +kernel), inA 285 (by decide +kernel) (by decide +kernel), inA 64 (by decide +kernel) (by decide +kernel)⟩
theorem kcl_X8_26_a : Cond.classLink RX8 26 "TraceRing$Lines" ∈ wAll := inA 284 (by decide +kernel) (by decide +kernel)
theorem kcl_X8_33 : Cond.classLink RX8 33 (CN 5) ∈ wAll ∧ Cond.instantiable (CN 5) (nF 5) ∈ wAll ∧ Cond.initialized (CN 5) ∈ wAll := ⟨inA 306 (by decide +kernel) (by decide +kernel), inA 307 (by decide +kernel) (by decide +kernel), inA 65 (by decide +kernel) (by decide +kernel)⟩
theorem kcl_X8_33_a : Cond.classLink RX8 33 "TraceRing$Storm" ∈ wAll := inA 306 (by decide +kernel) (by decide +kernel)
theorem kcl_X8_40 : Cond.classLink RX8 40 (CN 0) ∈ wAll ∧ Cond.instantiable (CN 0) (nF 0) ∈ wAll ∧ Cond.initialized (CN 0) ∈ wAll := ⟨inA 316 (by decide +kernel) (by decide +kernel), inA 318 (by decide +kernel) (by decide +kernel), inA 66 (by decide +kernel) (by decide +kernel)⟩
theorem kcl_X8_40_a : Cond.classLink RX8 40 "TraceRing$Image" ∈ wAll := inA 316 (by decide +kernel) (by decide +kernel)
theorem kcl_X0_7 : Cond.classLink RX0 7 (CN 4) ∈ wAll ∧ Cond.instantiable (CN 4) (nF 4) ∈ wAll ∧ Cond.initialized (CN 4) ∈ wAll := ⟨inA 323 (by decide +kernel) (by decide +kernel), inA 83 (by decide +kernel) (by decide +kernel), inA 60 (by decide +kernel) (by decide +kernel)⟩
theorem kcl_X0_7_a : Cond.classLink RX0 7 "TraceRing$Ring" ∈ wAll := inA 323 (by decide +kernel) (by decide +kernel)
theorem kcl_X0_16 : Cond.classLink RX0 16 (CN 6) ∈ wAll ∧ Cond.instantiable (CN 6) (nF 6) ∈ wAll ∧ Cond.initialized (CN 6) ∈ wAll := ⟨inA 325 (by decide +kernel) (by decide +kernel), inA 248 (by decide +kernel) (by decide +kernel), inA 63 (by decide +kernel) (by decide +kernel)⟩
theorem kcl_X0_16_a : Cond.classLink RX0 16 "TraceRing$Text" ∈ wAll := inA 325 (by decide +kernel) (by decide +kernel)
theorem kcl_L_10 : Cond.classLink RL 10 (CN 9) ∈ wAll ∧ Cond.instantiable (CN 9) (nF 9) ∈ wAll ∧ Cond.initialized (CN 9) ∈ wAll := ⟨inA 941 (by decide +kernel) (by decide +kernel), inA 942 (by decide +kernel) (by decide +kernel), inA 67 (by decide +kernel) (by decide +kernel)⟩
theorem kcl_L_10_a : Cond.classLink RL 10 "TraceRingModel" ∈ wAll := inA 941 (by decide +kernel) (by decide +kernel)
theorem ks_4940 : (Int16.ofInt 4940).toInt32 = 4940 := by decide
theorem ks_2000 : (Int16.ofInt 2000).toInt32 = 2000 := by decide
theorem kb_100 : (Int8.ofInt 100).toInt32 = 100 := by decide
theorem ks_200 : (Int16.ofInt 200).toInt32 = 200 := by decide
/-- new TraceRing$Latest()V -/
def f_X1_init (S : St) (b0 : Nat) : Option St :=
  na_ S 11 8 fun a1 S2 =>
  pR_ S2 b0 1 0 (some a1) fun S3 =>
  rt_ S3
set_option maxRecDepth 100000 in
set_option maxHeartbeats 4000000 in
theorem c_X1_init (l : Launch) (G : Gx) (S : St) (b0 : Nat) (o : St) (h : f_X1_init S b0 = some o) : Met l yX1_init (Cond.code yX1_init cX1_init 1 none :: wAll) ({ frames := 1, cells := 1, slots := 8, locals := 20 } : Room) (va_Pc [.ref (G.1 + b0)] (wPre G S)) (qV G o) 1 8 (wA G) := by
  refine m_startI (by decide +kernel) (Nat.le_of_ble_eq_true rfl) (fun X C hin => ?_)
  unfold f_X1_init at h
  show WM X G 1 0 0 (wQ X G (qV G o) 1 8) 0 [(0, .ref (G.1 + b0))] [] S
  refine m_aload_n C (dOf DX1_init 0 rfl) rfl 0 rfl ?_
  refine m_objInit C (dOf DX1_init 1 rfl) km_X1_3 kobj ⟨by decide, Nat.le_of_ble_eq_true rfl⟩ ?_
  refine m_aload_n C (dOf DX1_init 2 rfl) rfl 0 rfl ?_
  refine m_bipush C (dOf DX1_init 3 rfl) (v := 8) kb_8 ?_
  refine m_newa C (dOf DX1_init 4 rfl) (by decide) kar_11 (by decide) ⟨by decide, by decide⟩ h (fun a1 S2 h => ?_)
  refine m_pRF C hin (dOf DX1_init 5 rfl) kf_X1_9 fp_1_0 rfl h (fun S3 h => ?_)
  exact m_vretC C rfl ⟨rfl, rfl⟩ (dOf DX1_init 6 rfl) h
/-- new TraceRing$Page()V -/
def f_X3_init (S : St) (b0 : Nat) : Option St :=
  na_ S 11 32 fun a1 S2 =>
  pR_ S2 b0 3 0 (some a1) fun S3 =>
  na_ S3 11 16 fun a4 S5 =>
  pR_ S5 b0 3 1 (some a4) fun S6 =>
  na_ S6 11 16 fun a7 S8 =>
  pR_ S8 b0 3 2 (some a7) fun S9 =>
  na_ S9 11 16 fun a10 S11 =>
  pR_ S11 b0 3 3 (some a10) fun S12 =>
  na_ S12 11 16 fun a13 S14 =>
  pR_ S14 b0 3 4 (some a13) fun S15 =>
  na_ S15 11 16 fun a16 S17 =>
  pR_ S17 b0 3 5 (some a16) fun S18 =>
  na_ S18 11 16 fun a19 S20 =>
  pR_ S20 b0 3 6 (some a19) fun S21 =>
  na_ S21 13 16 fun a22 S23 =>
  pR_ S23 b0 3 7 (some a22) fun S24 =>
  rt_ S24
set_option maxRecDepth 100000 in
set_option maxHeartbeats 4000000 in
theorem c_X3_init (l : Launch) (G : Gx) (S : St) (b0 : Nat) (o : St) (h : f_X3_init S b0 = some o) : Met l yX3_init (Cond.code yX3_init cX3_init 1 none :: wAll) ({ frames := 1, cells := 8, slots := 144, locals := 20 } : Room) (va_Pc [.ref (G.1 + b0)] (wPre G S)) (qV G o) 8 144 (wA G) := by
  refine m_startI (by decide +kernel) (Nat.le_of_ble_eq_true rfl) (fun X C hin => ?_)
  unfold f_X3_init at h
  show WM X G 1 0 0 (wQ X G (qV G o) 8 144) 0 [(0, .ref (G.1 + b0))] [] S
  refine m_aload_n C (dOf DX3_init 0 rfl) rfl 0 rfl ?_
  refine m_objInit C (dOf DX3_init 1 rfl) km_X3_3 kobj ⟨by decide, Nat.le_of_ble_eq_true rfl⟩ ?_
  refine m_aload_n C (dOf DX3_init 2 rfl) rfl 0 rfl ?_
  refine m_bipush C (dOf DX3_init 3 rfl) (v := 32) kb_32 ?_
  refine m_newa C (dOf DX3_init 4 rfl) (by decide) kar_11 (by decide) ⟨by decide, by decide⟩ h (fun a1 S2 h => ?_)
  refine m_pRF C hin (dOf DX3_init 5 rfl) kf_X3_9 fp_3_0 rfl h (fun S3 h => ?_)
  refine m_aload_n C (dOf DX3_init 6 rfl) rfl 0 rfl ?_
  refine m_bipush C (dOf DX3_init 7 rfl) (v := 16) kb_16 ?_
  refine m_newa C (dOf DX3_init 8 rfl) (by decide) kar_11 (by decide) ⟨by decide, by decide⟩ h (fun a4 S5 h => ?_)
  refine m_pRF C hin (dOf DX3_init 9 rfl) kf_X3_15 fp_3_1 rfl h (fun S6 h => ?_)
  refine m_aload_n C (dOf DX3_init 10 rfl) rfl 0 rfl ?_
  refine m_bipush C (dOf DX3_init 11 rfl) (v := 16) kb_16 ?_
  refine m_newa C (dOf DX3_init 12 rfl) (by decide) kar_11 (by decide) ⟨by decide, by decide⟩ h (fun a7 S8 h => ?_)
  refine m_pRF C hin (dOf DX3_init 13 rfl) kf_X3_18 fp_3_2 rfl h (fun S9 h => ?_)
  refine m_aload_n C (dOf DX3_init 14 rfl) rfl 0 rfl ?_
  refine m_bipush C (dOf DX3_init 15 rfl) (v := 16) kb_16 ?_
  refine m_newa C (dOf DX3_init 16 rfl) (by decide) kar_11 (by decide) ⟨by decide, by decide⟩ h (fun a10 S11 h => ?_)
  refine m_pRF C hin (dOf DX3_init 17 rfl) kf_X3_21 fp_3_3 rfl h (fun S12 h => ?_)
  refine m_aload_n C (dOf DX3_init 18 rfl) rfl 0 rfl ?_
  refine m_bipush C (dOf DX3_init 19 rfl) (v := 16) kb_16 ?_
  refine m_newa C (dOf DX3_init 20 rfl) (by decide) kar_11 (by decide) ⟨by decide, by decide⟩ h (fun a13 S14 h => ?_)
  refine m_pRF C hin (dOf DX3_init 21 rfl) kf_X3_24 fp_3_4 rfl h (fun S15 h => ?_)
  refine m_aload_n C (dOf DX3_init 22 rfl) rfl 0 rfl ?_
  refine m_bipush C (dOf DX3_init 23 rfl) (v := 16) kb_16 ?_
  refine m_newa C (dOf DX3_init 24 rfl) (by decide) kar_11 (by decide) ⟨by decide, by decide⟩ h (fun a16 S17 h => ?_)
  refine m_pRF C hin (dOf DX3_init 25 rfl) kf_X3_27 fp_3_5 rfl h (fun S18 h => ?_)
  refine m_aload_n C (dOf DX3_init 26 rfl) rfl 0 rfl ?_
  refine m_bipush C (dOf DX3_init 27 rfl) (v := 16) kb_16 ?_
  refine m_newa C (dOf DX3_init 28 rfl) (by decide) kar_11 (by decide) ⟨by decide, by decide⟩ h (fun a19 S20 h => ?_)
  refine m_pRF C hin (dOf DX3_init 29 rfl) kf_X3_30 fp_3_6 rfl h (fun S21 h => ?_)
  refine m_aload_n C (dOf DX3_init 30 rfl) rfl 0 rfl ?_
  refine m_bipush C (dOf DX3_init 31 rfl) (v := 16) kb_16 ?_
  refine m_newa C (dOf DX3_init 32 rfl) (by decide) kar_13 (by decide) ⟨by decide, by decide⟩ h (fun a22 S23 h => ?_)
  refine m_pRF C hin (dOf DX3_init 33 rfl) kf_X3_33 fp_3_7 rfl h (fun S24 h => ?_)
  exact m_vretC C rfl ⟨rfl, rfl⟩ (dOf DX3_init 34 rfl) h
/-- new TraceRing$Ring()V -/
def f_X4_init (S : St) (b0 : Nat) : Option St :=
  na_ S 15 6 fun a1 S2 =>
  pR_ S2 b0 4 0 (some a1) fun S3 =>
  na_ S3 11 4 fun a4 S5 =>
  pR_ S5 b0 4 1 (some a4) fun S6 =>
  na_ S6 11 4 fun a7 S8 =>
  pR_ S8 b0 4 2 (some a7) fun S9 =>
  na_ S9 11 4 fun a10 S11 =>
  pR_ S11 b0 4 3 (some a10) fun S12 =>
  na_ S12 11 34 fun a13 S14 =>
  pR_ S14 b0 4 4 (some a13) fun S15 =>
  nw_ S15 1 fun a16 S17 =>
  cV_ (f_X1_init S17 a16) fun S18 =>
  pR_ S18 b0 4 5 (some a16) fun S19 =>
  nw_ S19 3 fun a20 S21 =>
  cV_ (f_X3_init S21 a20) fun S22 =>
  pR_ S22 b0 4 6 (some a20) fun S23 =>
  gR_ S23 b0 4 0 fun a24 =>
  ck_ S23 a24 15 <|
  gR_ S23 b0 4 0 fun a25 =>
  nw_ S23 3 fun a26 S27 =>
  cV_ (f_X3_init S27 a26) fun S28 =>
  sR_ S28 a25 15 0 a26 3 fun S29 =>
  gR_ S29 b0 4 0 fun a30 =>
  ck_ S29 a30 15 <|
  gR_ S29 b0 4 0 fun a31 =>
  nw_ S29 3 fun a32 S33 =>
  cV_ (f_X3_init S33 a32) fun S34 =>
  sR_ S34 a31 15 1 a32 3 fun S35 =>
  gR_ S35 b0 4 0 fun a36 =>
  ck_ S35 a36 15 <|
  gR_ S35 b0 4 0 fun a37 =>
  nw_ S35 3 fun a38 S39 =>
  cV_ (f_X3_init S39 a38) fun S40 =>
  sR_ S40 a37 15 2 a38 3 fun S41 =>
  gR_ S41 b0 4 0 fun a42 =>
  ck_ S41 a42 15 <|
  gR_ S41 b0 4 0 fun a43 =>
  nw_ S41 3 fun a44 S45 =>
  cV_ (f_X3_init S45 a44) fun S46 =>
  sR_ S46 a43 15 3 a44 3 fun S47 =>
  gR_ S47 b0 4 0 fun a48 =>
  ck_ S47 a48 15 <|
  gR_ S47 b0 4 0 fun a49 =>
  nw_ S47 3 fun a50 S51 =>
  cV_ (f_X3_init S51 a50) fun S52 =>
  sR_ S52 a49 15 4 a50 3 fun S53 =>
  gR_ S53 b0 4 0 fun a54 =>
  ck_ S53 a54 15 <|
  gR_ S53 b0 4 0 fun a55 =>
  nw_ S53 3 fun a56 S57 =>
  cV_ (f_X3_init S57 a56) fun S58 =>
  sR_ S58 a55 15 5 a56 3 fun S59 =>
  gR_ S59 b0 4 0 fun a60 =>
  ck_ S59 a60 15 <|
  ck_ S59 b0 4 <| cV_ (f_X4_begin S59 b0 3 16 1) fun S61 =>
  rt_ S61
set_option maxRecDepth 100000 in
set_option maxHeartbeats 4000000 in
theorem c_X4_init (l : Launch) (G : Gx) (S : St) (b0 : Nat) (o : St) (h : f_X4_init S b0 = some o) : Met l yX4_init (Cond.code yX4_init cX4_init 2 none :: wAll) ({ frames := 2, cells := 70, slots := 1151, locals := 46 } : Room) (va_Pc [.ref (G.1 + b0)] (wPre G S)) (qV G o) 70 1151 (wA G) := by
  refine m_startI (by decide +kernel) (Nat.le_of_ble_eq_true rfl) (fun X C hin => ?_)
  unfold f_X4_init at h
  show WM X G 2 0 0 (wQ X G (qV G o) 70 1151) 0 [(0, .ref (G.1 + b0))] [] S
  refine m_aload_n C (dOf DX4_init 0 rfl) rfl 0 rfl ?_
  refine m_objInit C (dOf DX4_init 1 rfl) km_X4_3 kobj ⟨by decide, Nat.le_of_ble_eq_true rfl⟩ ?_
  refine m_aload_n C (dOf DX4_init 2 rfl) rfl 0 rfl ?_
  refine m_bipush C (dOf DX4_init 3 rfl) (v := 6) kb_6 ?_
  refine m_anew (E := "TraceRing$Page") C (dOf DX4_init 4 rfl) (by decide) kcl_X4_9_a (by decide) ⟨by decide, by decide⟩ h (fun a1 S2 h => ?_)
  refine m_pRF C hin (dOf DX4_init 5 rfl) kf_X4_11 fp_4_0 rfl h (fun S3 h => ?_)
  refine m_aload_n C (dOf DX4_init 6 rfl) rfl 0 rfl ?_
  refine m_iconst C (dOf DX4_init 7 rfl) (v := 4) ki_4 ?_
  refine m_newa C (dOf DX4_init 8 rfl) (by decide) kar_11 (by decide) ⟨by decide, by decide⟩ h (fun a4 S5 h => ?_)
  refine m_pRF C hin (dOf DX4_init 9 rfl) kf_X4_17 fp_4_1 rfl h (fun S6 h => ?_)
  refine m_aload_n C (dOf DX4_init 10 rfl) rfl 0 rfl ?_
  refine m_iconst C (dOf DX4_init 11 rfl) (v := 4) ki_4 ?_
  refine m_newa C (dOf DX4_init 12 rfl) (by decide) kar_11 (by decide) ⟨by decide, by decide⟩ h (fun a7 S8 h => ?_)
  refine m_pRF C hin (dOf DX4_init 13 rfl) kf_X4_21 fp_4_2 rfl h (fun S9 h => ?_)
  refine m_aload_n C (dOf DX4_init 14 rfl) rfl 0 rfl ?_
  refine m_iconst C (dOf DX4_init 15 rfl) (v := 4) ki_4 ?_
  refine m_newa C (dOf DX4_init 16 rfl) (by decide) kar_11 (by decide) ⟨by decide, by decide⟩ h (fun a10 S11 h => ?_)
  refine m_pRF C hin (dOf DX4_init 17 rfl) kf_X4_24 fp_4_3 rfl h (fun S12 h => ?_)
  refine m_aload_n C (dOf DX4_init 18 rfl) rfl 0 rfl ?_
  refine m_bipush C (dOf DX4_init 19 rfl) (v := 34) kb_34 ?_
  refine m_newa C (dOf DX4_init 20 rfl) (by decide) kar_11 (by decide) ⟨by decide, by decide⟩ h (fun a13 S14 h => ?_)
  refine m_pRF C hin (dOf DX4_init 21 rfl) kf_X4_27 fp_4_4 rfl h (fun S15 h => ?_)
  refine m_aload_n C (dOf DX4_init 22 rfl) rfl 0 rfl ?_
  refine m_new C (dOf DX4_init 23 rfl) (by decide) kcl_X4_30 ⟨by decide, by decide⟩ h (fun a16 S17 h => ?_)
  refine m_dup C (dOf DX4_init 24 rfl) rfl ?_
  refine m_cC (st := [.ref (G.1 + a16), .ref (G.1 + b0)]) h (fun o' ho H locs ls hl hr hs => ⟨_, m_runIN C (dOf DX4_init 25 rfl) kn_X4_32 ki_X1_init (by decide) ⟨rfl, rfl⟩ (c_X1_init _ G _ _ o' ho) rfl rfl (Nat.le_of_ble_eq_true rfl) ⟨by decide, by decide⟩ hl hr hs⟩) (fun S18 h => ?_)
  refine m_pRF C hin (dOf DX4_init 26 rfl) kf_X4_33 fp_4_5 rfl h (fun S19 h => ?_)
  refine m_aload_n C (dOf DX4_init 27 rfl) rfl 0 rfl ?_
  refine m_new C (dOf DX4_init 28 rfl) (by decide) kcl_X4_9 ⟨by decide, by decide⟩ h (fun a20 S21 h => ?_)
  refine m_dup C (dOf DX4_init 29 rfl) rfl ?_
  refine m_cC (st := [.ref (G.1 + a20), .ref (G.1 + b0)]) h (fun o' ho H locs ls hl hr hs => ⟨_, m_runIN C (dOf DX4_init 30 rfl) kn_X4_37 ki_X3_init (by decide) ⟨rfl, rfl⟩ (c_X3_init _ G _ _ o' ho) rfl rfl (Nat.le_of_ble_eq_true rfl) ⟨by decide, by decide⟩ hl hr hs⟩) (fun S22 h => ?_)
  refine m_pR C (dOf DX4_init 31 rfl) kf_X4_38 fp_4_6 h (fun S23 h => ?_)
  refine m_iconst C (dOf DX4_init 32 rfl) (v := 0) ki_0 ?_
  refine m_istore_n C (dOf DX4_init 33 rfl) rfl (by decide) (lv' := [(1, .int 0), (0, .ref (G.1 + b0))]) rfl ?_
  refine m_iload_n C (dOf DX4_init 34 rfl) rfl 0 rfl ?_
  refine m_aload_n C (dOf DX4_init 35 rfl) rfl 1 rfl ?_
  refine m_gR C (dOf DX4_init 36 rfl) kf_X4_11 fg_4_0 h (fun a24 h => ?_)
  obtain ⟨hc, h⟩ := ck_spec h
  refine m_alC C (dOf DX4_init 37 rfl) hc (z := 6) (by decide) ?_
  refine m_icmpgeN C (dOf DX4_init 38 rfl) (tgt := 94) rfl (by decide) ?_
  refine m_aload_n C (dOf DX4_init 39 rfl) rfl 1 rfl ?_
  refine m_gR C (dOf DX4_init 40 rfl) kf_X4_11 fg_4_0 h (fun a25 h => ?_)
  refine m_iload_n C (dOf DX4_init 41 rfl) rfl 0 rfl ?_
  refine m_new C (dOf DX4_init 42 rfl) (by decide) kcl_X4_9 ⟨by decide, by decide⟩ h (fun a26 S27 h => ?_)
  refine m_dup C (dOf DX4_init 43 rfl) rfl ?_
  refine m_cC (st := [.ref (G.1 + a26), .int 0, .ref (G.1 + a25)]) h (fun o' ho H locs ls hl hr hs => ⟨_, m_runIN C (dOf DX4_init 44 rfl) kn_X4_37 ki_X3_init (by decide) ⟨rfl, rfl⟩ (c_X3_init _ G _ _ o' ho) rfl rfl (Nat.le_of_ble_eq_true rfl) ⟨by decide, by decide⟩ hl hr hs⟩) (fun S28 h => ?_)
  refine m_sR C (dOf DX4_init 45 rfl) (by decide) h (fun S29 h => ?_)
  refine m_iincC (w := 1) (z := 1) (dOf DX4_init 46 rfl) C ki_1 0 rfl (by decide) (by decide) (lv' := [(1, .int 1), (0, .ref (G.1 + b0))]) rfl ?_
  refine m_goto C (dOf DX4_init 47 rfl) (tgt := 66) rfl ?_
  refine m_iload_n C (dOf DX4_init 34 rfl) rfl 0 rfl ?_
  refine m_aload_n C (dOf DX4_init 35 rfl) rfl 1 rfl ?_
  refine m_gR C (dOf DX4_init 36 rfl) kf_X4_11 fg_4_0 h (fun a30 h => ?_)
  obtain ⟨hc, h⟩ := ck_spec h
  refine m_alC C (dOf DX4_init 37 rfl) hc (z := 6) (by decide) ?_
  refine m_icmpgeN C (dOf DX4_init 38 rfl) (tgt := 94) rfl (by decide) ?_
  refine m_aload_n C (dOf DX4_init 39 rfl) rfl 1 rfl ?_
  refine m_gR C (dOf DX4_init 40 rfl) kf_X4_11 fg_4_0 h (fun a31 h => ?_)
  refine m_iload_n C (dOf DX4_init 41 rfl) rfl 0 rfl ?_
  refine m_new C (dOf DX4_init 42 rfl) (by decide) kcl_X4_9 ⟨by decide, by decide⟩ h (fun a32 S33 h => ?_)
  refine m_dup C (dOf DX4_init 43 rfl) rfl ?_
  refine m_cC (st := [.ref (G.1 + a32), .int 1, .ref (G.1 + a31)]) h (fun o' ho H locs ls hl hr hs => ⟨_, m_runIN C (dOf DX4_init 44 rfl) kn_X4_37 ki_X3_init (by decide) ⟨rfl, rfl⟩ (c_X3_init _ G _ _ o' ho) rfl rfl (Nat.le_of_ble_eq_true rfl) ⟨by decide, by decide⟩ hl hr hs⟩) (fun S34 h => ?_)
  refine m_sR C (dOf DX4_init 45 rfl) (by decide) h (fun S35 h => ?_)
  refine m_iincC (w := 1) (z := 2) (dOf DX4_init 46 rfl) C ki_1 0 rfl (by decide) (by decide) (lv' := [(1, .int 2), (0, .ref (G.1 + b0))]) rfl ?_
  refine m_goto C (dOf DX4_init 47 rfl) (tgt := 66) rfl ?_
  refine m_iload_n C (dOf DX4_init 34 rfl) rfl 0 rfl ?_
  refine m_aload_n C (dOf DX4_init 35 rfl) rfl 1 rfl ?_
  refine m_gR C (dOf DX4_init 36 rfl) kf_X4_11 fg_4_0 h (fun a36 h => ?_)
  obtain ⟨hc, h⟩ := ck_spec h
  refine m_alC C (dOf DX4_init 37 rfl) hc (z := 6) (by decide) ?_
  refine m_icmpgeN C (dOf DX4_init 38 rfl) (tgt := 94) rfl (by decide) ?_
  refine m_aload_n C (dOf DX4_init 39 rfl) rfl 1 rfl ?_
  refine m_gR C (dOf DX4_init 40 rfl) kf_X4_11 fg_4_0 h (fun a37 h => ?_)
  refine m_iload_n C (dOf DX4_init 41 rfl) rfl 0 rfl ?_
  refine m_new C (dOf DX4_init 42 rfl) (by decide) kcl_X4_9 ⟨by decide, by decide⟩ h (fun a38 S39 h => ?_)
  refine m_dup C (dOf DX4_init 43 rfl) rfl ?_
  refine m_cC (st := [.ref (G.1 + a38), .int 2, .ref (G.1 + a37)]) h (fun o' ho H locs ls hl hr hs => ⟨_, m_runIN C (dOf DX4_init 44 rfl) kn_X4_37 ki_X3_init (by decide) ⟨rfl, rfl⟩ (c_X3_init _ G _ _ o' ho) rfl rfl (Nat.le_of_ble_eq_true rfl) ⟨by decide, by decide⟩ hl hr hs⟩) (fun S40 h => ?_)
  refine m_sR C (dOf DX4_init 45 rfl) (by decide) h (fun S41 h => ?_)
  refine m_iincC (w := 1) (z := 3) (dOf DX4_init 46 rfl) C ki_1 0 rfl (by decide) (by decide) (lv' := [(1, .int 3), (0, .ref (G.1 + b0))]) rfl ?_
  refine m_goto C (dOf DX4_init 47 rfl) (tgt := 66) rfl ?_
  refine m_iload_n C (dOf DX4_init 34 rfl) rfl 0 rfl ?_
  refine m_aload_n C (dOf DX4_init 35 rfl) rfl 1 rfl ?_
  refine m_gR C (dOf DX4_init 36 rfl) kf_X4_11 fg_4_0 h (fun a42 h => ?_)
  obtain ⟨hc, h⟩ := ck_spec h
  refine m_alC C (dOf DX4_init 37 rfl) hc (z := 6) (by decide) ?_
  refine m_icmpgeN C (dOf DX4_init 38 rfl) (tgt := 94) rfl (by decide) ?_
  refine m_aload_n C (dOf DX4_init 39 rfl) rfl 1 rfl ?_
  refine m_gR C (dOf DX4_init 40 rfl) kf_X4_11 fg_4_0 h (fun a43 h => ?_)
  refine m_iload_n C (dOf DX4_init 41 rfl) rfl 0 rfl ?_
  refine m_new C (dOf DX4_init 42 rfl) (by decide) kcl_X4_9 ⟨by decide, by decide⟩ h (fun a44 S45 h => ?_)
  refine m_dup C (dOf DX4_init 43 rfl) rfl ?_
  refine m_cC (st := [.ref (G.1 + a44), .int 3, .ref (G.1 + a43)]) h (fun o' ho H locs ls hl hr hs => ⟨_, m_runIN C (dOf DX4_init 44 rfl) kn_X4_37 ki_X3_init (by decide) ⟨rfl, rfl⟩ (c_X3_init _ G _ _ o' ho) rfl rfl (Nat.le_of_ble_eq_true rfl) ⟨by decide, by decide⟩ hl hr hs⟩) (fun S46 h => ?_)
  refine m_sR C (dOf DX4_init 45 rfl) (by decide) h (fun S47 h => ?_)
  refine m_iincC (w := 1) (z := 4) (dOf DX4_init 46 rfl) C ki_1 0 rfl (by decide) (by decide) (lv' := [(1, .int 4), (0, .ref (G.1 + b0))]) rfl ?_
  refine m_goto C (dOf DX4_init 47 rfl) (tgt := 66) rfl ?_
  refine m_iload_n C (dOf DX4_init 34 rfl) rfl 0 rfl ?_
  refine m_aload_n C (dOf DX4_init 35 rfl) rfl 1 rfl ?_
  refine m_gR C (dOf DX4_init 36 rfl) kf_X4_11 fg_4_0 h (fun a48 h => ?_)
  obtain ⟨hc, h⟩ := ck_spec h
  refine m_alC C (dOf DX4_init 37 rfl) hc (z := 6) (by decide) ?_
  refine m_icmpgeN C (dOf DX4_init 38 rfl) (tgt := 94) rfl (by decide) ?_
  refine m_aload_n C (dOf DX4_init 39 rfl) rfl 1 rfl ?_
  refine m_gR C (dOf DX4_init 40 rfl) kf_X4_11 fg_4_0 h (fun a49 h => ?_)
  refine m_iload_n C (dOf DX4_init 41 rfl) rfl 0 rfl ?_
  refine m_new C (dOf DX4_init 42 rfl) (by decide) kcl_X4_9 ⟨by decide, by decide⟩ h (fun a50 S51 h => ?_)
  refine m_dup C (dOf DX4_init 43 rfl) rfl ?_
  refine m_cC (st := [.ref (G.1 + a50), .int 4, .ref (G.1 + a49)]) h (fun o' ho H locs ls hl hr hs => ⟨_, m_runIN C (dOf DX4_init 44 rfl) kn_X4_37 ki_X3_init (by decide) ⟨rfl, rfl⟩ (c_X3_init _ G _ _ o' ho) rfl rfl (Nat.le_of_ble_eq_true rfl) ⟨by decide, by decide⟩ hl hr hs⟩) (fun S52 h => ?_)
  refine m_sR C (dOf DX4_init 45 rfl) (by decide) h (fun S53 h => ?_)
  refine m_iincC (w := 1) (z := 5) (dOf DX4_init 46 rfl) C ki_1 0 rfl (by decide) (by decide) (lv' := [(1, .int 5), (0, .ref (G.1 + b0))]) rfl ?_
  refine m_goto C (dOf DX4_init 47 rfl) (tgt := 66) rfl ?_
  refine m_iload_n C (dOf DX4_init 34 rfl) rfl 0 rfl ?_
  refine m_aload_n C (dOf DX4_init 35 rfl) rfl 1 rfl ?_
  refine m_gR C (dOf DX4_init 36 rfl) kf_X4_11 fg_4_0 h (fun a54 h => ?_)
  obtain ⟨hc, h⟩ := ck_spec h
  refine m_alC C (dOf DX4_init 37 rfl) hc (z := 6) (by decide) ?_
  refine m_icmpgeN C (dOf DX4_init 38 rfl) (tgt := 94) rfl (by decide) ?_
  refine m_aload_n C (dOf DX4_init 39 rfl) rfl 1 rfl ?_
  refine m_gR C (dOf DX4_init 40 rfl) kf_X4_11 fg_4_0 h (fun a55 h => ?_)
  refine m_iload_n C (dOf DX4_init 41 rfl) rfl 0 rfl ?_
  refine m_new C (dOf DX4_init 42 rfl) (by decide) kcl_X4_9 ⟨by decide, by decide⟩ h (fun a56 S57 h => ?_)
  refine m_dup C (dOf DX4_init 43 rfl) rfl ?_
  refine m_cC (st := [.ref (G.1 + a56), .int 5, .ref (G.1 + a55)]) h (fun o' ho H locs ls hl hr hs => ⟨_, m_runIN C (dOf DX4_init 44 rfl) kn_X4_37 ki_X3_init (by decide) ⟨rfl, rfl⟩ (c_X3_init _ G _ _ o' ho) rfl rfl (Nat.le_of_ble_eq_true rfl) ⟨by decide, by decide⟩ hl hr hs⟩) (fun S58 h => ?_)
  refine m_sR C (dOf DX4_init 45 rfl) (by decide) h (fun S59 h => ?_)
  refine m_iincC (w := 1) (z := 6) (dOf DX4_init 46 rfl) C ki_1 0 rfl (by decide) (by decide) (lv' := [(1, .int 6), (0, .ref (G.1 + b0))]) rfl ?_
  refine m_goto C (dOf DX4_init 47 rfl) (tgt := 66) rfl ?_
  refine m_iload_n C (dOf DX4_init 34 rfl) rfl 0 rfl ?_
  refine m_aload_n C (dOf DX4_init 35 rfl) rfl 1 rfl ?_
  refine m_gR C (dOf DX4_init 36 rfl) kf_X4_11 fg_4_0 h (fun a60 h => ?_)
  obtain ⟨hc, h⟩ := ck_spec h
  refine m_alC C (dOf DX4_init 37 rfl) hc (z := 6) (by decide) ?_
  refine m_icmpgeY C (dOf DX4_init 38 rfl) (tgt := 94) rfl (by decide) ?_
  refine m_aload_n C (dOf DX4_init 48 rfl) rfl 1 rfl ?_
  refine m_iconst C (dOf DX4_init 49 rfl) (v := 3) ki_3 ?_
  refine m_bipush C (dOf DX4_init 50 rfl) (v := 16) kb_16 ?_
  refine m_iconst C (dOf DX4_init 51 rfl) (v := 1) ki_1 ?_
  obtain ⟨hc, h⟩ := ck_spec h
  refine m_cV (st := []) h (fun o' ho H locs ls hl hr hs => ⟨_, m_runV C (dOf DX4_init 52 rfl) km_X4_42 ky_X4_begin (by decide) ⟨rfl, rfl⟩ (c_X4_begin _ G _ _ _ _ _ o' ho) hc.1 hc.2 (by decide) rfl rfl rfl (Nat.le_of_ble_eq_true rfl) ⟨Nat.le_refl _, Nat.le_refl _⟩ hl hr hs⟩) (fun S61 h => ?_)
  exact m_vretC C rfl ⟨rfl, rfl⟩ (dOf DX4_init 53 rfl) h
/-- new TraceRing$Text()V -/
def f_X6_init (S : St) (b0 : Nat) : Option St :=
  na_ S 11 400 fun a1 S2 =>
  pR_ S2 b0 6 0 (some a1) fun S3 =>
  pI_ S3 b0 6 2 0 fun S4 =>
  pI_ S4 b0 6 3 (-1) fun S5 =>
  pI_ S5 b0 6 4 0 fun S6 =>
  rt_ S6
set_option maxRecDepth 100000 in
set_option maxHeartbeats 4000000 in
theorem c_X6_init (l : Launch) (G : Gx) (S : St) (b0 : Nat) (o : St) (h : f_X6_init S b0 = some o) : Met l yX6_init (Cond.code yX6_init cX6_init 1 none :: wAll) ({ frames := 1, cells := 1, slots := 400, locals := 20 } : Room) (va_Pc [.ref (G.1 + b0)] (wPre G S)) (qV G o) 1 400 (wA G) := by
  refine m_startI (by decide +kernel) (Nat.le_of_ble_eq_true rfl) (fun X C hin => ?_)
  unfold f_X6_init at h
  show WM X G 1 0 0 (wQ X G (qV G o) 1 400) 0 [(0, .ref (G.1 + b0))] [] S
  refine m_aload_n C (dOf DX6_init 0 rfl) rfl 0 rfl ?_
  refine m_objInit C (dOf DX6_init 1 rfl) km_X6_3 kobj ⟨by decide, Nat.le_of_ble_eq_true rfl⟩ ?_
  refine m_aload_n C (dOf DX6_init 2 rfl) rfl 0 rfl ?_
  refine m_sipush C (dOf DX6_init 3 rfl) (v := 400) ks_400 ?_
  refine m_newa C (dOf DX6_init 4 rfl) (by decide) kar_11 (by decide) ⟨by decide, by decide⟩ h (fun a1 S2 h => ?_)
  refine m_pRF C hin (dOf DX6_init 5 rfl) kf_X6_9 fp_6_0 rfl h (fun S3 h => ?_)
  refine m_aload_n C (dOf DX6_init 6 rfl) rfl 0 rfl ?_
  refine m_iconst C (dOf DX6_init 7 rfl) (v := 0) ki_0 ?_
  refine m_pI C (dOf DX6_init 8 rfl) kf_X6_15 fp_6_2 h (fun S4 h => ?_)
  refine m_aload_n C (dOf DX6_init 9 rfl) rfl 0 rfl ?_
  refine m_iconst C (dOf DX6_init 10 rfl) (v := (-1)) ki_m1 ?_
  refine m_pI C (dOf DX6_init 11 rfl) kf_X6_19 fp_6_3 h (fun S5 h => ?_)
  refine m_aload_n C (dOf DX6_init 12 rfl) rfl 0 rfl ?_
  refine m_iconst C (dOf DX6_init 13 rfl) (v := 0) ki_0 ?_
  refine m_pI C (dOf DX6_init 14 rfl) kf_X6_22 fp_6_4 h (fun S6 h => ?_)
  exact m_vretC C rfl ⟨rfl, rfl⟩ (dOf DX6_init 15 rfl) h
/-- new TraceRing$Lines()V -/
def f_X2_init (S : St) (b0 : Nat) : Option St :=
  na_ S 11 80 fun a1 S2 =>
  pR_ S2 b0 2 0 (some a1) fun S3 =>
  na_ S3 11 80 fun a4 S5 =>
  pR_ S5 b0 2 1 (some a4) fun S6 =>
  na_ S6 11 80 fun a7 S8 =>
  pR_ S8 b0 2 2 (some a7) fun S9 =>
  rt_ S9
set_option maxRecDepth 100000 in
set_option maxHeartbeats 4000000 in
theorem c_X2_init (l : Launch) (G : Gx) (S : St) (b0 : Nat) (o : St) (h : f_X2_init S b0 = some o) : Met l yX2_init (Cond.code yX2_init cX2_init 1 none :: wAll) ({ frames := 1, cells := 3, slots := 240, locals := 20 } : Room) (va_Pc [.ref (G.1 + b0)] (wPre G S)) (qV G o) 3 240 (wA G) := by
  refine m_startI (by decide +kernel) (Nat.le_of_ble_eq_true rfl) (fun X C hin => ?_)
  unfold f_X2_init at h
  show WM X G 1 0 0 (wQ X G (qV G o) 3 240) 0 [(0, .ref (G.1 + b0))] [] S
  refine m_aload_n C (dOf DX2_init 0 rfl) rfl 0 rfl ?_
  refine m_objInit C (dOf DX2_init 1 rfl) km_X2_3 kobj ⟨by decide, Nat.le_of_ble_eq_true rfl⟩ ?_
  refine m_aload_n C (dOf DX2_init 2 rfl) rfl 0 rfl ?_
  refine m_bipush C (dOf DX2_init 3 rfl) (v := 80) kb_80 ?_
  refine m_newa C (dOf DX2_init 4 rfl) (by decide) kar_11 (by decide) ⟨by decide, by decide⟩ h (fun a1 S2 h => ?_)
  refine m_pRF C hin (dOf DX2_init 5 rfl) kf_X2_9 fp_2_0 rfl h (fun S3 h => ?_)
  refine m_aload_n C (dOf DX2_init 6 rfl) rfl 0 rfl ?_
  refine m_bipush C (dOf DX2_init 7 rfl) (v := 80) kb_80 ?_
  refine m_newa C (dOf DX2_init 8 rfl) (by decide) kar_11 (by decide) ⟨by decide, by decide⟩ h (fun a4 S5 h => ?_)
  refine m_pRF C hin (dOf DX2_init 9 rfl) kf_X2_15 fp_2_1 rfl h (fun S6 h => ?_)
  refine m_aload_n C (dOf DX2_init 10 rfl) rfl 0 rfl ?_
  refine m_bipush C (dOf DX2_init 11 rfl) (v := 80) kb_80 ?_
  refine m_newa C (dOf DX2_init 12 rfl) (by decide) kar_11 (by decide) ⟨by decide, by decide⟩ h (fun a7 S8 h => ?_)
  refine m_pRF C hin (dOf DX2_init 13 rfl) kf_X2_18 fp_2_2 rfl h (fun S9 h => ?_)
  exact m_vretC C rfl ⟨rfl, rfl⟩ (dOf DX2_init 14 rfl) h
/-- new TraceRing$Storm()V -/
def f_X5_init (S : St) (b0 : Nat) : Option St :=
  rt_ S
set_option maxRecDepth 100000 in
set_option maxHeartbeats 4000000 in
theorem c_X5_init (l : Launch) (G : Gx) (S : St) (b0 : Nat) (o : St) (h : f_X5_init S b0 = some o) : Met l yX5_init (Cond.code yX5_init cX5_init 1 none :: wAll) ({ frames := 1, cells := 0, slots := 0, locals := 20 } : Room) (va_Pc [.ref (G.1 + b0)] (wPre G S)) (qV G o) 0 0 (wA G) := by
  refine m_startI (by decide +kernel) (Nat.le_of_ble_eq_true rfl) (fun X C hin => ?_)
  unfold f_X5_init at h
  show WM X G 1 0 0 (wQ X G (qV G o) 0 0) 0 [(0, .ref (G.1 + b0))] [] S
  refine m_aload_n C (dOf DX5_init 0 rfl) rfl 0 rfl ?_
  refine m_objInit C (dOf DX5_init 1 rfl) km_X5_3 kobj ⟨by decide, Nat.le_of_ble_eq_true rfl⟩ ?_
  exact m_vretC C rfl ⟨rfl, rfl⟩ (dOf DX5_init 2 rfl) h
/-- new TraceRing$Image()V -/
def f_X0_init (S : St) (b0 : Nat) : Option St :=
  nw_ S 4 fun a1 S2 =>
  cV_ (f_X4_init S2 a1) fun S3 =>
  pR_ S3 b0 0 0 (some a1) fun S4 =>
  nw_ S4 6 fun a5 S6 =>
  cV_ (f_X6_init S6 a5) fun S7 =>
  pR_ S7 b0 0 1 (some a5) fun S8 =>
  rt_ S8
set_option maxRecDepth 100000 in
set_option maxHeartbeats 4000000 in
theorem c_X0_init (l : Launch) (G : Gx) (S : St) (b0 : Nat) (o : St) (h : f_X0_init S b0 = some o) : Met l yX0_init (Cond.code yX0_init cX0_init 1 none :: wAll) ({ frames := 3, cells := 73, slots := 1575, locals := 67 } : Room) (va_Pc [.ref (G.1 + b0)] (wPre G S)) (qV G o) 73 1575 (wA G) := by
  refine m_startI (by decide +kernel) (Nat.le_of_ble_eq_true rfl) (fun X C hin => ?_)
  unfold f_X0_init at h
  show WM X G 1 0 0 (wQ X G (qV G o) 73 1575) 0 [(0, .ref (G.1 + b0))] [] S
  refine m_aload_n C (dOf DX0_init 0 rfl) rfl 0 rfl ?_
  refine m_objInit C (dOf DX0_init 1 rfl) km_X0_1 kobj ⟨by decide, Nat.le_of_ble_eq_true rfl⟩ ?_
  refine m_aload_n C (dOf DX0_init 2 rfl) rfl 0 rfl ?_
  refine m_new C (dOf DX0_init 3 rfl) (by decide) kcl_X0_7 ⟨by decide, by decide⟩ h (fun a1 S2 h => ?_)
  refine m_dup C (dOf DX0_init 4 rfl) rfl ?_
  refine m_cC (st := [.ref (G.1 + a1), .ref (G.1 + b0)]) h (fun o' ho H locs ls hl hr hs => ⟨_, m_runI C (dOf DX0_init 5 rfl) km_X0_9 ki_X4_init (by decide) ⟨rfl, rfl⟩ (c_X4_init _ G _ _ o' ho) rfl rfl (Nat.le_of_ble_eq_true rfl) ⟨by decide, by decide⟩ hl hr hs⟩) (fun S3 h => ?_)
  refine m_pRF C hin (dOf DX0_init 6 rfl) kf_X0_10 fp_0_0 rfl h (fun S4 h => ?_)
  refine m_aload_n C (dOf DX0_init 7 rfl) rfl 0 rfl ?_
  refine m_new C (dOf DX0_init 8 rfl) (by decide) kcl_X0_16 ⟨by decide, by decide⟩ h (fun a5 S6 h => ?_)
  refine m_dup C (dOf DX0_init 9 rfl) rfl ?_
  refine m_cC (st := [.ref (G.1 + a5), .ref (G.1 + b0)]) h (fun o' ho H locs ls hl hr hs => ⟨_, m_runIN C (dOf DX0_init 10 rfl) kn_X0_18 ki_X6_init (by decide) ⟨rfl, rfl⟩ (c_X6_init _ G _ _ o' ho) rfl rfl (Nat.le_of_ble_eq_true rfl) ⟨by decide, by decide⟩ hl hr hs⟩) (fun S7 h => ?_)
  refine m_pRF C hin (dOf DX0_init 11 rfl) kf_X0_19 fp_0_1 rfl h (fun S8 h => ?_)
  exact m_vretC C rfl ⟨rfl, rfl⟩ (dOf DX0_init 12 rfl) h
/-- new TraceRing()V -/
def f_X8_init (S : St) (b0 : Nat) : Option St :=
  nw_ S 4 fun a1 S2 =>
  cV_ (f_X4_init S2 a1) fun S3 =>
  pR_ S3 b0 8 0 (some a1) fun S4 =>
  nw_ S4 4 fun a5 S6 =>
  cV_ (f_X4_init S6 a5) fun S7 =>
  pR_ S7 b0 8 1 (some a5) fun S8 =>
  nw_ S8 6 fun a9 S10 =>
  cV_ (f_X6_init S10 a9) fun S11 =>
  pR_ S11 b0 8 2 (some a9) fun S12 =>
  nw_ S12 2 fun a13 S14 =>
  cV_ (f_X2_init S14 a13) fun S15 =>
  pR_ S15 b0 8 3 (some a13) fun S16 =>
  nw_ S16 5 fun a17 S18 =>
  cV_ (f_X5_init S18 a17) fun S19 =>
  pR_ S19 b0 8 4 (some a17) fun S20 =>
  na_ S20 14 3 fun a21 S22 =>
  pR_ S22 b0 8 5 (some a21) fun S23 =>
  gR_ S23 b0 8 5 fun a24 =>
  ck_ S23 a24 14 <|
  gR_ S23 b0 8 5 fun a25 =>
  nw_ S23 0 fun a26 S27 =>
  cV_ (f_X0_init S27 a26) fun S28 =>
  sR_ S28 a25 14 0 a26 0 fun S29 =>
  gR_ S29 b0 8 5 fun a30 =>
  ck_ S29 a30 14 <|
  gR_ S29 b0 8 5 fun a31 =>
  nw_ S29 0 fun a32 S33 =>
  cV_ (f_X0_init S33 a32) fun S34 =>
  sR_ S34 a31 14 1 a32 0 fun S35 =>
  gR_ S35 b0 8 5 fun a36 =>
  ck_ S35 a36 14 <|
  gR_ S35 b0 8 5 fun a37 =>
  nw_ S35 0 fun a38 S39 =>
  cV_ (f_X0_init S39 a38) fun S40 =>
  sR_ S40 a37 14 2 a38 0 fun S41 =>
  rt_ S41
set_option maxRecDepth 100000 in
set_option maxHeartbeats 4000000 in
theorem c_X8_init (l : Launch) (G : Gx) (S : St) (b0 : Nat) (o : St) (h : f_X8_init S b0 = some o) : Met l yX8_init (Cond.code yX8_init cX8_init 2 none :: wAll) ({ frames := 4, cells := 372, slots := 7725, locals := 87 } : Room) (va_Pc [.ref (G.1 + b0)] (wPre G S)) (qV G o) 372 7725 (wA G) := by
  refine m_startI (by decide +kernel) (Nat.le_of_ble_eq_true rfl) (fun X C hin => ?_)
  unfold f_X8_init at h
  show WM X G 2 0 0 (wQ X G (qV G o) 372 7725) 0 [(0, .ref (G.1 + b0))] [] S
  refine m_aload_n C (dOf DX8_init 0 rfl) rfl 0 rfl ?_
  refine m_objInit C (dOf DX8_init 1 rfl) km_X8_1 kobj ⟨by decide, Nat.le_of_ble_eq_true rfl⟩ ?_
  refine m_aload_n C (dOf DX8_init 2 rfl) rfl 0 rfl ?_
  refine m_new C (dOf DX8_init 3 rfl) (by decide) kcl_X8_7 ⟨by decide, by decide⟩ h (fun a1 S2 h => ?_)
  refine m_dup C (dOf DX8_init 4 rfl) rfl ?_
  refine m_cC (st := [.ref (G.1 + a1), .ref (G.1 + b0)]) h (fun o' ho H locs ls hl hr hs => ⟨_, m_runI C (dOf DX8_init 5 rfl) km_X8_9 ki_X4_init (by decide) ⟨rfl, rfl⟩ (c_X4_init _ G _ _ o' ho) rfl rfl (Nat.le_of_ble_eq_true rfl) ⟨by decide, by decide⟩ hl hr hs⟩) (fun S3 h => ?_)
  refine m_pRF C hin (dOf DX8_init 6 rfl) kf_X8_10 fp_8_0 rfl h (fun S4 h => ?_)
  refine m_aload_n C (dOf DX8_init 7 rfl) rfl 0 rfl ?_
  refine m_new C (dOf DX8_init 8 rfl) (by decide) kcl_X8_7 ⟨by decide, by decide⟩ h (fun a5 S6 h => ?_)
  refine m_dup C (dOf DX8_init 9 rfl) rfl ?_
  refine m_cC (st := [.ref (G.1 + a5), .ref (G.1 + b0)]) h (fun o' ho H locs ls hl hr hs => ⟨_, m_runI C (dOf DX8_init 10 rfl) km_X8_9 ki_X4_init (by decide) ⟨rfl, rfl⟩ (c_X4_init _ G _ _ o' ho) rfl rfl (Nat.le_of_ble_eq_true rfl) ⟨by decide, by decide⟩ hl hr hs⟩) (fun S7 h => ?_)
  refine m_pRF C hin (dOf DX8_init 11 rfl) kf_X8_16 fp_8_1 rfl h (fun S8 h => ?_)
  refine m_aload_n C (dOf DX8_init 12 rfl) rfl 0 rfl ?_
  refine m_new C (dOf DX8_init 13 rfl) (by decide) kcl_X8_19 ⟨by decide, by decide⟩ h (fun a9 S10 h => ?_)
  refine m_dup C (dOf DX8_init 14 rfl) rfl ?_
  refine m_cC (st := [.ref (G.1 + a9), .ref (G.1 + b0)]) h (fun o' ho H locs ls hl hr hs => ⟨_, m_runIN C (dOf DX8_init 15 rfl) kn_X8_21 ki_X6_init (by decide) ⟨rfl, rfl⟩ (c_X6_init _ G _ _ o' ho) rfl rfl (Nat.le_of_ble_eq_true rfl) ⟨by decide, by decide⟩ hl hr hs⟩) (fun S11 h => ?_)
  refine m_pRF C hin (dOf DX8_init 16 rfl) kf_X8_22 fp_8_2 rfl h (fun S12 h => ?_)
  refine m_aload_n C (dOf DX8_init 17 rfl) rfl 0 rfl ?_
  refine m_new C (dOf DX8_init 18 rfl) (by decide) kcl_X8_26 ⟨by decide, by decide⟩ h (fun a13 S14 h => ?_)
  refine m_dup C (dOf DX8_init 19 rfl) rfl ?_
  refine m_cC (st := [.ref (G.1 + a13), .ref (G.1 + b0)]) h (fun o' ho H locs ls hl hr hs => ⟨_, m_runIN C (dOf DX8_init 20 rfl) kn_X8_28 ki_X2_init (by decide) ⟨rfl, rfl⟩ (c_X2_init _ G _ _ o' ho) rfl rfl (Nat.le_of_ble_eq_true rfl) ⟨by decide, by decide⟩ hl hr hs⟩) (fun S15 h => ?_)
  refine m_pRF C hin (dOf DX8_init 21 rfl) kf_X8_29 fp_8_3 rfl h (fun S16 h => ?_)
  refine m_aload_n C (dOf DX8_init 22 rfl) rfl 0 rfl ?_
  refine m_new C (dOf DX8_init 23 rfl) (by decide) kcl_X8_33 ⟨by decide, by decide⟩ h (fun a17 S18 h => ?_)
  refine m_dup C (dOf DX8_init 24 rfl) rfl ?_
  refine m_cC (st := [.ref (G.1 + a17), .ref (G.1 + b0)]) h (fun o' ho H locs ls hl hr hs => ⟨_, m_runIN C (dOf DX8_init 25 rfl) kn_X8_35 ki_X5_init (by decide) ⟨rfl, rfl⟩ (c_X5_init _ G _ _ o' ho) rfl rfl (Nat.le_of_ble_eq_true rfl) ⟨by decide, by decide⟩ hl hr hs⟩) (fun S19 h => ?_)
  refine m_pRF C hin (dOf DX8_init 26 rfl) kf_X8_36 fp_8_4 rfl h (fun S20 h => ?_)
  refine m_aload_n C (dOf DX8_init 27 rfl) rfl 0 rfl ?_
  refine m_iconst C (dOf DX8_init 28 rfl) (v := 3) ki_3 ?_
  refine m_anew (E := "TraceRing$Image") C (dOf DX8_init 29 rfl) (by decide) kcl_X8_40_a (by decide) ⟨by decide, by decide⟩ h (fun a21 S22 h => ?_)
  refine m_pRF C hin (dOf DX8_init 30 rfl) kf_X8_42 fp_8_5 rfl h (fun S23 h => ?_)
  refine m_iconst C (dOf DX8_init 31 rfl) (v := 0) ki_0 ?_
  refine m_istore_n C (dOf DX8_init 32 rfl) rfl (by decide) (lv' := [(1, .int 0), (0, .ref (G.1 + b0))]) rfl ?_
  refine m_iload_n C (dOf DX8_init 33 rfl) rfl 0 rfl ?_
  refine m_iconst C (dOf DX8_init 34 rfl) (v := 3) ki_3 ?_
  refine m_icmpgeN C (dOf DX8_init 35 rfl) (tgt := 102) rfl (by decide) ?_
  refine m_iload_n C (dOf DX8_init 36 rfl) rfl 0 rfl ?_
  refine m_aload_n C (dOf DX8_init 37 rfl) rfl 1 rfl ?_
  refine m_gR C (dOf DX8_init 38 rfl) kf_X8_42 fg_8_5 h (fun a24 h => ?_)
  obtain ⟨hc, h⟩ := ck_spec h
  refine m_alC C (dOf DX8_init 39 rfl) hc (z := 3) (by decide) ?_
  refine m_icmpgeN C (dOf DX8_init 40 rfl) (tgt := 102) rfl (by decide) ?_
  refine m_aload_n C (dOf DX8_init 41 rfl) rfl 1 rfl ?_
  refine m_gR C (dOf DX8_init 42 rfl) kf_X8_42 fg_8_5 h (fun a25 h => ?_)
  refine m_iload_n C (dOf DX8_init 43 rfl) rfl 0 rfl ?_
  refine m_new C (dOf DX8_init 44 rfl) (by decide) kcl_X8_40 ⟨by decide, by decide⟩ h (fun a26 S27 h => ?_)
  refine m_dup C (dOf DX8_init 45 rfl) rfl ?_
  refine m_cC (st := [.ref (G.1 + a26), .int 0, .ref (G.1 + a25)]) h (fun o' ho H locs ls hl hr hs => ⟨_, m_runIN C (dOf DX8_init 46 rfl) kn_X8_46 ki_X0_init (by decide) ⟨rfl, rfl⟩ (c_X0_init _ G _ _ o' ho) rfl rfl (Nat.le_of_ble_eq_true rfl) ⟨by decide, by decide⟩ hl hr hs⟩) (fun S28 h => ?_)
  refine m_sR C (dOf DX8_init 47 rfl) (by decide) h (fun S29 h => ?_)
  refine m_iincC (w := 1) (z := 1) (dOf DX8_init 48 rfl) C ki_1 0 rfl (by decide) (by decide) (lv' := [(1, .int 1), (0, .ref (G.1 + b0))]) rfl ?_
  refine m_goto C (dOf DX8_init 49 rfl) (tgt := 69) rfl ?_
  refine m_iload_n C (dOf DX8_init 33 rfl) rfl 0 rfl ?_
  refine m_iconst C (dOf DX8_init 34 rfl) (v := 3) ki_3 ?_
  refine m_icmpgeN C (dOf DX8_init 35 rfl) (tgt := 102) rfl (by decide) ?_
  refine m_iload_n C (dOf DX8_init 36 rfl) rfl 0 rfl ?_
  refine m_aload_n C (dOf DX8_init 37 rfl) rfl 1 rfl ?_
  refine m_gR C (dOf DX8_init 38 rfl) kf_X8_42 fg_8_5 h (fun a30 h => ?_)
  obtain ⟨hc, h⟩ := ck_spec h
  refine m_alC C (dOf DX8_init 39 rfl) hc (z := 3) (by decide) ?_
  refine m_icmpgeN C (dOf DX8_init 40 rfl) (tgt := 102) rfl (by decide) ?_
  refine m_aload_n C (dOf DX8_init 41 rfl) rfl 1 rfl ?_
  refine m_gR C (dOf DX8_init 42 rfl) kf_X8_42 fg_8_5 h (fun a31 h => ?_)
  refine m_iload_n C (dOf DX8_init 43 rfl) rfl 0 rfl ?_
  refine m_new C (dOf DX8_init 44 rfl) (by decide) kcl_X8_40 ⟨by decide, by decide⟩ h (fun a32 S33 h => ?_)
  refine m_dup C (dOf DX8_init 45 rfl) rfl ?_
  refine m_cC (st := [.ref (G.1 + a32), .int 1, .ref (G.1 + a31)]) h (fun o' ho H locs ls hl hr hs => ⟨_, m_runIN C (dOf DX8_init 46 rfl) kn_X8_46 ki_X0_init (by decide) ⟨rfl, rfl⟩ (c_X0_init _ G _ _ o' ho) rfl rfl (Nat.le_of_ble_eq_true rfl) ⟨by decide, by decide⟩ hl hr hs⟩) (fun S34 h => ?_)
  refine m_sR C (dOf DX8_init 47 rfl) (by decide) h (fun S35 h => ?_)
  refine m_iincC (w := 1) (z := 2) (dOf DX8_init 48 rfl) C ki_1 0 rfl (by decide) (by decide) (lv' := [(1, .int 2), (0, .ref (G.1 + b0))]) rfl ?_
  refine m_goto C (dOf DX8_init 49 rfl) (tgt := 69) rfl ?_
  refine m_iload_n C (dOf DX8_init 33 rfl) rfl 0 rfl ?_
  refine m_iconst C (dOf DX8_init 34 rfl) (v := 3) ki_3 ?_
  refine m_icmpgeN C (dOf DX8_init 35 rfl) (tgt := 102) rfl (by decide) ?_
  refine m_iload_n C (dOf DX8_init 36 rfl) rfl 0 rfl ?_
  refine m_aload_n C (dOf DX8_init 37 rfl) rfl 1 rfl ?_
  refine m_gR C (dOf DX8_init 38 rfl) kf_X8_42 fg_8_5 h (fun a36 h => ?_)
  obtain ⟨hc, h⟩ := ck_spec h
  refine m_alC C (dOf DX8_init 39 rfl) hc (z := 3) (by decide) ?_
  refine m_icmpgeN C (dOf DX8_init 40 rfl) (tgt := 102) rfl (by decide) ?_
  refine m_aload_n C (dOf DX8_init 41 rfl) rfl 1 rfl ?_
  refine m_gR C (dOf DX8_init 42 rfl) kf_X8_42 fg_8_5 h (fun a37 h => ?_)
  refine m_iload_n C (dOf DX8_init 43 rfl) rfl 0 rfl ?_
  refine m_new C (dOf DX8_init 44 rfl) (by decide) kcl_X8_40 ⟨by decide, by decide⟩ h (fun a38 S39 h => ?_)
  refine m_dup C (dOf DX8_init 45 rfl) rfl ?_
  refine m_cC (st := [.ref (G.1 + a38), .int 2, .ref (G.1 + a37)]) h (fun o' ho H locs ls hl hr hs => ⟨_, m_runIN C (dOf DX8_init 46 rfl) kn_X8_46 ki_X0_init (by decide) ⟨rfl, rfl⟩ (c_X0_init _ G _ _ o' ho) rfl rfl (Nat.le_of_ble_eq_true rfl) ⟨by decide, by decide⟩ hl hr hs⟩) (fun S40 h => ?_)
  refine m_sR C (dOf DX8_init 47 rfl) (by decide) h (fun S41 h => ?_)
  refine m_iincC (w := 1) (z := 3) (dOf DX8_init 48 rfl) C ki_1 0 rfl (by decide) (by decide) (lv' := [(1, .int 3), (0, .ref (G.1 + b0))]) rfl ?_
  refine m_goto C (dOf DX8_init 49 rfl) (tgt := 69) rfl ?_
  refine m_iload_n C (dOf DX8_init 33 rfl) rfl 0 rfl ?_
  refine m_iconst C (dOf DX8_init 34 rfl) (v := 3) ki_3 ?_
  refine m_icmpgeY C (dOf DX8_init 35 rfl) (tgt := 102) rfl (by decide) ?_
  exact m_vretC C rfl ⟨rfl, rfl⟩ (dOf DX8_init 50 rfl) h
/-- new TraceRingModel()V -/
def f_X9_init (S : St) (b0 : Nat) : Option St :=
  na_ S 11 4940 fun a1 S2 =>
  pR_ S2 b0 9 1 (some a1) fun S3 =>
  na_ S3 10 2000 fun a4 S5 =>
  pR_ S5 b0 9 2 (some a4) fun S6 =>
  na_ S6 13 3 fun a7 S8 =>
  pR_ S8 b0 9 3 (some a7) fun S9 =>
  na_ S9 11 3 fun a10 S11 =>
  pR_ S11 b0 9 12 (some a10) fun S12 =>
  na_ S12 12 100 fun a13 S14 =>
  pR_ S14 b0 9 16 (some a13) fun S15 =>
  na_ S15 11 200 fun a16 S17 =>
  pR_ S17 b0 9 17 (some a16) fun S18 =>
  na_ S18 11 7 fun a19 S20 =>
  pR_ S20 b0 9 19 (some a19) fun S21 =>
  gR_ S21 b0 9 1 fun a22 =>
  sI_ S21 a22 987 (-1) fun S23 =>
  ck_ S23 b0 9 <| cV_ (f_X9_atFirst S23 b0) fun S24 =>
  gI_ S24 b0 9 13 fun v25 =>
  gI_ S24 b0 9 14 fun v26 =>
  gI_ S24 b0 9 15 fun v27 =>
  ck_ S24 b0 9 <| cV_ (f_X9_begins S24 b0 v25 v26 v27) fun S28 =>
  rt_ S28
set_option maxRecDepth 100000 in
set_option maxHeartbeats 4000000 in
theorem c_X9_init (l : Launch) (G : Gx) (S : St) (b0 : Nat) (o : St) (h : f_X9_init S b0 = some o) : Met l yX9_init (Cond.code yX9_init cX9_init 1 none :: wAll) ({ frames := 2, cells := 7, slots := 7253, locals := 47 } : Room) (va_Pc [.ref (G.1 + b0)] (wPre G S)) (qV G o) 7 7253 (wA G) := by
  refine m_startI (by decide +kernel) (Nat.le_of_ble_eq_true rfl) (fun X C hin => ?_)
  unfold f_X9_init at h
  show WM X G 1 0 0 (wQ X G (qV G o) 7 7253) 0 [(0, .ref (G.1 + b0))] [] S
  refine m_aload_n C (dOf DX9_init 0 rfl) rfl 0 rfl ?_
  refine m_objInit C (dOf DX9_init 1 rfl) km_X9_1 kobj ⟨by decide, Nat.le_of_ble_eq_true rfl⟩ ?_
  refine m_aload_n C (dOf DX9_init 2 rfl) rfl 0 rfl ?_
  refine m_sipush C (dOf DX9_init 3 rfl) (v := 4940) ks_4940 ?_
  refine m_newa C (dOf DX9_init 4 rfl) (by decide) kar_11 (by decide) ⟨by decide, by decide⟩ h (fun a1 S2 h => ?_)
  refine m_pRF C hin (dOf DX9_init 5 rfl) kf_X9_7 fp_9_1 rfl h (fun S3 h => ?_)
  refine m_aload_n C (dOf DX9_init 6 rfl) rfl 0 rfl ?_
  refine m_sipush C (dOf DX9_init 7 rfl) (v := 2000) ks_2000 ?_
  refine m_newa C (dOf DX9_init 8 rfl) (by decide) kar_10 (by decide) ⟨by decide, by decide⟩ h (fun a4 S5 h => ?_)
  refine m_pRF C hin (dOf DX9_init 9 rfl) kf_X9_13 fp_9_2 rfl h (fun S6 h => ?_)
  refine m_aload_n C (dOf DX9_init 10 rfl) rfl 0 rfl ?_
  refine m_iconst C (dOf DX9_init 11 rfl) (v := 3) ki_3 ?_
  refine m_newa C (dOf DX9_init 12 rfl) (by decide) kar_13 (by decide) ⟨by decide, by decide⟩ h (fun a7 S8 h => ?_)
  refine m_pRF C hin (dOf DX9_init 13 rfl) kf_X9_17 fp_9_3 rfl h (fun S9 h => ?_)
  refine m_aload_n C (dOf DX9_init 14 rfl) rfl 0 rfl ?_
  refine m_iconst C (dOf DX9_init 15 rfl) (v := 3) ki_3 ?_
  refine m_newa C (dOf DX9_init 16 rfl) (by decide) kar_11 (by decide) ⟨by decide, by decide⟩ h (fun a10 S11 h => ?_)
  refine m_pRF C hin (dOf DX9_init 17 rfl) kf_X9_21 fp_9_12 rfl h (fun S12 h => ?_)
  refine m_aload_n C (dOf DX9_init 18 rfl) rfl 0 rfl ?_
  refine m_bipush C (dOf DX9_init 19 rfl) (v := 100) kb_100 ?_
  refine m_newl C (dOf DX9_init 20 rfl) kar_12 (by decide) ⟨by decide, by decide⟩ h (fun a13 S14 h => ?_)
  refine m_pRF C hin (dOf DX9_init 21 rfl) kf_X9_24 fp_9_16 rfl h (fun S15 h => ?_)
  refine m_aload_n C (dOf DX9_init 22 rfl) rfl 0 rfl ?_
  refine m_sipush C (dOf DX9_init 23 rfl) (v := 200) ks_200 ?_
  refine m_newa C (dOf DX9_init 24 rfl) (by decide) kar_11 (by decide) ⟨by decide, by decide⟩ h (fun a16 S17 h => ?_)
  refine m_pRF C hin (dOf DX9_init 25 rfl) kf_X9_28 fp_9_17 rfl h (fun S18 h => ?_)
  refine m_aload_n C (dOf DX9_init 26 rfl) rfl 0 rfl ?_
  refine m_bipush C (dOf DX9_init 27 rfl) (v := 7) kb_7 ?_
  refine m_newa C (dOf DX9_init 28 rfl) (by decide) kar_11 (by decide) ⟨by decide, by decide⟩ h (fun a19 S20 h => ?_)
  refine m_pRF C hin (dOf DX9_init 29 rfl) kf_X9_31 fp_9_19 rfl h (fun S21 h => ?_)
  refine m_aload_n C (dOf DX9_init 30 rfl) rfl 0 rfl ?_
  refine m_gR C (dOf DX9_init 31 rfl) kf_X9_7 fg_9_1 h (fun a22 h => ?_)
  refine m_sipush C (dOf DX9_init 32 rfl) (v := 987) ks_987 ?_
  refine m_iconst C (dOf DX9_init 33 rfl) (v := (-1)) ki_m1 ?_
  refine m_sI C (dOf DX9_init 34 rfl) h (fun S23 h => ?_)
  refine m_aload_n C (dOf DX9_init 35 rfl) rfl 0 rfl ?_
  obtain ⟨hc, h⟩ := ck_spec h
  refine m_cV (st := []) h (fun o' ho H locs ls hl hr hs => ⟨_, m_runV C (dOf DX9_init 36 rfl) km_X9_34 ky_X9_atFirst (by decide) ⟨rfl, rfl⟩ (c_X9_atFirst _ G _ _ o' ho) hc.1 hc.2 (by decide) rfl rfl rfl (Nat.le_of_ble_eq_true rfl) ⟨Nat.le_refl _, Nat.le_refl _⟩ hl hr hs⟩) (fun S24 h => ?_)
  refine m_aload_n C (dOf DX9_init 37 rfl) rfl 0 rfl ?_
  refine m_aload_n C (dOf DX9_init 38 rfl) rfl 0 rfl ?_
  refine m_gI C (dOf DX9_init 39 rfl) kf_X9_37 fg_9_13 h (fun v25 h => ?_)
  refine m_aload_n C (dOf DX9_init 40 rfl) rfl 0 rfl ?_
  refine m_gI C (dOf DX9_init 41 rfl) kf_X9_41 fg_9_14 h (fun v26 h => ?_)
  refine m_aload_n C (dOf DX9_init 42 rfl) rfl 0 rfl ?_
  refine m_gI C (dOf DX9_init 43 rfl) kf_X9_44 fg_9_15 h (fun v27 h => ?_)
  obtain ⟨hc, h⟩ := ck_spec h
  refine m_cV (st := []) h (fun o' ho H locs ls hl hr hs => ⟨_, m_runV C (dOf DX9_init 44 rfl) km_X9_47 ky_X9_begins (by decide) ⟨rfl, rfl⟩ (c_X9_begins _ G _ _ _ _ _ o' ho) hc.1 hc.2 (by decide) rfl rfl rfl (Nat.le_of_ble_eq_true rfl) ⟨Nat.le_refl _, Nat.le_refl _⟩ hl hr hs⟩) (fun S28 h => ?_)
  exact m_vretC C rfl ⟨rfl, rfl⟩ (dOf DX9_init 45 rfl) h
