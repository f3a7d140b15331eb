/-- TraceRingModel.swapped(Z)I -/
def f_X9_swapped (S : St) (b0 : Nat) (p1 : Int32) : Option (Int32 × St) :=
  gR_ S b0 9 1 fun a1 =>
  aI_ S a1 11 4 fun v2 =>
  ck_ S b0 9 <| cP_ (f_X9_pageAt S b0 v2) fun v3 =>
  gR_ S b0 9 1 fun a4 =>
  aI_ S a4 11 4 fun v5 =>
  gR_ S b0 9 1 fun a6 =>
  aI_ S a6 11 5 fun v7 =>
  jn_ (fun (x8 : Int32) =>
    ck_ S b0 9 <| cP_ (f_X9_isOpenIn S b0 v3) fun v9 =>
    jn_ (fun (x10 : Unit) =>
      rt_ ((-1), S)
    ) fun j10 =>
    if v9 = 0 then
      jn_ (fun (x11 : Unit) =>
        gR_ S b0 9 1 fun a12 =>
        aI_ S a12 11 7 fun v13 =>
        gR_ S b0 9 1 fun a14 =>
        aI_ S a14 11 8 fun v15 =>
        lp_ (fun self16 (x16 : Int32 × St) =>
          ck_ x16.2 b0 9 <| cP_ (f_X9_of x16.2 b0 v13 3) fun v17 =>
          if v17 ≤ x16.1 then
            ck_ x16.2 b0 9 <| cV_ (f_X9_empties x16.2 b0 v13) fun S18 =>
            gR_ S18 b0 9 1 fun a19 =>
            gR_ S18 b0 9 1 fun a20 =>
            aI_ S18 a20 11 4 fun v21 =>
            lt_ (55 + v21 : Int32) fun v22 =>
            sI_ S18 a19 v22 v13 fun S23 =>
            gR_ S23 b0 9 1 fun a24 =>
            sI_ S23 a24 7 v3 fun S25 =>
            gR_ S25 b0 9 1 fun a26 =>
            sI_ S25 a26 8 0 fun S27 =>
            gR_ S27 b0 9 1 fun a28 =>
            jn_ (fun (x29 : Int32) =>
              sI_ S27 a28 4 x29 fun S30 =>
              gR_ S30 b0 9 1 fun a31 =>
              aI_ S30 a31 11 17 fun v32 =>
              lt_ (v32 + 1 : Int32) fun v33 =>
              sI_ S30 a31 17 v33 fun S34 =>
              ck_ S34 b0 9 <| cP_ (f_X9_recordsIn S34 b0 v3 0) fun v35 =>
              rt_ (v35, S34)
            ) fun j29 =>
            if x8 = 0 then
              gR_ S27 b0 9 1 fun a36 =>
              aI_ S27 a36 11 4 fun v37 =>
              ck_ S27 b0 9 <| cP_ (f_X9_behind S27 b0 v37) fun v38 =>
              j29 (v38)
            else
              gR_ S27 b0 9 1 fun a39 =>
              aI_ S27 a39 11 4 fun v40 =>
              j29 (v40)
          else
            gR_ x16.2 b0 9 1 fun a41 =>
            aI_ x16.2 a41 11 14 fun v42 =>
            ck_ x16.2 b0 9 <| cP_ (f_X9_item x16.2 b0 v13 x16.1 0) fun v43 =>
            jn_ (fun (x44 : Int32) =>
              lt_ (v42 + x44 : Int32) fun v45 =>
              sI_ x16.2 a41 14 v45 fun S46 =>
              lt_ (x16.1 + 1) fun v47 =>
              self16 (v47, S46)
            ) fun j44 =>
            if v43 = 0 then
              j44 (1)
            else
              j44 (0)
        ) FU (v15, S)
      ) fun j11 =>
      if x8 = 0 then
        j11 ()
      else
        if p1 = 0 then
          j10 ()
        else
          ck_ S b0 9 <| cP_ (f_X9_of S b0 v3 1) fun v48 =>
          if v48 = 0 then
            j10 ()
          else
            gR_ S b0 9 1 fun a49 =>
            aI_ S a49 11 6 fun v50 =>
            if v50 ≤ 0 then
              j11 ()
            else
              j10 ()
    else
      j10 ()
  ) fun j8 =>
  if v5 = v7 then
    j8 (1)
  else
    j8 (0)
set_option maxRecDepth 100000 in
set_option maxHeartbeats 4000000 in
theorem c_X9_swapped (l : Launch) (G : Gx) (S : St) (b0 : Nat) (p1 : Int32) (o : (Int32 × St)) (h : f_X9_swapped S b0 p1 = some o) : Met l yX9_swapped (Cond.code yX9_swapped cX9_swapped 6 (some (.int)) :: wAll) ({ frames := 3, cells := 0, slots := 0, locals := 69 } : Room) (va_Pc [.ref (G.1 + b0), .int p1] (wPre G S)) (qI G o) 0 0 (wA G) := by
  refine m_start (by decide +kernel) (Nat.le_of_ble_eq_true rfl) (fun X C => ?_)
  unfold f_X9_swapped at h
  show WM X G 6 0 0 (wQ X G (qI G o) 0 0) 0 [(0, .ref (G.1 + b0)), (1, .int p1)] [] S
  refine m_aload_n C (dOf DX9_swapped 0 rfl) rfl 0 rfl ?_
  refine m_aload_n C (dOf DX9_swapped 1 rfl) rfl 0 rfl ?_
  refine m_gR C (dOf DX9_swapped 2 rfl) kf_X9_7 fg_9_1 h (fun a1 h => ?_)
  refine m_iconst C (dOf DX9_swapped 3 rfl) (v := 4) ki_4 ?_
  refine m_aI C (dOf DX9_swapped 4 rfl) h (fun v2 h => ?_)
  obtain ⟨hc, h⟩ := ck_spec h
  refine m_cP (st := []) h (fun o' ho H locs ls hl hr hs => ⟨_, m_runV C (dOf DX9_swapped 5 rfl) km_X9_151 ky_X9_pageAt (by decide) ⟨rfl, rfl⟩ (c_X9_pageAt _ G _ _ _ o' ho) hc.1 hc.2 (by decide) rfl rfl rfl (Nat.le_of_ble_eq_true rfl) ⟨Nat.le_refl _, Nat.le_refl _⟩ hl hr hs⟩) (fun v3 h => ?_)
  refine m_istore_n C (dOf DX9_swapped 6 rfl) rfl (by decide) (lv' := [(2, .int v3), (0, .ref (G.1 + b0)), (1, .int p1)]) rfl ?_
  refine m_aload_n C (dOf DX9_swapped 7 rfl) rfl 1 rfl ?_
  refine m_gR C (dOf DX9_swapped 8 rfl) kf_X9_7 fg_9_1 h (fun a4 h => ?_)
  refine m_iconst C (dOf DX9_swapped 9 rfl) (v := 4) ki_4 ?_
  refine m_aI C (dOf DX9_swapped 10 rfl) h (fun v5 h => ?_)
  refine m_aload_n C (dOf DX9_swapped 11 rfl) rfl 1 rfl ?_
  refine m_gR C (dOf DX9_swapped 12 rfl) kf_X9_7 fg_9_1 h (fun a6 h => ?_)
  refine m_iconst C (dOf DX9_swapped 13 rfl) (v := 5) ki_5 ?_
  refine m_aI C (dOf DX9_swapped 14 rfl) h (fun v7 h => ?_)
  refine m_jn (J := fun (x8 : Int32) => WM X G 6 0 0 (wQ X G (qI G o) 0 0) 31 [(0, .ref (G.1 + b0)), (1, .int p1), (2, .int v3)] [.int x8] S) h (fun x8 h => ?_) (fun j8 hj8 h => ?_)
  · refine m_istore_n C (dOf DX9_swapped 19 rfl) rfl (by decide) (lv' := [(3, .int x8), (0, .ref (G.1 + b0)), (1, .int p1), (2, .int v3)]) rfl ?_
    refine m_aload_n C (dOf DX9_swapped 20 rfl) rfl 1 rfl ?_
    refine m_iload_n C (dOf DX9_swapped 21 rfl) rfl 3 rfl ?_
    obtain ⟨hc, h⟩ := ck_spec h
    refine m_cP (st := []) h (fun o' ho H locs ls hl hr hs => ⟨_, m_runV C (dOf DX9_swapped 22 rfl) km_X9_187 ky_X9_isOpenIn (by decide) ⟨rfl, rfl⟩ (c_X9_isOpenIn _ G _ _ _ o' ho) hc.1 hc.2 (by decide) rfl rfl rfl (Nat.le_of_ble_eq_true rfl) ⟨Nat.le_refl _, Nat.le_refl _⟩ hl hr hs⟩) (fun v9 h => ?_)
    refine m_jn (J := fun (x10 : Unit) => WM X G 6 0 0 (wQ X G (qI G o) 0 0) 67 [] [] S) h (fun x10 h => ?_) (fun j10 hj10 h => ?_)
    · refine m_iconst C (dOf DX9_swapped 38 rfl) (v := (-1)) ki_m1 ?_
      exact m_iret C rfl (dOf DX9_swapped 39 rfl) h
    refine m_ifne C (dOf DX9_swapped 23 rfl) (tgt := 67) rfl h (fun h => ?_) (fun h => ?_)
    · exact m_sub [] rfl (hj10 _ h)
    · refine m_iload_n C (dOf DX9_swapped 24 rfl) rfl 0 rfl ?_
      refine m_jn (J := fun (x11 : Unit) => WM X G 6 0 0 (wQ X G (qI G o) 0 0) 69 [(0, .ref (G.1 + b0)), (2, .int v3), (3, .int x8)] [] S) h (fun x11 h => ?_) (fun j11 hj11 h => ?_)
      · refine m_aload_n C (dOf DX9_swapped 40 rfl) rfl 0 rfl ?_
        refine m_gR C (dOf DX9_swapped 41 rfl) kf_X9_7 fg_9_1 h (fun a12 h => ?_)
        refine m_bipush C (dOf DX9_swapped 42 rfl) (v := 7) kb_7 ?_
        refine m_aI C (dOf DX9_swapped 43 rfl) h (fun v13 h => ?_)
        refine m_istore C (dOf DX9_swapped 44 rfl) (by decide) (lv' := [(4, .int v13), (0, .ref (G.1 + b0)), (2, .int v3), (3, .int x8)]) rfl ?_
        refine m_aload_n C (dOf DX9_swapped 45 rfl) rfl 1 rfl ?_
        refine m_gR C (dOf DX9_swapped 46 rfl) kf_X9_7 fg_9_1 h (fun a14 h => ?_)
        refine m_bipush C (dOf DX9_swapped 47 rfl) (v := 8) kb_8 ?_
        refine m_aI C (dOf DX9_swapped 48 rfl) h (fun v15 h => ?_)
        refine m_istore C (dOf DX9_swapped 49 rfl) (by decide) (lv' := [(5, .int v15), (4, .int v13), (0, .ref (G.1 + b0)), (2, .int v3), (3, .int x8)]) rfl ?_
        refine m_sub [2, 3, 4, 1, 0] rfl (m_lp (J := fun (x16 : Int32 × St) => WM X G 6 0 0 (wQ X G (qI G o) 0 0) 87 [(0, .ref (G.1 + b0)), (2, .int v3), (3, .int x8), (4, .int v13), (5, .int x16.1)] [] x16.2) h (fun self16 hself16 x16 h => ?_))
        refine m_iload C (dOf DX9_swapped 50 rfl) 4 rfl ?_
        refine m_aload_n C (dOf DX9_swapped 51 rfl) rfl 0 rfl ?_
        refine m_iload C (dOf DX9_swapped 52 rfl) 3 rfl ?_
        refine m_iconst C (dOf DX9_swapped 53 rfl) (v := 3) ki_3 ?_
        obtain ⟨hc, h⟩ := ck_spec h
        refine m_cP (st := [.int x16.1]) h (fun o' ho H locs ls hl hr hs => ⟨_, m_runV C (dOf DX9_swapped 54 rfl) km_X9_144 ky_X9_of (by decide) ⟨rfl, rfl⟩ (c_X9_of _ G _ _ _ _ o' ho) hc.1 hc.2 (by decide) rfl rfl rfl (Nat.le_of_ble_eq_true rfl) ⟨Nat.le_refl _, Nat.le_refl _⟩ hl hr hs⟩) (fun v17 h => ?_)
        refine m_icmpge C (dOf DX9_swapped 55 rfl) (tgt := 132) rfl h (fun h => ?_) (fun h => ?_)
        · refine m_aload_n C (dOf DX9_swapped 74 rfl) rfl 0 rfl ?_
          refine m_iload C (dOf DX9_swapped 75 rfl) 3 rfl ?_
          obtain ⟨hc, h⟩ := ck_spec h
          refine m_cV (st := []) h (fun o' ho H locs ls hl hr hs => ⟨_, m_runV C (dOf DX9_swapped 76 rfl) km_X9_194 ky_X9_empties (by decide) ⟨rfl, rfl⟩ (c_X9_empties _ G _ _ _ o' ho) hc.1 hc.2 (by decide) rfl rfl rfl (Nat.le_of_ble_eq_true rfl) ⟨Nat.le_refl _, Nat.le_refl _⟩ hl hr hs⟩) (fun S18 h => ?_)
          refine m_aload_n C (dOf DX9_swapped 77 rfl) rfl 0 rfl ?_
          refine m_gR C (dOf DX9_swapped 78 rfl) kf_X9_7 fg_9_1 h (fun a19 h => ?_)
          refine m_bipush C (dOf DX9_swapped 79 rfl) (v := 55) kb_55 ?_
          refine m_aload_n C (dOf DX9_swapped 80 rfl) rfl 0 rfl ?_
          refine m_gR C (dOf DX9_swapped 81 rfl) kf_X9_7 fg_9_1 h (fun a20 h => ?_)
          refine m_iconst C (dOf DX9_swapped 82 rfl) (v := 4) ki_4 ?_
          refine m_aI C (dOf DX9_swapped 83 rfl) h (fun v21 h => ?_)
          refine m_iadd C (dOf DX9_swapped 84 rfl) h (fun v22 h => ?_)
          refine m_iload C (dOf DX9_swapped 85 rfl) 3 rfl ?_
          refine m_sI C (dOf DX9_swapped 86 rfl) h (fun S23 h => ?_)
          refine m_aload_n C (dOf DX9_swapped 87 rfl) rfl 0 rfl ?_
          refine m_gR C (dOf DX9_swapped 88 rfl) kf_X9_7 fg_9_1 h (fun a24 h => ?_)
          refine m_bipush C (dOf DX9_swapped 89 rfl) (v := 7) kb_7 ?_
          refine m_iload_n C (dOf DX9_swapped 90 rfl) rfl 1 rfl ?_
          refine m_sI C (dOf DX9_swapped 91 rfl) h (fun S25 h => ?_)
          refine m_aload_n C (dOf DX9_swapped 92 rfl) rfl 0 rfl ?_
          refine m_gR C (dOf DX9_swapped 93 rfl) kf_X9_7 fg_9_1 h (fun a26 h => ?_)
          refine m_bipush C (dOf DX9_swapped 94 rfl) (v := 8) kb_8 ?_
          refine m_iconst C (dOf DX9_swapped 95 rfl) (v := 0) ki_0 ?_
          refine m_sI C (dOf DX9_swapped 96 rfl) h (fun S27 h => ?_)
          refine m_aload_n C (dOf DX9_swapped 97 rfl) rfl 0 rfl ?_
          refine m_gR C (dOf DX9_swapped 98 rfl) kf_X9_7 fg_9_1 h (fun a28 h => ?_)
          refine m_iconst C (dOf DX9_swapped 99 rfl) (v := 4) ki_4 ?_
          refine m_iload_n C (dOf DX9_swapped 100 rfl) rfl 2 rfl ?_
          refine m_jn (J := fun (x29 : Int32) => WM X G 6 0 0 (wQ X G (qI G o) 0 0) 198 [(0, .ref (G.1 + b0)), (2, .int v3)] [.int x29, .int 4, .ref (G.1 + a28)] S27) h (fun x29 h => ?_) (fun j29 hj29 h => ?_)
          · refine m_sI C (dOf DX9_swapped 113 rfl) h (fun S30 h => ?_)
            refine m_aload_n C (dOf DX9_swapped 114 rfl) rfl 0 rfl ?_
            refine m_gR C (dOf DX9_swapped 115 rfl) kf_X9_7 fg_9_1 h (fun a31 h => ?_)
            refine m_bipush C (dOf DX9_swapped 116 rfl) (v := 17) kb_17 ?_
            refine m_dup2 C (dOf DX9_swapped 117 rfl) rfl rfl ?_
            refine m_aI C (dOf DX9_swapped 118 rfl) h (fun v32 h => ?_)
            refine m_iconst C (dOf DX9_swapped 119 rfl) (v := 1) ki_1 ?_
            refine m_iadd C (dOf DX9_swapped_1 0 rfl) h (fun v33 h => ?_)
            refine m_sI C (dOf DX9_swapped_1 1 rfl) h (fun S34 h => ?_)
            refine m_aload_n C (dOf DX9_swapped_1 2 rfl) rfl 0 rfl ?_
            refine m_iload_n C (dOf DX9_swapped_1 3 rfl) rfl 1 rfl ?_
            refine m_iconst C (dOf DX9_swapped_1 4 rfl) (v := 0) ki_0 ?_
            obtain ⟨hc, h⟩ := ck_spec h
            refine m_cP (st := []) h (fun o' ho H locs ls hl hr hs => ⟨_, m_runV C (dOf DX9_swapped_1 5 rfl) km_X9_191 ky_X9_recordsIn (by decide) ⟨rfl, rfl⟩ (c_X9_recordsIn _ G _ _ _ _ o' ho) hc.1 hc.2 (by decide) rfl rfl rfl (Nat.le_of_ble_eq_true rfl) ⟨Nat.le_refl _, Nat.le_refl _⟩ hl hr hs⟩) (fun v35 h => ?_)
            exact m_iret C rfl (dOf DX9_swapped_1 6 rfl) h
          refine m_ifeq C (dOf DX9_swapped 101 rfl) (tgt := 188) rfl h (fun h => ?_) (fun h => ?_)
          · refine m_aload_n C (dOf DX9_swapped 107 rfl) rfl 0 rfl ?_
            refine m_aload_n C (dOf DX9_swapped 108 rfl) rfl 0 rfl ?_
            refine m_gR C (dOf DX9_swapped 109 rfl) kf_X9_7 fg_9_1 h (fun a36 h => ?_)
            refine m_iconst C (dOf DX9_swapped 110 rfl) (v := 4) ki_4 ?_
            refine m_aI C (dOf DX9_swapped 111 rfl) h (fun v37 h => ?_)
            obtain ⟨hc, h⟩ := ck_spec h
            refine m_cP (st := [.int 4, .ref (G.1 + a28)]) h (fun o' ho H locs ls hl hr hs => ⟨_, m_runV C (dOf DX9_swapped 112 rfl) km_X9_184 ky_X9_behind (by decide) ⟨rfl, rfl⟩ (c_X9_behind _ G _ _ _ o' ho) hc.1 hc.2 (by decide) rfl rfl rfl (Nat.le_of_ble_eq_true rfl) ⟨Nat.le_refl _, Nat.le_refl _⟩ hl hr hs⟩) (fun v38 h => ?_)
            exact m_sub [0, 1] rfl (hj29 _ h)
          · refine m_aload_n C (dOf DX9_swapped 102 rfl) rfl 0 rfl ?_
            refine m_gR C (dOf DX9_swapped 103 rfl) kf_X9_7 fg_9_1 h (fun a39 h => ?_)
            refine m_iconst C (dOf DX9_swapped 104 rfl) (v := 4) ki_4 ?_
            refine m_aI C (dOf DX9_swapped 105 rfl) h (fun v40 h => ?_)
            refine m_goto C (dOf DX9_swapped 106 rfl) (tgt := 198) rfl ?_
            exact m_sub [0, 1] rfl (hj29 _ h)
        · refine m_aload_n C (dOf DX9_swapped 56 rfl) rfl 0 rfl ?_
          refine m_gR C (dOf DX9_swapped 57 rfl) kf_X9_7 fg_9_1 h (fun a41 h => ?_)
          refine m_bipush C (dOf DX9_swapped 58 rfl) (v := 14) kb_14 ?_
          refine m_dup2 C (dOf DX9_swapped 59 rfl) rfl rfl ?_
          refine m_aI C (dOf DX9_swapped 60 rfl) h (fun v42 h => ?_)
          refine m_aload_n C (dOf DX9_swapped 61 rfl) rfl 0 rfl ?_
          refine m_iload C (dOf DX9_swapped 62 rfl) 3 rfl ?_
          refine m_iload C (dOf DX9_swapped 63 rfl) 4 rfl ?_
          refine m_iconst C (dOf DX9_swapped 64 rfl) (v := 0) ki_0 ?_
          obtain ⟨hc, h⟩ := ck_spec h
          refine m_cP (st := [.int v42, .int 14, .ref (G.1 + a41)]) h (fun o' ho H locs ls hl hr hs => ⟨_, m_runV C (dOf DX9_swapped 65 rfl) km_X9_155 ky_X9_item (by decide) ⟨rfl, rfl⟩ (c_X9_item _ G _ _ _ _ _ o' ho) hc.1 hc.2 (by decide) rfl rfl rfl (Nat.le_of_ble_eq_true rfl) ⟨Nat.le_refl _, Nat.le_refl _⟩ hl hr hs⟩) (fun v43 h => ?_)
          refine m_jn (J := fun (x44 : Int32) => WM X G 6 0 0 (wQ X G (qI G o) 0 0) 124 [(0, .ref (G.1 + b0)), (2, .int v3), (3, .int x8), (4, .int v13), (5, .int x16.1)] [.int x44, .int v42, .int 14, .ref (G.1 + a41)] x16.2) h (fun x44 h => ?_) (fun j44 hj44 h => ?_)
          · refine m_iadd C (dOf DX9_swapped 70 rfl) h (fun v45 h => ?_)
            refine m_sI C (dOf DX9_swapped 71 rfl) h (fun S46 h => ?_)
            refine m_iinc C (dOf DX9_swapped 72 rfl) (w := 1) ki_1 4 rfl (by decide) h (fun v47 h => ⟨[(5, .int v47), (0, .ref (G.1 + b0)), (2, .int v3), (3, .int x8), (4, .int v13)], rfl, ?_⟩)
            refine m_goto C (dOf DX9_swapped 73 rfl) (tgt := 87) rfl ?_
            exact m_sub [1, 2, 3, 4, 0] rfl (hself16 _ h)
          refine m_ifne C (dOf DX9_swapped 66 rfl) (tgt := 123) rfl h (fun h => ?_) (fun h => ?_)
          · refine m_iconst C (dOf DX9_swapped 69 rfl) (v := 0) ki_0 ?_
            exact m_sub [0, 1, 2, 3, 4] rfl (hj44 _ h)
          · refine m_iconst C (dOf DX9_swapped 67 rfl) (v := 1) ki_1 ?_
            refine m_goto C (dOf DX9_swapped 68 rfl) (tgt := 124) rfl ?_
            exact m_sub [0, 1, 2, 3, 4] rfl (hj44 _ h)
      refine m_ifeq C (dOf DX9_swapped 25 rfl) (tgt := 69) rfl h (fun h => ?_) (fun h => ?_)
      · exact m_sub [1, 3, 0] rfl (hj11 _ h)
      · refine m_iload_n C (dOf DX9_swapped 26 rfl) rfl 2 rfl ?_
        refine m_ifeq C (dOf DX9_swapped 27 rfl) (tgt := 67) rfl h (fun h => ?_) (fun h => ?_)
        · exact m_sub [] rfl (hj10 _ h)
        · refine m_aload_n C (dOf DX9_swapped 28 rfl) rfl 1 rfl ?_
          refine m_iload_n C (dOf DX9_swapped 29 rfl) rfl 3 rfl ?_
          refine m_iconst C (dOf DX9_swapped 30 rfl) (v := 1) ki_1 ?_
          obtain ⟨hc, h⟩ := ck_spec h
          refine m_cP (st := []) h (fun o' ho H locs ls hl hr hs => ⟨_, m_runV C (dOf DX9_swapped 31 rfl) km_X9_144 ky_X9_of (by decide) ⟨rfl, rfl⟩ (c_X9_of _ G _ _ _ _ o' ho) hc.1 hc.2 (by decide) rfl rfl rfl (Nat.le_of_ble_eq_true rfl) ⟨Nat.le_refl _, Nat.le_refl _⟩ hl hr hs⟩) (fun v48 h => ?_)
          refine m_ifeq C (dOf DX9_swapped 32 rfl) (tgt := 67) rfl h (fun h => ?_) (fun h => ?_)
          · exact m_sub [] rfl (hj10 _ h)
          · refine m_aload_n C (dOf DX9_swapped 33 rfl) rfl 1 rfl ?_
            refine m_gR C (dOf DX9_swapped 34 rfl) kf_X9_7 fg_9_1 h (fun a49 h => ?_)
            refine m_bipush C (dOf DX9_swapped 35 rfl) (v := 6) kb_6 ?_
            refine m_aI C (dOf DX9_swapped 36 rfl) h (fun v50 h => ?_)
            refine m_ifle C (dOf DX9_swapped 37 rfl) (tgt := 69) rfl h (fun h => ?_) (fun h => ?_)
            · exact m_sub [1, 3, 0] rfl (hj11 _ h)
            · exact m_sub [] rfl (hj10 _ h)
  refine m_icmpne C (dOf DX9_swapped 15 rfl) (tgt := 30) rfl h (fun h => ?_) (fun h => ?_)
  · refine m_iconst C (dOf DX9_swapped 18 rfl) (v := 0) ki_0 ?_
    exact m_sub [1, 2, 0] rfl (hj8 _ h)
  · refine m_iconst C (dOf DX9_swapped 16 rfl) (v := 1) ki_1 ?_
    refine m_goto C (dOf DX9_swapped 17 rfl) (tgt := 31) rfl ?_
    exact m_sub [1, 2, 0] rfl (hj8 _ h)
/-- TraceRingModel.readOne()I -/
def f_X9_readOne (S : St) (b0 : Nat) : Option (Int32 × St) :=
  gR_ S b0 9 1 fun a1 =>
  aI_ S a1 11 7 fun v2 =>
  gR_ S b0 9 1 fun a3 =>
  aI_ S a3 11 8 fun v4 =>
  lp_ (fun self5 (x5 : Int32 × Int32) =>
    ck_ S b0 9 <| cP_ (f_X9_of S b0 v2 3) fun v6 =>
    if v6 ≤ x5.2 then
      gR_ S b0 9 1 fun a7 =>
      aI_ S a7 11 14 fun v8 =>
      lt_ (v8 + x5.1 : Int32) fun v9 =>
      sI_ S a7 14 v9 fun S10 =>
      gR_ S10 b0 9 1 fun a11 =>
      ck_ S10 b0 9 <| cP_ (f_X9_of S10 b0 v2 3) fun v12 =>
      sI_ S10 a11 8 v12 fun S13 =>
      rt_ ((-1), S13)
    else
      ck_ S b0 9 <| cP_ (f_X9_item S b0 v2 x5.2 0) fun v14 =>
      jn_ (fun (x15 : Int32) =>
        lt_ (x5.2 + 1) fun v16 =>
        self5 (x15, v16)
      ) fun j15 =>
      if v14 = 1 then
        j15 (x5.1)
      else
        gR_ S b0 9 1 fun a17 =>
        aI_ S a17 11 9 fun v18 =>
        ck_ S b0 9 <| cP_ (f_X9_item S b0 v2 x5.2 2) fun v19 =>
        lt_ (v18 >>> (v19 &&& 31) : Int32) fun v20 =>
        lt_ (v20 &&& 1 : Int32) fun v21 =>
        if v21 = 0 then
          lt_ (x5.1 + 1) fun v63 =>
          j15 (v63)
        else
          ck_ S b0 9 <| cP_ (f_X9_item S b0 v2 x5.2 1) fun v22 =>
          gR_ S b0 9 1 fun a23 =>
          gR_ S b0 9 1 fun a24 =>
          aI_ S a24 11 30 fun v25 =>
          lt_ (v22 - v25 : Int32) fun v26 =>
          lt_ (v26 - 1 : Int32) fun v27 =>
          sI_ S a23 34 v27 fun S28 =>
          gR_ S28 b0 9 1 fun a29 =>
          sI_ S28 a29 30 v22 fun S30 =>
          gR_ S30 b0 9 1 fun a31 =>
          ck_ S30 b0 9 <| cP_ (f_X9_item S30 b0 v2 x5.2 2) fun v32 =>
          sI_ S30 a31 31 v32 fun S33 =>
          gR_ S33 b0 9 1 fun a34 =>
          ck_ S33 b0 9 <| cP_ (f_X9_item S33 b0 v2 x5.2 3) fun v35 =>
          sI_ S33 a34 32 v35 fun S36 =>
          gR_ S36 b0 9 1 fun a37 =>
          ck_ S36 b0 9 <| cP_ (f_X9_item S36 b0 v2 x5.2 4) fun v38 =>
          sI_ S36 a37 33 v38 fun S39 =>
          lp_ (fun self40 (x40 : Int32 × St) =>
            if 8 ≤ x40.1 then
              gR_ x40.2 b0 9 1 fun a41 =>
              aI_ x40.2 a41 11 14 fun v42 =>
              lt_ (v42 + x5.1 : Int32) fun v43 =>
              sI_ x40.2 a41 14 v43 fun S44 =>
              gR_ S44 b0 9 1 fun a45 =>
              lt_ (x5.2 + 1 : Int32) fun v46 =>
              sI_ S44 a45 8 v46 fun S47 =>
              gR_ S47 b0 9 1 fun a48 =>
              aI_ S47 a48 11 15 fun v49 =>
              lt_ (v49 + 1 : Int32) fun v50 =>
              sI_ S47 a48 15 v50 fun S51 =>
              rt_ (v22, S51)
            else
              gR_ x40.2 b0 9 1 fun a52 =>
              lt_ (35 + x40.1 : Int32) fun v53 =>
              ck_ x40.2 b0 9 <| cP_ (f_X9_item x40.2 b0 v2 x5.2 4) fun v54 =>
              jn_ (fun (x55 : Int32) =>
                sI_ x40.2 a52 v53 x55 fun S56 =>
                lt_ (x40.1 + 1) fun v57 =>
                self40 (v57, S56)
              ) fun j55 =>
              if v54 ≤ x40.1 then
                j55 (0)
              else
                ck_ x40.2 b0 9 <| cP_ (f_X9_item x40.2 b0 v2 x5.2 5) fun v58 =>
                lt_ (4 + v58 : Int32) fun v59 =>
                lt_ (v59 + 1 : Int32) fun v60 =>
                lt_ (v60 + x40.1 : Int32) fun v61 =>
                ck_ x40.2 b0 9 <| cP_ (f_X9_of x40.2 b0 v2 v61) fun v62 =>
                j55 (v62)
          ) FU (0, S39)
  ) FU (0, v4)
set_option maxRecDepth 100000 in
set_option maxHeartbeats 4000000 in
theorem c_X9_readOne (l : Launch) (G : Gx) (S : St) (b0 : Nat) (o : (Int32 × St)) (h : f_X9_readOne S b0 = some o) : Met l yX9_readOne (Cond.code yX9_readOne cX9_readOne 6 (some (.int)) :: wAll) ({ frames := 2, cells := 0, slots := 0, locals := 45 } : Room) (va_Pc [.ref (G.1 + b0)] (wPre G S)) (qI G o) 0 0 (wA G) := by
  refine m_start (by decide +kernel) (Nat.le_of_ble_eq_true rfl) (fun X C => ?_)
  unfold f_X9_readOne at h
  show WM X G 6 0 0 (wQ X G (qI G o) 0 0) 0 [(0, .ref (G.1 + b0))] [] S
  refine m_aload_n C (dOf DX9_readOne 0 rfl) rfl 0 rfl ?_
  refine m_gR C (dOf DX9_readOne 1 rfl) kf_X9_7 fg_9_1 h (fun a1 h => ?_)
  refine m_bipush C (dOf DX9_readOne 2 rfl) (v := 7) kb_7 ?_
  refine m_aI C (dOf DX9_readOne 3 rfl) h (fun v2 h => ?_)
  refine m_istore_n C (dOf DX9_readOne 4 rfl) rfl (by decide) (lv' := [(1, .int v2), (0, .ref (G.1 + b0))]) rfl ?_
  refine m_iconst C (dOf DX9_readOne 5 rfl) (v := 0) ki_0 ?_
  refine m_istore_n C (dOf DX9_readOne 6 rfl) rfl (by decide) (lv' := [(2, .int 0), (1, .int v2), (0, .ref (G.1 + b0))]) rfl ?_
  refine m_aload_n C (dOf DX9_readOne 7 rfl) rfl 2 rfl ?_
  refine m_gR C (dOf DX9_readOne 8 rfl) kf_X9_7 fg_9_1 h (fun a3 h => ?_)
  refine m_bipush C (dOf DX9_readOne 9 rfl) (v := 8) kb_8 ?_
  refine m_aI C (dOf DX9_readOne 10 rfl) h (fun v4 h => ?_)
  refine m_istore_n C (dOf DX9_readOne 11 rfl) rfl (by decide) (lv' := [(3, .int v4), (2, .int 0), (1, .int v2), (0, .ref (G.1 + b0))]) rfl ?_
  refine m_sub [3, 2, 1, 0] rfl (m_lp (J := fun (x5 : Int32 × Int32) => WM X G 6 0 0 (wQ X G (qI G o) 0 0) 18 [(0, .ref (G.1 + b0)), (1, .int v2), (2, .int x5.1), (3, .int x5.2)] [] S) h (fun self5 hself5 x5 h => ?_))
  refine m_iload_n C (dOf DX9_readOne 12 rfl) rfl 3 rfl ?_
  refine m_aload_n C (dOf DX9_readOne 13 rfl) rfl 0 rfl ?_
  refine m_iload_n C (dOf DX9_readOne 14 rfl) rfl 1 rfl ?_
  refine m_iconst C (dOf DX9_readOne 15 rfl) (v := 3) ki_3 ?_
  obtain ⟨hc, h⟩ := ck_spec h
  refine m_cP (st := [.int x5.2]) h (fun o' ho H locs ls hl hr hs => ⟨_, m_runV C (dOf DX9_readOne 16 rfl) km_X9_144 ky_X9_of (by decide) ⟨rfl, rfl⟩ (c_X9_of _ G _ _ _ _ o' ho) hc.1 hc.2 (by decide) rfl rfl rfl (Nat.le_of_ble_eq_true rfl) ⟨Nat.le_refl _, Nat.le_refl _⟩ hl hr hs⟩) (fun v6 h => ?_)
  refine m_icmpge C (dOf DX9_readOne 17 rfl) (tgt := 249) rfl h (fun h => ?_) (fun h => ?_)
  · refine m_aload_n C (dOf DX9_readOne_1 34 rfl) rfl 0 rfl ?_
    refine m_gR C (dOf DX9_readOne_1 35 rfl) kf_X9_7 fg_9_1 h (fun a7 h => ?_)
    refine m_bipush C (dOf DX9_readOne_1 36 rfl) (v := 14) kb_14 ?_
    refine m_dup2 C (dOf DX9_readOne_1 37 rfl) rfl rfl ?_
    refine m_aI C (dOf DX9_readOne_1 38 rfl) h (fun v8 h => ?_)
    refine m_iload_n C (dOf DX9_readOne_1 39 rfl) rfl 2 rfl ?_
    refine m_iadd C (dOf DX9_readOne_1 40 rfl) h (fun v9 h => ?_)
    refine m_sI C (dOf DX9_readOne_1 41 rfl) h (fun S10 h => ?_)
    refine m_aload_n C (dOf DX9_readOne_1 42 rfl) rfl 0 rfl ?_
    refine m_gR C (dOf DX9_readOne_1 43 rfl) kf_X9_7 fg_9_1 h (fun a11 h => ?_)
    refine m_bipush C (dOf DX9_readOne_1 44 rfl) (v := 8) kb_8 ?_
    refine m_aload_n C (dOf DX9_readOne_1 45 rfl) rfl 0 rfl ?_
    refine m_iload_n C (dOf DX9_readOne_1 46 rfl) rfl 1 rfl ?_
    refine m_iconst C (dOf DX9_readOne_1 47 rfl) (v := 3) ki_3 ?_
    obtain ⟨hc, h⟩ := ck_spec h
    refine m_cP (st := [.int 8, .ref (G.1 + a11)]) h (fun o' ho H locs ls hl hr hs => ⟨_, m_runV C (dOf DX9_readOne_1 48 rfl) km_X9_144 ky_X9_of (by decide) ⟨rfl, rfl⟩ (c_X9_of _ G _ _ _ _ o' ho) hc.1 hc.2 (by decide) rfl rfl rfl (Nat.le_of_ble_eq_true rfl) ⟨Nat.le_refl _, Nat.le_refl _⟩ hl hr hs⟩) (fun v12 h => ?_)
    refine m_sI C (dOf DX9_readOne_1 49 rfl) h (fun S13 h => ?_)
    refine m_iconst C (dOf DX9_readOne_1 50 rfl) (v := (-1)) ki_m1 ?_
    exact m_iret C rfl (dOf DX9_readOne_1 51 rfl) h
  · refine m_aload_n C (dOf DX9_readOne 18 rfl) rfl 0 rfl ?_
    refine m_iload_n C (dOf DX9_readOne 19 rfl) rfl 1 rfl ?_
    refine m_iload_n C (dOf DX9_readOne 20 rfl) rfl 3 rfl ?_
    refine m_iconst C (dOf DX9_readOne 21 rfl) (v := 0) ki_0 ?_
    obtain ⟨hc, h⟩ := ck_spec h
    refine m_cP (st := []) h (fun o' ho H locs ls hl hr hs => ⟨_, m_runV C (dOf DX9_readOne 22 rfl) km_X9_155 ky_X9_item (by decide) ⟨rfl, rfl⟩ (c_X9_item _ G _ _ _ _ _ o' ho) hc.1 hc.2 (by decide) rfl rfl rfl (Nat.le_of_ble_eq_true rfl) ⟨Nat.le_refl _, Nat.le_refl _⟩ hl hr hs⟩) (fun v14 h => ?_)
    refine m_iconst C (dOf DX9_readOne 23 rfl) (v := 1) ki_1 ?_
    refine m_jn (J := fun (x15 : Int32) => WM X G 6 0 0 (wQ X G (qI G o) 0 0) 243 [(0, .ref (G.1 + b0)), (1, .int v2), (2, .int x15), (3, .int x5.2)] [] S) h (fun x15 h => ?_) (fun j15 hj15 h => ?_)
    · refine m_iinc C (dOf DX9_readOne_1 32 rfl) (w := 1) ki_1 3 rfl (by decide) h (fun v16 h => ⟨[(3, .int v16), (0, .ref (G.1 + b0)), (1, .int v2), (2, .int x15)], rfl, ?_⟩)
      refine m_goto C (dOf DX9_readOne_1 33 rfl) (tgt := 18) rfl ?_
      exact m_sub [1, 2, 3, 0] rfl (hself5 _ h)
    refine m_icmpne C (dOf DX9_readOne 24 rfl) (tgt := 42) rfl h (fun h => ?_) (fun h => ?_)
    · refine m_aload_n C (dOf DX9_readOne 26 rfl) rfl 0 rfl ?_
      refine m_gR C (dOf DX9_readOne 27 rfl) kf_X9_7 fg_9_1 h (fun a17 h => ?_)
      refine m_bipush C (dOf DX9_readOne 28 rfl) (v := 9) kb_9 ?_
      refine m_aI C (dOf DX9_readOne 29 rfl) h (fun v18 h => ?_)
      refine m_aload_n C (dOf DX9_readOne 30 rfl) rfl 0 rfl ?_
      refine m_iload_n C (dOf DX9_readOne 31 rfl) rfl 1 rfl ?_
      refine m_iload_n C (dOf DX9_readOne 32 rfl) rfl 3 rfl ?_
      refine m_iconst C (dOf DX9_readOne 33 rfl) (v := 2) ki_2 ?_
      obtain ⟨hc, h⟩ := ck_spec h
      refine m_cP (st := [.int v18]) h (fun o' ho H locs ls hl hr hs => ⟨_, m_runV C (dOf DX9_readOne 34 rfl) km_X9_155 ky_X9_item (by decide) ⟨rfl, rfl⟩ (c_X9_item _ G _ _ _ _ _ o' ho) hc.1 hc.2 (by decide) rfl rfl rfl (Nat.le_of_ble_eq_true rfl) ⟨Nat.le_refl _, Nat.le_refl _⟩ hl hr hs⟩) (fun v19 h => ?_)
      refine m_ishr C (dOf DX9_readOne 35 rfl) h (fun v20 h => ?_)
      refine m_iconst C (dOf DX9_readOne 36 rfl) (v := 1) ki_1 ?_
      refine m_iand C (dOf DX9_readOne 37 rfl) h (fun v21 h => ?_)
      refine m_ifne C (dOf DX9_readOne 38 rfl) (tgt := 68) rfl h (fun h => ?_) (fun h => ?_)
      · refine m_aload_n C (dOf DX9_readOne 41 rfl) rfl 0 rfl ?_
        refine m_iload_n C (dOf DX9_readOne 42 rfl) rfl 1 rfl ?_
        refine m_iload_n C (dOf DX9_readOne 43 rfl) rfl 3 rfl ?_
        refine m_iconst C (dOf DX9_readOne 44 rfl) (v := 1) ki_1 ?_
        obtain ⟨hc, h⟩ := ck_spec h
        refine m_cP (st := []) h (fun o' ho H locs ls hl hr hs => ⟨_, m_runV C (dOf DX9_readOne 45 rfl) km_X9_155 ky_X9_item (by decide) ⟨rfl, rfl⟩ (c_X9_item _ G _ _ _ _ _ o' ho) hc.1 hc.2 (by decide) rfl rfl rfl (Nat.le_of_ble_eq_true rfl) ⟨Nat.le_refl _, Nat.le_refl _⟩ hl hr hs⟩) (fun v22 h => ?_)
        refine m_istore C (dOf DX9_readOne 46 rfl) (by decide) (lv' := [(4, .int v22), (0, .ref (G.1 + b0)), (1, .int v2), (2, .int x5.1), (3, .int x5.2)]) rfl ?_
        refine m_aload_n C (dOf DX9_readOne 47 rfl) rfl 1 rfl ?_
        refine m_gR C (dOf DX9_readOne 48 rfl) kf_X9_7 fg_9_1 h (fun a23 h => ?_)
        refine m_bipush C (dOf DX9_readOne 49 rfl) (v := 34) kb_34 ?_
        refine m_iload C (dOf DX9_readOne 50 rfl) 0 rfl ?_
        refine m_aload_n C (dOf DX9_readOne 51 rfl) rfl 1 rfl ?_
        refine m_gR C (dOf DX9_readOne 52 rfl) kf_X9_7 fg_9_1 h (fun a24 h => ?_)
        refine m_bipush C (dOf DX9_readOne 53 rfl) (v := 30) kb_30 ?_
        refine m_aI C (dOf DX9_readOne 54 rfl) h (fun v25 h => ?_)
        refine m_isub C (dOf DX9_readOne 55 rfl) h (fun v26 h => ?_)
        refine m_iconst C (dOf DX9_readOne 56 rfl) (v := 1) ki_1 ?_
        refine m_isub C (dOf DX9_readOne 57 rfl) h (fun v27 h => ?_)
        refine m_sI C (dOf DX9_readOne 58 rfl) h (fun S28 h => ?_)
        refine m_aload_n C (dOf DX9_readOne 59 rfl) rfl 1 rfl ?_
        refine m_gR C (dOf DX9_readOne 60 rfl) kf_X9_7 fg_9_1 h (fun a29 h => ?_)
        refine m_bipush C (dOf DX9_readOne 61 rfl) (v := 30) kb_30 ?_
        refine m_iload C (dOf DX9_readOne 62 rfl) 0 rfl ?_
        refine m_sI C (dOf DX9_readOne 63 rfl) h (fun S30 h => ?_)
        refine m_aload_n C (dOf DX9_readOne 64 rfl) rfl 1 rfl ?_
        refine m_gR C (dOf DX9_readOne 65 rfl) kf_X9_7 fg_9_1 h (fun a31 h => ?_)
        refine m_bipush C (dOf DX9_readOne 66 rfl) (v := 31) kb_31 ?_
        refine m_aload_n C (dOf DX9_readOne 67 rfl) rfl 1 rfl ?_
        refine m_iload_n C (dOf DX9_readOne 68 rfl) rfl 2 rfl ?_
        refine m_iload_n C (dOf DX9_readOne 69 rfl) rfl 4 rfl ?_
        refine m_iconst C (dOf DX9_readOne 70 rfl) (v := 2) ki_2 ?_
        obtain ⟨hc, h⟩ := ck_spec h
        refine m_cP (st := [.int 31, .ref (G.1 + a31)]) h (fun o' ho H locs ls hl hr hs => ⟨_, m_runV C (dOf DX9_readOne 71 rfl) km_X9_155 ky_X9_item (by decide) ⟨rfl, rfl⟩ (c_X9_item _ G _ _ _ _ _ o' ho) hc.1 hc.2 (by decide) rfl rfl rfl (Nat.le_of_ble_eq_true rfl) ⟨Nat.le_refl _, Nat.le_refl _⟩ hl hr hs⟩) (fun v32 h => ?_)
        refine m_sI C (dOf DX9_readOne 72 rfl) h (fun S33 h => ?_)
        refine m_aload_n C (dOf DX9_readOne 73 rfl) rfl 1 rfl ?_
        refine m_gR C (dOf DX9_readOne 74 rfl) kf_X9_7 fg_9_1 h (fun a34 h => ?_)
        refine m_bipush C (dOf DX9_readOne 75 rfl) (v := 32) kb_32 ?_
        refine m_aload_n C (dOf DX9_readOne 76 rfl) rfl 1 rfl ?_
        refine m_iload_n C (dOf DX9_readOne 77 rfl) rfl 2 rfl ?_
        refine m_iload_n C (dOf DX9_readOne 78 rfl) rfl 4 rfl ?_
        refine m_iconst C (dOf DX9_readOne 79 rfl) (v := 3) ki_3 ?_
        obtain ⟨hc, h⟩ := ck_spec h
        refine m_cP (st := [.int 32, .ref (G.1 + a34)]) h (fun o' ho H locs ls hl hr hs => ⟨_, m_runV C (dOf DX9_readOne 80 rfl) km_X9_155 ky_X9_item (by decide) ⟨rfl, rfl⟩ (c_X9_item _ G _ _ _ _ _ o' ho) hc.1 hc.2 (by decide) rfl rfl rfl (Nat.le_of_ble_eq_true rfl) ⟨Nat.le_refl _, Nat.le_refl _⟩ hl hr hs⟩) (fun v35 h => ?_)
        refine m_sI C (dOf DX9_readOne 81 rfl) h (fun S36 h => ?_)
        refine m_aload_n C (dOf DX9_readOne 82 rfl) rfl 1 rfl ?_
        refine m_gR C (dOf DX9_readOne 83 rfl) kf_X9_7 fg_9_1 h (fun a37 h => ?_)
        refine m_bipush C (dOf DX9_readOne 84 rfl) (v := 33) kb_33 ?_
        refine m_aload_n C (dOf DX9_readOne 85 rfl) rfl 1 rfl ?_
        refine m_iload_n C (dOf DX9_readOne 86 rfl) rfl 2 rfl ?_
        refine m_iload_n C (dOf DX9_readOne 87 rfl) rfl 4 rfl ?_
        refine m_iconst C (dOf DX9_readOne 88 rfl) (v := 4) ki_4 ?_
        obtain ⟨hc, h⟩ := ck_spec h
        refine m_cP (st := [.int 33, .ref (G.1 + a37)]) h (fun o' ho H locs ls hl hr hs => ⟨_, m_runV C (dOf DX9_readOne 89 rfl) km_X9_155 ky_X9_item (by decide) ⟨rfl, rfl⟩ (c_X9_item _ G _ _ _ _ _ o' ho) hc.1 hc.2 (by decide) rfl rfl rfl (Nat.le_of_ble_eq_true rfl) ⟨Nat.le_refl _, Nat.le_refl _⟩ hl hr hs⟩) (fun v38 h => ?_)
        refine m_sI C (dOf DX9_readOne 90 rfl) h (fun S39 h => ?_)
        refine m_iconst C (dOf DX9_readOne 91 rfl) (v := 0) ki_0 ?_
        refine m_istore C (dOf DX9_readOne 92 rfl) (by decide) (lv' := [(5, .int 0), (4, .int v22), (0, .ref (G.1 + b0)), (1, .int v2), (2, .int x5.1), (3, .int x5.2)]) rfl ?_
        refine m_sub [2, 3, 4, 5, 1, 0] rfl (m_lp (J := fun (x40 : Int32 × St) => WM X G 6 0 0 (wQ X G (qI G o) 0 0) 150 [(0, .ref (G.1 + b0)), (1, .int v2), (2, .int x5.1), (3, .int x5.2), (4, .int v22), (5, .int x40.1)] [] x40.2) h (fun self40 hself40 x40 h => ?_))
        refine m_iload C (dOf DX9_readOne 93 rfl) 5 rfl ?_
        refine m_bipush C (dOf DX9_readOne 94 rfl) (v := 8) kb_8 ?_
        refine m_icmpge C (dOf DX9_readOne 95 rfl) (tgt := 208) rfl h (fun h => ?_) (fun h => ?_)
        · refine m_aload_n C (dOf DX9_readOne_1 7 rfl) rfl 0 rfl ?_
          refine m_gR C (dOf DX9_readOne_1 8 rfl) kf_X9_7 fg_9_1 h (fun a41 h => ?_)
          refine m_bipush C (dOf DX9_readOne_1 9 rfl) (v := 14) kb_14 ?_
          refine m_dup2 C (dOf DX9_readOne_1 10 rfl) rfl rfl ?_
          refine m_aI C (dOf DX9_readOne_1 11 rfl) h (fun v42 h => ?_)
          refine m_iload_n C (dOf DX9_readOne_1 12 rfl) rfl 2 rfl ?_
          refine m_iadd C (dOf DX9_readOne_1 13 rfl) h (fun v43 h => ?_)
          refine m_sI C (dOf DX9_readOne_1 14 rfl) h (fun S44 h => ?_)
          refine m_aload_n C (dOf DX9_readOne_1 15 rfl) rfl 0 rfl ?_
          refine m_gR C (dOf DX9_readOne_1 16 rfl) kf_X9_7 fg_9_1 h (fun a45 h => ?_)
          refine m_bipush C (dOf DX9_readOne_1 17 rfl) (v := 8) kb_8 ?_
          refine m_iload_n C (dOf DX9_readOne_1 18 rfl) rfl 3 rfl ?_
          refine m_iconst C (dOf DX9_readOne_1 19 rfl) (v := 1) ki_1 ?_
          refine m_iadd C (dOf DX9_readOne_1 20 rfl) h (fun v46 h => ?_)
          refine m_sI C (dOf DX9_readOne_1 21 rfl) h (fun S47 h => ?_)
          refine m_aload_n C (dOf DX9_readOne_1 22 rfl) rfl 0 rfl ?_
          refine m_gR C (dOf DX9_readOne_1 23 rfl) kf_X9_7 fg_9_1 h (fun a48 h => ?_)
          refine m_bipush C (dOf DX9_readOne_1 24 rfl) (v := 15) kb_15 ?_
          refine m_dup2 C (dOf DX9_readOne_1 25 rfl) rfl rfl ?_
          refine m_aI C (dOf DX9_readOne_1 26 rfl) h (fun v49 h => ?_)
          refine m_iconst C (dOf DX9_readOne_1 27 rfl) (v := 1) ki_1 ?_
          refine m_iadd C (dOf DX9_readOne_1 28 rfl) h (fun v50 h => ?_)
          refine m_sI C (dOf DX9_readOne_1 29 rfl) h (fun S51 h => ?_)
          refine m_iload C (dOf DX9_readOne_1 30 rfl) 4 rfl ?_
          exact m_iret C rfl (dOf DX9_readOne_1 31 rfl) h
        · refine m_aload_n C (dOf DX9_readOne 96 rfl) rfl 0 rfl ?_
          refine m_gR C (dOf DX9_readOne 97 rfl) kf_X9_7 fg_9_1 h (fun a52 h => ?_)
          refine m_bipush C (dOf DX9_readOne 98 rfl) (v := 35) kb_35 ?_
          refine m_iload C (dOf DX9_readOne 99 rfl) 5 rfl ?_
          refine m_iadd C (dOf DX9_readOne 100 rfl) h (fun v53 h => ?_)
          refine m_iload C (dOf DX9_readOne 101 rfl) 5 rfl ?_
          refine m_aload_n C (dOf DX9_readOne 102 rfl) rfl 0 rfl ?_
          refine m_iload_n C (dOf DX9_readOne 103 rfl) rfl 1 rfl ?_
          refine m_iload_n C (dOf DX9_readOne 104 rfl) rfl 3 rfl ?_
          refine m_iconst C (dOf DX9_readOne 105 rfl) (v := 4) ki_4 ?_
          obtain ⟨hc, h⟩ := ck_spec h
          refine m_cP (st := [.int x40.1, .int v53, .ref (G.1 + a52)]) h (fun o' ho H locs ls hl hr hs => ⟨_, m_runV C (dOf DX9_readOne 106 rfl) km_X9_155 ky_X9_item (by decide) ⟨rfl, rfl⟩ (c_X9_item _ G _ _ _ _ _ o' ho) hc.1 hc.2 (by decide) rfl rfl rfl (Nat.le_of_ble_eq_true rfl) ⟨Nat.le_refl _, Nat.le_refl _⟩ hl hr hs⟩) (fun v54 h => ?_)
          refine m_jn (J := fun (x55 : Int32) => WM X G 6 0 0 (wQ X G (qI G o) 0 0) 201 [(0, .ref (G.1 + b0)), (1, .int v2), (2, .int x5.1), (3, .int x5.2), (4, .int v22), (5, .int x40.1)] [.int x55, .int v53, .ref (G.1 + a52)] x40.2) h (fun x55 h => ?_) (fun j55 hj55 h => ?_)
          · refine m_sI C (dOf DX9_readOne_1 4 rfl) h (fun S56 h => ?_)
            refine m_iinc C (dOf DX9_readOne_1 5 rfl) (w := 1) ki_1 5 rfl (by decide) h (fun v57 h => ⟨[(5, .int v57), (0, .ref (G.1 + b0)), (1, .int v2), (2, .int x5.1), (3, .int x5.2), (4, .int v22)], rfl, ?_⟩)
            refine m_goto C (dOf DX9_readOne_1 6 rfl) (tgt := 150) rfl ?_
            exact m_sub [1, 2, 3, 4, 5, 0] rfl (hself40 _ h)
          refine m_icmpge C (dOf DX9_readOne 107 rfl) (tgt := 200) rfl h (fun h => ?_) (fun h => ?_)
          · refine m_iconst C (dOf DX9_readOne_1 3 rfl) (v := 0) ki_0 ?_
            exact m_sub [0, 1, 2, 3, 4, 5] rfl (hj55 _ h)
          · refine m_aload_n C (dOf DX9_readOne 108 rfl) rfl 0 rfl ?_
            refine m_iload_n C (dOf DX9_readOne 109 rfl) rfl 1 rfl ?_
            refine m_iconst C (dOf DX9_readOne 110 rfl) (v := 4) ki_4 ?_
            refine m_aload_n C (dOf DX9_readOne 111 rfl) rfl 0 rfl ?_
            refine m_iload_n C (dOf DX9_readOne 112 rfl) rfl 1 rfl ?_
            refine m_iload_n C (dOf DX9_readOne 113 rfl) rfl 3 rfl ?_
            refine m_iconst C (dOf DX9_readOne 114 rfl) (v := 5) ki_5 ?_
            obtain ⟨hc, h⟩ := ck_spec h
            refine m_cP (st := [.int 4, .int v2, .ref (G.1 + b0), .int v53, .ref (G.1 + a52)]) h (fun o' ho H locs ls hl hr hs => ⟨_, m_runV C (dOf DX9_readOne 115 rfl) km_X9_155 ky_X9_item (by decide) ⟨rfl, rfl⟩ (c_X9_item _ G _ _ _ _ _ o' ho) hc.1 hc.2 (by decide) rfl rfl rfl (Nat.le_of_ble_eq_true rfl) ⟨Nat.le_refl _, Nat.le_refl _⟩ hl hr hs⟩) (fun v58 h => ?_)
            refine m_iadd C (dOf DX9_readOne 116 rfl) h (fun v59 h => ?_)
            refine m_iconst C (dOf DX9_readOne 117 rfl) (v := 1) ki_1 ?_
            refine m_iadd C (dOf DX9_readOne 118 rfl) h (fun v60 h => ?_)
            refine m_iload C (dOf DX9_readOne 119 rfl) 5 rfl ?_
            refine m_iadd C (dOf DX9_readOne_1 0 rfl) h (fun v61 h => ?_)
            obtain ⟨hc, h⟩ := ck_spec h
            refine m_cP (st := [.int v53, .ref (G.1 + a52)]) h (fun o' ho H locs ls hl hr hs => ⟨_, m_runV C (dOf DX9_readOne_1 1 rfl) km_X9_144 ky_X9_of (by decide) ⟨rfl, rfl⟩ (c_X9_of _ G _ _ _ _ o' ho) hc.1 hc.2 (by decide) rfl rfl rfl (Nat.le_of_ble_eq_true rfl) ⟨Nat.le_refl _, Nat.le_refl _⟩ hl hr hs⟩) (fun v62 h => ?_)
            refine m_goto C (dOf DX9_readOne_1 2 rfl) (tgt := 201) rfl ?_
            exact m_sub [0, 1, 2, 3, 4, 5] rfl (hj55 _ h)
      · refine m_iinc C (dOf DX9_readOne 39 rfl) (w := 1) ki_1 2 rfl (by decide) h (fun v63 h => ⟨[(2, .int v63), (0, .ref (G.1 + b0)), (1, .int v2), (3, .int x5.2)], rfl, ?_⟩)
        refine m_goto C (dOf DX9_readOne 40 rfl) (tgt := 243) rfl ?_
        exact m_sub [1, 2, 0, 3] rfl (hj15 _ h)
    · refine m_goto C (dOf DX9_readOne 25 rfl) (tgt := 243) rfl ?_
      exact m_sub [0, 1, 2, 3] rfl (hj15 _ h)
/-- TraceRingModel.resized(I)I -/
def f_X9_resized (S : St) (b0 : Nat) (p1 : Int32) : Option (Int32 × St) :=
  cP_ (f_X9_in S p1 2 6) fun v1 =>
  jn_ (fun (x2 : Unit) =>
    rt_ ((-1), S)
  ) fun j2 =>
  if v1 = 0 then
    j2 ()
  else
    gR_ S b0 9 1 fun a3 =>
    aI_ S a3 11 0 fun v4 =>
    if p1 = v4 then
      j2 ()
    else
      gR_ S b0 9 1 fun a5 =>
      aI_ S a5 11 6 fun v6 =>
      if v6 ≤ 0 then
        gR_ S b0 9 1 fun a7 =>
        aI_ S a7 11 12 fun v8 =>
        lp_ (fun self9 (x9 : St) =>
          ck_ x9 b0 9 <| cP_ (f_X9_live x9 b0) fun v10 =>
          if v10 ≤ p1 then
            ck_ x9 b0 9 <| cP_ (f_X9_live x9 b0) fun v11 =>
            gR_ x9 b0 9 1 fun a12 =>
            aI_ x9 a12 11 7 fun v13 =>
            lt_ (1 <<< (v13 &&& 31) : Int32) fun v14 =>
            lp_ (fun self15 (x15 : Int32 × Int32 × St) =>
              if v11 ≤ x15.1 then
                lp_ (fun self16 (x16 : Int32 × Int32 × St) =>
                  if 6 < x16.2.1 then
                    lp_ (fun self17 (x17 : Int32 × St) =>
                      if 6 ≤ x17.1 then
                        gR_ x17.2 b0 9 1 fun a18 =>
                        sI_ x17.2 a18 0 p1 fun S19 =>
                        gR_ S19 b0 9 1 fun a20 =>
                        sI_ S19 a20 4 0 fun S21 =>
                        gR_ S21 b0 9 1 fun a22 =>
                        lt_ (v11 - 1 : Int32) fun v23 =>
                        sI_ S21 a22 5 v23 fun S24 =>
                        gR_ S24 b0 9 1 fun a25 =>
                        aI_ S24 a25 11 12 fun v26 =>
                        lt_ (v26 - v8 : Int32) fun v27 =>
                        rt_ (v27, S24)
                      else
                        gR_ x17.2 b0 9 1 fun a28 =>
                        lt_ (55 + x17.1 : Int32) fun v29 =>
                        gR_ x17.2 b0 9 19 fun a30 =>
                        aI_ x17.2 a30 11 x17.1 fun v31 =>
                        sI_ x17.2 a28 v29 v31 fun S32 =>
                        lt_ (x17.1 + 1) fun v33 =>
                        self17 (v33, S32)
                    ) FU (0, x16.2.2)
                  else
                    lt_ (x15.2.1 >>> (x16.2.1 &&& 31) : Int32) fun v34 =>
                    lt_ (v34 &&& 1 : Int32) fun v35 =>
                    jn_ (fun (x36 : Int32 × St) =>
                      lt_ (x16.2.1 + 1) fun v37 =>
                      self16 (x36.1, v37, x36.2)
                    ) fun j36 =>
                    if v35 = 0 then
                      gR_ x16.2.2 b0 9 19 fun a38 =>
                      sI_ x16.2.2 a38 x16.1 x16.2.1 fun S39 =>
                      lt_ (x16.1 + 1) fun v40 =>
                      j36 (v40, S39)
                    else
                      j36 (x16.1, x16.2.2)
                ) FU (x15.1, 0, x15.2.2)
              else
                gR_ x15.2.2 b0 9 19 fun a41 =>
                ck_ x15.2.2 b0 9 <| cP_ (f_X9_livePage x15.2.2 b0 x15.1) fun v42 =>
                sI_ x15.2.2 a41 x15.1 v42 fun S43 =>
                gR_ S43 b0 9 19 fun a44 =>
                aI_ S43 a44 11 x15.1 fun v45 =>
                lt_ (1 <<< (v45 &&& 31) : Int32) fun v46 =>
                lt_ (x15.2.1 ||| v46 : Int32) fun v47 =>
                lt_ (x15.1 + 1) fun v48 =>
                self15 (v48, v47, S43)
            ) FU (0, v14, x9)
          else
            ck_ x9 b0 9 <| cV_ (f_X9_overwrites x9 b0) fun S49 =>
            self9 (S49)
        ) FU (S)
      else
        j2 ()
set_option maxRecDepth 100000 in
set_option maxHeartbeats 4000000 in
theorem c_X9_resized (l : Launch) (G : Gx) (S : St) (b0 : Nat) (p1 : Int32) (o : (Int32 × St)) (h : f_X9_resized S b0 p1 = some o) : Met l yX9_resized (Cond.code yX9_resized cX9_resized 7 (some (.int)) :: wAll) ({ frames := 4, cells := 0, slots := 0, locals := 90 } : Room) (va_Pc [.ref (G.1 + b0), .int p1] (wPre G S)) (qI G o) 0 0 (wA G) := by
  refine m_start (by decide +kernel) (Nat.le_of_ble_eq_true rfl) (fun X C => ?_)
  unfold f_X9_resized at h
  show WM X G 7 0 0 (wQ X G (qI G o) 0 0) 0 [(0, .ref (G.1 + b0)), (1, .int p1)] [] S
  refine m_iload_n C (dOf DX9_resized 0 rfl) rfl 1 rfl ?_
  refine m_iconst C (dOf DX9_resized 1 rfl) (v := 2) ki_2 ?_
  refine m_bipush C (dOf DX9_resized 2 rfl) (v := 6) kb_6 ?_
  refine m_cP (st := []) h (fun o' ho H locs ls hl hr hs => ⟨_, m_runS C (dOf DX9_resized 3 rfl) km_X9_76 ks_X9_in rfl (by decide) ⟨rfl, rfl⟩ (c_X9_in _ G _ _ _ _ o' ho) rfl rfl (Nat.le_of_ble_eq_true rfl) ⟨Nat.le_refl _, Nat.le_refl _⟩ hl hr hs⟩) (fun v1 h => ?_)
  refine m_jn (J := fun (x2 : Unit) => WM X G 7 0 0 (wQ X G (qI G o) 0 0) 30 [] [] S) h (fun x2 h => ?_) (fun j2 hj2 h => ?_)
  · refine m_iconst C (dOf DX9_resized 16 rfl) (v := (-1)) ki_m1 ?_
    exact m_iret C rfl (dOf DX9_resized 17 rfl) h
  refine m_ifeq C (dOf DX9_resized 4 rfl) (tgt := 30) rfl h (fun h => ?_) (fun h => ?_)
  · exact m_sub [] rfl (hj2 _ h)
  · refine m_iload_n C (dOf DX9_resized 5 rfl) rfl 1 rfl ?_
    refine m_aload_n C (dOf DX9_resized 6 rfl) rfl 0 rfl ?_
    refine m_gR C (dOf DX9_resized 7 rfl) kf_X9_7 fg_9_1 h (fun a3 h => ?_)
    refine m_iconst C (dOf DX9_resized 8 rfl) (v := 0) ki_0 ?_
    refine m_aI C (dOf DX9_resized 9 rfl) h (fun v4 h => ?_)
    refine m_icmpeq C (dOf DX9_resized 10 rfl) (tgt := 30) rfl h (fun h => ?_) (fun h => ?_)
    · exact m_sub [] rfl (hj2 _ h)
    · refine m_aload_n C (dOf DX9_resized 11 rfl) rfl 0 rfl ?_
      refine m_gR C (dOf DX9_resized 12 rfl) kf_X9_7 fg_9_1 h (fun a5 h => ?_)
      refine m_bipush C (dOf DX9_resized 13 rfl) (v := 6) kb_6 ?_
      refine m_aI C (dOf DX9_resized 14 rfl) h (fun v6 h => ?_)
      refine m_ifle C (dOf DX9_resized 15 rfl) (tgt := 32) rfl h (fun h => ?_) (fun h => ?_)
      · refine m_aload_n C (dOf DX9_resized 18 rfl) rfl 0 rfl ?_
        refine m_gR C (dOf DX9_resized 19 rfl) kf_X9_7 fg_9_1 h (fun a7 h => ?_)
        refine m_bipush C (dOf DX9_resized 20 rfl) (v := 12) kb_12 ?_
        refine m_aI C (dOf DX9_resized 21 rfl) h (fun v8 h => ?_)
        refine m_istore_n C (dOf DX9_resized 22 rfl) rfl (by decide) (lv' := [(2, .int v8), (0, .ref (G.1 + b0)), (1, .int p1)]) rfl ?_
        refine m_sub [1, 2, 0] rfl (m_lp (J := fun (x9 : St) => WM X G 7 0 0 (wQ X G (qI G o) 0 0) 40 [(0, .ref (G.1 + b0)), (1, .int p1), (2, .int v8)] [] x9) h (fun self9 hself9 x9 h => ?_))
        refine m_aload_n C (dOf DX9_resized 23 rfl) rfl 0 rfl ?_
        obtain ⟨hc, h⟩ := ck_spec h
        refine m_cP (st := []) h (fun o' ho H locs ls hl hr hs => ⟨_, m_runV C (dOf DX9_resized 24 rfl) km_X9_148 ky_X9_live (by decide) ⟨rfl, rfl⟩ (c_X9_live _ G _ _ o' ho) hc.1 hc.2 (by decide) rfl rfl rfl (Nat.le_of_ble_eq_true rfl) ⟨Nat.le_refl _, Nat.le_refl _⟩ hl hr hs⟩) (fun v10 h => ?_)
        refine m_iload_n C (dOf DX9_resized 25 rfl) rfl 1 rfl ?_
        refine m_icmple C (dOf DX9_resized 26 rfl) (tgt := 55) rfl h (fun h => ?_) (fun h => ?_)
        · refine m_aload_n C (dOf DX9_resized 30 rfl) rfl 0 rfl ?_
          obtain ⟨hc, h⟩ := ck_spec h
          refine m_cP (st := []) h (fun o' ho H locs ls hl hr hs => ⟨_, m_runV C (dOf DX9_resized 31 rfl) km_X9_148 ky_X9_live (by decide) ⟨rfl, rfl⟩ (c_X9_live _ G _ _ o' ho) hc.1 hc.2 (by decide) rfl rfl rfl (Nat.le_of_ble_eq_true rfl) ⟨Nat.le_refl _, Nat.le_refl _⟩ hl hr hs⟩) (fun v11 h => ?_)
          refine m_istore_n C (dOf DX9_resized 32 rfl) rfl (by decide) (lv' := [(3, .int v11), (0, .ref (G.1 + b0)), (1, .int p1), (2, .int v8)]) rfl ?_
          refine m_iconst C (dOf DX9_resized 33 rfl) (v := 0) ki_0 ?_
          refine m_istore C (dOf DX9_resized 34 rfl) (by decide) (lv' := [(4, .int 0), (3, .int v11), (0, .ref (G.1 + b0)), (1, .int p1), (2, .int v8)]) rfl ?_
          refine m_iconst C (dOf DX9_resized 35 rfl) (v := 1) ki_1 ?_
          refine m_aload_n C (dOf DX9_resized 36 rfl) rfl 2 rfl ?_
          refine m_gR C (dOf DX9_resized 37 rfl) kf_X9_7 fg_9_1 h (fun a12 h => ?_)
          refine m_bipush C (dOf DX9_resized 38 rfl) (v := 7) kb_7 ?_
          refine m_aI C (dOf DX9_resized 39 rfl) h (fun v13 h => ?_)
          refine m_ishl C (dOf DX9_resized 40 rfl) h (fun v14 h => ?_)
          refine m_istore C (dOf DX9_resized 41 rfl) (by decide) (lv' := [(5, .int v14), (4, .int 0), (3, .int v11), (0, .ref (G.1 + b0)), (1, .int p1), (2, .int v8)]) rfl ?_
          refine m_sub [3, 4, 5, 2, 1, 0] rfl (m_lp (J := fun (x15 : Int32 × Int32 × St) => WM X G 7 0 0 (wQ X G (qI G o) 0 0) 74 [(0, .ref (G.1 + b0)), (1, .int p1), (2, .int v8), (3, .int v11), (4, .int x15.1), (5, .int x15.2.1)] [] x15.2.2) h (fun self15 hself15 x15 h => ?_))
          refine m_iload C (dOf DX9_resized 42 rfl) 4 rfl ?_
          refine m_iload_n C (dOf DX9_resized 43 rfl) rfl 3 rfl ?_
          refine m_icmpge C (dOf DX9_resized 44 rfl) (tgt := 113) rfl h (fun h => ?_) (fun h => ?_)
          · refine m_iconst C (dOf DX9_resized 63 rfl) (v := 0) ki_0 ?_
            refine m_istore C (dOf DX9_resized 64 rfl) (by decide) (lv' := [(6, .int 0), (0, .ref (G.1 + b0)), (1, .int p1), (2, .int v8), (3, .int v11), (4, .int x15.1), (5, .int x15.2.1)]) rfl ?_
            refine m_sub [1, 2, 3, 4, 5, 6, 0] rfl (m_lp (J := fun (x16 : Int32 × Int32 × St) => WM X G 7 0 0 (wQ X G (qI G o) 0 0) 116 [(0, .ref (G.1 + b0)), (1, .int p1), (2, .int v8), (3, .int v11), (4, .int x16.1), (5, .int x15.2.1), (6, .int x16.2.1)] [] x16.2.2) h (fun self16 hself16 x16 h => ?_))
            refine m_iload C (dOf DX9_resized 65 rfl) 6 rfl ?_
            refine m_bipush C (dOf DX9_resized 66 rfl) (v := 6) kb_6 ?_
            refine m_icmpgt C (dOf DX9_resized 67 rfl) (tgt := 151) rfl h (fun h => ?_) (fun h => ?_)
            · refine m_iconst C (dOf DX9_resized 82 rfl) (v := 0) ki_0 ?_
              refine m_istore C (dOf DX9_resized 83 rfl) (by decide) (lv' := [(6, .int 0), (0, .ref (G.1 + b0)), (1, .int p1), (2, .int v8), (3, .int v11), (4, .int x16.1), (5, .int x15.2.1)]) rfl ?_
              refine m_sub [1, 2, 3, 4, 0] rfl (m_lp (J := fun (x17 : Int32 × St) => WM X G 7 0 0 (wQ X G (qI G o) 0 0) 154 [(0, .ref (G.1 + b0)), (1, .int p1), (2, .int v8), (3, .int v11), (6, .int x17.1)] [] x17.2) h (fun self17 hself17 x17 h => ?_))
              refine m_iload C (dOf DX9_resized 84 rfl) 4 rfl ?_
              refine m_bipush C (dOf DX9_resized 85 rfl) (v := 6) kb_6 ?_
              refine m_icmpge C (dOf DX9_resized 86 rfl) (tgt := 184) rfl h (fun h => ?_) (fun h => ?_)
              · refine m_aload_n C (dOf DX9_resized 99 rfl) rfl 0 rfl ?_
                refine m_gR C (dOf DX9_resized 100 rfl) kf_X9_7 fg_9_1 h (fun a18 h => ?_)
                refine m_iconst C (dOf DX9_resized 101 rfl) (v := 0) ki_0 ?_
                refine m_iload_n C (dOf DX9_resized 102 rfl) rfl 1 rfl ?_
                refine m_sI C (dOf DX9_resized 103 rfl) h (fun S19 h => ?_)
                refine m_aload_n C (dOf DX9_resized 104 rfl) rfl 0 rfl ?_
                refine m_gR C (dOf DX9_resized 105 rfl) kf_X9_7 fg_9_1 h (fun a20 h => ?_)
                refine m_iconst C (dOf DX9_resized 106 rfl) (v := 4) ki_4 ?_
                refine m_iconst C (dOf DX9_resized 107 rfl) (v := 0) ki_0 ?_
                refine m_sI C (dOf DX9_resized 108 rfl) h (fun S21 h => ?_)
                refine m_aload_n C (dOf DX9_resized 109 rfl) rfl 0 rfl ?_
                refine m_gR C (dOf DX9_resized 110 rfl) kf_X9_7 fg_9_1 h (fun a22 h => ?_)
                refine m_iconst C (dOf DX9_resized 111 rfl) (v := 5) ki_5 ?_
                refine m_iload_n C (dOf DX9_resized 112 rfl) rfl 3 rfl ?_
                refine m_iconst C (dOf DX9_resized 113 rfl) (v := 1) ki_1 ?_
                refine m_isub C (dOf DX9_resized 114 rfl) h (fun v23 h => ?_)
                refine m_sI C (dOf DX9_resized 115 rfl) h (fun S24 h => ?_)
                refine m_aload_n C (dOf DX9_resized 116 rfl) rfl 0 rfl ?_
                refine m_gR C (dOf DX9_resized 117 rfl) kf_X9_7 fg_9_1 h (fun a25 h => ?_)
                refine m_bipush C (dOf DX9_resized 118 rfl) (v := 12) kb_12 ?_
                refine m_aI C (dOf DX9_resized 119 rfl) h (fun v26 h => ?_)
                refine m_iload_n C (dOf DX9_resized_1 0 rfl) rfl 2 rfl ?_
                refine m_isub C (dOf DX9_resized_1 1 rfl) h (fun v27 h => ?_)
                exact m_iret C rfl (dOf DX9_resized_1 2 rfl) h
              · refine m_aload_n C (dOf DX9_resized 87 rfl) rfl 0 rfl ?_
                refine m_gR C (dOf DX9_resized 88 rfl) kf_X9_7 fg_9_1 h (fun a28 h => ?_)
                refine m_bipush C (dOf DX9_resized 89 rfl) (v := 55) kb_55 ?_
                refine m_iload C (dOf DX9_resized 90 rfl) 4 rfl ?_
                refine m_iadd C (dOf DX9_resized 91 rfl) h (fun v29 h => ?_)
                refine m_aload_n C (dOf DX9_resized 92 rfl) rfl 0 rfl ?_
                refine m_gR C (dOf DX9_resized 93 rfl) kf_X9_31 fg_9_19 h (fun a30 h => ?_)
                refine m_iload C (dOf DX9_resized 94 rfl) 4 rfl ?_
                refine m_aI C (dOf DX9_resized 95 rfl) h (fun v31 h => ?_)
                refine m_sI C (dOf DX9_resized 96 rfl) h (fun S32 h => ?_)
                refine m_iinc C (dOf DX9_resized 97 rfl) (w := 1) ki_1 4 rfl (by decide) h (fun v33 h => ⟨[(6, .int v33), (0, .ref (G.1 + b0)), (1, .int p1), (2, .int v8), (3, .int v11)], rfl, ?_⟩)
                refine m_goto C (dOf DX9_resized 98 rfl) (tgt := 154) rfl ?_
                exact m_sub [1, 2, 3, 4, 0] rfl (hself17 _ h)
            · refine m_iload C (dOf DX9_resized 68 rfl) 5 rfl ?_
              refine m_iload C (dOf DX9_resized 69 rfl) 6 rfl ?_
              refine m_ishr C (dOf DX9_resized 70 rfl) h (fun v34 h => ?_)
              refine m_iconst C (dOf DX9_resized 71 rfl) (v := 1) ki_1 ?_
              refine m_iand C (dOf DX9_resized 72 rfl) h (fun v35 h => ?_)
              refine m_jn (J := fun (x36 : Int32 × St) => WM X G 7 0 0 (wQ X G (qI G o) 0 0) 145 [(0, .ref (G.1 + b0)), (1, .int p1), (2, .int v8), (3, .int v11), (4, .int x36.1), (5, .int x15.2.1), (6, .int x16.2.1)] [] x36.2) h (fun x36 h => ?_) (fun j36 hj36 h => ?_)
              · refine m_iinc C (dOf DX9_resized 80 rfl) (w := 1) ki_1 6 rfl (by decide) h (fun v37 h => ⟨[(6, .int v37), (0, .ref (G.1 + b0)), (1, .int p1), (2, .int v8), (3, .int v11), (4, .int x36.1), (5, .int x15.2.1)], rfl, ?_⟩)
                refine m_goto C (dOf DX9_resized 81 rfl) (tgt := 116) rfl ?_
                exact m_sub [1, 2, 3, 4, 5, 6, 0] rfl (hself16 _ h)
              refine m_ifne C (dOf DX9_resized 73 rfl) (tgt := 145) rfl h (fun h => ?_) (fun h => ?_)
              · exact m_sub [0, 1, 2, 3, 4, 5, 6] rfl (hj36 _ h)
              · refine m_aload_n C (dOf DX9_resized 74 rfl) rfl 0 rfl ?_
                refine m_gR C (dOf DX9_resized 75 rfl) kf_X9_31 fg_9_19 h (fun a38 h => ?_)
                refine m_iload C (dOf DX9_resized 76 rfl) 4 rfl ?_
                refine m_iload C (dOf DX9_resized 77 rfl) 6 rfl ?_
                refine m_sI C (dOf DX9_resized 78 rfl) h (fun S39 h => ?_)
                refine m_iinc C (dOf DX9_resized 79 rfl) (w := 1) ki_1 4 rfl (by decide) h (fun v40 h => ⟨[(4, .int v40), (0, .ref (G.1 + b0)), (1, .int p1), (2, .int v8), (3, .int v11), (5, .int x15.2.1), (6, .int x16.2.1)], rfl, ?_⟩)
                exact m_sub [1, 2, 3, 4, 0, 5, 6] rfl (hj36 _ h)
          · refine m_aload_n C (dOf DX9_resized 45 rfl) rfl 0 rfl ?_
            refine m_gR C (dOf DX9_resized 46 rfl) kf_X9_31 fg_9_19 h (fun a41 h => ?_)
            refine m_iload C (dOf DX9_resized 47 rfl) 4 rfl ?_
            refine m_aload_n C (dOf DX9_resized 48 rfl) rfl 0 rfl ?_
            refine m_iload C (dOf DX9_resized 49 rfl) 4 rfl ?_
            obtain ⟨hc, h⟩ := ck_spec h
            refine m_cP (st := [.int x15.1, .ref (G.1 + a41)]) h (fun o' ho H locs ls hl hr hs => ⟨_, m_runV C (dOf DX9_resized 50 rfl) km_X9_213 ky_X9_livePage (by decide) ⟨rfl, rfl⟩ (c_X9_livePage _ G _ _ _ o' ho) hc.1 hc.2 (by decide) rfl rfl rfl (Nat.le_of_ble_eq_true rfl) ⟨Nat.le_refl _, Nat.le_refl _⟩ hl hr hs⟩) (fun v42 h => ?_)
            refine m_sI C (dOf DX9_resized 51 rfl) h (fun S43 h => ?_)
            refine m_iload C (dOf DX9_resized 52 rfl) 5 rfl ?_
            refine m_iconst C (dOf DX9_resized 53 rfl) (v := 1) ki_1 ?_
            refine m_aload_n C (dOf DX9_resized 54 rfl) rfl 0 rfl ?_
            refine m_gR C (dOf DX9_resized 55 rfl) kf_X9_31 fg_9_19 h (fun a44 h => ?_)
            refine m_iload C (dOf DX9_resized 56 rfl) 4 rfl ?_
            refine m_aI C (dOf DX9_resized 57 rfl) h (fun v45 h => ?_)
            refine m_ishl C (dOf DX9_resized 58 rfl) h (fun v46 h => ?_)
            refine m_ior C (dOf DX9_resized 59 rfl) h (fun v47 h => ?_)
            refine m_istore C (dOf DX9_resized 60 rfl) (by decide) (lv' := [(5, .int v47), (0, .ref (G.1 + b0)), (1, .int p1), (2, .int v8), (3, .int v11), (4, .int x15.1)]) rfl ?_
            refine m_iinc C (dOf DX9_resized 61 rfl) (w := 1) ki_1 5 rfl (by decide) h (fun v48 h => ⟨[(4, .int v48), (5, .int v47), (0, .ref (G.1 + b0)), (1, .int p1), (2, .int v8), (3, .int v11)], rfl, ?_⟩)
            refine m_goto C (dOf DX9_resized 62 rfl) (tgt := 74) rfl ?_
            exact m_sub [2, 3, 4, 5, 0, 1] rfl (hself15 _ h)
        · refine m_aload_n C (dOf DX9_resized 27 rfl) rfl 0 rfl ?_
          obtain ⟨hc, h⟩ := ck_spec h
          refine m_cV (st := []) h (fun o' ho H locs ls hl hr hs => ⟨_, m_runV C (dOf DX9_resized 28 rfl) km_X9_201 ky_X9_overwrites (by decide) ⟨rfl, rfl⟩ (c_X9_overwrites _ G _ _ o' ho) hc.1 hc.2 (by decide) rfl rfl rfl (Nat.le_of_ble_eq_true rfl) ⟨Nat.le_refl _, Nat.le_refl _⟩ hl hr hs⟩) (fun S49 h => ?_)
          refine m_goto C (dOf DX9_resized 29 rfl) (tgt := 40) rfl ?_
          exact m_sub [0, 1, 2] rfl (hself9 _ h)
      · exact m_sub [] rfl (hj2 _ h)
/-- TraceRingModel.ticked(I)I -/
def f_X9_ticked (S : St) (b0 : Nat) (p1 : Int32) : Option (Int32 × St) :=
  cP_ (f_X9_in S p1 1 5000) fun v1 =>
  jn_ (fun (x2 : Unit) =>
    rt_ ((-1), S)
  ) fun j2 =>
  if v1 = 0 then
    j2 ()
  else
    gR_ S b0 9 1 fun a3 =>
    aI_ S a3 11 3 fun v4 =>
    lt_ (v4 + p1 : Int32) fun v5 =>
    if v5 ≤ 999999 then
      gR_ S b0 9 1 fun a6 =>
      aI_ S a6 11 3 fun v7 =>
      lt_ (v7 + p1 : Int32) fun v8 =>
      sI_ S a6 3 v8 fun S9 =>
      gR_ S9 b0 9 1 fun a10 =>
      aI_ S9 a10 11 3 fun v11 =>
      rt_ (v11, S9)
    else
      j2 ()
set_option maxRecDepth 100000 in
set_option maxHeartbeats 4000000 in
theorem c_X9_ticked (l : Launch) (G : Gx) (S : St) (b0 : Nat) (p1 : Int32) (o : (Int32 × St)) (h : f_X9_ticked S b0 p1 = some o) : Met l yX9_ticked (Cond.code yX9_ticked cX9_ticked 2 (some (.int)) :: wAll) ({ frames := 1, cells := 0, slots := 0, locals := 22 } : Room) (va_Pc [.ref (G.1 + b0), .int p1] (wPre G S)) (qI G o) 0 0 (wA G) := by
  refine m_start (by decide +kernel) (Nat.le_of_ble_eq_true rfl) (fun X C => ?_)
  unfold f_X9_ticked at h
  show WM X G 2 0 0 (wQ X G (qI G o) 0 0) 0 [(0, .ref (G.1 + b0)), (1, .int p1)] [] S
  refine m_iload_n C (dOf DX9_ticked 0 rfl) rfl 1 rfl ?_
  refine m_iconst C (dOf DX9_ticked 1 rfl) (v := 1) ki_1 ?_
  refine m_sipush C (dOf DX9_ticked 2 rfl) (v := 5000) ks_5000 ?_
  refine m_cP (st := []) h (fun o' ho H locs ls hl hr hs => ⟨_, m_runS C (dOf DX9_ticked 3 rfl) km_X9_76 ks_X9_in rfl (by decide) ⟨rfl, rfl⟩ (c_X9_in _ G _ _ _ _ o' ho) rfl rfl (Nat.le_of_ble_eq_true rfl) ⟨Nat.le_refl _, Nat.le_refl _⟩ hl hr hs⟩) (fun v1 h => ?_)
  refine m_jn (J := fun (x2 : Unit) => WM X G 2 0 0 (wQ X G (qI G o) 0 0) 24 [] [] S) h (fun x2 h => ?_) (fun j2 hj2 h => ?_)
  · refine m_iconst C (dOf DX9_ticked 13 rfl) (v := (-1)) ki_m1 ?_
    exact m_iret C rfl (dOf DX9_ticked 14 rfl) h
  refine m_ifeq C (dOf DX9_ticked 4 rfl) (tgt := 24) rfl h (fun h => ?_) (fun h => ?_)
  · exact m_sub [] rfl (hj2 _ h)
  · refine m_aload_n C (dOf DX9_ticked 5 rfl) rfl 0 rfl ?_
    refine m_gR C (dOf DX9_ticked 6 rfl) kf_X9_7 fg_9_1 h (fun a3 h => ?_)
    refine m_iconst C (dOf DX9_ticked 7 rfl) (v := 3) ki_3 ?_
    refine m_aI C (dOf DX9_ticked 8 rfl) h (fun v4 h => ?_)
    refine m_iload_n C (dOf DX9_ticked 9 rfl) rfl 1 rfl ?_
    refine m_iadd C (dOf DX9_ticked 10 rfl) h (fun v5 h => ?_)
    refine m_ldc C (dOf DX9_ticked 11 rfl) kc_X9_216 ?_
    refine m_icmple C (dOf DX9_ticked 12 rfl) (tgt := 26) rfl h (fun h => ?_) (fun h => ?_)
    · refine m_aload_n C (dOf DX9_ticked 15 rfl) rfl 0 rfl ?_
      refine m_gR C (dOf DX9_ticked 16 rfl) kf_X9_7 fg_9_1 h (fun a6 h => ?_)
      refine m_iconst C (dOf DX9_ticked 17 rfl) (v := 3) ki_3 ?_
      refine m_dup2 C (dOf DX9_ticked 18 rfl) rfl rfl ?_
      refine m_aI C (dOf DX9_ticked 19 rfl) h (fun v7 h => ?_)
      refine m_iload_n C (dOf DX9_ticked 20 rfl) rfl 1 rfl ?_
      refine m_iadd C (dOf DX9_ticked 21 rfl) h (fun v8 h => ?_)
      refine m_sI C (dOf DX9_ticked 22 rfl) h (fun S9 h => ?_)
      refine m_aload_n C (dOf DX9_ticked 23 rfl) rfl 0 rfl ?_
      refine m_gR C (dOf DX9_ticked 24 rfl) kf_X9_7 fg_9_1 h (fun a10 h => ?_)
      refine m_iconst C (dOf DX9_ticked 25 rfl) (v := 3) ki_3 ?_
      refine m_aI C (dOf DX9_ticked 26 rfl) h (fun v11 h => ?_)
      exact m_iret C rfl (dOf DX9_ticked 27 rfl) h
    · exact m_sub [] rfl (hj2 _ h)
/-- TraceRingModel.masked(I)Z -/
def f_X9_masked (S : St) (b0 : Nat) (p1 : Int32) : Option (Int32 × St) :=
  cP_ (f_X9_in S p1 0 15) fun v1 =>
  jn_ (fun (x2 : Unit) =>
    rz_ 0 S
  ) fun j2 =>
  if v1 = 0 then
    j2 ()
  else
    gR_ S b0 9 1 fun a3 =>
    aI_ S a3 11 9 fun v4 =>
    if v4 = p1 then
      j2 ()
    else
      gR_ S b0 9 1 fun a5 =>
      sI_ S a5 9 p1 fun S6 =>
      rz_ 1 S6
set_option maxRecDepth 100000 in
set_option maxHeartbeats 4000000 in
theorem c_X9_masked (l : Launch) (G : Gx) (S : St) (b0 : Nat) (p1 : Int32) (o : (Int32 × St)) (h : f_X9_masked S b0 p1 = some o) : Met l yX9_masked (Cond.code yX9_masked cX9_masked 2 (some (.boolean)) :: wAll) ({ frames := 1, cells := 0, slots := 0, locals := 22 } : Room) (va_Pc [.ref (G.1 + b0), .int p1] (wPre G S)) (qI G o) 0 0 (wA G) := by
  refine m_start (by decide +kernel) (Nat.le_of_ble_eq_true rfl) (fun X C => ?_)
  unfold f_X9_masked at h
  show WM X G 2 0 0 (wQ X G (qI G o) 0 0) 0 [(0, .ref (G.1 + b0)), (1, .int p1)] [] S
  refine m_iload_n C (dOf DX9_masked 0 rfl) rfl 1 rfl ?_
  refine m_iconst C (dOf DX9_masked 1 rfl) (v := 0) ki_0 ?_
  refine m_bipush C (dOf DX9_masked 2 rfl) (v := 15) kb_15 ?_
  refine m_cP (st := []) h (fun o' ho H locs ls hl hr hs => ⟨_, m_runS C (dOf DX9_masked 3 rfl) km_X9_76 ks_X9_in rfl (by decide) ⟨rfl, rfl⟩ (c_X9_in _ G _ _ _ _ o' ho) rfl rfl (Nat.le_of_ble_eq_true rfl) ⟨Nat.le_refl _, Nat.le_refl _⟩ hl hr hs⟩) (fun v1 h => ?_)
  refine m_jn (J := fun (x2 : Unit) => WM X G 2 0 0 (wQ X G (qI G o) 0 0) 21 [] [] S) h (fun x2 h => ?_) (fun j2 hj2 h => ?_)
  · refine m_iconst C (dOf DX9_masked 11 rfl) (v := 0) ki_0 ?_
    exact m_zret C rfl (dOf DX9_masked 12 rfl) h
  refine m_ifeq C (dOf DX9_masked 4 rfl) (tgt := 21) rfl h (fun h => ?_) (fun h => ?_)
  · exact m_sub [] rfl (hj2 _ h)
  · refine m_aload_n C (dOf DX9_masked 5 rfl) rfl 0 rfl ?_
    refine m_gR C (dOf DX9_masked 6 rfl) kf_X9_7 fg_9_1 h (fun a3 h => ?_)
    refine m_bipush C (dOf DX9_masked 7 rfl) (v := 9) kb_9 ?_
    refine m_aI C (dOf DX9_masked 8 rfl) h (fun v4 h => ?_)
    refine m_iload_n C (dOf DX9_masked 9 rfl) rfl 1 rfl ?_
    refine m_icmpne C (dOf DX9_masked 10 rfl) (tgt := 23) rfl h (fun h => ?_) (fun h => ?_)
    · refine m_aload_n C (dOf DX9_masked 13 rfl) rfl 0 rfl ?_
      refine m_gR C (dOf DX9_masked 14 rfl) kf_X9_7 fg_9_1 h (fun a5 h => ?_)
      refine m_bipush C (dOf DX9_masked 15 rfl) (v := 9) kb_9 ?_
      refine m_iload_n C (dOf DX9_masked 16 rfl) rfl 1 rfl ?_
      refine m_sI C (dOf DX9_masked 17 rfl) h (fun S6 h => ?_)
      refine m_iconst C (dOf DX9_masked 18 rfl) (v := 1) ki_1 ?_
      exact m_zret C rfl (dOf DX9_masked 19 rfl) h
    · exact m_sub [] rfl (hj2 _ h)
/-- TraceRingModel.readMany(I)Z -/
def f_X9_readMany (S : St) (b0 : Nat) (p1 : Int32) : Option (Int32 × St) :=
  lp_ (fun self1 (x1 : Int32 × St) =>
    jn_ (fun (x2 : St) =>
      jn_ (fun (x3 : Int32) =>
        rz_ x3 x2
      ) fun j3 =>
      if x1.1 ≤ 0 then
        j3 (0)
      else
        j3 (1)
    ) fun j2 =>
    if p1 ≤ x1.1 then
      j2 (x1.2)
    else
      ck_ x1.2 b0 9 <| cI_ (f_X9_readOne x1.2 b0) fun v5 S4 =>
      if v5 = (-1) then
        j2 (S4)
      else
        lt_ (x1.1 + 1) fun v6 =>
        self1 (v6, S4)
  ) FU (0, S)
set_option maxRecDepth 100000 in
set_option maxHeartbeats 4000000 in
theorem c_X9_readMany (l : Launch) (G : Gx) (S : St) (b0 : Nat) (p1 : Int32) (o : (Int32 × St)) (h : f_X9_readMany S b0 p1 = some o) : Met l yX9_readMany (Cond.code yX9_readMany cX9_readMany 3 (some (.boolean)) :: wAll) ({ frames := 3, cells := 0, slots := 0, locals := 70 } : Room) (va_Pc [.ref (G.1 + b0), .int p1] (wPre G S)) (qI G o) 0 0 (wA G) := by
  refine m_start (by decide +kernel) (Nat.le_of_ble_eq_true rfl) (fun X C => ?_)
  unfold f_X9_readMany at h
  show WM X G 3 0 0 (wQ X G (qI G o) 0 0) 0 [(0, .ref (G.1 + b0)), (1, .int p1)] [] S
  refine m_iconst C (dOf DX9_readMany 0 rfl) (v := 0) ki_0 ?_
  refine m_istore_n C (dOf DX9_readMany 1 rfl) rfl (by decide) (lv' := [(2, .int 0), (0, .ref (G.1 + b0)), (1, .int p1)]) rfl ?_
  refine m_sub [1, 2, 0] rfl (m_lp (J := fun (x1 : Int32 × St) => WM X G 3 0 0 (wQ X G (qI G o) 0 0) 2 [(0, .ref (G.1 + b0)), (1, .int p1), (2, .int x1.1)] [] x1.2) h (fun self1 hself1 x1 h => ?_))
  refine m_iload_n C (dOf DX9_readMany 2 rfl) rfl 2 rfl ?_
  refine m_iload_n C (dOf DX9_readMany 3 rfl) rfl 1 rfl ?_
  refine m_jn (J := fun (x2 : St) => WM X G 3 0 0 (wQ X G (qI G o) 0 0) 21 [(2, .int x1.1)] [] x2) h (fun x2 h => ?_) (fun j2 hj2 h => ?_)
  · refine m_iload_n C (dOf DX9_readMany 11 rfl) rfl 0 rfl ?_
    refine m_jn (J := fun (x3 : Int32) => WM X G 3 0 0 (wQ X G (qI G o) 0 0) 30 [] [.int x3] x2) h (fun x3 h => ?_) (fun j3 hj3 h => ?_)
    · exact m_zret C rfl (dOf DX9_readMany 16 rfl) h
    refine m_ifle C (dOf DX9_readMany 12 rfl) (tgt := 29) rfl h (fun h => ?_) (fun h => ?_)
    · refine m_iconst C (dOf DX9_readMany 15 rfl) (v := 0) ki_0 ?_
      exact m_sub [] rfl (hj3 _ h)
    · refine m_iconst C (dOf DX9_readMany 13 rfl) (v := 1) ki_1 ?_
      refine m_goto C (dOf DX9_readMany 14 rfl) (tgt := 30) rfl ?_
      exact m_sub [] rfl (hj3 _ h)
  refine m_icmpge C (dOf DX9_readMany 4 rfl) (tgt := 21) rfl h (fun h => ?_) (fun h => ?_)
  · exact m_sub [2] rfl (hj2 _ h)
  · refine m_aload_n C (dOf DX9_readMany 5 rfl) rfl 0 rfl ?_
    obtain ⟨hc, h⟩ := ck_spec h
    refine m_cI (st := []) h (fun o' ho H locs ls hl hr hs => ⟨_, m_runV C (dOf DX9_readMany 6 rfl) km_X9_217 ky_X9_readOne (by decide) ⟨rfl, rfl⟩ (c_X9_readOne _ G _ _ o' ho) hc.1 hc.2 (by decide) rfl rfl rfl (Nat.le_of_ble_eq_true rfl) ⟨Nat.le_refl _, Nat.le_refl _⟩ hl hr hs⟩) (fun v5 S4 h => ?_)
    refine m_iconst C (dOf DX9_readMany 7 rfl) (v := (-1)) ki_m1 ?_
    refine m_icmpeq C (dOf DX9_readMany 8 rfl) (tgt := 21) rfl h (fun h => ?_) (fun h => ?_)
    · exact m_sub [2] rfl (hj2 _ h)
    · refine m_iinc C (dOf DX9_readMany 9 rfl) (w := 1) ki_1 2 rfl (by decide) h (fun v6 h => ⟨[(2, .int v6), (0, .ref (G.1 + b0)), (1, .int p1)], rfl, ?_⟩)
      refine m_goto C (dOf DX9_readMany 10 rfl) (tgt := 2) rfl ?_
      exact m_sub [1, 2, 0] rfl (hself1 _ h)
/-- TraceRingModel.isDone(JII)Z -/
def f_X9_isDone (S : St) (b0 : Nat) (q1 : Int64) (p3 : Int32) (p4 : Int32) : Option (Int32 × St) :=
  lt_ (lg_cmp q1 1953063787 : Int32) fun v1 =>
  if v1 = 0 then
    ck_ S b0 9 <| cI_ (f_X9_ticked S b0 p3) fun v38 S37 =>
    jn_ (fun (x39 : Int32) =>
      rz_ x39 S37
    ) fun j39 =>
    if v38 = (-1) then
      j39 (0)
    else
      j39 (1)
  else
    lt_ (lg_cmp q1 1952541541 : Int32) fun v2 =>
    if v2 = 0 then
      ck_ S b0 9 <| cI_ (f_X9_taken S b0 p3 p4) fun v35 S34 =>
      jn_ (fun (x36 : Int32) =>
        rz_ x36 S34
      ) fun j36 =>
      if v35 = (-2) then
        j36 (0)
      else
        j36 (1)
    else
      lt_ (lg_cmp q1 7370100 : Int32) fun v3 =>
      if v3 = 0 then
        ck_ S b0 9 <| cI_ (f_X9_puts S b0 p3 p4) fun v32 S31 =>
        jn_ (fun (x33 : Int32) =>
          rz_ x33 S31
        ) fun j33 =>
        if v32 = (-1) then
          j33 (0)
        else
          j33 (1)
      else
        lt_ (lg_cmp q1 6647396 : Int32) fun v4 =>
        jn_ (fun (x5 : Unit) =>
          lt_ (lg_cmp q1 6647396 : Int32) fun v6 =>
          jn_ (fun (x7 : Int32 × St) =>
            jn_ (fun (x8 : Int32) =>
              rz_ x8 x7.2
            ) fun j8 =>
            if x7.1 = (-1) then
              j8 (0)
            else
              j8 (1)
          ) fun j7 =>
          if v6 = 0 then
            ck_ S b0 9 <| cI_ (f_X9_ended S b0 p3) fun v12 S11 =>
            j7 (v12, S11)
          else
            ck_ S b0 9 <| cI_ (f_X9_dropped S b0 p3) fun v10 S9 =>
            j7 (v10, S9)
        ) fun j5 =>
        if v4 = 0 then
          j5 ()
        else
          lt_ (lg_cmp q1 1685221232 : Int32) fun v13 =>
          if v13 = 0 then
            j5 ()
          else
            lt_ (lg_cmp q1 1937203568 : Int32) fun v14 =>
            jn_ (fun (x15 : Unit) =>
              lt_ (lg_cmp q1 439956431717 : Int32) fun v16 =>
              jn_ (fun (x17 : Int32) =>
                ck_ S b0 9 <| cI_ (f_X9_swapped S b0 x17) fun v19 S18 =>
                jn_ (fun (x20 : Int32) =>
                  rz_ x20 S18
                ) fun j20 =>
                if v19 = (-1) then
                  j20 (0)
                else
                  j20 (1)
              ) fun j17 =>
              if v16 = 0 then
                j17 (1)
              else
                j17 (0)
            ) fun j15 =>
            if v14 = 0 then
              j15 ()
            else
              lt_ (lg_cmp q1 439956431717 : Int32) fun v21 =>
              if v21 = 0 then
                j15 ()
              else
                lt_ (lg_cmp q1 1919246692 : Int32) fun v22 =>
                jn_ (fun (x23 : Int32 × St) =>
                  rz_ x23.1 x23.2
                ) fun j23 =>
                if v22 = 0 then
                  ck_ S b0 9 <| cI_ (f_X9_readMany S b0 p3) fun v30 S29 =>
                  j23 (v30, S29)
                else
                  lt_ (lg_cmp q1 1835103083 : Int32) fun v24 =>
                  if v24 = 0 then
                    ck_ S b0 9 <| cI_ (f_X9_masked S b0 p3) fun v28 S27 =>
                    j23 (v28, S27)
                  else
                    ck_ S b0 9 <| cI_ (f_X9_resized S b0 p3) fun v26 S25 =>
                    if v26 = (-1) then
                      j23 (0, S25)
                    else
                      j23 (1, S25)
set_option maxRecDepth 100000 in
set_option maxHeartbeats 4000000 in
theorem c_X9_isDone (l : Launch) (G : Gx) (S : St) (b0 : Nat) (q1 : Int64) (p3 : Int32) (p4 : Int32) (o : (Int32 × St)) (h : f_X9_isDone S b0 q1 p3 p4 = some o) : Met l yX9_isDone (Cond.code yX9_isDone cX9_isDone 5 (some (.boolean)) :: wAll) ({ frames := 6, cells := 0, slots := 0, locals := 134 } : Room) (va_Pc [.ref (G.1 + b0), .long q1, .int p3, .int p4] (wPre G S)) (qI G o) 0 0 (wA G) := by
  refine m_start (by decide +kernel) (Nat.le_of_ble_eq_true rfl) (fun X C => ?_)
  unfold f_X9_isDone at h
  show WM X G 5 0 0 (wQ X G (qI G o) 0 0) 0 [(0, .ref (G.1 + b0)), (1, .long q1), (3, .int p3), (4, .int p4)] [] S
  refine m_lload_n C (dOf DX9_isDone 0 rfl) rfl 1 rfl ?_
  refine m_ldc2 C (dOf DX9_isDone 1 rfl) kc_X9_115 ?_
  refine m_lcmp C (dOf DX9_isDone 2 rfl) h (fun v1 h => ?_)
  refine m_ifne C (dOf DX9_isDone 3 rfl) (tgt := 23) rfl h (fun h => ?_) (fun h => ?_)
  · refine m_lload_n C (dOf DX9_isDone 13 rfl) rfl 1 rfl ?_
    refine m_ldc2 C (dOf DX9_isDone 14 rfl) kc_X9_111 ?_
    refine m_lcmp C (dOf DX9_isDone 15 rfl) h (fun v2 h => ?_)
    refine m_ifne C (dOf DX9_isDone 16 rfl) (tgt := 49) rfl h (fun h => ?_) (fun h => ?_)
    · refine m_lload_n C (dOf DX9_isDone 27 rfl) rfl 1 rfl ?_
      refine m_ldc2 C (dOf DX9_isDone 28 rfl) kc_X9_113 ?_
      refine m_lcmp C (dOf DX9_isDone 29 rfl) h (fun v3 h => ?_)
      refine m_ifne C (dOf DX9_isDone 30 rfl) (tgt := 74) rfl h (fun h => ?_) (fun h => ?_)
      · refine m_lload_n C (dOf DX9_isDone 41 rfl) rfl 1 rfl ?_
        refine m_ldc2 C (dOf DX9_isDone 42 rfl) kc_X9_117 ?_
        refine m_lcmp C (dOf DX9_isDone 43 rfl) h (fun v4 h => ?_)
        refine m_jn (J := fun (x5 : Unit) => WM X G 5 0 0 (wQ X G (qI G o) 0 0) 90 [(0, .ref (G.1 + b0)), (1, .long q1), (3, .int p3)] [] S) h (fun x5 h => ?_) (fun j5 hj5 h => ?_)
        · refine m_lload_n C (dOf DX9_isDone 49 rfl) rfl 1 rfl ?_
          refine m_ldc2 C (dOf DX9_isDone 50 rfl) kc_X9_117 ?_
          refine m_lcmp C (dOf DX9_isDone 51 rfl) h (fun v6 h => ?_)
          refine m_jn (J := fun (x7 : Int32 × St) => WM X G 5 0 0 (wQ X G (qI G o) 0 0) 111 [] [.int x7.1] x7.2) h (fun x7 h => ?_) (fun j7 hj7 h => ?_)
          · refine m_iconst C (dOf DX9_isDone 60 rfl) (v := (-1)) ki_m1 ?_
            refine m_jn (J := fun (x8 : Int32) => WM X G 5 0 0 (wQ X G (qI G o) 0 0) 120 [] [.int x8] x7.2) h (fun x8 h => ?_) (fun j8 hj8 h => ?_)
            · exact m_zret C rfl (dOf DX9_isDone 65 rfl) h
            refine m_icmpeq C (dOf DX9_isDone 61 rfl) (tgt := 119) rfl h (fun h => ?_) (fun h => ?_)
            · refine m_iconst C (dOf DX9_isDone 64 rfl) (v := 0) ki_0 ?_
              exact m_sub [] rfl (hj8 _ h)
            · refine m_iconst C (dOf DX9_isDone 62 rfl) (v := 1) ki_1 ?_
              refine m_goto C (dOf DX9_isDone 63 rfl) (tgt := 120) rfl ?_
              exact m_sub [] rfl (hj8 _ h)
          refine m_ifne C (dOf DX9_isDone 52 rfl) (tgt := 106) rfl h (fun h => ?_) (fun h => ?_)
          · refine m_aload_n C (dOf DX9_isDone 57 rfl) rfl 0 rfl ?_
            refine m_iload_n C (dOf DX9_isDone 58 rfl) rfl 2 rfl ?_
            obtain ⟨hc, h⟩ := ck_spec h
            refine m_cI (st := []) h (fun o' ho H locs ls hl hr hs => ⟨_, m_runV C (dOf DX9_isDone 59 rfl) km_X9_232 ky_X9_dropped (by decide) ⟨rfl, rfl⟩ (c_X9_dropped _ G _ _ _ o' ho) hc.1 hc.2 (by decide) rfl rfl rfl (Nat.le_of_ble_eq_true rfl) ⟨Nat.le_refl _, Nat.le_refl _⟩ hl hr hs⟩) (fun v10 S9 h => ?_)
            exact m_sub [] rfl (hj7 _ h)
          · refine m_aload_n C (dOf DX9_isDone 53 rfl) rfl 0 rfl ?_
            refine m_iload_n C (dOf DX9_isDone 54 rfl) rfl 2 rfl ?_
            obtain ⟨hc, h⟩ := ck_spec h
            refine m_cI (st := []) h (fun o' ho H locs ls hl hr hs => ⟨_, m_runV C (dOf DX9_isDone 55 rfl) km_X9_229 ky_X9_ended (by decide) ⟨rfl, rfl⟩ (c_X9_ended _ G _ _ _ o' ho) hc.1 hc.2 (by decide) rfl rfl rfl (Nat.le_of_ble_eq_true rfl) ⟨Nat.le_refl _, Nat.le_refl _⟩ hl hr hs⟩) (fun v12 S11 h => ?_)
            refine m_goto C (dOf DX9_isDone 56 rfl) (tgt := 111) rfl ?_
            exact m_sub [] rfl (hj7 _ h)
        refine m_ifeq C (dOf DX9_isDone 44 rfl) (tgt := 90) rfl h (fun h => ?_) (fun h => ?_)
        · exact m_sub [0, 1, 2] rfl (hj5 _ h)
        · refine m_lload_n C (dOf DX9_isDone 45 rfl) rfl 1 rfl ?_
          refine m_ldc2 C (dOf DX9_isDone 46 rfl) kc_X9_119 ?_
          refine m_lcmp C (dOf DX9_isDone 47 rfl) h (fun v13 h => ?_)
          refine m_ifne C (dOf DX9_isDone 48 rfl) (tgt := 121) rfl h (fun h => ?_) (fun h => ?_)
          · refine m_lload_n C (dOf DX9_isDone 66 rfl) rfl 1 rfl ?_
            refine m_ldc2 C (dOf DX9_isDone 67 rfl) kc_X9_107 ?_
            refine m_lcmp C (dOf DX9_isDone 68 rfl) h (fun v14 h => ?_)
            refine m_jn (J := fun (x15 : Unit) => WM X G 5 0 0 (wQ X G (qI G o) 0 0) 137 [(0, .ref (G.1 + b0)), (1, .long q1)] [] S) h (fun x15 h => ?_) (fun j15 hj15 h => ?_)
            · refine m_aload_n C (dOf DX9_isDone 74 rfl) rfl 0 rfl ?_
              refine m_lload_n C (dOf DX9_isDone 75 rfl) rfl 1 rfl ?_
              refine m_ldc2 C (dOf DX9_isDone 76 rfl) kc_X9_109 ?_
              refine m_lcmp C (dOf DX9_isDone 77 rfl) h (fun v16 h => ?_)
              refine m_jn (J := fun (x17 : Int32) => WM X G 5 0 0 (wQ X G (qI G o) 0 0) 151 [] [.int x17, .ref (G.1 + b0)] S) h (fun x17 h => ?_) (fun j17 hj17 h => ?_)
              · obtain ⟨hc, h⟩ := ck_spec h
                refine m_cI (st := []) h (fun o' ho H locs ls hl hr hs => ⟨_, m_runV C (dOf DX9_isDone 82 rfl) km_X9_235 ky_X9_swapped (by decide) ⟨rfl, rfl⟩ (c_X9_swapped _ G _ _ _ o' ho) hc.1 hc.2 (by decide) rfl rfl rfl (Nat.le_of_ble_eq_true rfl) ⟨Nat.le_refl _, Nat.le_refl _⟩ hl hr hs⟩) (fun v19 S18 h => ?_)
                refine m_iconst C (dOf DX9_isDone 83 rfl) (v := (-1)) ki_m1 ?_
                refine m_jn (J := fun (x20 : Int32) => WM X G 5 0 0 (wQ X G (qI G o) 0 0) 163 [] [.int x20] S18) h (fun x20 h => ?_) (fun j20 hj20 h => ?_)
                · exact m_zret C rfl (dOf DX9_isDone 88 rfl) h
                refine m_icmpeq C (dOf DX9_isDone 84 rfl) (tgt := 162) rfl h (fun h => ?_) (fun h => ?_)
                · refine m_iconst C (dOf DX9_isDone 87 rfl) (v := 0) ki_0 ?_
                  exact m_sub [] rfl (hj20 _ h)
                · refine m_iconst C (dOf DX9_isDone 85 rfl) (v := 1) ki_1 ?_
                  refine m_goto C (dOf DX9_isDone 86 rfl) (tgt := 163) rfl ?_
                  exact m_sub [] rfl (hj20 _ h)
              refine m_ifne C (dOf DX9_isDone 78 rfl) (tgt := 150) rfl h (fun h => ?_) (fun h => ?_)
              · refine m_iconst C (dOf DX9_isDone 81 rfl) (v := 0) ki_0 ?_
                exact m_sub [] rfl (hj17 _ h)
              · refine m_iconst C (dOf DX9_isDone 79 rfl) (v := 1) ki_1 ?_
                refine m_goto C (dOf DX9_isDone 80 rfl) (tgt := 151) rfl ?_
                exact m_sub [] rfl (hj17 _ h)
            refine m_ifeq C (dOf DX9_isDone 69 rfl) (tgt := 137) rfl h (fun h => ?_) (fun h => ?_)
            · exact m_sub [0, 1] rfl (hj15 _ h)
            · refine m_lload_n C (dOf DX9_isDone 70 rfl) rfl 1 rfl ?_
              refine m_ldc2 C (dOf DX9_isDone 71 rfl) kc_X9_109 ?_
              refine m_lcmp C (dOf DX9_isDone 72 rfl) h (fun v21 h => ?_)
              refine m_ifne C (dOf DX9_isDone 73 rfl) (tgt := 164) rfl h (fun h => ?_) (fun h => ?_)
              · refine m_lload_n C (dOf DX9_isDone 89 rfl) rfl 1 rfl ?_
                refine m_ldc2 C (dOf DX9_isDone 90 rfl) kc_X9_121 ?_
                refine m_lcmp C (dOf DX9_isDone 91 rfl) h (fun v22 h => ?_)
                refine m_jn (J := fun (x23 : Int32 × St) => WM X G 5 0 0 (wQ X G (qI G o) 0 0) 210 [] [.int x23.1] x23.2) h (fun x23 h => ?_) (fun j23 hj23 h => ?_)
                · exact m_zret C rfl (dOf DX9_isDone 113 rfl) h
                refine m_ifne C (dOf DX9_isDone 92 rfl) (tgt := 180) rfl h (fun h => ?_) (fun h => ?_)
                · refine m_lload_n C (dOf DX9_isDone 97 rfl) rfl 1 rfl ?_
                  refine m_ldc2 C (dOf DX9_isDone 98 rfl) kc_X9_123 ?_
                  refine m_lcmp C (dOf DX9_isDone 99 rfl) h (fun v24 h => ?_)
                  refine m_ifne C (dOf DX9_isDone 100 rfl) (tgt := 196) rfl h (fun h => ?_) (fun h => ?_)
                  · refine m_aload_n C (dOf DX9_isDone 105 rfl) rfl 0 rfl ?_
                    refine m_iload_n C (dOf DX9_isDone 106 rfl) rfl 2 rfl ?_
                    obtain ⟨hc, h⟩ := ck_spec h
                    refine m_cI (st := []) h (fun o' ho H locs ls hl hr hs => ⟨_, m_runV C (dOf DX9_isDone 107 rfl) km_X9_245 ky_X9_resized (by decide) ⟨rfl, rfl⟩ (c_X9_resized _ G _ _ _ o' ho) hc.1 hc.2 (by decide) rfl rfl rfl (Nat.le_of_ble_eq_true rfl) ⟨Nat.le_refl _, Nat.le_refl _⟩ hl hr hs⟩) (fun v26 S25 h => ?_)
                    refine m_iconst C (dOf DX9_isDone 108 rfl) (v := (-1)) ki_m1 ?_
                    refine m_icmpeq C (dOf DX9_isDone 109 rfl) (tgt := 209) rfl h (fun h => ?_) (fun h => ?_)
                    · refine m_iconst C (dOf DX9_isDone 112 rfl) (v := 0) ki_0 ?_
                      exact m_sub [] rfl (hj23 _ h)
                    · refine m_iconst C (dOf DX9_isDone 110 rfl) (v := 1) ki_1 ?_
                      refine m_goto C (dOf DX9_isDone 111 rfl) (tgt := 210) rfl ?_
                      exact m_sub [] rfl (hj23 _ h)
                  · refine m_aload_n C (dOf DX9_isDone 101 rfl) rfl 0 rfl ?_
                    refine m_iload_n C (dOf DX9_isDone 102 rfl) rfl 2 rfl ?_
                    obtain ⟨hc, h⟩ := ck_spec h
                    refine m_cI (st := []) h (fun o' ho H locs ls hl hr hs => ⟨_, m_runV C (dOf DX9_isDone 103 rfl) km_X9_242 ky_X9_masked (by decide) ⟨rfl, rfl⟩ (c_X9_masked _ G _ _ _ o' ho) hc.1 hc.2 (by decide) rfl rfl rfl (Nat.le_of_ble_eq_true rfl) ⟨Nat.le_refl _, Nat.le_refl _⟩ hl hr hs⟩) (fun v28 S27 h => ?_)
                    refine m_goto C (dOf DX9_isDone 104 rfl) (tgt := 210) rfl ?_
                    exact m_sub [] rfl (hj23 _ h)
                · refine m_aload_n C (dOf DX9_isDone 93 rfl) rfl 0 rfl ?_
                  refine m_iload_n C (dOf DX9_isDone 94 rfl) rfl 2 rfl ?_
                  obtain ⟨hc, h⟩ := ck_spec h
                  refine m_cI (st := []) h (fun o' ho H locs ls hl hr hs => ⟨_, m_runV C (dOf DX9_isDone 95 rfl) km_X9_239 ky_X9_readMany (by decide) ⟨rfl, rfl⟩ (c_X9_readMany _ G _ _ _ o' ho) hc.1 hc.2 (by decide) rfl rfl rfl (Nat.le_of_ble_eq_true rfl) ⟨Nat.le_refl _, Nat.le_refl _⟩ hl hr hs⟩) (fun v30 S29 h => ?_)
                  refine m_goto C (dOf DX9_isDone 96 rfl) (tgt := 210) rfl ?_
                  exact m_sub [] rfl (hj23 _ h)
              · exact m_sub [0, 1] rfl (hj15 _ h)
          · exact m_sub [0, 1, 2] rfl (hj5 _ h)
      · refine m_aload_n C (dOf DX9_isDone 31 rfl) rfl 0 rfl ?_
        refine m_iload_n C (dOf DX9_isDone 32 rfl) rfl 2 rfl ?_
        refine m_iload C (dOf DX9_isDone 33 rfl) 3 rfl ?_
        obtain ⟨hc, h⟩ := ck_spec h
        refine m_cI (st := []) h (fun o' ho H locs ls hl hr hs => ⟨_, m_runV C (dOf DX9_isDone 34 rfl) km_X9_226 ky_X9_puts (by decide) ⟨rfl, rfl⟩ (c_X9_puts _ G _ _ _ _ o' ho) hc.1 hc.2 (by decide) rfl rfl rfl (Nat.le_of_ble_eq_true rfl) ⟨Nat.le_refl _, Nat.le_refl _⟩ hl hr hs⟩) (fun v32 S31 h => ?_)
        refine m_iconst C (dOf DX9_isDone 35 rfl) (v := (-1)) ki_m1 ?_
        refine m_jn (J := fun (x33 : Int32) => WM X G 5 0 0 (wQ X G (qI G o) 0 0) 73 [] [.int x33] S31) h (fun x33 h => ?_) (fun j33 hj33 h => ?_)
        · exact m_zret C rfl (dOf DX9_isDone 40 rfl) h
        refine m_icmpeq C (dOf DX9_isDone 36 rfl) (tgt := 72) rfl h (fun h => ?_) (fun h => ?_)
        · refine m_iconst C (dOf DX9_isDone 39 rfl) (v := 0) ki_0 ?_
          exact m_sub [] rfl (hj33 _ h)
        · refine m_iconst C (dOf DX9_isDone 37 rfl) (v := 1) ki_1 ?_
          refine m_goto C (dOf DX9_isDone 38 rfl) (tgt := 73) rfl ?_
          exact m_sub [] rfl (hj33 _ h)
    · refine m_aload_n C (dOf DX9_isDone 17 rfl) rfl 0 rfl ?_
      refine m_iload_n C (dOf DX9_isDone 18 rfl) rfl 2 rfl ?_
      refine m_iload C (dOf DX9_isDone 19 rfl) 3 rfl ?_
      obtain ⟨hc, h⟩ := ck_spec h
      refine m_cI (st := []) h (fun o' ho H locs ls hl hr hs => ⟨_, m_runV C (dOf DX9_isDone 20 rfl) km_X9_223 ky_X9_taken (by decide) ⟨rfl, rfl⟩ (c_X9_taken _ G _ _ _ _ o' ho) hc.1 hc.2 (by decide) rfl rfl rfl (Nat.le_of_ble_eq_true rfl) ⟨Nat.le_refl _, Nat.le_refl _⟩ hl hr hs⟩) (fun v35 S34 h => ?_)
      refine m_bipush C (dOf DX9_isDone 21 rfl) (v := (-2)) kb_m2 ?_
      refine m_jn (J := fun (x36 : Int32) => WM X G 5 0 0 (wQ X G (qI G o) 0 0) 48 [] [.int x36] S34) h (fun x36 h => ?_) (fun j36 hj36 h => ?_)
      · exact m_zret C rfl (dOf DX9_isDone 26 rfl) h
      refine m_icmpeq C (dOf DX9_isDone 22 rfl) (tgt := 47) rfl h (fun h => ?_) (fun h => ?_)
      · refine m_iconst C (dOf DX9_isDone 25 rfl) (v := 0) ki_0 ?_
        exact m_sub [] rfl (hj36 _ h)
      · refine m_iconst C (dOf DX9_isDone 23 rfl) (v := 1) ki_1 ?_
        refine m_goto C (dOf DX9_isDone 24 rfl) (tgt := 48) rfl ?_
        exact m_sub [] rfl (hj36 _ h)
  · refine m_aload_n C (dOf DX9_isDone 4 rfl) rfl 0 rfl ?_
    refine m_iload_n C (dOf DX9_isDone 5 rfl) rfl 2 rfl ?_
    obtain ⟨hc, h⟩ := ck_spec h
    refine m_cI (st := []) h (fun o' ho H locs ls hl hr hs => ⟨_, m_runV C (dOf DX9_isDone 6 rfl) km_X9_220 ky_X9_ticked (by decide) ⟨rfl, rfl⟩ (c_X9_ticked _ G _ _ _ o' ho) hc.1 hc.2 (by decide) rfl rfl rfl (Nat.le_of_ble_eq_true rfl) ⟨Nat.le_refl _, Nat.le_refl _⟩ hl hr hs⟩) (fun v38 S37 h => ?_)
    refine m_iconst C (dOf DX9_isDone 7 rfl) (v := (-1)) ki_m1 ?_
    refine m_jn (J := fun (x39 : Int32) => WM X G 5 0 0 (wQ X G (qI G o) 0 0) 22 [] [.int x39] S37) h (fun x39 h => ?_) (fun j39 hj39 h => ?_)
    · exact m_zret C rfl (dOf DX9_isDone 12 rfl) h
    refine m_icmpeq C (dOf DX9_isDone 8 rfl) (tgt := 21) rfl h (fun h => ?_) (fun h => ?_)
    · refine m_iconst C (dOf DX9_isDone 11 rfl) (v := 0) ki_0 ?_
      exact m_sub [] rfl (hj39 _ h)
    · refine m_iconst C (dOf DX9_isDone 9 rfl) (v := 1) ki_1 ?_
      refine m_goto C (dOf DX9_isDone 10 rfl) (tgt := 22) rfl ?_
      exact m_sub [] rfl (hj39 _ h)
/-- TraceRingModel.script()I -/
def f_X9_script (S : St) (b0 : Nat) : Option (Int32 × St) :=
  pI_ S b0 9 0 0 fun S1 =>
  ck_ S1 b0 9 <| cV_ (f_X9_readsAll S1 b0 0) fun S2 =>
  gR_ S2 b0 9 1 fun a3 =>
  aI_ S2 a3 11 986 fun v4 =>
  if v4 = 0 then
    lp_ (fun self5 (x5 : Int32 × St) =>
      gI_ x5.2 b0 9 18 fun v6 =>
      jn_ (fun (x7 : St) =>
        rt_ (x5.1, x7)
      ) fun j7 =>
      if v6 ≤ x5.1 then
        j7 (x5.2)
      else
        gR_ x5.2 b0 9 16 fun a8 =>
        aJ_ x5.2 a8 x5.1 fun v9 =>
        gR_ x5.2 b0 9 17 fun a10 =>
        lt_ (2 * x5.1 : Int32) fun v11 =>
        aI_ x5.2 a10 11 v11 fun v12 =>
        gR_ x5.2 b0 9 17 fun a13 =>
        lt_ (2 * x5.1 : Int32) fun v14 =>
        lt_ (v14 + 1 : Int32) fun v15 =>
        aI_ x5.2 a13 11 v15 fun v16 =>
        ck_ x5.2 b0 9 <| cI_ (f_X9_isDone x5.2 b0 v9 v12 v16) fun v18 S17 =>
        if v18 = 0 then
          j7 (S17)
        else
          lt_ (x5.1 + 1) fun v19 =>
          self5 (v19, S17)
    ) FU (0, S2)
  else
    rt_ ((-1), S2)
set_option maxRecDepth 100000 in
set_option maxHeartbeats 4000000 in
theorem c_X9_script (l : Launch) (G : Gx) (S : St) (b0 : Nat) (o : (Int32 × St)) (h : f_X9_script S b0 = some o) : Met l yX9_script (Cond.code yX9_script cX9_script 2 (some (.int)) :: wAll) ({ frames := 7, cells := 0, slots := 0, locals := 158 } : Room) (va_Pc [.ref (G.1 + b0)] (wPre G S)) (qI G o) 0 0 (wA G) := by
  refine m_start (by decide +kernel) (Nat.le_of_ble_eq_true rfl) (fun X C => ?_)
  unfold f_X9_script at h
  show WM X G 2 0 0 (wQ X G (qI G o) 0 0) 0 [(0, .ref (G.1 + b0))] [] S
  refine m_aload_n C (dOf DX9_script 0 rfl) rfl 0 rfl ?_
  refine m_iconst C (dOf DX9_script 1 rfl) (v := 0) ki_0 ?_
  refine m_pI C (dOf DX9_script 2 rfl) kf_X9_51 fp_9_0 h (fun S1 h => ?_)
  refine m_aload_n C (dOf DX9_script 3 rfl) rfl 0 rfl ?_
  refine m_iconst C (dOf DX9_script 4 rfl) (v := 0) ki_0 ?_
  obtain ⟨hc, h⟩ := ck_spec h
  refine m_cV (st := []) h (fun o' ho H locs ls hl hr hs => ⟨_, m_runV C (dOf DX9_script 5 rfl) km_X9_137 ky_X9_readsAll (by decide) ⟨rfl, rfl⟩ (c_X9_readsAll _ G _ _ _ o' ho) hc.1 hc.2 (by decide) rfl rfl rfl (Nat.le_of_ble_eq_true rfl) ⟨Nat.le_refl _, Nat.le_refl _⟩ hl hr hs⟩) (fun S2 h => ?_)
  refine m_aload_n C (dOf DX9_script 6 rfl) rfl 0 rfl ?_
  refine m_gR C (dOf DX9_script 7 rfl) kf_X9_7 fg_9_1 h (fun a3 h => ?_)
  refine m_sipush C (dOf DX9_script 8 rfl) (v := 986) ks_986 ?_
  refine m_aI C (dOf DX9_script 9 rfl) h (fun v4 h => ?_)
  refine m_ifeq C (dOf DX9_script 10 rfl) (tgt := 23) rfl h (fun h => ?_) (fun h => ?_)
  · refine m_iconst C (dOf DX9_script 13 rfl) (v := 0) ki_0 ?_
    refine m_istore_n C (dOf DX9_script 14 rfl) rfl (by decide) (lv' := [(1, .int 0), (0, .ref (G.1 + b0))]) rfl ?_
    refine m_sub [1, 0] rfl (m_lp (J := fun (x5 : Int32 × St) => WM X G 2 0 0 (wQ X G (qI G o) 0 0) 25 [(0, .ref (G.1 + b0)), (1, .int x5.1)] [] x5.2) h (fun self5 hself5 x5 h => ?_))
    refine m_iload_n C (dOf DX9_script 15 rfl) rfl 1 rfl ?_
    refine m_aload_n C (dOf DX9_script 16 rfl) rfl 0 rfl ?_
    refine m_gI C (dOf DX9_script 17 rfl) kf_X9_127 fg_9_18 h (fun v6 h => ?_)
    refine m_jn (J := fun (x7 : St) => WM X G 2 0 0 (wQ X G (qI G o) 0 0) 70 [(1, .int x5.1)] [] x7) h (fun x7 h => ?_) (fun j7 hj7 h => ?_)
    · refine m_iload_n C (dOf DX9_script 42 rfl) rfl 0 rfl ?_
      exact m_iret C rfl (dOf DX9_script 43 rfl) h
    refine m_icmpge C (dOf DX9_script 18 rfl) (tgt := 70) rfl h (fun h => ?_) (fun h => ?_)
    · exact m_sub [1] rfl (hj7 _ h)
    · refine m_aload_n C (dOf DX9_script 19 rfl) rfl 0 rfl ?_
      refine m_aload_n C (dOf DX9_script 20 rfl) rfl 0 rfl ?_
      refine m_gR C (dOf DX9_script 21 rfl) kf_X9_24 fg_9_16 h (fun a8 h => ?_)
      refine m_iload_n C (dOf DX9_script 22 rfl) rfl 1 rfl ?_
      refine m_aJ C (dOf DX9_script 23 rfl) h (fun v9 h => ?_)
      refine m_aload_n C (dOf DX9_script 24 rfl) rfl 0 rfl ?_
      refine m_gR C (dOf DX9_script 25 rfl) kf_X9_28 fg_9_17 h (fun a10 h => ?_)
      refine m_iconst C (dOf DX9_script 26 rfl) (v := 2) ki_2 ?_
      refine m_iload_n C (dOf DX9_script 27 rfl) rfl 1 rfl ?_
      refine m_imul C (dOf DX9_script 28 rfl) h (fun v11 h => ?_)
      refine m_aI C (dOf DX9_script 29 rfl) h (fun v12 h => ?_)
      refine m_aload_n C (dOf DX9_script 30 rfl) rfl 0 rfl ?_
      refine m_gR C (dOf DX9_script 31 rfl) kf_X9_28 fg_9_17 h (fun a13 h => ?_)
      refine m_iconst C (dOf DX9_script 32 rfl) (v := 2) ki_2 ?_
      refine m_iload_n C (dOf DX9_script 33 rfl) rfl 1 rfl ?_
      refine m_imul C (dOf DX9_script 34 rfl) h (fun v14 h => ?_)
      refine m_iconst C (dOf DX9_script 35 rfl) (v := 1) ki_1 ?_
      refine m_iadd C (dOf DX9_script 36 rfl) h (fun v15 h => ?_)
      refine m_aI C (dOf DX9_script 37 rfl) h (fun v16 h => ?_)
      obtain ⟨hc, h⟩ := ck_spec h
      refine m_cI (st := []) h (fun o' ho H locs ls hl hr hs => ⟨_, m_runV C (dOf DX9_script 38 rfl) km_X9_248 ky_X9_isDone (by decide) ⟨rfl, rfl⟩ (c_X9_isDone _ G _ _ _ _ _ o' ho) hc.1 hc.2 (by decide) rfl rfl rfl (Nat.le_of_ble_eq_true rfl) ⟨Nat.le_refl _, Nat.le_refl _⟩ hl hr hs⟩) (fun v18 S17 h => ?_)
      refine m_ifeq C (dOf DX9_script 39 rfl) (tgt := 70) rfl h (fun h => ?_) (fun h => ?_)
      · exact m_sub [1] rfl (hj7 _ h)
      · refine m_iinc C (dOf DX9_script 40 rfl) (w := 1) ki_1 1 rfl (by decide) h (fun v19 h => ⟨[(1, .int v19), (0, .ref (G.1 + b0))], rfl, ?_⟩)
        refine m_goto C (dOf DX9_script 41 rfl) (tgt := 25) rfl ?_
        exact m_sub [1, 0] rfl (hself5 _ h)
  · refine m_iconst C (dOf DX9_script 11 rfl) (v := (-1)) ki_m1 ?_
    exact m_iret C rfl (dOf DX9_script 12 rfl) h
/-- TraceRingModel.drawn(I)I -/
def f_X9_drawn (S : St) (b0 : Nat) (p1 : Int32) : Option (Int32 × St) :=
  gI_ S b0 9 20 fun v1 =>
  lt_ (v1 * 1103515245 : Int32) fun v2 =>
  lt_ (v2 + 12345 : Int32) fun v3 =>
  pI_ S b0 9 20 v3 fun S4 =>
  gI_ S4 b0 9 20 fun v5 =>
  lt_ ((v5.toUInt32 >>> (Int32.toUInt32 16 &&& Int32.toUInt32 31)).toInt32 : Int32) fun v6 =>
  rm_ v6 p1 fun v7 =>
  rt_ (v7, S4)
set_option maxRecDepth 100000 in
set_option maxHeartbeats 4000000 in
theorem c_X9_drawn (l : Launch) (G : Gx) (S : St) (b0 : Nat) (p1 : Int32) (o : (Int32 × St)) (h : f_X9_drawn S b0 p1 = some o) : Met l yX9_drawn (Cond.code yX9_drawn cX9_drawn 2 (some (.int)) :: wAll) ({ frames := 0, cells := 0, slots := 0, locals := 0 } : Room) (va_Pc [.ref (G.1 + b0), .int p1] (wPre G S)) (qI G o) 0 0 (wA G) := by
  refine m_start (by decide +kernel) (Nat.le_of_ble_eq_true rfl) (fun X C => ?_)
  unfold f_X9_drawn at h
  show WM X G 2 0 0 (wQ X G (qI G o) 0 0) 0 [(0, .ref (G.1 + b0)), (1, .int p1)] [] S
  refine m_aload_n C (dOf DX9_drawn 0 rfl) rfl 0 rfl ?_
  refine m_aload_n C (dOf DX9_drawn 1 rfl) rfl 0 rfl ?_
  refine m_gI C (dOf DX9_drawn 2 rfl) kf_X9_252 fg_9_20 h (fun v1 h => ?_)
  refine m_ldc C (dOf DX9_drawn 3 rfl) kc_X9_255 ?_
  refine m_imul C (dOf DX9_drawn 4 rfl) h (fun v2 h => ?_)
  refine m_sipush C (dOf DX9_drawn 5 rfl) (v := 12345) ks_12345 ?_
  refine m_iadd C (dOf DX9_drawn 6 rfl) h (fun v3 h => ?_)
  refine m_pI C (dOf DX9_drawn 7 rfl) kf_X9_252 fp_9_20 h (fun S4 h => ?_)
  refine m_aload_n C (dOf DX9_drawn 8 rfl) rfl 0 rfl ?_
  refine m_gI C (dOf DX9_drawn 9 rfl) kf_X9_252 fg_9_20 h (fun v5 h => ?_)
  refine m_bipush C (dOf DX9_drawn 10 rfl) (v := 16) kb_16 ?_
  refine m_iushr C (dOf DX9_drawn 11 rfl) h (fun v6 h => ?_)
  refine m_iload_n C (dOf DX9_drawn 12 rfl) rfl 1 rfl ?_
  refine m_irem C (dOf DX9_drawn 13 rfl) h (fun v7 h => ?_)
  exact m_iret C rfl (dOf DX9_drawn 14 rfl) h
/-- TraceRingModel.blows()V -/
def f_X9_blows (S : St) (b0 : Nat) : Option St :=
  ck_ S b0 9 <| cI_ (f_X9_drawn S b0 10) fun v2 S1 =>
  ck_ S1 b0 9 <| cP_ (f_X9_innermost S1 b0) fun v3 =>
  jn_ (fun (x4 : St) =>
    rt_ x4
  ) fun j4 =>
  if v2 = 0 then
    ck_ S1 b0 9 <| cI_ (f_X9_drawn S1 b0 40) fun v30 S29 =>
    lt_ (1 + v30 : Int32) fun v31 =>
    ck_ S29 b0 9 <| cI_ (f_X9_ticked S29 b0 v31) fun v33 S32 =>
    j4 (S32)
  else
    if 5 ≤ v2 then
      if v2 = 5 then
        ck_ S1 b0 9 <| cI_ (f_X9_drawn S1 b0 256) fun v17 S16 =>
        ck_ S16 b0 9 <| cI_ (f_X9_puts S16 b0 v3 v17) fun v19 S18 =>
        j4 (S18)
      else
        if 8 ≤ v2 then
          if v2 = 8 then
            ck_ S1 b0 9 <| cI_ (f_X9_dropped S1 b0 v3) fun v13 S12 =>
            j4 (S12)
          else
            ck_ S1 b0 9 <| cI_ (f_X9_drawn S1 b0 2) fun v6 S5 =>
            jn_ (fun (x7 : Int32) =>
              ck_ S5 b0 9 <| cI_ (f_X9_swapped S5 b0 x7) fun v9 S8 =>
              ck_ S8 b0 9 <| cI_ (f_X9_readMany S8 b0 2) fun v11 S10 =>
              j4 (S10)
            ) fun j7 =>
            if v6 = 1 then
              j7 (1)
            else
              j7 (0)
        else
          ck_ S1 b0 9 <| cI_ (f_X9_ended S1 b0 v3) fun v15 S14 =>
          j4 (S14)
    else
      jn_ (fun (x20 : Int32 × St) =>
        j4 (x20.2)
      ) fun j20 =>
      if v3 = 3 then
        ck_ S1 b0 9 <| cI_ (f_X9_ended S1 b0 v3) fun v28 S27 =>
        j20 (v28, S27)
      else
        lt_ (v3 + 1 : Int32) fun v21 =>
        ck_ S1 b0 9 <| cI_ (f_X9_drawn S1 b0 8) fun v23 S22 =>
        lt_ (1 + v23 : Int32) fun v24 =>
        ck_ S22 b0 9 <| cI_ (f_X9_taken S22 b0 v21 v24) fun v26 S25 =>
        j20 (v26, S25)
set_option maxRecDepth 100000 in
set_option maxHeartbeats 4000000 in
theorem c_X9_blows (l : Launch) (G : Gx) (S : St) (b0 : Nat) (o : St) (h : f_X9_blows S b0 = some o) : Met l yX9_blows (Cond.code yX9_blows cX9_blows 5 none :: wAll) ({ frames := 6, cells := 0, slots := 0, locals := 134 } : Room) (va_Pc [.ref (G.1 + b0)] (wPre G S)) (qV G o) 0 0 (wA G) := by
  refine m_start (by decide +kernel) (Nat.le_of_ble_eq_true rfl) (fun X C => ?_)
  unfold f_X9_blows at h
  show WM X G 5 0 0 (wQ X G (qV G o) 0 0) 0 [(0, .ref (G.1 + b0))] [] S
  refine m_aload_n C (dOf DX9_blows 0 rfl) rfl 0 rfl ?_
  refine m_bipush C (dOf DX9_blows 1 rfl) (v := 10) kb_10 ?_
  obtain ⟨hc, h⟩ := ck_spec h
  refine m_cI (st := []) h (fun o' ho H locs ls hl hr hs => ⟨_, m_runV C (dOf DX9_blows 2 rfl) km_X9_256 ky_X9_drawn (by decide) ⟨rfl, rfl⟩ (c_X9_drawn _ G _ _ _ o' ho) hc.1 hc.2 (by decide) rfl rfl rfl (Nat.le_of_ble_eq_true rfl) ⟨Nat.le_refl _, Nat.le_refl _⟩ hl hr hs⟩) (fun v2 S1 h => ?_)
  refine m_istore_n C (dOf DX9_blows 3 rfl) rfl (by decide) (lv' := [(1, .int v2), (0, .ref (G.1 + b0))]) rfl ?_
  refine m_aload_n C (dOf DX9_blows 4 rfl) rfl 1 rfl ?_
  obtain ⟨hc, h⟩ := ck_spec h
  refine m_cP (st := []) h (fun o' ho H locs ls hl hr hs => ⟨_, m_runV C (dOf DX9_blows 5 rfl) km_X9_177 ky_X9_innermost (by decide) ⟨rfl, rfl⟩ (c_X9_innermost _ G _ _ o' ho) hc.1 hc.2 (by decide) rfl rfl rfl (Nat.le_of_ble_eq_true rfl) ⟨Nat.le_refl _, Nat.le_refl _⟩ hl hr hs⟩) (fun v3 h => ?_)
  refine m_istore_n C (dOf DX9_blows 6 rfl) rfl (by decide) (lv' := [(2, .int v3), (1, .int v2), (0, .ref (G.1 + b0))]) rfl ?_
  refine m_iload_n C (dOf DX9_blows 7 rfl) rfl 1 rfl ?_
  refine m_jn (J := fun (x4 : St) => WM X G 5 0 0 (wQ X G (qV G o) 0 0) 146 [] [] x4) h (fun x4 h => ?_) (fun j4 hj4 h => ?_)
  · exact m_vret C rfl (dOf DX9_blows 82 rfl) h
  refine m_ifne C (dOf DX9_blows 8 rfl) (tgt := 32) rfl h (fun h => ?_) (fun h => ?_)
  · refine m_iload_n C (dOf DX9_blows 18 rfl) rfl 1 rfl ?_
    refine m_iconst C (dOf DX9_blows 19 rfl) (v := 5) ki_5 ?_
    refine m_icmpge C (dOf DX9_blows 20 rfl) (tgt := 69) rfl h (fun h => ?_) (fun h => ?_)
    · refine m_iload_n C (dOf DX9_blows 40 rfl) rfl 1 rfl ?_
      refine m_iconst C (dOf DX9_blows 41 rfl) (v := 5) ki_5 ?_
      refine m_icmpne C (dOf DX9_blows 42 rfl) (tgt := 90) rfl h (fun h => ?_) (fun h => ?_)
      · refine m_iload_n C (dOf DX9_blows 51 rfl) rfl 1 rfl ?_
        refine m_bipush C (dOf DX9_blows 52 rfl) (v := 8) kb_8 ?_
        refine m_icmpge C (dOf DX9_blows 53 rfl) (tgt := 105) rfl h (fun h => ?_) (fun h => ?_)
        · refine m_iload_n C (dOf DX9_blows 59 rfl) rfl 1 rfl ?_
          refine m_bipush C (dOf DX9_blows 60 rfl) (v := 8) kb_8 ?_
          refine m_icmpne C (dOf DX9_blows 61 rfl) (tgt := 120) rfl h (fun h => ?_) (fun h => ?_)
          · refine m_aload_n C (dOf DX9_blows 67 rfl) rfl 2 rfl ?_
            refine m_aload_n C (dOf DX9_blows 68 rfl) rfl 2 rfl ?_
            refine m_iconst C (dOf DX9_blows 69 rfl) (v := 2) ki_2 ?_
            obtain ⟨hc, h⟩ := ck_spec h
            refine m_cI (st := [.ref (G.1 + b0)]) h (fun o' ho H locs ls hl hr hs => ⟨_, m_runV C (dOf DX9_blows 70 rfl) km_X9_256 ky_X9_drawn (by decide) ⟨rfl, rfl⟩ (c_X9_drawn _ G _ _ _ o' ho) hc.1 hc.2 (by decide) rfl rfl rfl (Nat.le_of_ble_eq_true rfl) ⟨Nat.le_refl _, Nat.le_refl _⟩ hl hr hs⟩) (fun v6 S5 h => ?_)
            refine m_iconst C (dOf DX9_blows 71 rfl) (v := 1) ki_1 ?_
            refine m_jn (J := fun (x7 : Int32) => WM X G 5 0 0 (wQ X G (qV G o) 0 0) 135 [(0, .ref (G.1 + b0))] [.int x7, .ref (G.1 + b0)] S5) h (fun x7 h => ?_) (fun j7 hj7 h => ?_)
            · obtain ⟨hc, h⟩ := ck_spec h
              refine m_cI (st := []) h (fun o' ho H locs ls hl hr hs => ⟨_, m_runV C (dOf DX9_blows 76 rfl) km_X9_235 ky_X9_swapped (by decide) ⟨rfl, rfl⟩ (c_X9_swapped _ G _ _ _ o' ho) hc.1 hc.2 (by decide) rfl rfl rfl (Nat.le_of_ble_eq_true rfl) ⟨Nat.le_refl _, Nat.le_refl _⟩ hl hr hs⟩) (fun v9 S8 h => ?_)
              refine m_istore_n C (dOf DX9_blows 77 rfl) rfl (by decide) (lv' := [(3, .int v9), (0, .ref (G.1 + b0))]) rfl ?_
              refine m_aload_n C (dOf DX9_blows 78 rfl) rfl 1 rfl ?_
              refine m_iconst C (dOf DX9_blows 79 rfl) (v := 2) ki_2 ?_
              obtain ⟨hc, h⟩ := ck_spec h
              refine m_cI (st := []) h (fun o' ho H locs ls hl hr hs => ⟨_, m_runV C (dOf DX9_blows 80 rfl) km_X9_239 ky_X9_readMany (by decide) ⟨rfl, rfl⟩ (c_X9_readMany _ G _ _ _ o' ho) hc.1 hc.2 (by decide) rfl rfl rfl (Nat.le_of_ble_eq_true rfl) ⟨Nat.le_refl _, Nat.le_refl _⟩ hl hr hs⟩) (fun v11 S10 h => ?_)
              refine m_istore C (dOf DX9_blows 81 rfl) (by decide) (lv' := [(4, .int v11), (3, .int v9), (0, .ref (G.1 + b0))]) rfl ?_
              exact m_sub [] rfl (hj4 _ h)
            refine m_icmpne C (dOf DX9_blows 72 rfl) (tgt := 134) rfl h (fun h => ?_) (fun h => ?_)
            · refine m_iconst C (dOf DX9_blows 75 rfl) (v := 0) ki_0 ?_
              exact m_sub [2] rfl (hj7 _ h)
            · refine m_iconst C (dOf DX9_blows 73 rfl) (v := 1) ki_1 ?_
              refine m_goto C (dOf DX9_blows 74 rfl) (tgt := 135) rfl ?_
              exact m_sub [2] rfl (hj7 _ h)
          · refine m_aload_n C (dOf DX9_blows 62 rfl) rfl 2 rfl ?_
            refine m_iload_n C (dOf DX9_blows 63 rfl) rfl 0 rfl ?_
            obtain ⟨hc, h⟩ := ck_spec h
            refine m_cI (st := []) h (fun o' ho H locs ls hl hr hs => ⟨_, m_runV C (dOf DX9_blows 64 rfl) km_X9_232 ky_X9_dropped (by decide) ⟨rfl, rfl⟩ (c_X9_dropped _ G _ _ _ o' ho) hc.1 hc.2 (by decide) rfl rfl rfl (Nat.le_of_ble_eq_true rfl) ⟨Nat.le_refl _, Nat.le_refl _⟩ hl hr hs⟩) (fun v13 S12 h => ?_)
            refine m_istore_n C (dOf DX9_blows 65 rfl) rfl (by decide) (lv' := [(3, .int v13), (2, .int v3), (1, .int v2), (0, .ref (G.1 + b0))]) rfl ?_
            refine m_goto C (dOf DX9_blows 66 rfl) (tgt := 146) rfl ?_
            exact m_sub [] rfl (hj4 _ h)
        · refine m_aload_n C (dOf DX9_blows 54 rfl) rfl 2 rfl ?_
          refine m_iload_n C (dOf DX9_blows 55 rfl) rfl 0 rfl ?_
          obtain ⟨hc, h⟩ := ck_spec h
          refine m_cI (st := []) h (fun o' ho H locs ls hl hr hs => ⟨_, m_runV C (dOf DX9_blows 56 rfl) km_X9_229 ky_X9_ended (by decide) ⟨rfl, rfl⟩ (c_X9_ended _ G _ _ _ o' ho) hc.1 hc.2 (by decide) rfl rfl rfl (Nat.le_of_ble_eq_true rfl) ⟨Nat.le_refl _, Nat.le_refl _⟩ hl hr hs⟩) (fun v15 S14 h => ?_)
          refine m_istore_n C (dOf DX9_blows 57 rfl) rfl (by decide) (lv' := [(3, .int v15), (2, .int v3), (1, .int v2), (0, .ref (G.1 + b0))]) rfl ?_
          refine m_goto C (dOf DX9_blows 58 rfl) (tgt := 146) rfl ?_
          exact m_sub [] rfl (hj4 _ h)
      · refine m_aload_n C (dOf DX9_blows 43 rfl) rfl 2 rfl ?_
        refine m_iload_n C (dOf DX9_blows 44 rfl) rfl 0 rfl ?_
        refine m_aload_n C (dOf DX9_blows 45 rfl) rfl 2 rfl ?_
        refine m_sipush C (dOf DX9_blows 46 rfl) (v := 256) ks_256 ?_
        obtain ⟨hc, h⟩ := ck_spec h
        refine m_cI (st := [.int v3, .ref (G.1 + b0)]) h (fun o' ho H locs ls hl hr hs => ⟨_, m_runV C (dOf DX9_blows 47 rfl) km_X9_256 ky_X9_drawn (by decide) ⟨rfl, rfl⟩ (c_X9_drawn _ G _ _ _ o' ho) hc.1 hc.2 (by decide) rfl rfl rfl (Nat.le_of_ble_eq_true rfl) ⟨Nat.le_refl _, Nat.le_refl _⟩ hl hr hs⟩) (fun v17 S16 h => ?_)
        obtain ⟨hc, h⟩ := ck_spec h
        refine m_cI (st := []) h (fun o' ho H locs ls hl hr hs => ⟨_, m_runV C (dOf DX9_blows 48 rfl) km_X9_226 ky_X9_puts (by decide) ⟨rfl, rfl⟩ (c_X9_puts _ G _ _ _ _ o' ho) hc.1 hc.2 (by decide) rfl rfl rfl (Nat.le_of_ble_eq_true rfl) ⟨Nat.le_refl _, Nat.le_refl _⟩ hl hr hs⟩) (fun v19 S18 h => ?_)
        refine m_istore_n C (dOf DX9_blows 49 rfl) rfl (by decide) (lv' := [(3, .int v19), (2, .int v3), (1, .int v2), (0, .ref (G.1 + b0))]) rfl ?_
        refine m_goto C (dOf DX9_blows 50 rfl) (tgt := 146) rfl ?_
        exact m_sub [] rfl (hj4 _ h)
    · refine m_iload_n C (dOf DX9_blows 21 rfl) rfl 0 rfl ?_
      refine m_iconst C (dOf DX9_blows 22 rfl) (v := 3) ki_3 ?_
      refine m_jn (J := fun (x20 : Int32 × St) => WM X G 5 0 0 (wQ X G (qV G o) 0 0) 65 [] [.int x20.1] x20.2) h (fun x20 h => ?_) (fun j20 hj20 h => ?_)
      · refine m_istore_n C (dOf DX9_blows 38 rfl) rfl (by decide) (lv' := [(3, .int x20.1)]) rfl ?_
        refine m_goto C (dOf DX9_blows 39 rfl) (tgt := 146) rfl ?_
        exact m_sub [] rfl (hj4 _ h)
      refine m_icmpne C (dOf DX9_blows 23 rfl) (tgt := 50) rfl h (fun h => ?_) (fun h => ?_)
      · refine m_aload_n C (dOf DX9_blows 28 rfl) rfl 2 rfl ?_
        refine m_iload_n C (dOf DX9_blows 29 rfl) rfl 0 rfl ?_
        refine m_iconst C (dOf DX9_blows 30 rfl) (v := 1) ki_1 ?_
        refine m_iadd C (dOf DX9_blows 31 rfl) h (fun v21 h => ?_)
        refine m_iconst C (dOf DX9_blows 32 rfl) (v := 1) ki_1 ?_
        refine m_aload_n C (dOf DX9_blows 33 rfl) rfl 2 rfl ?_
        refine m_bipush C (dOf DX9_blows 34 rfl) (v := 8) kb_8 ?_
        obtain ⟨hc, h⟩ := ck_spec h
        refine m_cI (st := [.int 1, .int v21, .ref (G.1 + b0)]) h (fun o' ho H locs ls hl hr hs => ⟨_, m_runV C (dOf DX9_blows 35 rfl) km_X9_256 ky_X9_drawn (by decide) ⟨rfl, rfl⟩ (c_X9_drawn _ G _ _ _ o' ho) hc.1 hc.2 (by decide) rfl rfl rfl (Nat.le_of_ble_eq_true rfl) ⟨Nat.le_refl _, Nat.le_refl _⟩ hl hr hs⟩) (fun v23 S22 h => ?_)
        refine m_iadd C (dOf DX9_blows 36 rfl) h (fun v24 h => ?_)
        obtain ⟨hc, h⟩ := ck_spec h
        refine m_cI (st := []) h (fun o' ho H locs ls hl hr hs => ⟨_, m_runV C (dOf DX9_blows 37 rfl) km_X9_223 ky_X9_taken (by decide) ⟨rfl, rfl⟩ (c_X9_taken _ G _ _ _ _ o' ho) hc.1 hc.2 (by decide) rfl rfl rfl (Nat.le_of_ble_eq_true rfl) ⟨Nat.le_refl _, Nat.le_refl _⟩ hl hr hs⟩) (fun v26 S25 h => ?_)
        exact m_sub [] rfl (hj20 _ h)
      · refine m_aload_n C (dOf DX9_blows 24 rfl) rfl 2 rfl ?_
        refine m_iload_n C (dOf DX9_blows 25 rfl) rfl 0 rfl ?_
        obtain ⟨hc, h⟩ := ck_spec h
        refine m_cI (st := []) h (fun o' ho H locs ls hl hr hs => ⟨_, m_runV C (dOf DX9_blows 26 rfl) km_X9_229 ky_X9_ended (by decide) ⟨rfl, rfl⟩ (c_X9_ended _ G _ _ _ o' ho) hc.1 hc.2 (by decide) rfl rfl rfl (Nat.le_of_ble_eq_true rfl) ⟨Nat.le_refl _, Nat.le_refl _⟩ hl hr hs⟩) (fun v28 S27 h => ?_)
        refine m_goto C (dOf DX9_blows 27 rfl) (tgt := 65) rfl ?_
        exact m_sub [] rfl (hj20 _ h)
  · refine m_aload_n C (dOf DX9_blows 9 rfl) rfl 2 rfl ?_
    refine m_iconst C (dOf DX9_blows 10 rfl) (v := 1) ki_1 ?_
    refine m_aload_n C (dOf DX9_blows 11 rfl) rfl 2 rfl ?_
    refine m_bipush C (dOf DX9_blows 12 rfl) (v := 40) kb_40 ?_
    obtain ⟨hc, h⟩ := ck_spec h
    refine m_cI (st := [.int 1, .ref (G.1 + b0)]) h (fun o' ho H locs ls hl hr hs => ⟨_, m_runV C (dOf DX9_blows 13 rfl) km_X9_256 ky_X9_drawn (by decide) ⟨rfl, rfl⟩ (c_X9_drawn _ G _ _ _ o' ho) hc.1 hc.2 (by decide) rfl rfl rfl (Nat.le_of_ble_eq_true rfl) ⟨Nat.le_refl _, Nat.le_refl _⟩ hl hr hs⟩) (fun v30 S29 h => ?_)
    refine m_iadd C (dOf DX9_blows 14 rfl) h (fun v31 h => ?_)
    obtain ⟨hc, h⟩ := ck_spec h
    refine m_cI (st := []) h (fun o' ho H locs ls hl hr hs => ⟨_, m_runV C (dOf DX9_blows 15 rfl) km_X9_220 ky_X9_ticked (by decide) ⟨rfl, rfl⟩ (c_X9_ticked _ G _ _ _ o' ho) hc.1 hc.2 (by decide) rfl rfl rfl (Nat.le_of_ble_eq_true rfl) ⟨Nat.le_refl _, Nat.le_refl _⟩ hl hr hs⟩) (fun v33 S32 h => ?_)
    refine m_istore_n C (dOf DX9_blows 16 rfl) rfl (by decide) (lv' := [(3, .int v33), (2, .int v3), (1, .int v2), (0, .ref (G.1 + b0))]) rfl ?_
    refine m_goto C (dOf DX9_blows 17 rfl) (tgt := 146) rfl ?_
    exact m_sub [] rfl (hj4 _ h)
