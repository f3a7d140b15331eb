/-- TraceRingModel.scriptLine(J)Z -/
def f_X9_scriptLine (S : St) (b0 : Nat) (q1 : Int64) : Option (Int32 × St) :=
  lt_ (lg_cmp q1 1937203568 : Int32) fun v1 =>
  jn_ (fun (x2 : Int32) =>
    lt_ (lg_cmp q1 1952541541 : Int32) fun v3 =>
    jn_ (fun (x4 : Int32) =>
      jn_ (fun (x5 : Unit) =>
        ck_ S b0 9 <| cV_ (f_X9_token S b0) fun S6 =>
        gR_ S6 b0 9 12 fun a7 =>
        sI_ S6 a7 0 0 fun S8 =>
        gR_ S8 b0 9 12 fun a9 =>
        sI_ S8 a9 1 0 fun S10 =>
        jn_ (fun (x11 : Int32 × St) =>
          jn_ (fun (x12 : Int32 × St) =>
            gR_ x12.2 b0 9 16 fun a13 =>
            gI_ x12.2 b0 9 18 fun v14 =>
            sJ_ x12.2 a13 v14 q1 fun S15 =>
            gR_ S15 b0 9 17 fun a16 =>
            gI_ S15 b0 9 18 fun v17 =>
            lt_ (2 * v17 : Int32) fun v18 =>
            gR_ S15 b0 9 12 fun a19 =>
            aI_ S15 a19 11 0 fun v20 =>
            sI_ S15 a16 v18 v20 fun S21 =>
            gR_ S21 b0 9 17 fun a22 =>
            gI_ S21 b0 9 18 fun v23 =>
            lt_ (2 * v23 : Int32) fun v24 =>
            lt_ (v24 + 1 : Int32) fun v25 =>
            gR_ S21 b0 9 12 fun a26 =>
            aI_ S21 a26 11 1 fun v27 =>
            sI_ S21 a22 v25 v27 fun S28 =>
            gI_ S28 b0 9 18 fun v29 =>
            lt_ (v29 + 1 : Int32) fun v30 =>
            pI_ S28 b0 9 18 v30 fun S31 =>
            rz_ x12.1 S31
          ) fun j12 =>
          jn_ (fun (x32 : St) =>
            j12 (0, x32)
          ) fun j32 =>
          if x11.1 = 0 then
            j32 (x11.2)
          else
            jn_ (fun (x33 : St) =>
              j12 (1, x33)
            ) fun j33 =>
            if x4 = 0 then
              j33 (x11.2)
            else
              lt_ (lg_cmp q1 1952541541 : Int32) fun v34 =>
              if v34 = 0 then
                ck_ x11.2 b0 9 <| cI_ (f_X9_takes x11.2 b0 1 1 8) fun v38 S37 =>
                if v38 = 0 then
                  j32 (S37)
                else
                  j33 (S37)
              else
                ck_ x11.2 b0 9 <| cI_ (f_X9_takes x11.2 b0 1 0 255) fun v36 S35 =>
                if v36 = 0 then
                  j32 (S35)
                else
                  j33 (S35)
        ) fun j11 =>
        jn_ (fun (x39 : St) =>
          j11 (1, x39)
        ) fun j39 =>
        if x2 = 0 then
          lt_ (lg_cmp q1 1953063787 : Int32) fun v40 =>
          jn_ (fun (x41 : St) =>
            j11 (0, x41)
          ) fun j41 =>
          if v40 = 0 then
            ck_ S10 b0 9 <| cI_ (f_X9_takes S10 b0 0 1 5000) fun v54 S53 =>
            if v54 = 0 then
              j41 (S53)
            else
              j39 (S53)
          else
            lt_ (lg_cmp q1 1919246692 : Int32) fun v42 =>
            if v42 = 0 then
              ck_ S10 b0 9 <| cI_ (f_X9_takes S10 b0 0 1 99) fun v52 S51 =>
              if v52 = 0 then
                j41 (S51)
              else
                j39 (S51)
            else
              lt_ (lg_cmp q1 1835103083 : Int32) fun v43 =>
              if v43 = 0 then
                ck_ S10 b0 9 <| cI_ (f_X9_takes S10 b0 0 0 15) fun v50 S49 =>
                if v50 = 0 then
                  j41 (S49)
                else
                  j39 (S49)
              else
                lt_ (lg_cmp q1 125780053555813 : Int32) fun v44 =>
                if v44 = 0 then
                  ck_ S10 b0 9 <| cI_ (f_X9_takes S10 b0 0 2 6) fun v48 S47 =>
                  if v48 = 0 then
                    j41 (S47)
                  else
                    j39 (S47)
                else
                  ck_ S10 b0 9 <| cI_ (f_X9_takes S10 b0 0 0 3) fun v46 S45 =>
                  if v46 = 0 then
                    j41 (S45)
                  else
                    j39 (S45)
        else
          j39 (S10)
      ) fun j5 =>
      if x2 = 0 then
        if x4 = 0 then
          lt_ (lg_cmp q1 1953063787 : Int32) fun v55 =>
          if v55 = 0 then
            j5 ()
          else
            lt_ (lg_cmp q1 6647396 : Int32) fun v56 =>
            if v56 = 0 then
              j5 ()
            else
              lt_ (lg_cmp q1 1685221232 : Int32) fun v57 =>
              if v57 = 0 then
                j5 ()
              else
                lt_ (lg_cmp q1 1919246692 : Int32) fun v58 =>
                if v58 = 0 then
                  j5 ()
                else
                  lt_ (lg_cmp q1 1835103083 : Int32) fun v59 =>
                  if v59 = 0 then
                    j5 ()
                  else
                    lt_ (lg_cmp q1 125780053555813 : Int32) fun v60 =>
                    if v60 = 0 then
                      j5 ()
                    else
                      ck_ S b0 9 <| cI_ (f_X9_fails S b0) fun v62 S61 =>
                      rz_ v62 S61
        else
          j5 ()
      else
        j5 ()
    ) fun j4 =>
    jn_ (fun (x63 : Unit) =>
      j4 (1)
    ) fun j63 =>
    if v3 = 0 then
      j63 ()
    else
      lt_ (lg_cmp q1 7370100 : Int32) fun v64 =>
      if v64 = 0 then
        j63 ()
      else
        j4 (0)
  ) fun j2 =>
  jn_ (fun (x65 : Unit) =>
    j2 (1)
  ) fun j65 =>
  if v1 = 0 then
    j65 ()
  else
    lt_ (lg_cmp q1 439956431717 : Int32) fun v66 =>
    if v66 = 0 then
      j65 ()
    else
      j2 (0)
set_option maxRecDepth 100000 in
set_option maxHeartbeats 4000000 in
theorem c_X9_scriptLine (l : Launch) (G : Gx) (S : St) (b0 : Nat) (q1 : Int64) (o : (Int32 × St)) (h : f_X9_scriptLine S b0 q1 = some o) : Met l yX9_scriptLine (Cond.code yX9_scriptLine cX9_scriptLine 6 (some (.boolean)) :: wAll) ({ frames := 3, cells := 0, slots := 0, locals := 67 } : Room) (va_Pc [.ref (G.1 + b0), .long q1] (wPre G S)) (qI G o) 0 0 (wA G) := by
  refine m_start (by decide +kernel) (Nat.le_of_ble_eq_true rfl) (fun X C => ?_)
  unfold f_X9_scriptLine at h
  show WM X G 6 0 0 (wQ X G (qI G o) 0 0) 0 [(0, .ref (G.1 + b0)), (1, .long q1)] [] S
  refine m_lload_n C (dOf DX9_scriptLine 0 rfl) rfl 1 rfl ?_
  refine m_ldc2 C (dOf DX9_scriptLine 1 rfl) kc_X9_107 ?_
  refine m_lcmp C (dOf DX9_scriptLine 2 rfl) h (fun v1 h => ?_)
  refine m_jn (J := fun (x2 : Int32) => WM X G 6 0 0 (wQ X G (qI G o) 0 0) 21 [(0, .ref (G.1 + b0)), (1, .long q1)] [.int x2] S) h (fun x2 h => ?_) (fun j2 hj2 h => ?_)
  · refine m_istore_n C (dOf DX9_scriptLine 11 rfl) rfl (by decide) (lv' := [(3, .int x2), (0, .ref (G.1 + b0)), (1, .long q1)]) rfl ?_
    refine m_lload_n C (dOf DX9_scriptLine 12 rfl) rfl 2 rfl ?_
    refine m_ldc2 C (dOf DX9_scriptLine 13 rfl) kc_X9_111 ?_
    refine m_lcmp C (dOf DX9_scriptLine 14 rfl) h (fun v3 h => ?_)
    refine m_jn (J := fun (x4 : Int32) => WM X G 6 0 0 (wQ X G (qI G o) 0 0) 43 [(0, .ref (G.1 + b0)), (1, .long q1), (3, .int x2)] [.int x4] S) h (fun x4 h => ?_) (fun j4 hj4 h => ?_)
    · refine m_istore C (dOf DX9_scriptLine 23 rfl) (by decide) (lv' := [(4, .int x4), (0, .ref (G.1 + b0)), (1, .long q1), (3, .int x2)]) rfl ?_
      refine m_iload_n C (dOf DX9_scriptLine 24 rfl) rfl 3 rfl ?_
      refine m_jn (J := fun (x5 : Unit) => WM X G 6 0 0 (wQ X G (qI G o) 0 0) 107 [(0, .ref (G.1 + b0)), (1, .long q1), (3, .int x2), (4, .int x4)] [] S) h (fun x5 h => ?_) (fun j5 hj5 h => ?_)
      · refine m_aload_n C (dOf DX9_scriptLine 55 rfl) rfl 0 rfl ?_
        obtain ⟨hc, h⟩ := ck_spec h
        refine m_cV (st := []) h (fun o' ho H locs ls hl hr hs => ⟨_, m_runV C (dOf DX9_scriptLine 56 rfl) km_X9_93 ky_X9_token (by decide) ⟨rfl, rfl⟩ (c_X9_token _ G _ _ o' ho) hc.1 hc.2 (by decide) rfl rfl rfl (Nat.le_of_ble_eq_true rfl) ⟨Nat.le_refl _, Nat.le_refl _⟩ hl hr hs⟩) (fun S6 h => ?_)
        refine m_aload_n C (dOf DX9_scriptLine 57 rfl) rfl 0 rfl ?_
        refine m_gR C (dOf DX9_scriptLine 58 rfl) kf_X9_21 fg_9_12 h (fun a7 h => ?_)
        refine m_iconst C (dOf DX9_scriptLine 59 rfl) (v := 0) ki_0 ?_
        refine m_iconst C (dOf DX9_scriptLine 60 rfl) (v := 0) ki_0 ?_
        refine m_sI C (dOf DX9_scriptLine 61 rfl) h (fun S8 h => ?_)
        refine m_aload_n C (dOf DX9_scriptLine 62 rfl) rfl 0 rfl ?_
        refine m_gR C (dOf DX9_scriptLine 63 rfl) kf_X9_21 fg_9_12 h (fun a9 h => ?_)
        refine m_iconst C (dOf DX9_scriptLine 64 rfl) (v := 1) ki_1 ?_
        refine m_iconst C (dOf DX9_scriptLine 65 rfl) (v := 0) ki_0 ?_
        refine m_sI C (dOf DX9_scriptLine 66 rfl) h (fun S10 h => ?_)
        refine m_iload_n C (dOf DX9_scriptLine 67 rfl) rfl 2 rfl ?_
        refine m_jn (J := fun (x11 : Int32 × St) => WM X G 6 0 0 (wQ X G (qI G o) 0 0) 233 [(0, .ref (G.1 + b0)), (1, .long q1), (4, .int x4)] [.int x11.1] x11.2) h (fun x11 h => ?_) (fun j11 hj11 h => ?_)
        · refine m_istore C (dOf DX9_scriptLine_1 2 rfl) (by decide) (lv' := [(5, .int x11.1), (0, .ref (G.1 + b0)), (1, .long q1), (4, .int x4)]) rfl ?_
          refine m_iload C (dOf DX9_scriptLine_1 3 rfl) 0 rfl ?_
          refine m_jn (J := fun (x12 : Int32 × St) => WM X G 6 0 0 (wQ X G (qI G o) 0 0) 284 [(0, .ref (G.1 + b0)), (1, .long q1)] [.int x12.1] x12.2) h (fun x12 h => ?_) (fun j12 hj12 h => ?_)
          · refine m_istore C (dOf DX9_scriptLine_1 27 rfl) (by decide) (lv' := [(5, .int x12.1), (0, .ref (G.1 + b0)), (1, .long q1)]) rfl ?_
            refine m_aload_n C (dOf DX9_scriptLine_1 28 rfl) rfl 1 rfl ?_
            refine m_gR C (dOf DX9_scriptLine_1 29 rfl) kf_X9_24 fg_9_16 h (fun a13 h => ?_)
            refine m_aload_n C (dOf DX9_scriptLine_1 30 rfl) rfl 1 rfl ?_
            refine m_gI C (dOf DX9_scriptLine_1 31 rfl) kf_X9_127 fg_9_18 h (fun v14 h => ?_)
            refine m_lload_n C (dOf DX9_scriptLine_1 32 rfl) rfl 2 rfl ?_
            refine m_sJ C (dOf DX9_scriptLine_1 33 rfl) h (fun S15 h => ?_)
            refine m_aload_n C (dOf DX9_scriptLine_1 34 rfl) rfl 1 rfl ?_
            refine m_gR C (dOf DX9_scriptLine_1 35 rfl) kf_X9_28 fg_9_17 h (fun a16 h => ?_)
            refine m_iconst C (dOf DX9_scriptLine_1 36 rfl) (v := 2) ki_2 ?_
            refine m_aload_n C (dOf DX9_scriptLine_1 37 rfl) rfl 1 rfl ?_
            refine m_gI C (dOf DX9_scriptLine_1 38 rfl) kf_X9_127 fg_9_18 h (fun v17 h => ?_)
            refine m_imul C (dOf DX9_scriptLine_1 39 rfl) h (fun v18 h => ?_)
            refine m_aload_n C (dOf DX9_scriptLine_1 40 rfl) rfl 1 rfl ?_
            refine m_gR C (dOf DX9_scriptLine_1 41 rfl) kf_X9_21 fg_9_12 h (fun a19 h => ?_)
            refine m_iconst C (dOf DX9_scriptLine_1 42 rfl) (v := 0) ki_0 ?_
            refine m_aI C (dOf DX9_scriptLine_1 43 rfl) h (fun v20 h => ?_)
            refine m_sI C (dOf DX9_scriptLine_1 44 rfl) h (fun S21 h => ?_)
            refine m_aload_n C (dOf DX9_scriptLine_1 45 rfl) rfl 1 rfl ?_
            refine m_gR C (dOf DX9_scriptLine_1 46 rfl) kf_X9_28 fg_9_17 h (fun a22 h => ?_)
            refine m_iconst C (dOf DX9_scriptLine_1 47 rfl) (v := 2) ki_2 ?_
            refine m_aload_n C (dOf DX9_scriptLine_1 48 rfl) rfl 1 rfl ?_
            refine m_gI C (dOf DX9_scriptLine_1 49 rfl) kf_X9_127 fg_9_18 h (fun v23 h => ?_)
            refine m_imul C (dOf DX9_scriptLine_1 50 rfl) h (fun v24 h => ?_)
            refine m_iconst C (dOf DX9_scriptLine_1 51 rfl) (v := 1) ki_1 ?_
            refine m_iadd C (dOf DX9_scriptLine_1 52 rfl) h (fun v25 h => ?_)
            refine m_aload_n C (dOf DX9_scriptLine_1 53 rfl) rfl 1 rfl ?_
            refine m_gR C (dOf DX9_scriptLine_1 54 rfl) kf_X9_21 fg_9_12 h (fun a26 h => ?_)
            refine m_iconst C (dOf DX9_scriptLine_1 55 rfl) (v := 1) ki_1 ?_
            refine m_aI C (dOf DX9_scriptLine_1 56 rfl) h (fun v27 h => ?_)
            refine m_sI C (dOf DX9_scriptLine_1 57 rfl) h (fun S28 h => ?_)
            refine m_aload_n C (dOf DX9_scriptLine_1 58 rfl) rfl 1 rfl ?_
            refine m_dup C (dOf DX9_scriptLine_1 59 rfl) rfl ?_
            refine m_gI C (dOf DX9_scriptLine_1 60 rfl) kf_X9_127 fg_9_18 h (fun v29 h => ?_)
            refine m_iconst C (dOf DX9_scriptLine_1 61 rfl) (v := 1) ki_1 ?_
            refine m_iadd C (dOf DX9_scriptLine_1 62 rfl) h (fun v30 h => ?_)
            refine m_pI C (dOf DX9_scriptLine_1 63 rfl) kf_X9_127 fp_9_18 h (fun S31 h => ?_)
            refine m_iload C (dOf DX9_scriptLine_1 64 rfl) 0 rfl ?_
            exact m_zret C rfl (dOf DX9_scriptLine_1 65 rfl) h
          refine m_jn (J := fun (x32 : St) => WM X G 6 0 0 (wQ X G (qI G o) 0 0) 283 [(0, .ref (G.1 + b0)), (1, .long q1)] [] x32) h (fun x32 h => ?_) (fun j32 hj32 h => ?_)
          · refine m_iconst C (dOf DX9_scriptLine_1 26 rfl) (v := 0) ki_0 ?_
            exact m_sub [0, 1] rfl (hj12 _ h)
          refine m_ifeq C (dOf DX9_scriptLine_1 4 rfl) (tgt := 283) rfl h (fun h => ?_) (fun h => ?_)
          · exact m_sub [1, 2] rfl (hj32 _ h)
          · refine m_iload C (dOf DX9_scriptLine_1 5 rfl) 3 rfl ?_
            refine m_jn (J := fun (x33 : St) => WM X G 6 0 0 (wQ X G (qI G o) 0 0) 279 [(0, .ref (G.1 + b0)), (1, .long q1)] [] x33) h (fun x33 h => ?_) (fun j33 hj33 h => ?_)
            · refine m_iconst C (dOf DX9_scriptLine_1 24 rfl) (v := 1) ki_1 ?_
              refine m_goto C (dOf DX9_scriptLine_1 25 rfl) (tgt := 284) rfl ?_
              exact m_sub [0, 1] rfl (hj12 _ h)
            refine m_ifeq C (dOf DX9_scriptLine_1 6 rfl) (tgt := 279) rfl h (fun h => ?_) (fun h => ?_)
            · exact m_sub [1, 2] rfl (hj33 _ h)
            · refine m_lload_n C (dOf DX9_scriptLine_1 7 rfl) rfl 2 rfl ?_
              refine m_ldc2 C (dOf DX9_scriptLine_1 8 rfl) kc_X9_111 ?_
              refine m_lcmp C (dOf DX9_scriptLine_1 9 rfl) h (fun v34 h => ?_)
              refine m_ifne C (dOf DX9_scriptLine_1 10 rfl) (tgt := 267) rfl h (fun h => ?_) (fun h => ?_)
              · refine m_aload_n C (dOf DX9_scriptLine_1 18 rfl) rfl 1 rfl ?_
                refine m_iconst C (dOf DX9_scriptLine_1 19 rfl) (v := 1) ki_1 ?_
                refine m_iconst C (dOf DX9_scriptLine_1 20 rfl) (v := 0) ki_0 ?_
                refine m_sipush C (dOf DX9_scriptLine_1 21 rfl) (v := 255) ks_255 ?_
                obtain ⟨hc, h⟩ := ck_spec h
                refine m_cI (st := []) h (fun o' ho H locs ls hl hr hs => ⟨_, m_runV C (dOf DX9_scriptLine_1 22 rfl) km_X9_104 ky_X9_takes (by decide) ⟨rfl, rfl⟩ (c_X9_takes _ G _ _ _ _ _ o' ho) hc.1 hc.2 (by decide) rfl rfl rfl (Nat.le_of_ble_eq_true rfl) ⟨Nat.le_refl _, Nat.le_refl _⟩ hl hr hs⟩) (fun v36 S35 h => ?_)
                refine m_ifeq C (dOf DX9_scriptLine_1 23 rfl) (tgt := 283) rfl h (fun h => ?_) (fun h => ?_)
                · exact m_sub [1, 2] rfl (hj32 _ h)
                · exact m_sub [1, 2] rfl (hj33 _ h)
              · refine m_aload_n C (dOf DX9_scriptLine_1 11 rfl) rfl 1 rfl ?_
                refine m_iconst C (dOf DX9_scriptLine_1 12 rfl) (v := 1) ki_1 ?_
                refine m_iconst C (dOf DX9_scriptLine_1 13 rfl) (v := 1) ki_1 ?_
                refine m_bipush C (dOf DX9_scriptLine_1 14 rfl) (v := 8) kb_8 ?_
                obtain ⟨hc, h⟩ := ck_spec h
                refine m_cI (st := []) h (fun o' ho H locs ls hl hr hs => ⟨_, m_runV C (dOf DX9_scriptLine_1 15 rfl) km_X9_104 ky_X9_takes (by decide) ⟨rfl, rfl⟩ (c_X9_takes _ G _ _ _ _ _ o' ho) hc.1 hc.2 (by decide) rfl rfl rfl (Nat.le_of_ble_eq_true rfl) ⟨Nat.le_refl _, Nat.le_refl _⟩ hl hr hs⟩) (fun v38 S37 h => ?_)
                refine m_ifeq C (dOf DX9_scriptLine_1 16 rfl) (tgt := 283) rfl h (fun h => ?_) (fun h => ?_)
                · exact m_sub [1, 2] rfl (hj32 _ h)
                · refine m_goto C (dOf DX9_scriptLine_1 17 rfl) (tgt := 279) rfl ?_
                  exact m_sub [1, 2] rfl (hj33 _ h)
        refine m_jn (J := fun (x39 : St) => WM X G 6 0 0 (wQ X G (qI G o) 0 0) 228 [(0, .ref (G.1 + b0)), (1, .long q1), (4, .int x4)] [] x39) h (fun x39 h => ?_) (fun j39 hj39 h => ?_)
        · refine m_iconst C (dOf DX9_scriptLine 119 rfl) (v := 1) ki_1 ?_
          refine m_goto C (dOf DX9_scriptLine_1 0 rfl) (tgt := 233) rfl ?_
          exact m_sub [0, 1, 2] rfl (hj11 _ h)
        refine m_ifne C (dOf DX9_scriptLine 68 rfl) (tgt := 228) rfl h (fun h => ?_) (fun h => ?_)
        · exact m_sub [0, 1, 3] rfl (hj39 _ h)
        · refine m_lload_n C (dOf DX9_scriptLine 69 rfl) rfl 1 rfl ?_
          refine m_ldc2 C (dOf DX9_scriptLine 70 rfl) kc_X9_115 ?_
          refine m_lcmp C (dOf DX9_scriptLine 71 rfl) h (fun v40 h => ?_)
          refine m_jn (J := fun (x41 : St) => WM X G 6 0 0 (wQ X G (qI G o) 0 0) 232 [(0, .ref (G.1 + b0)), (1, .long q1), (4, .int x4)] [] x41) h (fun x41 h => ?_) (fun j41 hj41 h => ?_)
          · refine m_iconst C (dOf DX9_scriptLine_1 1 rfl) (v := 0) ki_0 ?_
            exact m_sub [0, 1, 2] rfl (hj11 _ h)
          refine m_ifne C (dOf DX9_scriptLine 72 rfl) (tgt := 152) rfl h (fun h => ?_) (fun h => ?_)
          · refine m_lload_n C (dOf DX9_scriptLine 80 rfl) rfl 1 rfl ?_
            refine m_ldc2 C (dOf DX9_scriptLine 81 rfl) kc_X9_121 ?_
            refine m_lcmp C (dOf DX9_scriptLine 82 rfl) h (fun v42 h => ?_)
            refine m_ifne C (dOf DX9_scriptLine 83 rfl) (tgt := 174) rfl h (fun h => ?_) (fun h => ?_)
            · refine m_lload_n C (dOf DX9_scriptLine 91 rfl) rfl 1 rfl ?_
              refine m_ldc2 C (dOf DX9_scriptLine 92 rfl) kc_X9_123 ?_
              refine m_lcmp C (dOf DX9_scriptLine 93 rfl) h (fun v43 h => ?_)
              refine m_ifne C (dOf DX9_scriptLine 94 rfl) (tgt := 196) rfl h (fun h => ?_) (fun h => ?_)
              · refine m_lload_n C (dOf DX9_scriptLine 102 rfl) rfl 1 rfl ?_
                refine m_ldc2 C (dOf DX9_scriptLine 103 rfl) kc_X9_125 ?_
                refine m_lcmp C (dOf DX9_scriptLine 104 rfl) h (fun v44 h => ?_)
                refine m_ifne C (dOf DX9_scriptLine 105 rfl) (tgt := 218) rfl h (fun h => ?_) (fun h => ?_)
                · refine m_aload_n C (dOf DX9_scriptLine 113 rfl) rfl 0 rfl ?_
                  refine m_iconst C (dOf DX9_scriptLine 114 rfl) (v := 0) ki_0 ?_
                  refine m_iconst C (dOf DX9_scriptLine 115 rfl) (v := 0) ki_0 ?_
                  refine m_iconst C (dOf DX9_scriptLine 116 rfl) (v := 3) ki_3 ?_
                  obtain ⟨hc, h⟩ := ck_spec h
                  refine m_cI (st := []) h (fun o' ho H locs ls hl hr hs => ⟨_, m_runV C (dOf DX9_scriptLine 117 rfl) km_X9_104 ky_X9_takes (by decide) ⟨rfl, rfl⟩ (c_X9_takes _ G _ _ _ _ _ o' ho) hc.1 hc.2 (by decide) rfl rfl rfl (Nat.le_of_ble_eq_true rfl) ⟨Nat.le_refl _, Nat.le_refl _⟩ hl hr hs⟩) (fun v46 S45 h => ?_)
                  refine m_ifeq C (dOf DX9_scriptLine 118 rfl) (tgt := 232) rfl h (fun h => ?_) (fun h => ?_)
                  · exact m_sub [0, 1, 3] rfl (hj41 _ h)
                  · exact m_sub [0, 1, 3] rfl (hj39 _ h)
                · refine m_aload_n C (dOf DX9_scriptLine 106 rfl) rfl 0 rfl ?_
                  refine m_iconst C (dOf DX9_scriptLine 107 rfl) (v := 0) ki_0 ?_
                  refine m_iconst C (dOf DX9_scriptLine 108 rfl) (v := 2) ki_2 ?_
                  refine m_bipush C (dOf DX9_scriptLine 109 rfl) (v := 6) kb_6 ?_
                  obtain ⟨hc, h⟩ := ck_spec h
                  refine m_cI (st := []) h (fun o' ho H locs ls hl hr hs => ⟨_, m_runV C (dOf DX9_scriptLine 110 rfl) km_X9_104 ky_X9_takes (by decide) ⟨rfl, rfl⟩ (c_X9_takes _ G _ _ _ _ _ o' ho) hc.1 hc.2 (by decide) rfl rfl rfl (Nat.le_of_ble_eq_true rfl) ⟨Nat.le_refl _, Nat.le_refl _⟩ hl hr hs⟩) (fun v48 S47 h => ?_)
                  refine m_ifeq C (dOf DX9_scriptLine 111 rfl) (tgt := 232) rfl h (fun h => ?_) (fun h => ?_)
                  · exact m_sub [0, 1, 3] rfl (hj41 _ h)
                  · refine m_goto C (dOf DX9_scriptLine 112 rfl) (tgt := 228) rfl ?_
                    exact m_sub [0, 1, 3] rfl (hj39 _ h)
              · refine m_aload_n C (dOf DX9_scriptLine 95 rfl) rfl 0 rfl ?_
                refine m_iconst C (dOf DX9_scriptLine 96 rfl) (v := 0) ki_0 ?_
                refine m_iconst C (dOf DX9_scriptLine 97 rfl) (v := 0) ki_0 ?_
                refine m_bipush C (dOf DX9_scriptLine 98 rfl) (v := 15) kb_15 ?_
                obtain ⟨hc, h⟩ := ck_spec h
                refine m_cI (st := []) h (fun o' ho H locs ls hl hr hs => ⟨_, m_runV C (dOf DX9_scriptLine 99 rfl) km_X9_104 ky_X9_takes (by decide) ⟨rfl, rfl⟩ (c_X9_takes _ G _ _ _ _ _ o' ho) hc.1 hc.2 (by decide) rfl rfl rfl (Nat.le_of_ble_eq_true rfl) ⟨Nat.le_refl _, Nat.le_refl _⟩ hl hr hs⟩) (fun v50 S49 h => ?_)
                refine m_ifeq C (dOf DX9_scriptLine 100 rfl) (tgt := 232) rfl h (fun h => ?_) (fun h => ?_)
                · exact m_sub [0, 1, 3] rfl (hj41 _ h)
                · refine m_goto C (dOf DX9_scriptLine 101 rfl) (tgt := 228) rfl ?_
                  exact m_sub [0, 1, 3] rfl (hj39 _ h)
            · refine m_aload_n C (dOf DX9_scriptLine 84 rfl) rfl 0 rfl ?_
              refine m_iconst C (dOf DX9_scriptLine 85 rfl) (v := 0) ki_0 ?_
              refine m_iconst C (dOf DX9_scriptLine 86 rfl) (v := 1) ki_1 ?_
              refine m_bipush C (dOf DX9_scriptLine 87 rfl) (v := 99) kb_99 ?_
              obtain ⟨hc, h⟩ := ck_spec h
              refine m_cI (st := []) h (fun o' ho H locs ls hl hr hs => ⟨_, m_runV C (dOf DX9_scriptLine 88 rfl) km_X9_104 ky_X9_takes (by decide) ⟨rfl, rfl⟩ (c_X9_takes _ G _ _ _ _ _ o' ho) hc.1 hc.2 (by decide) rfl rfl rfl (Nat.le_of_ble_eq_true rfl) ⟨Nat.le_refl _, Nat.le_refl _⟩ hl hr hs⟩) (fun v52 S51 h => ?_)
              refine m_ifeq C (dOf DX9_scriptLine 89 rfl) (tgt := 232) rfl h (fun h => ?_) (fun h => ?_)
              · exact m_sub [0, 1, 3] rfl (hj41 _ h)
              · refine m_goto C (dOf DX9_scriptLine 90 rfl) (tgt := 228) rfl ?_
                exact m_sub [0, 1, 3] rfl (hj39 _ h)
          · refine m_aload_n C (dOf DX9_scriptLine 73 rfl) rfl 0 rfl ?_
            refine m_iconst C (dOf DX9_scriptLine 74 rfl) (v := 0) ki_0 ?_
            refine m_iconst C (dOf DX9_scriptLine 75 rfl) (v := 1) ki_1 ?_
            refine m_sipush C (dOf DX9_scriptLine 76 rfl) (v := 5000) ks_5000 ?_
            obtain ⟨hc, h⟩ := ck_spec h
            refine m_cI (st := []) h (fun o' ho H locs ls hl hr hs => ⟨_, m_runV C (dOf DX9_scriptLine 77 rfl) km_X9_104 ky_X9_takes (by decide) ⟨rfl, rfl⟩ (c_X9_takes _ G _ _ _ _ _ o' ho) hc.1 hc.2 (by decide) rfl rfl rfl (Nat.le_of_ble_eq_true rfl) ⟨Nat.le_refl _, Nat.le_refl _⟩ hl hr hs⟩) (fun v54 S53 h => ?_)
            refine m_ifeq C (dOf DX9_scriptLine 78 rfl) (tgt := 232) rfl h (fun h => ?_) (fun h => ?_)
            · exact m_sub [0, 1, 3] rfl (hj41 _ h)
            · refine m_goto C (dOf DX9_scriptLine 79 rfl) (tgt := 228) rfl ?_
              exact m_sub [0, 1, 3] rfl (hj39 _ h)
      refine m_ifne C (dOf DX9_scriptLine 25 rfl) (tgt := 107) rfl h (fun h => ?_) (fun h => ?_)
      · exact m_sub [1, 2, 3, 0] rfl (hj5 _ h)
      · refine m_iload C (dOf DX9_scriptLine 26 rfl) 0 rfl ?_
        refine m_ifne C (dOf DX9_scriptLine 27 rfl) (tgt := 107) rfl h (fun h => ?_) (fun h => ?_)
        · exact m_sub [1, 2, 3, 0] rfl (hj5 _ h)
        · refine m_lload_n C (dOf DX9_scriptLine 28 rfl) rfl 2 rfl ?_
          refine m_ldc2 C (dOf DX9_scriptLine 29 rfl) kc_X9_115 ?_
          refine m_lcmp C (dOf DX9_scriptLine 30 rfl) h (fun v55 h => ?_)
          refine m_ifeq C (dOf DX9_scriptLine 31 rfl) (tgt := 107) rfl h (fun h => ?_) (fun h => ?_)
          · exact m_sub [1, 2, 3, 0] rfl (hj5 _ h)
          · refine m_lload_n C (dOf DX9_scriptLine 32 rfl) rfl 2 rfl ?_
            refine m_ldc2 C (dOf DX9_scriptLine 33 rfl) kc_X9_117 ?_
            refine m_lcmp C (dOf DX9_scriptLine 34 rfl) h (fun v56 h => ?_)
            refine m_ifeq C (dOf DX9_scriptLine 35 rfl) (tgt := 107) rfl h (fun h => ?_) (fun h => ?_)
            · exact m_sub [1, 2, 3, 0] rfl (hj5 _ h)
            · refine m_lload_n C (dOf DX9_scriptLine 36 rfl) rfl 2 rfl ?_
              refine m_ldc2 C (dOf DX9_scriptLine 37 rfl) kc_X9_119 ?_
              refine m_lcmp C (dOf DX9_scriptLine 38 rfl) h (fun v57 h => ?_)
              refine m_ifeq C (dOf DX9_scriptLine 39 rfl) (tgt := 107) rfl h (fun h => ?_) (fun h => ?_)
              · exact m_sub [1, 2, 3, 0] rfl (hj5 _ h)
              · refine m_lload_n C (dOf DX9_scriptLine 40 rfl) rfl 2 rfl ?_
                refine m_ldc2 C (dOf DX9_scriptLine 41 rfl) kc_X9_121 ?_
                refine m_lcmp C (dOf DX9_scriptLine 42 rfl) h (fun v58 h => ?_)
                refine m_ifeq C (dOf DX9_scriptLine 43 rfl) (tgt := 107) rfl h (fun h => ?_) (fun h => ?_)
                · exact m_sub [1, 2, 3, 0] rfl (hj5 _ h)
                · refine m_lload_n C (dOf DX9_scriptLine 44 rfl) rfl 2 rfl ?_
                  refine m_ldc2 C (dOf DX9_scriptLine 45 rfl) kc_X9_123 ?_
                  refine m_lcmp C (dOf DX9_scriptLine 46 rfl) h (fun v59 h => ?_)
                  refine m_ifeq C (dOf DX9_scriptLine 47 rfl) (tgt := 107) rfl h (fun h => ?_) (fun h => ?_)
                  · exact m_sub [1, 2, 3, 0] rfl (hj5 _ h)
                  · refine m_lload_n C (dOf DX9_scriptLine 48 rfl) rfl 2 rfl ?_
                    refine m_ldc2 C (dOf DX9_scriptLine 49 rfl) kc_X9_125 ?_
                    refine m_lcmp C (dOf DX9_scriptLine 50 rfl) h (fun v60 h => ?_)
                    refine m_ifeq C (dOf DX9_scriptLine 51 rfl) (tgt := 107) rfl h (fun h => ?_) (fun h => ?_)
                    · exact m_sub [1, 2, 3, 0] rfl (hj5 _ h)
                    · refine m_aload_n C (dOf DX9_scriptLine 52 rfl) rfl 1 rfl ?_
                      obtain ⟨hc, h⟩ := ck_spec h
                      refine m_cI (st := []) h (fun o' ho H locs ls hl hr hs => ⟨_, m_runV C (dOf DX9_scriptLine 53 rfl) km_X9_86 ky_X9_fails (by decide) ⟨rfl, rfl⟩ (c_X9_fails _ G _ _ o' ho) hc.1 hc.2 (by decide) rfl rfl rfl (Nat.le_of_ble_eq_true rfl) ⟨Nat.le_refl _, Nat.le_refl _⟩ hl hr hs⟩) (fun v62 S61 h => ?_)
                      exact m_zret C rfl (dOf DX9_scriptLine 54 rfl) h
    refine m_jn (J := fun (x63 : Unit) => WM X G 6 0 0 (wQ X G (qI G o) 0 0) 38 [(0, .ref (G.1 + b0)), (1, .long q1), (3, .int x2)] [] S) h (fun x63 h => ?_) (fun j63 hj63 h => ?_)
    · refine m_iconst C (dOf DX9_scriptLine 20 rfl) (v := 1) ki_1 ?_
      refine m_goto C (dOf DX9_scriptLine 21 rfl) (tgt := 43) rfl ?_
      exact m_sub [0, 1, 2] rfl (hj4 _ h)
    refine m_ifeq C (dOf DX9_scriptLine 15 rfl) (tgt := 38) rfl h (fun h => ?_) (fun h => ?_)
    · exact m_sub [1, 2, 0] rfl (hj63 _ h)
    · refine m_lload_n C (dOf DX9_scriptLine 16 rfl) rfl 2 rfl ?_
      refine m_ldc2 C (dOf DX9_scriptLine 17 rfl) kc_X9_113 ?_
      refine m_lcmp C (dOf DX9_scriptLine 18 rfl) h (fun v64 h => ?_)
      refine m_ifne C (dOf DX9_scriptLine 19 rfl) (tgt := 42) rfl h (fun h => ?_) (fun h => ?_)
      · refine m_iconst C (dOf DX9_scriptLine 22 rfl) (v := 0) ki_0 ?_
        exact m_sub [1, 2, 0] rfl (hj4 _ h)
      · exact m_sub [1, 2, 0] rfl (hj63 _ h)
  refine m_jn (J := fun (x65 : Unit) => WM X G 6 0 0 (wQ X G (qI G o) 0 0) 16 [(0, .ref (G.1 + b0)), (1, .long q1)] [] S) h (fun x65 h => ?_) (fun j65 hj65 h => ?_)
  · refine m_iconst C (dOf DX9_scriptLine 8 rfl) (v := 1) ki_1 ?_
    refine m_goto C (dOf DX9_scriptLine 9 rfl) (tgt := 21) rfl ?_
    exact m_sub [0, 1] rfl (hj2 _ h)
  refine m_ifeq C (dOf DX9_scriptLine 3 rfl) (tgt := 16) rfl h (fun h => ?_) (fun h => ?_)
  · exact m_sub [0, 1] rfl (hj65 _ h)
  · refine m_lload_n C (dOf DX9_scriptLine 4 rfl) rfl 1 rfl ?_
    refine m_ldc2 C (dOf DX9_scriptLine 5 rfl) kc_X9_109 ?_
    refine m_lcmp C (dOf DX9_scriptLine 6 rfl) h (fun v66 h => ?_)
    refine m_ifne C (dOf DX9_scriptLine 7 rfl) (tgt := 20) rfl h (fun h => ?_) (fun h => ?_)
    · refine m_iconst C (dOf DX9_scriptLine 10 rfl) (v := 0) ki_0 ?_
      exact m_sub [0, 1] rfl (hj2 _ h)
    · exact m_sub [0, 1] rfl (hj65 _ h)
/-- TraceRingModel.readsAll(Z)V -/
def f_X9_readsAll (S : St) (b0 : Nat) (p1 : Int32) : Option St :=
  gR_ S b0 9 1 fun a1 =>
  aI_ S a1 11 985 fun v2 =>
  pI_ S b0 9 5 v2 fun S3 =>
  gR_ S3 b0 9 1 fun a4 =>
  sI_ S3 a4 985 0 fun S5 =>
  pI_ S5 b0 9 11 (-1) fun S6 =>
  pI_ S6 b0 9 4 0 fun S7 =>
  pI_ S7 b0 9 18 0 fun S8 =>
  ck_ S8 b0 9 <| cV_ (f_X9_atFirst S8 b0) fun S9 =>
  ck_ S9 b0 9 <| cV_ (f_X9_token S9 b0) fun S10 =>
  lp_ (fun self11 (x11 : Int32 × St) =>
    jn_ (fun (x12 : Unit) =>
      gR_ x11.2 b0 9 1 fun a13 =>
      jn_ (fun (x14 : Int32) =>
        sI_ x11.2 a13 986 x14 fun S15 =>
        gR_ S15 b0 9 1 fun a16 =>
        jn_ (fun (x17 : Int32) =>
          sI_ S15 a16 987 x17 fun S18 =>
          rt_ S18
        ) fun j17 =>
        if x11.1 = 0 then
          gI_ S15 b0 9 10 fun v20 =>
          j17 (v20)
        else
          gI_ S15 b0 9 11 fun v19 =>
          j17 (v19)
      ) fun j14 =>
      if x11.1 = 0 then
        j14 (1)
      else
        gI_ x11.2 b0 9 11 fun v21 =>
        if v21 = (-1) then
          j14 (0)
        else
          j14 (2)
    ) fun j12 =>
    if x11.1 = 0 then
      j12 ()
    else
      gI_ x11.2 b0 9 7 fun v22 =>
      if v22 = 0 then
        j12 ()
      else
        gI_ x11.2 b0 9 7 fun v23 =>
        jn_ (fun (x24 : Int64) =>
          jn_ (fun (x25 : Int32 × St) =>
            jn_ (fun (x26 : Int32 × St) =>
              jn_ (fun (x27 : St) =>
                self11 (x26.1, x27)
              ) fun j27 =>
              if x26.1 = 0 then
                j27 (x26.2)
              else
                ck_ x26.2 b0 9 <| cV_ (f_X9_token x26.2 b0) fun S28 =>
                j27 (S28)
            ) fun j26 =>
            if x25.1 = 0 then
              j26 (x25.1, x25.2)
            else
              gI_ x25.2 b0 9 7 fun v29 =>
              if v29 = 4 then
                j26 (x25.1, x25.2)
              else
                ck_ x25.2 b0 9 <| cI_ (f_X9_fails x25.2 b0) fun v31 S30 =>
                j26 (v31, S30)
          ) fun j25 =>
          if p1 = 0 then
            ck_ x11.2 b0 9 <| cI_ (f_X9_scriptLine x11.2 b0 x24) fun v33 S32 =>
            j25 (v33, S32)
          else
            ck_ x11.2 b0 9 <| cI_ (f_X9_ringLine x11.2 b0 x24) fun v35 S34 =>
            j25 (v35, S34)
        ) fun j24 =>
        if v23 = 2 then
          gJ_ x11.2 b0 9 9 fun v36 =>
          j24 (v36)
        else
          j24 (0)
  ) FU (1, S10)
set_option maxRecDepth 100000 in
set_option maxHeartbeats 4000000 in
theorem c_X9_readsAll (l : Launch) (G : Gx) (S : St) (b0 : Nat) (p1 : Int32) (o : St) (h : f_X9_readsAll S b0 p1 = some o) : Met l yX9_readsAll (Cond.code yX9_readsAll cX9_readsAll 5 none :: wAll) ({ frames := 4, cells := 0, slots := 0, locals := 92 } : Room) (va_Pc [.ref (G.1 + b0), .int p1] (wPre G S)) (qV G o) 0 0 (wA G) := by
  refine m_start (by decide +kernel) (Nat.le_of_ble_eq_true rfl) (fun X C => ?_)
  unfold f_X9_readsAll at h
  show WM X G 5 0 0 (wQ X G (qV G o) 0 0) 0 [(0, .ref (G.1 + b0)), (1, .int p1)] [] S
  refine m_aload_n C (dOf DX9_readsAll 0 rfl) rfl 0 rfl ?_
  refine m_aload_n C (dOf DX9_readsAll 1 rfl) rfl 0 rfl ?_
  refine m_gR C (dOf DX9_readsAll 2 rfl) kf_X9_7 fg_9_1 h (fun a1 h => ?_)
  refine m_sipush C (dOf DX9_readsAll 3 rfl) (v := 985) ks_985 ?_
  refine m_aI C (dOf DX9_readsAll 4 rfl) h (fun v2 h => ?_)
  refine m_pI C (dOf DX9_readsAll 5 rfl) kf_X9_59 fp_9_5 h (fun S3 h => ?_)
  refine m_aload_n C (dOf DX9_readsAll 6 rfl) rfl 0 rfl ?_
  refine m_gR C (dOf DX9_readsAll 7 rfl) kf_X9_7 fg_9_1 h (fun a4 h => ?_)
  refine m_sipush C (dOf DX9_readsAll 8 rfl) (v := 985) ks_985 ?_
  refine m_iconst C (dOf DX9_readsAll 9 rfl) (v := 0) ki_0 ?_
  refine m_sI C (dOf DX9_readsAll 10 rfl) h (fun S5 h => ?_)
  refine m_aload_n C (dOf DX9_readsAll 11 rfl) rfl 0 rfl ?_
  refine m_iconst C (dOf DX9_readsAll 12 rfl) (v := (-1)) ki_m1 ?_
  refine m_pI C (dOf DX9_readsAll 13 rfl) kf_X9_90 fp_9_11 h (fun S6 h => ?_)
  refine m_aload_n C (dOf DX9_readsAll 14 rfl) rfl 0 rfl ?_
  refine m_iconst C (dOf DX9_readsAll 15 rfl) (v := 0) ki_0 ?_
  refine m_pI C (dOf DX9_readsAll 16 rfl) kf_X9_56 fp_9_4 h (fun S7 h => ?_)
  refine m_aload_n C (dOf DX9_readsAll 17 rfl) rfl 0 rfl ?_
  refine m_iconst C (dOf DX9_readsAll 18 rfl) (v := 0) ki_0 ?_
  refine m_pI C (dOf DX9_readsAll 19 rfl) kf_X9_127 fp_9_18 h (fun S8 h => ?_)
  refine m_aload_n C (dOf DX9_readsAll 20 rfl) rfl 0 rfl ?_
  obtain ⟨hc, h⟩ := ck_spec h
  refine m_cV (st := []) h (fun o' ho H locs ls hl hr hs => ⟨_, m_runV C (dOf DX9_readsAll 21 rfl) km_X9_34 ky_X9_atFirst (by decide) ⟨rfl, rfl⟩ (c_X9_atFirst _ G _ _ o' ho) hc.1 hc.2 (by decide) rfl rfl rfl (Nat.le_of_ble_eq_true rfl) ⟨Nat.le_refl _, Nat.le_refl _⟩ hl hr hs⟩) (fun S9 h => ?_)
  refine m_aload_n C (dOf DX9_readsAll 22 rfl) rfl 0 rfl ?_
  obtain ⟨hc, h⟩ := ck_spec h
  refine m_cV (st := []) h (fun o' ho H locs ls hl hr hs => ⟨_, m_runV C (dOf DX9_readsAll 23 rfl) km_X9_93 ky_X9_token (by decide) ⟨rfl, rfl⟩ (c_X9_token _ G _ _ o' ho) hc.1 hc.2 (by decide) rfl rfl rfl (Nat.le_of_ble_eq_true rfl) ⟨Nat.le_refl _, Nat.le_refl _⟩ hl hr hs⟩) (fun S10 h => ?_)
  refine m_iconst C (dOf DX9_readsAll 24 rfl) (v := 1) ki_1 ?_
  refine m_istore_n C (dOf DX9_readsAll 25 rfl) rfl (by decide) (lv' := [(2, .int 1), (0, .ref (G.1 + b0)), (1, .int p1)]) rfl ?_
  refine m_sub [1, 2, 0] rfl (m_lp (J := fun (x11 : Int32 × St) => WM X G 5 0 0 (wQ X G (qV G o) 0 0) 46 [(0, .ref (G.1 + b0)), (1, .int p1), (2, .int x11.1)] [] x11.2) h (fun self11 hself11 x11 h => ?_))
  refine m_iload_n C (dOf DX9_readsAll 26 rfl) rfl 2 rfl ?_
  refine m_jn (J := fun (x12 : Unit) => WM X G 5 0 0 (wQ X G (qV G o) 0 0) 120 [(0, .ref (G.1 + b0)), (2, .int x11.1)] [] x11.2) h (fun x12 h => ?_) (fun j12 hj12 h => ?_)
  · refine m_aload_n C (dOf DX9_readsAll 64 rfl) rfl 0 rfl ?_
    refine m_gR C (dOf DX9_readsAll 65 rfl) kf_X9_7 fg_9_1 h (fun a13 h => ?_)
    refine m_sipush C (dOf DX9_readsAll 66 rfl) (v := 986) ks_986 ?_
    refine m_iload_n C (dOf DX9_readsAll 67 rfl) rfl 1 rfl ?_
    refine m_jn (J := fun (x14 : Int32) => WM X G 5 0 0 (wQ X G (qV G o) 0 0) 148 [(0, .ref (G.1 + b0)), (2, .int x11.1)] [.int x14, .int 986, .ref (G.1 + a13)] x11.2) h (fun x14 h => ?_) (fun j14 hj14 h => ?_)
    · refine m_sI C (dOf DX9_readsAll 78 rfl) h (fun S15 h => ?_)
      refine m_aload_n C (dOf DX9_readsAll 79 rfl) rfl 0 rfl ?_
      refine m_gR C (dOf DX9_readsAll 80 rfl) kf_X9_7 fg_9_1 h (fun a16 h => ?_)
      refine m_sipush C (dOf DX9_readsAll 81 rfl) (v := 987) ks_987 ?_
      refine m_iload_n C (dOf DX9_readsAll 82 rfl) rfl 1 rfl ?_
      refine m_jn (J := fun (x17 : Int32) => WM X G 5 0 0 (wQ X G (qV G o) 0 0) 171 [] [.int x17, .int 987, .ref (G.1 + a16)] S15) h (fun x17 h => ?_) (fun j17 hj17 h => ?_)
      · refine m_sI C (dOf DX9_readsAll 89 rfl) h (fun S18 h => ?_)
        exact m_vret C rfl (dOf DX9_readsAll 90 rfl) h
      refine m_ifne C (dOf DX9_readsAll 83 rfl) (tgt := 167) rfl h (fun h => ?_) (fun h => ?_)
      · refine m_aload_n C (dOf DX9_readsAll 87 rfl) rfl 0 rfl ?_
        refine m_gI C (dOf DX9_readsAll 88 rfl) kf_X9_90 fg_9_11 h (fun v19 h => ?_)
        exact m_sub [] rfl (hj17 _ h)
      · refine m_aload_n C (dOf DX9_readsAll 84 rfl) rfl 0 rfl ?_
        refine m_gI C (dOf DX9_readsAll 85 rfl) kf_X9_83 fg_9_10 h (fun v20 h => ?_)
        refine m_goto C (dOf DX9_readsAll 86 rfl) (tgt := 171) rfl ?_
        exact m_sub [] rfl (hj17 _ h)
    refine m_ifne C (dOf DX9_readsAll 68 rfl) (tgt := 135) rfl h (fun h => ?_) (fun h => ?_)
    · refine m_aload_n C (dOf DX9_readsAll 71 rfl) rfl 0 rfl ?_
      refine m_gI C (dOf DX9_readsAll 72 rfl) kf_X9_90 fg_9_11 h (fun v21 h => ?_)
      refine m_iconst C (dOf DX9_readsAll 73 rfl) (v := (-1)) ki_m1 ?_
      refine m_icmpeq C (dOf DX9_readsAll 74 rfl) (tgt := 147) rfl h (fun h => ?_) (fun h => ?_)
      · refine m_iconst C (dOf DX9_readsAll 77 rfl) (v := 0) ki_0 ?_
        exact m_sub [0, 1] rfl (hj14 _ h)
      · refine m_iconst C (dOf DX9_readsAll 75 rfl) (v := 2) ki_2 ?_
        refine m_goto C (dOf DX9_readsAll 76 rfl) (tgt := 148) rfl ?_
        exact m_sub [0, 1] rfl (hj14 _ h)
    · refine m_iconst C (dOf DX9_readsAll 69 rfl) (v := 1) ki_1 ?_
      refine m_goto C (dOf DX9_readsAll 70 rfl) (tgt := 148) rfl ?_
      exact m_sub [0, 1] rfl (hj14 _ h)
  refine m_ifeq C (dOf DX9_readsAll 27 rfl) (tgt := 120) rfl h (fun h => ?_) (fun h => ?_)
  · exact m_sub [0, 2] rfl (hj12 _ h)
  · refine m_aload_n C (dOf DX9_readsAll 28 rfl) rfl 0 rfl ?_
    refine m_gI C (dOf DX9_readsAll 29 rfl) kf_X9_73 fg_9_7 h (fun v22 h => ?_)
    refine m_ifeq C (dOf DX9_readsAll 30 rfl) (tgt := 120) rfl h (fun h => ?_) (fun h => ?_)
    · exact m_sub [0, 2] rfl (hj12 _ h)
    · refine m_aload_n C (dOf DX9_readsAll 31 rfl) rfl 0 rfl ?_
      refine m_gI C (dOf DX9_readsAll 32 rfl) kf_X9_73 fg_9_7 h (fun v23 h => ?_)
      refine m_iconst C (dOf DX9_readsAll 33 rfl) (v := 2) ki_2 ?_
      refine m_jn (J := fun (x24 : Int64) => WM X G 5 0 0 (wQ X G (qV G o) 0 0) 73 [(0, .ref (G.1 + b0)), (1, .int p1)] [.long x24] x11.2) h (fun x24 h => ?_) (fun j24 hj24 h => ?_)
      · refine m_lstore_n C (dOf DX9_readsAll 39 rfl) rfl (by decide) (lv' := [(3, .long x24), (0, .ref (G.1 + b0)), (1, .int p1)]) rfl ?_
        refine m_iload_n C (dOf DX9_readsAll 40 rfl) rfl 2 rfl ?_
        refine m_jn (J := fun (x25 : Int32 × St) => WM X G 5 0 0 (wQ X G (qV G o) 0 0) 91 [(0, .ref (G.1 + b0)), (1, .int p1)] [.int x25.1] x25.2) h (fun x25 h => ?_) (fun j25 hj25 h => ?_)
        · refine m_istore_n C (dOf DX9_readsAll 49 rfl) rfl (by decide) (lv' := [(2, .int x25.1), (0, .ref (G.1 + b0)), (1, .int p1)]) rfl ?_
          refine m_iload_n C (dOf DX9_readsAll 50 rfl) rfl 0 rfl ?_
          refine m_jn (J := fun (x26 : Int32 × St) => WM X G 5 0 0 (wQ X G (qV G o) 0 0) 109 [(0, .ref (G.1 + b0)), (1, .int p1), (2, .int x26.1)] [] x26.2) h (fun x26 h => ?_) (fun j26 hj26 h => ?_)
          · refine m_iload_n C (dOf DX9_readsAll 59 rfl) rfl 2 rfl ?_
            refine m_jn (J := fun (x27 : St) => WM X G 5 0 0 (wQ X G (qV G o) 0 0) 117 [(0, .ref (G.1 + b0)), (1, .int p1), (2, .int x26.1)] [] x27) h (fun x27 h => ?_) (fun j27 hj27 h => ?_)
            · refine m_goto C (dOf DX9_readsAll 63 rfl) (tgt := 46) rfl ?_
              exact m_sub [0, 1, 2] rfl (hself11 _ h)
            refine m_ifeq C (dOf DX9_readsAll 60 rfl) (tgt := 117) rfl h (fun h => ?_) (fun h => ?_)
            · exact m_sub [0, 1, 2] rfl (hj27 _ h)
            · refine m_aload_n C (dOf DX9_readsAll 61 rfl) rfl 0 rfl ?_
              obtain ⟨hc, h⟩ := ck_spec h
              refine m_cV (st := []) h (fun o' ho H locs ls hl hr hs => ⟨_, m_runV C (dOf DX9_readsAll 62 rfl) km_X9_93 ky_X9_token (by decide) ⟨rfl, rfl⟩ (c_X9_token _ G _ _ o' ho) hc.1 hc.2 (by decide) rfl rfl rfl (Nat.le_of_ble_eq_true rfl) ⟨Nat.le_refl _, Nat.le_refl _⟩ hl hr hs⟩) (fun S28 h => ?_)
              exact m_sub [0, 1, 2] rfl (hj27 _ h)
          refine m_ifeq C (dOf DX9_readsAll 51 rfl) (tgt := 109) rfl h (fun h => ?_) (fun h => ?_)
          · exact m_sub [1, 2, 0] rfl (hj26 _ h)
          · refine m_aload_n C (dOf DX9_readsAll 52 rfl) rfl 1 rfl ?_
            refine m_gI C (dOf DX9_readsAll 53 rfl) kf_X9_73 fg_9_7 h (fun v29 h => ?_)
            refine m_iconst C (dOf DX9_readsAll 54 rfl) (v := 4) ki_4 ?_
            refine m_icmpeq C (dOf DX9_readsAll 55 rfl) (tgt := 109) rfl h (fun h => ?_) (fun h => ?_)
            · exact m_sub [1, 2, 0] rfl (hj26 _ h)
            · refine m_aload_n C (dOf DX9_readsAll 56 rfl) rfl 1 rfl ?_
              obtain ⟨hc, h⟩ := ck_spec h
              refine m_cI (st := []) h (fun o' ho H locs ls hl hr hs => ⟨_, m_runV C (dOf DX9_readsAll 57 rfl) km_X9_86 ky_X9_fails (by decide) ⟨rfl, rfl⟩ (c_X9_fails _ G _ _ o' ho) hc.1 hc.2 (by decide) rfl rfl rfl (Nat.le_of_ble_eq_true rfl) ⟨Nat.le_refl _, Nat.le_refl _⟩ hl hr hs⟩) (fun v31 S30 h => ?_)
              refine m_istore_n C (dOf DX9_readsAll 58 rfl) rfl (by decide) (lv' := [(2, .int v31), (0, .ref (G.1 + b0)), (1, .int p1)]) rfl ?_
              exact m_sub [1, 2, 0] rfl (hj26 _ h)
        refine m_ifeq C (dOf DX9_readsAll 41 rfl) (tgt := 86) rfl h (fun h => ?_) (fun h => ?_)
        · refine m_aload_n C (dOf DX9_readsAll 46 rfl) rfl 1 rfl ?_
          refine m_lload_n C (dOf DX9_readsAll 47 rfl) rfl 0 rfl ?_
          obtain ⟨hc, h⟩ := ck_spec h
          refine m_cI (st := []) h (fun o' ho H locs ls hl hr hs => ⟨_, m_runV C (dOf DX9_readsAll 48 rfl) km_X9_134 ky_X9_scriptLine (by decide) ⟨rfl, rfl⟩ (c_X9_scriptLine _ G _ _ _ o' ho) hc.1 hc.2 (by decide) rfl rfl rfl (Nat.le_of_ble_eq_true rfl) ⟨Nat.le_refl _, Nat.le_refl _⟩ hl hr hs⟩) (fun v33 S32 h => ?_)
          exact m_sub [1, 2] rfl (hj25 _ h)
        · refine m_aload_n C (dOf DX9_readsAll 42 rfl) rfl 1 rfl ?_
          refine m_lload_n C (dOf DX9_readsAll 43 rfl) rfl 0 rfl ?_
          obtain ⟨hc, h⟩ := ck_spec h
          refine m_cI (st := []) h (fun o' ho H locs ls hl hr hs => ⟨_, m_runV C (dOf DX9_readsAll 44 rfl) km_X9_130 ky_X9_ringLine (by decide) ⟨rfl, rfl⟩ (c_X9_ringLine _ G _ _ _ o' ho) hc.1 hc.2 (by decide) rfl rfl rfl (Nat.le_of_ble_eq_true rfl) ⟨Nat.le_refl _, Nat.le_refl _⟩ hl hr hs⟩) (fun v35 S34 h => ?_)
          refine m_goto C (dOf DX9_readsAll 45 rfl) (tgt := 91) rfl ?_
          exact m_sub [1, 2] rfl (hj25 _ h)
      refine m_icmpne C (dOf DX9_readsAll 34 rfl) (tgt := 72) rfl h (fun h => ?_) (fun h => ?_)
      · refine m_lconst C (dOf DX9_readsAll 38 rfl) (v := 0) (by decide) ?_
        exact m_sub [0, 1] rfl (hj24 _ h)
      · refine m_aload_n C (dOf DX9_readsAll 35 rfl) rfl 0 rfl ?_
        refine m_gJ C (dOf DX9_readsAll 36 rfl) kf_X9_69 fg_9_9 h (fun v36 h => ?_)
        refine m_goto C (dOf DX9_readsAll 37 rfl) (tgt := 73) rfl ?_
        exact m_sub [0, 1] rfl (hj24 _ h)
/-- TraceRingModel.lay(III)V -/
def f_X9_lay (S : St) (b0 : Nat) (p1 : Int32) (p2 : Int32) (p3 : Int32) : Option St :=
  gR_ S b0 9 1 fun a1 =>
  lt_ (132 * p1 : Int32) fun v2 =>
  lt_ (61 + v2 : Int32) fun v3 =>
  lt_ (v3 + p2 : Int32) fun v4 =>
  sI_ S a1 v4 p3 fun S5 =>
  rt_ S5
set_option maxRecDepth 100000 in
set_option maxHeartbeats 4000000 in
theorem c_X9_lay (l : Launch) (G : Gx) (S : St) (b0 : Nat) (p1 : Int32) (p2 : Int32) (p3 : Int32) (o : St) (h : f_X9_lay S b0 p1 p2 p3 = some o) : Met l yX9_lay (Cond.code yX9_lay cX9_lay 4 none :: wAll) ({ frames := 0, cells := 0, slots := 0, locals := 0 } : Room) (va_Pc [.ref (G.1 + b0), .int p1, .int p2, .int p3] (wPre G S)) (qV G o) 0 0 (wA G) := by
  refine m_start (by decide +kernel) (Nat.le_of_ble_eq_true rfl) (fun X C => ?_)
  unfold f_X9_lay at h
  show WM X G 4 0 0 (wQ X G (qV G o) 0 0) 0 [(0, .ref (G.1 + b0)), (1, .int p1), (2, .int p2), (3, .int p3)] [] S
  refine m_aload_n C (dOf DX9_lay 0 rfl) rfl 0 rfl ?_
  refine m_gR C (dOf DX9_lay 1 rfl) kf_X9_7 fg_9_1 h (fun a1 h => ?_)
  refine m_bipush C (dOf DX9_lay 2 rfl) (v := 61) kb_61 ?_
  refine m_sipush C (dOf DX9_lay 3 rfl) (v := 132) ks_132 ?_
  refine m_iload_n C (dOf DX9_lay 4 rfl) rfl 1 rfl ?_
  refine m_imul C (dOf DX9_lay 5 rfl) h (fun v2 h => ?_)
  refine m_iadd C (dOf DX9_lay 6 rfl) h (fun v3 h => ?_)
  refine m_iload_n C (dOf DX9_lay 7 rfl) rfl 2 rfl ?_
  refine m_iadd C (dOf DX9_lay 8 rfl) h (fun v4 h => ?_)
  refine m_iload_n C (dOf DX9_lay 9 rfl) rfl 3 rfl ?_
  refine m_sI C (dOf DX9_lay 10 rfl) h (fun S5 h => ?_)
  exact m_vret C rfl (dOf DX9_lay 11 rfl) h
/-- TraceRingModel.begins(III)V -/
def f_X9_begins (S : St) (b0 : Nat) (p1 : Int32) (p2 : Int32) (p3 : Int32) : Option St :=
  lp_ (fun self1 (x1 : Int32 × St) =>
    if 985 ≤ x1.1 then
      gR_ x1.2 b0 9 1 fun a2 =>
      sI_ x1.2 a2 0 p1 fun S3 =>
      gR_ S3 b0 9 1 fun a4 =>
      sI_ S3 a4 1 p2 fun S5 =>
      gR_ S5 b0 9 1 fun a6 =>
      sI_ S5 a6 2 p3 fun S7 =>
      gR_ S7 b0 9 1 fun a8 =>
      sI_ S7 a8 9 15 fun S9 =>
      gR_ S9 b0 9 1 fun a10 =>
      sI_ S9 a10 19 (-1) fun S11 =>
      gR_ S11 b0 9 1 fun a12 =>
      sI_ S11 a12 7 6 fun S13 =>
      lp_ (fun self14 (x14 : Int32 × St) =>
        if 6 ≤ x14.1 then
          lp_ (fun self15 (x15 : Int32 × St) =>
            if 6 < x15.1 then
              rt_ x15.2
            else
              ck_ x15.2 b0 9 <| cV_ (f_X9_lay x15.2 b0 x15.1 0 (-1)) fun S16 =>
              lt_ (x15.1 + 1) fun v17 =>
              self15 (v17, S16)
          ) FU (0, x14.2)
        else
          gR_ x14.2 b0 9 1 fun a18 =>
          lt_ (55 + x14.1 : Int32) fun v19 =>
          sI_ x14.2 a18 v19 x14.1 fun S20 =>
          lt_ (x14.1 + 1) fun v21 =>
          self14 (v21, S20)
      ) FU (0, S13)
    else
      gR_ x1.2 b0 9 1 fun a22 =>
      sI_ x1.2 a22 x1.1 0 fun S23 =>
      lt_ (x1.1 + 1) fun v24 =>
      self1 (v24, S23)
  ) FU (0, S)
set_option maxRecDepth 100000 in
set_option maxHeartbeats 4000000 in
theorem c_X9_begins (l : Launch) (G : Gx) (S : St) (b0 : Nat) (p1 : Int32) (p2 : Int32) (p3 : Int32) (o : St) (h : f_X9_begins S b0 p1 p2 p3 = some o) : Met l yX9_begins (Cond.code yX9_begins cX9_begins 5 none :: wAll) ({ frames := 1, cells := 0, slots := 0, locals := 23 } : Room) (va_Pc [.ref (G.1 + b0), .int p1, .int p2, .int p3] (wPre G S)) (qV G o) 0 0 (wA G) := by
  refine m_start (by decide +kernel) (Nat.le_of_ble_eq_true rfl) (fun X C => ?_)
  unfold f_X9_begins at h
  show WM X G 5 0 0 (wQ X G (qV G o) 0 0) 0 [(0, .ref (G.1 + b0)), (1, .int p1), (2, .int p2), (3, .int p3)] [] S
  refine m_iconst C (dOf DX9_begins 0 rfl) (v := 0) ki_0 ?_
  refine m_istore C (dOf DX9_begins 1 rfl) (by decide) (lv' := [(4, .int 0), (0, .ref (G.1 + b0)), (1, .int p1), (2, .int p2), (3, .int p3)]) rfl ?_
  refine m_sub [1, 2, 3, 4, 0] rfl (m_lp (J := fun (x1 : Int32 × St) => WM X G 5 0 0 (wQ X G (qV G o) 0 0) 3 [(0, .ref (G.1 + b0)), (1, .int p1), (2, .int p2), (3, .int p3), (4, .int x1.1)] [] x1.2) h (fun self1 hself1 x1 h => ?_))
  refine m_iload C (dOf DX9_begins 2 rfl) 4 rfl ?_
  refine m_sipush C (dOf DX9_begins 3 rfl) (v := 985) ks_985 ?_
  refine m_icmpge C (dOf DX9_begins 4 rfl) (tgt := 25) rfl h (fun h => ?_) (fun h => ?_)
  · refine m_aload_n C (dOf DX9_begins 12 rfl) rfl 0 rfl ?_
    refine m_gR C (dOf DX9_begins 13 rfl) kf_X9_7 fg_9_1 h (fun a2 h => ?_)
    refine m_iconst C (dOf DX9_begins 14 rfl) (v := 0) ki_0 ?_
    refine m_iload_n C (dOf DX9_begins 15 rfl) rfl 1 rfl ?_
    refine m_sI C (dOf DX9_begins 16 rfl) h (fun S3 h => ?_)
    refine m_aload_n C (dOf DX9_begins 17 rfl) rfl 0 rfl ?_
    refine m_gR C (dOf DX9_begins 18 rfl) kf_X9_7 fg_9_1 h (fun a4 h => ?_)
    refine m_iconst C (dOf DX9_begins 19 rfl) (v := 1) ki_1 ?_
    refine m_iload_n C (dOf DX9_begins 20 rfl) rfl 2 rfl ?_
    refine m_sI C (dOf DX9_begins 21 rfl) h (fun S5 h => ?_)
    refine m_aload_n C (dOf DX9_begins 22 rfl) rfl 0 rfl ?_
    refine m_gR C (dOf DX9_begins 23 rfl) kf_X9_7 fg_9_1 h (fun a6 h => ?_)
    refine m_iconst C (dOf DX9_begins 24 rfl) (v := 2) ki_2 ?_
    refine m_iload_n C (dOf DX9_begins 25 rfl) rfl 3 rfl ?_
    refine m_sI C (dOf DX9_begins 26 rfl) h (fun S7 h => ?_)
    refine m_aload_n C (dOf DX9_begins 27 rfl) rfl 0 rfl ?_
    refine m_gR C (dOf DX9_begins 28 rfl) kf_X9_7 fg_9_1 h (fun a8 h => ?_)
    refine m_bipush C (dOf DX9_begins 29 rfl) (v := 9) kb_9 ?_
    refine m_bipush C (dOf DX9_begins 30 rfl) (v := 15) kb_15 ?_
    refine m_sI C (dOf DX9_begins 31 rfl) h (fun S9 h => ?_)
    refine m_aload_n C (dOf DX9_begins 32 rfl) rfl 0 rfl ?_
    refine m_gR C (dOf DX9_begins 33 rfl) kf_X9_7 fg_9_1 h (fun a10 h => ?_)
    refine m_bipush C (dOf DX9_begins 34 rfl) (v := 19) kb_19 ?_
    refine m_iconst C (dOf DX9_begins 35 rfl) (v := (-1)) ki_m1 ?_
    refine m_sI C (dOf DX9_begins 36 rfl) h (fun S11 h => ?_)
    refine m_aload_n C (dOf DX9_begins 37 rfl) rfl 0 rfl ?_
    refine m_gR C (dOf DX9_begins 38 rfl) kf_X9_7 fg_9_1 h (fun a12 h => ?_)
    refine m_bipush C (dOf DX9_begins 39 rfl) (v := 7) kb_7 ?_
    refine m_bipush C (dOf DX9_begins 40 rfl) (v := 6) kb_6 ?_
    refine m_sI C (dOf DX9_begins 41 rfl) h (fun S13 h => ?_)
    refine m_iconst C (dOf DX9_begins 42 rfl) (v := 0) ki_0 ?_
    refine m_istore C (dOf DX9_begins 43 rfl) (by decide) (lv' := [(4, .int 0), (0, .ref (G.1 + b0)), (1, .int p1), (2, .int p2), (3, .int p3)]) rfl ?_
    refine m_sub [1, 0] rfl (m_lp (J := fun (x14 : Int32 × St) => WM X G 5 0 0 (wQ X G (qV G o) 0 0) 75 [(0, .ref (G.1 + b0)), (4, .int x14.1)] [] x14.2) h (fun self14 hself14 x14 h => ?_))
    refine m_iload C (dOf DX9_begins 44 rfl) 1 rfl ?_
    refine m_bipush C (dOf DX9_begins 45 rfl) (v := 6) kb_6 ?_
    refine m_icmpge C (dOf DX9_begins 46 rfl) (tgt := 100) rfl h (fun h => ?_) (fun h => ?_)
    · refine m_iconst C (dOf DX9_begins 56 rfl) (v := 0) ki_0 ?_
      refine m_istore C (dOf DX9_begins 57 rfl) (by decide) (lv' := [(4, .int 0), (0, .ref (G.1 + b0))]) rfl ?_
      refine m_sub [1, 0] rfl (m_lp (J := fun (x15 : Int32 × St) => WM X G 5 0 0 (wQ X G (qV G o) 0 0) 103 [(0, .ref (G.1 + b0)), (4, .int x15.1)] [] x15.2) h (fun self15 hself15 x15 h => ?_))
      refine m_iload C (dOf DX9_begins 58 rfl) 1 rfl ?_
      refine m_bipush C (dOf DX9_begins 59 rfl) (v := 6) kb_6 ?_
      refine m_icmpgt C (dOf DX9_begins 60 rfl) (tgt := 124) rfl h (fun h => ?_) (fun h => ?_)
      · exact m_vret C rfl (dOf DX9_begins 68 rfl) h
      · refine m_aload_n C (dOf DX9_begins 61 rfl) rfl 0 rfl ?_
        refine m_iload C (dOf DX9_begins 62 rfl) 1 rfl ?_
        refine m_iconst C (dOf DX9_begins 63 rfl) (v := 0) ki_0 ?_
        refine m_iconst C (dOf DX9_begins 64 rfl) (v := (-1)) ki_m1 ?_
        obtain ⟨hc, h⟩ := ck_spec h
        refine m_cV (st := []) h (fun o' ho H locs ls hl hr hs => ⟨_, m_runV C (dOf DX9_begins 65 rfl) km_X9_141 ky_X9_lay (by decide) ⟨rfl, rfl⟩ (c_X9_lay _ G _ _ _ _ _ o' ho) hc.1 hc.2 (by decide) rfl rfl rfl (Nat.le_of_ble_eq_true rfl) ⟨Nat.le_refl _, Nat.le_refl _⟩ hl hr hs⟩) (fun S16 h => ?_)
        refine m_iinc C (dOf DX9_begins 66 rfl) (w := 1) ki_1 1 rfl (by decide) h (fun v17 h => ⟨[(4, .int v17), (0, .ref (G.1 + b0))], rfl, ?_⟩)
        refine m_goto C (dOf DX9_begins 67 rfl) (tgt := 103) rfl ?_
        exact m_sub [1, 0] rfl (hself15 _ h)
    · refine m_aload_n C (dOf DX9_begins 47 rfl) rfl 0 rfl ?_
      refine m_gR C (dOf DX9_begins 48 rfl) kf_X9_7 fg_9_1 h (fun a18 h => ?_)
      refine m_bipush C (dOf DX9_begins 49 rfl) (v := 55) kb_55 ?_
      refine m_iload C (dOf DX9_begins 50 rfl) 1 rfl ?_
      refine m_iadd C (dOf DX9_begins 51 rfl) h (fun v19 h => ?_)
      refine m_iload C (dOf DX9_begins 52 rfl) 1 rfl ?_
      refine m_sI C (dOf DX9_begins 53 rfl) h (fun S20 h => ?_)
      refine m_iinc C (dOf DX9_begins 54 rfl) (w := 1) ki_1 1 rfl (by decide) h (fun v21 h => ⟨[(4, .int v21), (0, .ref (G.1 + b0))], rfl, ?_⟩)
      refine m_goto C (dOf DX9_begins 55 rfl) (tgt := 75) rfl ?_
      exact m_sub [1, 0] rfl (hself14 _ h)
  · refine m_aload_n C (dOf DX9_begins 5 rfl) rfl 0 rfl ?_
    refine m_gR C (dOf DX9_begins 6 rfl) kf_X9_7 fg_9_1 h (fun a22 h => ?_)
    refine m_iload C (dOf DX9_begins 7 rfl) 4 rfl ?_
    refine m_iconst C (dOf DX9_begins 8 rfl) (v := 0) ki_0 ?_
    refine m_sI C (dOf DX9_begins 9 rfl) h (fun S23 h => ?_)
    refine m_iinc C (dOf DX9_begins 10 rfl) (w := 1) ki_1 4 rfl (by decide) h (fun v24 h => ⟨[(4, .int v24), (0, .ref (G.1 + b0)), (1, .int p1), (2, .int p2), (3, .int p3)], rfl, ?_⟩)
    refine m_goto C (dOf DX9_begins 11 rfl) (tgt := 3) rfl ?_
    exact m_sub [1, 2, 3, 4, 0] rfl (hself1 _ h)
/-- TraceRingModel.ring()I -/
def f_X9_ring (S : St) (b0 : Nat) : Option (Int32 × St) :=
  pI_ S b0 9 0 0 fun S1 =>
  ck_ S1 b0 9 <| cV_ (f_X9_readsAll S1 b0 1) fun S2 =>
  gR_ S2 b0 9 1 fun a3 =>
  aI_ S2 a3 11 986 fun v4 =>
  if v4 = 0 then
    gI_ S2 b0 9 13 fun v5 =>
    gI_ S2 b0 9 14 fun v6 =>
    gI_ S2 b0 9 15 fun v7 =>
    ck_ S2 b0 9 <| cV_ (f_X9_begins S2 b0 v5 v6 v7) fun S8 =>
    gI_ S8 b0 9 13 fun v9 =>
    gI_ S8 b0 9 14 fun v10 =>
    lt_ (v9 * v10 : Int32) fun v11 =>
    rt_ (v11, S8)
  else
    rt_ ((-1), S2)
set_option maxRecDepth 100000 in
set_option maxHeartbeats 4000000 in
theorem c_X9_ring (l : Launch) (G : Gx) (S : St) (b0 : Nat) (o : (Int32 × St)) (h : f_X9_ring S b0 = some o) : Met l yX9_ring (Cond.code yX9_ring cX9_ring 1 (some (.int)) :: wAll) ({ frames := 5, cells := 0, slots := 0, locals := 116 } : Room) (va_Pc [.ref (G.1 + b0)] (wPre G S)) (qI G o) 0 0 (wA G) := by
  refine m_start (by decide +kernel) (Nat.le_of_ble_eq_true rfl) (fun X C => ?_)
  unfold f_X9_ring at h
  show WM X G 1 0 0 (wQ X G (qI G o) 0 0) 0 [(0, .ref (G.1 + b0))] [] S
  refine m_aload_n C (dOf DX9_ring 0 rfl) rfl 0 rfl ?_
  refine m_iconst C (dOf DX9_ring 1 rfl) (v := 0) ki_0 ?_
  refine m_pI C (dOf DX9_ring 2 rfl) kf_X9_51 fp_9_0 h (fun S1 h => ?_)
  refine m_aload_n C (dOf DX9_ring 3 rfl) rfl 0 rfl ?_
  refine m_iconst C (dOf DX9_ring 4 rfl) (v := 1) ki_1 ?_
  obtain ⟨hc, h⟩ := ck_spec h
  refine m_cV (st := []) h (fun o' ho H locs ls hl hr hs => ⟨_, m_runV C (dOf DX9_ring 5 rfl) km_X9_137 ky_X9_readsAll (by decide) ⟨rfl, rfl⟩ (c_X9_readsAll _ G _ _ _ o' ho) hc.1 hc.2 (by decide) rfl rfl rfl (Nat.le_of_ble_eq_true rfl) ⟨Nat.le_refl _, Nat.le_refl _⟩ hl hr hs⟩) (fun S2 h => ?_)
  refine m_aload_n C (dOf DX9_ring 6 rfl) rfl 0 rfl ?_
  refine m_gR C (dOf DX9_ring 7 rfl) kf_X9_7 fg_9_1 h (fun a3 h => ?_)
  refine m_sipush C (dOf DX9_ring 8 rfl) (v := 986) ks_986 ?_
  refine m_aI C (dOf DX9_ring 9 rfl) h (fun v4 h => ?_)
  refine m_ifeq C (dOf DX9_ring 10 rfl) (tgt := 23) rfl h (fun h => ?_) (fun h => ?_)
  · refine m_aload_n C (dOf DX9_ring 13 rfl) rfl 0 rfl ?_
    refine m_aload_n C (dOf DX9_ring 14 rfl) rfl 0 rfl ?_
    refine m_gI C (dOf DX9_ring 15 rfl) kf_X9_37 fg_9_13 h (fun v5 h => ?_)
    refine m_aload_n C (dOf DX9_ring 16 rfl) rfl 0 rfl ?_
    refine m_gI C (dOf DX9_ring 17 rfl) kf_X9_41 fg_9_14 h (fun v6 h => ?_)
    refine m_aload_n C (dOf DX9_ring 18 rfl) rfl 0 rfl ?_
    refine m_gI C (dOf DX9_ring 19 rfl) kf_X9_44 fg_9_15 h (fun v7 h => ?_)
    obtain ⟨hc, h⟩ := ck_spec h
    refine m_cV (st := []) h (fun o' ho H locs ls hl hr hs => ⟨_, m_runV C (dOf DX9_ring 20 rfl) km_X9_47 ky_X9_begins (by decide) ⟨rfl, rfl⟩ (c_X9_begins _ G _ _ _ _ _ o' ho) hc.1 hc.2 (by decide) rfl rfl rfl (Nat.le_of_ble_eq_true rfl) ⟨Nat.le_refl _, Nat.le_refl _⟩ hl hr hs⟩) (fun S8 h => ?_)
    refine m_aload_n C (dOf DX9_ring 21 rfl) rfl 0 rfl ?_
    refine m_gI C (dOf DX9_ring 22 rfl) kf_X9_37 fg_9_13 h (fun v9 h => ?_)
    refine m_aload_n C (dOf DX9_ring 23 rfl) rfl 0 rfl ?_
    refine m_gI C (dOf DX9_ring 24 rfl) kf_X9_41 fg_9_14 h (fun v10 h => ?_)
    refine m_imul C (dOf DX9_ring 25 rfl) h (fun v11 h => ?_)
    exact m_iret C rfl (dOf DX9_ring 26 rfl) h
  · refine m_iconst C (dOf DX9_ring 11 rfl) (v := (-1)) ki_m1 ?_
    exact m_iret C rfl (dOf DX9_ring 12 rfl) h
/-- TraceRingModel.fault(Z)I -/
def f_X9_fault (S : St) (b0 : Nat) (p1 : Int32) : Option (Int32 × St) :=
  pI_ S b0 9 0 0 fun S1 =>
  jn_ (fun (x2 : Int32) =>
    rt_ (x2, S1)
  ) fun j2 =>
  if p1 = 0 then
    gR_ S1 b0 9 1 fun a3 =>
    aI_ S1 a3 11 986 fun v4 =>
    j2 (v4)
  else
    gR_ S1 b0 9 1 fun a5 =>
    aI_ S1 a5 11 987 fun v6 =>
    j2 (v6)
set_option maxRecDepth 100000 in
set_option maxHeartbeats 4000000 in
theorem c_X9_fault (l : Launch) (G : Gx) (S : St) (b0 : Nat) (p1 : Int32) (o : (Int32 × St)) (h : f_X9_fault S b0 p1 = some o) : Met l yX9_fault (Cond.code yX9_fault cX9_fault 2 (some (.int)) :: wAll) ({ frames := 0, cells := 0, slots := 0, locals := 0 } : Room) (va_Pc [.ref (G.1 + b0), .int p1] (wPre G S)) (qI G o) 0 0 (wA G) := by
  refine m_start (by decide +kernel) (Nat.le_of_ble_eq_true rfl) (fun X C => ?_)
  unfold f_X9_fault at h
  show WM X G 2 0 0 (wQ X G (qI G o) 0 0) 0 [(0, .ref (G.1 + b0)), (1, .int p1)] [] S
  refine m_aload_n C (dOf DX9_fault 0 rfl) rfl 0 rfl ?_
  refine m_iconst C (dOf DX9_fault 1 rfl) (v := 0) ki_0 ?_
  refine m_pI C (dOf DX9_fault 2 rfl) kf_X9_51 fp_9_0 h (fun S1 h => ?_)
  refine m_iload_n C (dOf DX9_fault 3 rfl) rfl 1 rfl ?_
  refine m_jn (J := fun (x2 : Int32) => WM X G 2 0 0 (wQ X G (qI G o) 0 0) 28 [] [.int x2] S1) h (fun x2 h => ?_) (fun j2 hj2 h => ?_)
  · exact m_iret C rfl (dOf DX9_fault 14 rfl) h
  refine m_ifeq C (dOf DX9_fault 4 rfl) (tgt := 20) rfl h (fun h => ?_) (fun h => ?_)
  · refine m_aload_n C (dOf DX9_fault 10 rfl) rfl 0 rfl ?_
    refine m_gR C (dOf DX9_fault 11 rfl) kf_X9_7 fg_9_1 h (fun a3 h => ?_)
    refine m_sipush C (dOf DX9_fault 12 rfl) (v := 986) ks_986 ?_
    refine m_aI C (dOf DX9_fault 13 rfl) h (fun v4 h => ?_)
    exact m_sub [] rfl (hj2 _ h)
  · refine m_aload_n C (dOf DX9_fault 5 rfl) rfl 0 rfl ?_
    refine m_gR C (dOf DX9_fault 6 rfl) kf_X9_7 fg_9_1 h (fun a5 h => ?_)
    refine m_sipush C (dOf DX9_fault 7 rfl) (v := 987) ks_987 ?_
    refine m_aI C (dOf DX9_fault 8 rfl) h (fun v6 h => ?_)
    refine m_goto C (dOf DX9_fault 9 rfl) (tgt := 28) rfl ?_
    exact m_sub [] rfl (hj2 _ h)
/-- TraceRingModel.of(II)I -/
def f_X9_of (S : St) (b0 : Nat) (p1 : Int32) (p2 : Int32) : Option Int32 :=
  gR_ S b0 9 1 fun a1 =>
  lt_ (132 * p1 : Int32) fun v2 =>
  lt_ (61 + v2 : Int32) fun v3 =>
  lt_ (v3 + p2 : Int32) fun v4 =>
  aI_ S a1 11 v4 fun v5 =>
  rt_ v5
set_option maxRecDepth 100000 in
set_option maxHeartbeats 4000000 in
theorem c_X9_of (l : Launch) (G : Gx) (S : St) (b0 : Nat) (p1 : Int32) (p2 : Int32) (o : Int32) (h : f_X9_of S b0 p1 p2 = some o) : Met l yX9_of (Cond.code yX9_of cX9_of 3 (some (.int)) :: wAll) ({ frames := 0, cells := 0, slots := 0, locals := 0 } : Room) (va_Pc [.ref (G.1 + b0), .int p1, .int p2] (wPre G S)) (qI G (o, S)) 0 0 (wA G) := by
  refine m_start (by decide +kernel) (Nat.le_of_ble_eq_true rfl) (fun X C => ?_)
  unfold f_X9_of at h
  show WM X G 3 0 0 (wQ X G (qI G (o, S)) 0 0) 0 [(0, .ref (G.1 + b0)), (1, .int p1), (2, .int p2)] [] S
  refine m_aload_n C (dOf DX9_of 0 rfl) rfl 0 rfl ?_
  refine m_gR C (dOf DX9_of 1 rfl) kf_X9_7 fg_9_1 h (fun a1 h => ?_)
  refine m_bipush C (dOf DX9_of 2 rfl) (v := 61) kb_61 ?_
  refine m_sipush C (dOf DX9_of 3 rfl) (v := 132) ks_132 ?_
  refine m_iload_n C (dOf DX9_of 4 rfl) rfl 1 rfl ?_
  refine m_imul C (dOf DX9_of 5 rfl) h (fun v2 h => ?_)
  refine m_iadd C (dOf DX9_of 6 rfl) h (fun v3 h => ?_)
  refine m_iload_n C (dOf DX9_of 7 rfl) rfl 2 rfl ?_
  refine m_iadd C (dOf DX9_of 8 rfl) h (fun v4 h => ?_)
  refine m_aI C (dOf DX9_of 9 rfl) h (fun v5 h => ?_)
  exact m_iretP C rfl (dOf DX9_of 10 rfl) h
/-- TraceRingModel.item(III)I -/
def f_X9_item (S : St) (b0 : Nat) (p1 : Int32) (p2 : Int32) (p3 : Int32) : Option Int32 :=
  lt_ (6 * p2 : Int32) fun v1 =>
  lt_ (36 + v1 : Int32) fun v2 =>
  lt_ (v2 + p3 : Int32) fun v3 =>
  ck_ S b0 9 <| cP_ (f_X9_of S b0 p1 v3) fun v4 =>
  rt_ v4
set_option maxRecDepth 100000 in
set_option maxHeartbeats 4000000 in
theorem c_X9_item (l : Launch) (G : Gx) (S : St) (b0 : Nat) (p1 : Int32) (p2 : Int32) (p3 : Int32) (o : Int32) (h : f_X9_item S b0 p1 p2 p3 = some o) : Met l yX9_item (Cond.code yX9_item cX9_item 4 (some (.int)) :: wAll) ({ frames := 1, cells := 0, slots := 0, locals := 22 } : Room) (va_Pc [.ref (G.1 + b0), .int p1, .int p2, .int p3] (wPre G S)) (qI G (o, S)) 0 0 (wA G) := by
  refine m_start (by decide +kernel) (Nat.le_of_ble_eq_true rfl) (fun X C => ?_)
  unfold f_X9_item at h
  show WM X G 4 0 0 (wQ X G (qI G (o, S)) 0 0) 0 [(0, .ref (G.1 + b0)), (1, .int p1), (2, .int p2), (3, .int p3)] [] S
  refine m_aload_n C (dOf DX9_item 0 rfl) rfl 0 rfl ?_
  refine m_iload_n C (dOf DX9_item 1 rfl) rfl 1 rfl ?_
  refine m_bipush C (dOf DX9_item 2 rfl) (v := 36) kb_36 ?_
  refine m_bipush C (dOf DX9_item 3 rfl) (v := 6) kb_6 ?_
  refine m_iload_n C (dOf DX9_item 4 rfl) rfl 2 rfl ?_
  refine m_imul C (dOf DX9_item 5 rfl) h (fun v1 h => ?_)
  refine m_iadd C (dOf DX9_item 6 rfl) h (fun v2 h => ?_)
  refine m_iload_n C (dOf DX9_item 7 rfl) rfl 3 rfl ?_
  refine m_iadd C (dOf DX9_item 8 rfl) h (fun v3 h => ?_)
  obtain ⟨hc, h⟩ := ck_spec h
  refine m_cP (st := []) h (fun o' ho H locs ls hl hr hs => ⟨_, m_runV C (dOf DX9_item 9 rfl) km_X9_144 ky_X9_of (by decide) ⟨rfl, rfl⟩ (c_X9_of _ G _ _ _ _ o' ho) hc.1 hc.2 (by decide) rfl rfl rfl (Nat.le_of_ble_eq_true rfl) ⟨Nat.le_refl _, Nat.le_refl _⟩ hl hr hs⟩) (fun v4 h => ?_)
  exact m_iretP C rfl (dOf DX9_item 10 rfl) h
/-- TraceRingModel.empties(I)V -/
def f_X9_empties (S : St) (b0 : Nat) (p1 : Int32) : Option St :=
  lp_ (fun self1 (x1 : Int32 × St) =>
    if 132 ≤ x1.1 then
      ck_ x1.2 b0 9 <| cV_ (f_X9_lay x1.2 b0 p1 0 (-1)) fun S2 =>
      rt_ S2
    else
      ck_ x1.2 b0 9 <| cV_ (f_X9_lay x1.2 b0 p1 x1.1 0) fun S3 =>
      lt_ (x1.1 + 1) fun v4 =>
      self1 (v4, S3)
  ) FU (0, S)
set_option maxRecDepth 100000 in
set_option maxHeartbeats 4000000 in
theorem c_X9_empties (l : Launch) (G : Gx) (S : St) (b0 : Nat) (p1 : Int32) (o : St) (h : f_X9_empties S b0 p1 = some o) : Met l yX9_empties (Cond.code yX9_empties cX9_empties 3 none :: wAll) ({ frames := 1, cells := 0, slots := 0, locals := 23 } : Room) (va_Pc [.ref (G.1 + b0), .int p1] (wPre G S)) (qV G o) 0 0 (wA G) := by
  refine m_start (by decide +kernel) (Nat.le_of_ble_eq_true rfl) (fun X C => ?_)
  unfold f_X9_empties at h
  show WM X G 3 0 0 (wQ X G (qV G o) 0 0) 0 [(0, .ref (G.1 + b0)), (1, .int p1)] [] S
  refine m_iconst C (dOf DX9_empties 0 rfl) (v := 0) ki_0 ?_
  refine m_istore_n C (dOf DX9_empties 1 rfl) rfl (by decide) (lv' := [(2, .int 0), (0, .ref (G.1 + b0)), (1, .int p1)]) rfl ?_
  refine m_sub [1, 2, 0] rfl (m_lp (J := fun (x1 : Int32 × St) => WM X G 3 0 0 (wQ X G (qV G o) 0 0) 2 [(0, .ref (G.1 + b0)), (1, .int p1), (2, .int x1.1)] [] x1.2) h (fun self1 hself1 x1 h => ?_))
  refine m_iload_n C (dOf DX9_empties 2 rfl) rfl 2 rfl ?_
  refine m_sipush C (dOf DX9_empties 3 rfl) (v := 132) ks_132 ?_
  refine m_icmpge C (dOf DX9_empties 4 rfl) (tgt := 22) rfl h (fun h => ?_) (fun h => ?_)
  · refine m_aload_n C (dOf DX9_empties 12 rfl) rfl 0 rfl ?_
    refine m_iload_n C (dOf DX9_empties 13 rfl) rfl 1 rfl ?_
    refine m_iconst C (dOf DX9_empties 14 rfl) (v := 0) ki_0 ?_
    refine m_iconst C (dOf DX9_empties 15 rfl) (v := (-1)) ki_m1 ?_
    obtain ⟨hc, h⟩ := ck_spec h
    refine m_cV (st := []) h (fun o' ho H locs ls hl hr hs => ⟨_, m_runV C (dOf DX9_empties 16 rfl) km_X9_141 ky_X9_lay (by decide) ⟨rfl, rfl⟩ (c_X9_lay _ G _ _ _ _ _ o' ho) hc.1 hc.2 (by decide) rfl rfl rfl (Nat.le_of_ble_eq_true rfl) ⟨Nat.le_refl _, Nat.le_refl _⟩ hl hr hs⟩) (fun S2 h => ?_)
    exact m_vret C rfl (dOf DX9_empties 17 rfl) h
  · refine m_aload_n C (dOf DX9_empties 5 rfl) rfl 0 rfl ?_
    refine m_iload_n C (dOf DX9_empties 6 rfl) rfl 1 rfl ?_
    refine m_iload_n C (dOf DX9_empties 7 rfl) rfl 2 rfl ?_
    refine m_iconst C (dOf DX9_empties 8 rfl) (v := 0) ki_0 ?_
    obtain ⟨hc, h⟩ := ck_spec h
    refine m_cV (st := []) h (fun o' ho H locs ls hl hr hs => ⟨_, m_runV C (dOf DX9_empties 9 rfl) km_X9_141 ky_X9_lay (by decide) ⟨rfl, rfl⟩ (c_X9_lay _ G _ _ _ _ _ o' ho) hc.1 hc.2 (by decide) rfl rfl rfl (Nat.le_of_ble_eq_true rfl) ⟨Nat.le_refl _, Nat.le_refl _⟩ hl hr hs⟩) (fun S3 h => ?_)
    refine m_iinc C (dOf DX9_empties 10 rfl) (w := 1) ki_1 2 rfl (by decide) h (fun v4 h => ⟨[(2, .int v4), (0, .ref (G.1 + b0)), (1, .int p1)], rfl, ?_⟩)
    refine m_goto C (dOf DX9_empties 11 rfl) (tgt := 2) rfl ?_
    exact m_sub [1, 2, 0] rfl (hself1 _ h)
/-- TraceRingModel.behind(I)I -/
def f_X9_behind (S : St) (b0 : Nat) (p1 : Int32) : Option Int32 :=
  lt_ (p1 + 1 : Int32) fun v1 =>
  gR_ S b0 9 1 fun a2 =>
  aI_ S a2 11 0 fun v3 =>
  jn_ (fun (x4 : Int32) =>
    rt_ x4
  ) fun j4 =>
  if v1 = v3 then
    j4 (0)
  else
    lt_ (p1 + 1 : Int32) fun v5 =>
    j4 (v5)
set_option maxRecDepth 100000 in
set_option maxHeartbeats 4000000 in
theorem c_X9_behind (l : Launch) (G : Gx) (S : St) (b0 : Nat) (p1 : Int32) (o : Int32) (h : f_X9_behind S b0 p1 = some o) : Met l yX9_behind (Cond.code yX9_behind cX9_behind 2 (some (.int)) :: wAll) ({ frames := 0, cells := 0, slots := 0, locals := 0 } : Room) (va_Pc [.ref (G.1 + b0), .int p1] (wPre G S)) (qI G (o, S)) 0 0 (wA G) := by
  refine m_start (by decide +kernel) (Nat.le_of_ble_eq_true rfl) (fun X C => ?_)
  unfold f_X9_behind at h
  show WM X G 2 0 0 (wQ X G (qI G (o, S)) 0 0) 0 [(0, .ref (G.1 + b0)), (1, .int p1)] [] S
  refine m_iload_n C (dOf DX9_behind 0 rfl) rfl 1 rfl ?_
  refine m_iconst C (dOf DX9_behind 1 rfl) (v := 1) ki_1 ?_
  refine m_iadd C (dOf DX9_behind 2 rfl) h (fun v1 h => ?_)
  refine m_aload_n C (dOf DX9_behind 3 rfl) rfl 0 rfl ?_
  refine m_gR C (dOf DX9_behind 4 rfl) kf_X9_7 fg_9_1 h (fun a2 h => ?_)
  refine m_iconst C (dOf DX9_behind 5 rfl) (v := 0) ki_0 ?_
  refine m_aI C (dOf DX9_behind 6 rfl) h (fun v3 h => ?_)
  refine m_jn (J := fun (x4 : Int32) => WM X G 2 0 0 (wQ X G (qI G (o, S)) 0 0) 19 [] [.int x4] S) h (fun x4 h => ?_) (fun j4 hj4 h => ?_)
  · exact m_iretP C rfl (dOf DX9_behind 13 rfl) h
  refine m_icmpne C (dOf DX9_behind 7 rfl) (tgt := 16) rfl h (fun h => ?_) (fun h => ?_)
  · refine m_iload_n C (dOf DX9_behind 10 rfl) rfl 1 rfl ?_
    refine m_iconst C (dOf DX9_behind 11 rfl) (v := 1) ki_1 ?_
    refine m_iadd C (dOf DX9_behind 12 rfl) h (fun v5 h => ?_)
    exact m_sub [] rfl (hj4 _ h)
  · refine m_iconst C (dOf DX9_behind 8 rfl) (v := 0) ki_0 ?_
    refine m_goto C (dOf DX9_behind 9 rfl) (tgt := 19) rfl ?_
    exact m_sub [] rfl (hj4 _ h)
/-- TraceRingModel.pageAt(I)I -/
def f_X9_pageAt (S : St) (b0 : Nat) (p1 : Int32) : Option Int32 :=
  gR_ S b0 9 1 fun a1 =>
  lt_ (55 + p1 : Int32) fun v2 =>
  aI_ S a1 11 v2 fun v3 =>
  rt_ v3
set_option maxRecDepth 100000 in
set_option maxHeartbeats 4000000 in
theorem c_X9_pageAt (l : Launch) (G : Gx) (S : St) (b0 : Nat) (p1 : Int32) (o : Int32) (h : f_X9_pageAt S b0 p1 = some o) : Met l yX9_pageAt (Cond.code yX9_pageAt cX9_pageAt 2 (some (.int)) :: wAll) ({ frames := 0, cells := 0, slots := 0, locals := 0 } : Room) (va_Pc [.ref (G.1 + b0), .int p1] (wPre G S)) (qI G (o, S)) 0 0 (wA G) := by
  refine m_start (by decide +kernel) (Nat.le_of_ble_eq_true rfl) (fun X C => ?_)
  unfold f_X9_pageAt at h
  show WM X G 2 0 0 (wQ X G (qI G (o, S)) 0 0) 0 [(0, .ref (G.1 + b0)), (1, .int p1)] [] S
  refine m_aload_n C (dOf DX9_pageAt 0 rfl) rfl 0 rfl ?_
  refine m_gR C (dOf DX9_pageAt 1 rfl) kf_X9_7 fg_9_1 h (fun a1 h => ?_)
  refine m_bipush C (dOf DX9_pageAt 2 rfl) (v := 55) kb_55 ?_
  refine m_iload_n C (dOf DX9_pageAt 3 rfl) rfl 1 rfl ?_
  refine m_iadd C (dOf DX9_pageAt 4 rfl) h (fun v2 h => ?_)
  refine m_aI C (dOf DX9_pageAt 5 rfl) h (fun v3 h => ?_)
  exact m_iretP C rfl (dOf DX9_pageAt 6 rfl) h
/-- TraceRingModel.live()I -/
def f_X9_live (S : St) (b0 : Nat) : Option Int32 :=
  gR_ S b0 9 1 fun a1 =>
  aI_ S a1 11 5 fun v2 =>
  gR_ S b0 9 1 fun a3 =>
  aI_ S a3 11 4 fun v4 =>
  lt_ (v2 - v4 : Int32) fun v5 =>
  jn_ (fun (x6 : Int32) =>
    lt_ (x6 + 1 : Int32) fun v7 =>
    rt_ v7
  ) fun j6 =>
  if 0 ≤ v5 then
    j6 (v5)
  else
    gR_ S b0 9 1 fun a8 =>
    aI_ S a8 11 0 fun v9 =>
    lt_ (v5 + v9 : Int32) fun v10 =>
    j6 (v10)
set_option maxRecDepth 100000 in
set_option maxHeartbeats 4000000 in
theorem c_X9_live (l : Launch) (G : Gx) (S : St) (b0 : Nat) (o : Int32) (h : f_X9_live S b0 = some o) : Met l yX9_live (Cond.code yX9_live cX9_live 2 (some (.int)) :: wAll) ({ frames := 0, cells := 0, slots := 0, locals := 0 } : Room) (va_Pc [.ref (G.1 + b0)] (wPre G S)) (qI G (o, S)) 0 0 (wA G) := by
  refine m_start (by decide +kernel) (Nat.le_of_ble_eq_true rfl) (fun X C => ?_)
  unfold f_X9_live at h
  show WM X G 2 0 0 (wQ X G (qI G (o, S)) 0 0) 0 [(0, .ref (G.1 + b0))] [] S
  refine m_aload_n C (dOf DX9_live 0 rfl) rfl 0 rfl ?_
  refine m_gR C (dOf DX9_live 1 rfl) kf_X9_7 fg_9_1 h (fun a1 h => ?_)
  refine m_iconst C (dOf DX9_live 2 rfl) (v := 5) ki_5 ?_
  refine m_aI C (dOf DX9_live 3 rfl) h (fun v2 h => ?_)
  refine m_aload_n C (dOf DX9_live 4 rfl) rfl 0 rfl ?_
  refine m_gR C (dOf DX9_live 5 rfl) kf_X9_7 fg_9_1 h (fun a3 h => ?_)
  refine m_iconst C (dOf DX9_live 6 rfl) (v := 4) ki_4 ?_
  refine m_aI C (dOf DX9_live 7 rfl) h (fun v4 h => ?_)
  refine m_isub C (dOf DX9_live 8 rfl) h (fun v5 h => ?_)
  refine m_istore_n C (dOf DX9_live 9 rfl) rfl (by decide) (lv' := [(1, .int v5), (0, .ref (G.1 + b0))]) rfl ?_
  refine m_iload_n C (dOf DX9_live 10 rfl) rfl 0 rfl ?_
  refine m_jn (J := fun (x6 : Int32) => WM X G 2 0 0 (wQ X G (qI G (o, S)) 0 0) 30 [] [.int x6] S) h (fun x6 h => ?_) (fun j6 hj6 h => ?_)
  · refine m_iconst C (dOf DX9_live 20 rfl) (v := 1) ki_1 ?_
    refine m_iadd C (dOf DX9_live 21 rfl) h (fun v7 h => ?_)
    exact m_iretP C rfl (dOf DX9_live 22 rfl) h
  refine m_ifge C (dOf DX9_live 11 rfl) (tgt := 29) rfl h (fun h => ?_) (fun h => ?_)
  · refine m_iload_n C (dOf DX9_live 19 rfl) rfl 0 rfl ?_
    exact m_sub [] rfl (hj6 _ h)
  · refine m_iload_n C (dOf DX9_live 12 rfl) rfl 0 rfl ?_
    refine m_aload_n C (dOf DX9_live 13 rfl) rfl 1 rfl ?_
    refine m_gR C (dOf DX9_live 14 rfl) kf_X9_7 fg_9_1 h (fun a8 h => ?_)
    refine m_iconst C (dOf DX9_live 15 rfl) (v := 0) ki_0 ?_
    refine m_aI C (dOf DX9_live 16 rfl) h (fun v9 h => ?_)
    refine m_iadd C (dOf DX9_live 17 rfl) h (fun v10 h => ?_)
    refine m_goto C (dOf DX9_live 18 rfl) (tgt := 30) rfl ?_
    exact m_sub [] rfl (hj6 _ h)
/-- TraceRingModel.livePage(I)I -/
def f_X9_livePage (S : St) (b0 : Nat) (p1 : Int32) : Option Int32 :=
  if p1 = (-1) then
    gR_ S b0 9 1 fun a12 =>
    aI_ S a12 11 7 fun v13 =>
    rt_ v13
  else
    ck_ S b0 9 <| cP_ (f_X9_live S b0) fun v1 =>
    lt_ (v1 - 1 : Int32) fun v2 =>
    cP_ (f_X9_in S p1 0 v2) fun v3 =>
    jn_ (fun (x4 : Int32) =>
      rt_ x4
    ) fun j4 =>
    if v3 = 0 then
      j4 ((-2))
    else
      gR_ S b0 9 1 fun a5 =>
      aI_ S a5 11 4 fun v6 =>
      lt_ (v6 + p1 : Int32) fun v7 =>
      gR_ S b0 9 1 fun a8 =>
      aI_ S a8 11 0 fun v9 =>
      rm_ v7 v9 fun v10 =>
      ck_ S b0 9 <| cP_ (f_X9_pageAt S b0 v10) fun v11 =>
      j4 (v11)
set_option maxRecDepth 100000 in
set_option maxHeartbeats 4000000 in
theorem c_X9_livePage (l : Launch) (G : Gx) (S : St) (b0 : Nat) (p1 : Int32) (o : Int32) (h : f_X9_livePage S b0 p1 = some o) : Met l yX9_livePage (Cond.code yX9_livePage cX9_livePage 2 (some (.int)) :: wAll) ({ frames := 1, cells := 0, slots := 0, locals := 22 } : Room) (va_Pc [.ref (G.1 + b0), .int p1] (wPre G S)) (qI G (o, S)) 0 0 (wA G) := by
  refine m_start (by decide +kernel) (Nat.le_of_ble_eq_true rfl) (fun X C => ?_)
  unfold f_X9_livePage at h
  show WM X G 2 0 0 (wQ X G (qI G (o, S)) 0 0) 0 [(0, .ref (G.1 + b0)), (1, .int p1)] [] S
  refine m_iload_n C (dOf DX9_livePage 0 rfl) rfl 1 rfl ?_
  refine m_iconst C (dOf DX9_livePage 1 rfl) (v := (-1)) ki_m1 ?_
  refine m_icmpne C (dOf DX9_livePage 2 rfl) (tgt := 13) rfl h (fun h => ?_) (fun h => ?_)
  · refine m_iload_n C (dOf DX9_livePage 8 rfl) rfl 1 rfl ?_
    refine m_iconst C (dOf DX9_livePage 9 rfl) (v := 0) ki_0 ?_
    refine m_aload_n C (dOf DX9_livePage 10 rfl) rfl 0 rfl ?_
    obtain ⟨hc, h⟩ := ck_spec h
    refine m_cP (st := [.int 0, .int p1]) h (fun o' ho H locs ls hl hr hs => ⟨_, m_runV C (dOf DX9_livePage 11 rfl) km_X9_148 ky_X9_live (by decide) ⟨rfl, rfl⟩ (c_X9_live _ G _ _ o' ho) hc.1 hc.2 (by decide) rfl rfl rfl (Nat.le_of_ble_eq_true rfl) ⟨Nat.le_refl _, Nat.le_refl _⟩ hl hr hs⟩) (fun v1 h => ?_)
    refine m_iconst C (dOf DX9_livePage 12 rfl) (v := 1) ki_1 ?_
    refine m_isub C (dOf DX9_livePage 13 rfl) h (fun v2 h => ?_)
    refine m_cP (st := []) h (fun o' ho H locs ls hl hr hs => ⟨_, m_runS C (dOf DX9_livePage 14 rfl) km_X9_76 ks_X9_in rfl (by decide) ⟨rfl, rfl⟩ (c_X9_in _ G _ _ _ _ o' ho) rfl rfl (Nat.le_of_ble_eq_true rfl) ⟨Nat.le_refl _, Nat.le_refl _⟩ hl hr hs⟩) (fun v3 h => ?_)
    refine m_jn (J := fun (x4 : Int32) => WM X G 2 0 0 (wQ X G (qI G (o, S)) 0 0) 51 [] [.int x4] S) h (fun x4 h => ?_) (fun j4 hj4 h => ?_)
    · exact m_iretP C rfl (dOf DX9_livePage 31 rfl) h
    refine m_ifeq C (dOf DX9_livePage 15 rfl) (tgt := 49) rfl h (fun h => ?_) (fun h => ?_)
    · refine m_bipush C (dOf DX9_livePage 30 rfl) (v := (-2)) kb_m2 ?_
      exact m_sub [] rfl (hj4 _ h)
    · refine m_aload_n C (dOf DX9_livePage 16 rfl) rfl 0 rfl ?_
      refine m_aload_n C (dOf DX9_livePage 17 rfl) rfl 0 rfl ?_
      refine m_gR C (dOf DX9_livePage 18 rfl) kf_X9_7 fg_9_1 h (fun a5 h => ?_)
      refine m_iconst C (dOf DX9_livePage 19 rfl) (v := 4) ki_4 ?_
      refine m_aI C (dOf DX9_livePage 20 rfl) h (fun v6 h => ?_)
      refine m_iload_n C (dOf DX9_livePage 21 rfl) rfl 1 rfl ?_
      refine m_iadd C (dOf DX9_livePage 22 rfl) h (fun v7 h => ?_)
      refine m_aload_n C (dOf DX9_livePage 23 rfl) rfl 0 rfl ?_
      refine m_gR C (dOf DX9_livePage 24 rfl) kf_X9_7 fg_9_1 h (fun a8 h => ?_)
      refine m_iconst C (dOf DX9_livePage 25 rfl) (v := 0) ki_0 ?_
      refine m_aI C (dOf DX9_livePage 26 rfl) h (fun v9 h => ?_)
      refine m_irem C (dOf DX9_livePage 27 rfl) h (fun v10 h => ?_)
      obtain ⟨hc, h⟩ := ck_spec h
      refine m_cP (st := []) h (fun o' ho H locs ls hl hr hs => ⟨_, m_runV C (dOf DX9_livePage 28 rfl) km_X9_151 ky_X9_pageAt (by decide) ⟨rfl, rfl⟩ (c_X9_pageAt _ G _ _ _ o' ho) hc.1 hc.2 (by decide) rfl rfl rfl (Nat.le_of_ble_eq_true rfl) ⟨Nat.le_refl _, Nat.le_refl _⟩ hl hr hs⟩) (fun v11 h => ?_)
      refine m_goto C (dOf DX9_livePage 29 rfl) (tgt := 51) rfl ?_
      exact m_sub [] rfl (hj4 _ h)
  · refine m_aload_n C (dOf DX9_livePage 3 rfl) rfl 0 rfl ?_
    refine m_gR C (dOf DX9_livePage 4 rfl) kf_X9_7 fg_9_1 h (fun a12 h => ?_)
    refine m_bipush C (dOf DX9_livePage 5 rfl) (v := 7) kb_7 ?_
    refine m_aI C (dOf DX9_livePage 6 rfl) h (fun v13 h => ?_)
    exact m_iretP C rfl (dOf DX9_livePage 7 rfl) h
/-- TraceRingModel.recordsIn(II)I -/
def f_X9_recordsIn (S : St) (b0 : Nat) (p1 : Int32) (p2 : Int32) : Option Int32 :=
  lp_ (fun self1 (x1 : Int32 × Int32) =>
    ck_ S b0 9 <| cP_ (f_X9_of S b0 p1 3) fun v2 =>
    if v2 ≤ x1.2 then
      rt_ x1.1
    else
      ck_ S b0 9 <| cP_ (f_X9_item S b0 p1 x1.2 0) fun v3 =>
      jn_ (fun (x4 : Int32) =>
        lt_ (x1.1 + x4 : Int32) fun v5 =>
        lt_ (x1.2 + 1) fun v6 =>
        self1 (v5, v6)
      ) fun j4 =>
      if v3 = p2 then
        j4 (1)
      else
        j4 (0)
  ) FU (0, 0)
set_option maxRecDepth 100000 in
set_option maxHeartbeats 4000000 in
theorem c_X9_recordsIn (l : Launch) (G : Gx) (S : St) (b0 : Nat) (p1 : Int32) (p2 : Int32) (o : Int32) (h : f_X9_recordsIn S b0 p1 p2 = some o) : Met l yX9_recordsIn (Cond.code yX9_recordsIn cX9_recordsIn 5 (some (.int)) :: wAll) ({ frames := 2, cells := 0, slots := 0, locals := 45 } : Room) (va_Pc [.ref (G.1 + b0), .int p1, .int p2] (wPre G S)) (qI G (o, S)) 0 0 (wA G) := by
  refine m_start (by decide +kernel) (Nat.le_of_ble_eq_true rfl) (fun X C => ?_)
  unfold f_X9_recordsIn at h
  show WM X G 5 0 0 (wQ X G (qI G (o, S)) 0 0) 0 [(0, .ref (G.1 + b0)), (1, .int p1), (2, .int p2)] [] S
  refine m_iconst C (dOf DX9_recordsIn 0 rfl) (v := 0) ki_0 ?_
  refine m_istore_n C (dOf DX9_recordsIn 1 rfl) rfl (by decide) (lv' := [(3, .int 0), (0, .ref (G.1 + b0)), (1, .int p1), (2, .int p2)]) rfl ?_
  refine m_iconst C (dOf DX9_recordsIn 2 rfl) (v := 0) ki_0 ?_
  refine m_istore C (dOf DX9_recordsIn 3 rfl) (by decide) (lv' := [(4, .int 0), (3, .int 0), (0, .ref (G.1 + b0)), (1, .int p1), (2, .int p2)]) rfl ?_
  refine m_sub [2, 3, 4, 1, 0] rfl (m_lp (J := fun (x1 : Int32 × Int32) => WM X G 5 0 0 (wQ X G (qI G (o, S)) 0 0) 5 [(0, .ref (G.1 + b0)), (1, .int p1), (2, .int p2), (3, .int x1.1), (4, .int x1.2)] [] S) h (fun self1 hself1 x1 h => ?_))
  refine m_iload C (dOf DX9_recordsIn 4 rfl) 4 rfl ?_
  refine m_aload_n C (dOf DX9_recordsIn 5 rfl) rfl 0 rfl ?_
  refine m_iload_n C (dOf DX9_recordsIn 6 rfl) rfl 1 rfl ?_
  refine m_iconst C (dOf DX9_recordsIn 7 rfl) (v := 3) ki_3 ?_
  obtain ⟨hc, h⟩ := ck_spec h
  refine m_cP (st := [.int x1.2]) h (fun o' ho H locs ls hl hr hs => ⟨_, m_runV C (dOf DX9_recordsIn 8 rfl) km_X9_144 ky_X9_of (by decide) ⟨rfl, rfl⟩ (c_X9_of _ G _ _ _ _ o' ho) hc.1 hc.2 (by decide) rfl rfl rfl (Nat.le_of_ble_eq_true rfl) ⟨Nat.le_refl _, Nat.le_refl _⟩ hl hr hs⟩) (fun v2 h => ?_)
  refine m_icmpge C (dOf DX9_recordsIn 9 rfl) (tgt := 42) rfl h (fun h => ?_) (fun h => ?_)
  · refine m_iload_n C (dOf DX9_recordsIn 25 rfl) rfl 3 rfl ?_
    exact m_iretP C rfl (dOf DX9_recordsIn 26 rfl) h
  · refine m_iload_n C (dOf DX9_recordsIn 10 rfl) rfl 3 rfl ?_
    refine m_aload_n C (dOf DX9_recordsIn 11 rfl) rfl 0 rfl ?_
    refine m_iload_n C (dOf DX9_recordsIn 12 rfl) rfl 1 rfl ?_
    refine m_iload C (dOf DX9_recordsIn 13 rfl) 4 rfl ?_
    refine m_iconst C (dOf DX9_recordsIn 14 rfl) (v := 0) ki_0 ?_
    obtain ⟨hc, h⟩ := ck_spec h
    refine m_cP (st := [.int x1.1]) h (fun o' ho H locs ls hl hr hs => ⟨_, m_runV C (dOf DX9_recordsIn 15 rfl) km_X9_155 ky_X9_item (by decide) ⟨rfl, rfl⟩ (c_X9_item _ G _ _ _ _ _ o' ho) hc.1 hc.2 (by decide) rfl rfl rfl (Nat.le_of_ble_eq_true rfl) ⟨Nat.le_refl _, Nat.le_refl _⟩ hl hr hs⟩) (fun v3 h => ?_)
    refine m_iload_n C (dOf DX9_recordsIn 16 rfl) rfl 2 rfl ?_
    refine m_jn (J := fun (x4 : Int32) => WM X G 5 0 0 (wQ X G (qI G (o, S)) 0 0) 34 [(0, .ref (G.1 + b0)), (1, .int p1), (2, .int p2), (4, .int x1.2)] [.int x4, .int x1.1] S) h (fun x4 h => ?_) (fun j4 hj4 h => ?_)
    · refine m_iadd C (dOf DX9_recordsIn 21 rfl) h (fun v5 h => ?_)
      refine m_istore_n C (dOf DX9_recordsIn 22 rfl) rfl (by decide) (lv' := [(3, .int v5), (0, .ref (G.1 + b0)), (1, .int p1), (2, .int p2), (4, .int x1.2)]) rfl ?_
      refine m_iinc C (dOf DX9_recordsIn 23 rfl) (w := 1) ki_1 4 rfl (by decide) h (fun v6 h => ⟨[(4, .int v6), (3, .int v5), (0, .ref (G.1 + b0)), (1, .int p1), (2, .int p2)], rfl, ?_⟩)
      refine m_goto C (dOf DX9_recordsIn 24 rfl) (tgt := 5) rfl ?_
      exact m_sub [2, 3, 4, 1, 0] rfl (hself1 _ h)
    refine m_icmpne C (dOf DX9_recordsIn 17 rfl) (tgt := 33) rfl h (fun h => ?_) (fun h => ?_)
    · refine m_iconst C (dOf DX9_recordsIn 20 rfl) (v := 0) ki_0 ?_
      exact m_sub [0, 1, 2, 4] rfl (hj4 _ h)
    · refine m_iconst C (dOf DX9_recordsIn 18 rfl) (v := 1) ki_1 ?_
      refine m_goto C (dOf DX9_recordsIn 19 rfl) (tgt := 34) rfl ?_
      exact m_sub [0, 1, 2, 4] rfl (hj4 _ h)
/-- TraceRingModel.endOf(II)I -/
def f_X9_endOf (S : St) (b0 : Nat) (p1 : Int32) (p2 : Int32) : Option Int32 :=
  ck_ S b0 9 <| cP_ (f_X9_item S b0 p1 p2 5) fun v1 =>
  lt_ (v1 + 1 : Int32) fun v2 =>
  ck_ S b0 9 <| cP_ (f_X9_item S b0 p1 p2 4) fun v3 =>
  lt_ (v2 + v3 : Int32) fun v4 =>
  rt_ v4
set_option maxRecDepth 100000 in
set_option maxHeartbeats 4000000 in
theorem c_X9_endOf (l : Launch) (G : Gx) (S : St) (b0 : Nat) (p1 : Int32) (p2 : Int32) (o : Int32) (h : f_X9_endOf S b0 p1 p2 = some o) : Met l yX9_endOf (Cond.code yX9_endOf cX9_endOf 3 (some (.int)) :: wAll) ({ frames := 2, cells := 0, slots := 0, locals := 45 } : Room) (va_Pc [.ref (G.1 + b0), .int p1, .int p2] (wPre G S)) (qI G (o, S)) 0 0 (wA G) := by
  refine m_start (by decide +kernel) (Nat.le_of_ble_eq_true rfl) (fun X C => ?_)
  unfold f_X9_endOf at h
  show WM X G 3 0 0 (wQ X G (qI G (o, S)) 0 0) 0 [(0, .ref (G.1 + b0)), (1, .int p1), (2, .int p2)] [] S
  refine m_aload_n C (dOf DX9_endOf 0 rfl) rfl 0 rfl ?_
  refine m_iload_n C (dOf DX9_endOf 1 rfl) rfl 1 rfl ?_
  refine m_iload_n C (dOf DX9_endOf 2 rfl) rfl 2 rfl ?_
  refine m_iconst C (dOf DX9_endOf 3 rfl) (v := 5) ki_5 ?_
  obtain ⟨hc, h⟩ := ck_spec h
  refine m_cP (st := []) h (fun o' ho H locs ls hl hr hs => ⟨_, m_runV C (dOf DX9_endOf 4 rfl) km_X9_155 ky_X9_item (by decide) ⟨rfl, rfl⟩ (c_X9_item _ G _ _ _ _ _ o' ho) hc.1 hc.2 (by decide) rfl rfl rfl (Nat.le_of_ble_eq_true rfl) ⟨Nat.le_refl _, Nat.le_refl _⟩ hl hr hs⟩) (fun v1 h => ?_)
  refine m_iconst C (dOf DX9_endOf 5 rfl) (v := 1) ki_1 ?_
  refine m_iadd C (dOf DX9_endOf 6 rfl) h (fun v2 h => ?_)
  refine m_aload_n C (dOf DX9_endOf 7 rfl) rfl 0 rfl ?_
  refine m_iload_n C (dOf DX9_endOf 8 rfl) rfl 1 rfl ?_
  refine m_iload_n C (dOf DX9_endOf 9 rfl) rfl 2 rfl ?_
  refine m_iconst C (dOf DX9_endOf 10 rfl) (v := 4) ki_4 ?_
  obtain ⟨hc, h⟩ := ck_spec h
  refine m_cP (st := [.int v2]) h (fun o' ho H locs ls hl hr hs => ⟨_, m_runV C (dOf DX9_endOf 11 rfl) km_X9_155 ky_X9_item (by decide) ⟨rfl, rfl⟩ (c_X9_item _ G _ _ _ _ _ o' ho) hc.1 hc.2 (by decide) rfl rfl rfl (Nat.le_of_ble_eq_true rfl) ⟨Nat.le_refl _, Nat.le_refl _⟩ hl hr hs⟩) (fun v3 h => ?_)
  refine m_iadd C (dOf DX9_endOf 12 rfl) h (fun v4 h => ?_)
  exact m_iretP C rfl (dOf DX9_endOf 13 rfl) h
/-- TraceRingModel.startOf(II)I -/
def f_X9_startOf (S : St) (b0 : Nat) (p1 : Int32) (p2 : Int32) : Option Int32 :=
  jn_ (fun (x1 : Int32) =>
    rt_ x1
  ) fun j1 =>
  if p2 = 0 then
    j1 (0)
  else
    lt_ (p2 - 1 : Int32) fun v2 =>
    ck_ S b0 9 <| cP_ (f_X9_endOf S b0 p1 v2) fun v3 =>
    j1 (v3)
set_option maxRecDepth 100000 in
set_option maxHeartbeats 4000000 in
theorem c_X9_startOf (l : Launch) (G : Gx) (S : St) (b0 : Nat) (p1 : Int32) (p2 : Int32) (o : Int32) (h : f_X9_startOf S b0 p1 p2 = some o) : Met l yX9_startOf (Cond.code yX9_startOf cX9_startOf 3 (some (.int)) :: wAll) ({ frames := 3, cells := 0, slots := 0, locals := 67 } : Room) (va_Pc [.ref (G.1 + b0), .int p1, .int p2] (wPre G S)) (qI G (o, S)) 0 0 (wA G) := by
  refine m_start (by decide +kernel) (Nat.le_of_ble_eq_true rfl) (fun X C => ?_)
  unfold f_X9_startOf at h
  show WM X G 3 0 0 (wQ X G (qI G (o, S)) 0 0) 0 [(0, .ref (G.1 + b0)), (1, .int p1), (2, .int p2)] [] S
  refine m_iload_n C (dOf DX9_startOf 0 rfl) rfl 2 rfl ?_
  refine m_jn (J := fun (x1 : Int32) => WM X G 3 0 0 (wQ X G (qI G (o, S)) 0 0) 16 [] [.int x1] S) h (fun x1 h => ?_) (fun j1 hj1 h => ?_)
  · exact m_iretP C rfl (dOf DX9_startOf 10 rfl) h
  refine m_ifne C (dOf DX9_startOf 1 rfl) (tgt := 8) rfl h (fun h => ?_) (fun h => ?_)
  · refine m_aload_n C (dOf DX9_startOf 4 rfl) rfl 0 rfl ?_
    refine m_iload_n C (dOf DX9_startOf 5 rfl) rfl 1 rfl ?_
    refine m_iload_n C (dOf DX9_startOf 6 rfl) rfl 2 rfl ?_
    refine m_iconst C (dOf DX9_startOf 7 rfl) (v := 1) ki_1 ?_
    refine m_isub C (dOf DX9_startOf 8 rfl) h (fun v2 h => ?_)
    obtain ⟨hc, h⟩ := ck_spec h
    refine m_cP (st := []) h (fun o' ho H locs ls hl hr hs => ⟨_, m_runV C (dOf DX9_startOf 9 rfl) km_X9_159 ky_X9_endOf (by decide) ⟨rfl, rfl⟩ (c_X9_endOf _ G _ _ _ _ o' ho) hc.1 hc.2 (by decide) rfl rfl rfl (Nat.le_of_ble_eq_true rfl) ⟨Nat.le_refl _, Nat.le_refl _⟩ hl hr hs⟩) (fun v3 h => ?_)
    exact m_sub [] rfl (hj1 _ h)
  · refine m_iconst C (dOf DX9_startOf 2 rfl) (v := 0) ki_0 ?_
    refine m_goto C (dOf DX9_startOf 3 rfl) (tgt := 16) rfl ?_
    exact m_sub [] rfl (hj1 _ h)
/-- TraceRingModel.openPage(I)I -/
def f_X9_openPage (S : St) (b0 : Nat) (p1 : Int32) : Option Int32 :=
  gR_ S b0 9 1 fun a1 =>
  lt_ (3 * p1 : Int32) fun v2 =>
  lt_ (43 + v2 : Int32) fun v3 =>
  aI_ S a1 11 v3 fun v4 =>
  rt_ v4
set_option maxRecDepth 100000 in
set_option maxHeartbeats 4000000 in
theorem c_X9_openPage (l : Launch) (G : Gx) (S : St) (b0 : Nat) (p1 : Int32) (o : Int32) (h : f_X9_openPage S b0 p1 = some o) : Met l yX9_openPage (Cond.code yX9_openPage cX9_openPage 2 (some (.int)) :: wAll) ({ frames := 0, cells := 0, slots := 0, locals := 0 } : Room) (va_Pc [.ref (G.1 + b0), .int p1] (wPre G S)) (qI G (o, S)) 0 0 (wA G) := by
  refine m_start (by decide +kernel) (Nat.le_of_ble_eq_true rfl) (fun X C => ?_)
  unfold f_X9_openPage at h
  show WM X G 2 0 0 (wQ X G (qI G (o, S)) 0 0) 0 [(0, .ref (G.1 + b0)), (1, .int p1)] [] S
  refine m_aload_n C (dOf DX9_openPage 0 rfl) rfl 0 rfl ?_
  refine m_gR C (dOf DX9_openPage 1 rfl) kf_X9_7 fg_9_1 h (fun a1 h => ?_)
  refine m_bipush C (dOf DX9_openPage 2 rfl) (v := 43) kb_43 ?_
  refine m_iconst C (dOf DX9_openPage 3 rfl) (v := 3) ki_3 ?_
  refine m_iload_n C (dOf DX9_openPage 4 rfl) rfl 1 rfl ?_
  refine m_imul C (dOf DX9_openPage 5 rfl) h (fun v2 h => ?_)
  refine m_iadd C (dOf DX9_openPage 6 rfl) h (fun v3 h => ?_)
  refine m_aI C (dOf DX9_openPage 7 rfl) h (fun v4 h => ?_)
  exact m_iretP C rfl (dOf DX9_openPage 8 rfl) h
/-- TraceRingModel.openItem(I)I -/
def f_X9_openItem (S : St) (b0 : Nat) (p1 : Int32) : Option Int32 :=
  gR_ S b0 9 1 fun a1 =>
  lt_ (3 * p1 : Int32) fun v2 =>
  lt_ (43 + v2 : Int32) fun v3 =>
  lt_ (v3 + 1 : Int32) fun v4 =>
  aI_ S a1 11 v4 fun v5 =>
  rt_ v5
set_option maxRecDepth 100000 in
set_option maxHeartbeats 4000000 in
theorem c_X9_openItem (l : Launch) (G : Gx) (S : St) (b0 : Nat) (p1 : Int32) (o : Int32) (h : f_X9_openItem S b0 p1 = some o) : Met l yX9_openItem (Cond.code yX9_openItem cX9_openItem 2 (some (.int)) :: wAll) ({ frames := 0, cells := 0, slots := 0, locals := 0 } : Room) (va_Pc [.ref (G.1 + b0), .int p1] (wPre G S)) (qI G (o, S)) 0 0 (wA G) := by
  refine m_start (by decide +kernel) (Nat.le_of_ble_eq_true rfl) (fun X C => ?_)
  unfold f_X9_openItem at h
  show WM X G 2 0 0 (wQ X G (qI G (o, S)) 0 0) 0 [(0, .ref (G.1 + b0)), (1, .int p1)] [] S
  refine m_aload_n C (dOf DX9_openItem 0 rfl) rfl 0 rfl ?_
  refine m_gR C (dOf DX9_openItem 1 rfl) kf_X9_7 fg_9_1 h (fun a1 h => ?_)
  refine m_bipush C (dOf DX9_openItem 2 rfl) (v := 43) kb_43 ?_
  refine m_iconst C (dOf DX9_openItem 3 rfl) (v := 3) ki_3 ?_
  refine m_iload_n C (dOf DX9_openItem 4 rfl) rfl 1 rfl ?_
  refine m_imul C (dOf DX9_openItem 5 rfl) h (fun v2 h => ?_)
  refine m_iadd C (dOf DX9_openItem 6 rfl) h (fun v3 h => ?_)
  refine m_iconst C (dOf DX9_openItem 7 rfl) (v := 1) ki_1 ?_
  refine m_iadd C (dOf DX9_openItem 8 rfl) h (fun v4 h => ?_)
  refine m_aI C (dOf DX9_openItem 9 rfl) h (fun v5 h => ?_)
  exact m_iretP C rfl (dOf DX9_openItem 10 rfl) h
/-- TraceRingModel.isOpenIn(I)Z -/
def f_X9_isOpenIn (S : St) (b0 : Nat) (p1 : Int32) : Option Int32 :=
  lp_ (fun self1 (x1 : Int32) =>
    gR_ S b0 9 1 fun a2 =>
    aI_ S a2 11 6 fun v3 =>
    if v3 ≤ x1 then
      rzP_ 0
    else
      ck_ S b0 9 <| cP_ (f_X9_openPage S b0 x1) fun v4 =>
      if v4 = p1 then
        rzP_ 1
      else
        lt_ (x1 + 1) fun v5 =>
        self1 (v5)
  ) FU (0)
set_option maxRecDepth 100000 in
set_option maxHeartbeats 4000000 in
theorem c_X9_isOpenIn (l : Launch) (G : Gx) (S : St) (b0 : Nat) (p1 : Int32) (o : Int32) (h : f_X9_isOpenIn S b0 p1 = some o) : Met l yX9_isOpenIn (Cond.code yX9_isOpenIn cX9_isOpenIn 3 (some (.boolean)) :: wAll) ({ frames := 1, cells := 0, slots := 0, locals := 21 } : Room) (va_Pc [.ref (G.1 + b0), .int p1] (wPre G S)) (qI G (o, S)) 0 0 (wA G) := by
  refine m_start (by decide +kernel) (Nat.le_of_ble_eq_true rfl) (fun X C => ?_)
  unfold f_X9_isOpenIn at h
  show WM X G 3 0 0 (wQ X G (qI G (o, S)) 0 0) 0 [(0, .ref (G.1 + b0)), (1, .int p1)] [] S
  refine m_iconst C (dOf DX9_isOpenIn 0 rfl) (v := 0) ki_0 ?_
  refine m_istore_n C (dOf DX9_isOpenIn 1 rfl) rfl (by decide) (lv' := [(2, .int 0), (0, .ref (G.1 + b0)), (1, .int p1)]) rfl ?_
  refine m_sub [1, 2, 0] rfl (m_lp (J := fun (x1 : Int32) => WM X G 3 0 0 (wQ X G (qI G (o, S)) 0 0) 2 [(0, .ref (G.1 + b0)), (1, .int p1), (2, .int x1)] [] S) h (fun self1 hself1 x1 h => ?_))
  refine m_iload_n C (dOf DX9_isOpenIn 2 rfl) rfl 2 rfl ?_
  refine m_aload_n C (dOf DX9_isOpenIn 3 rfl) rfl 0 rfl ?_
  refine m_gR C (dOf DX9_isOpenIn 4 rfl) kf_X9_7 fg_9_1 h (fun a2 h => ?_)
  refine m_bipush C (dOf DX9_isOpenIn 5 rfl) (v := 6) kb_6 ?_
  refine m_aI C (dOf DX9_isOpenIn 6 rfl) h (fun v3 h => ?_)
  refine m_icmpge C (dOf DX9_isOpenIn 7 rfl) (tgt := 30) rfl h (fun h => ?_) (fun h => ?_)
  · refine m_iconst C (dOf DX9_isOpenIn 17 rfl) (v := 0) ki_0 ?_
    exact m_zretP C rfl (dOf DX9_isOpenIn 18 rfl) h
  · refine m_aload_n C (dOf DX9_isOpenIn 8 rfl) rfl 0 rfl ?_
    refine m_iload_n C (dOf DX9_isOpenIn 9 rfl) rfl 2 rfl ?_
    obtain ⟨hc, h⟩ := ck_spec h
    refine m_cP (st := []) h (fun o' ho H locs ls hl hr hs => ⟨_, m_runV C (dOf DX9_isOpenIn 10 rfl) km_X9_162 ky_X9_openPage (by decide) ⟨rfl, rfl⟩ (c_X9_openPage _ G _ _ _ o' ho) hc.1 hc.2 (by decide) rfl rfl rfl (Nat.le_of_ble_eq_true rfl) ⟨Nat.le_refl _, Nat.le_refl _⟩ hl hr hs⟩) (fun v4 h => ?_)
    refine m_iload_n C (dOf DX9_isOpenIn 11 rfl) rfl 1 rfl ?_
    refine m_icmpne C (dOf DX9_isOpenIn 12 rfl) (tgt := 24) rfl h (fun h => ?_) (fun h => ?_)
    · refine m_iinc C (dOf DX9_isOpenIn 15 rfl) (w := 1) ki_1 2 rfl (by decide) h (fun v5 h => ⟨[(2, .int v5), (0, .ref (G.1 + b0)), (1, .int p1)], rfl, ?_⟩)
      refine m_goto C (dOf DX9_isOpenIn 16 rfl) (tgt := 2) rfl ?_
      exact m_sub [1, 2, 0] rfl (hself1 _ h)
    · refine m_iconst C (dOf DX9_isOpenIn 13 rfl) (v := 1) ki_1 ?_
      exact m_zretP C rfl (dOf DX9_isOpenIn 14 rfl) h
/-- TraceRingModel.innermost()I -/
def f_X9_innermost (S : St) (b0 : Nat) : Option Int32 :=
  gR_ S b0 9 1 fun a1 =>
  aI_ S a1 11 6 fun v2 =>
  lt_ (v2 - 1 : Int32) fun v3 =>
  jn_ (fun (x4 : Int32) =>
    rt_ x4
  ) fun j4 =>
  if 0 ≤ v3 then
    ck_ S b0 9 <| cP_ (f_X9_openPage S b0 v3) fun v5 =>
    ck_ S b0 9 <| cP_ (f_X9_openItem S b0 v3) fun v6 =>
    ck_ S b0 9 <| cP_ (f_X9_item S b0 v5 v6 2) fun v7 =>
    j4 (v7)
  else
    j4 ((-1))
set_option maxRecDepth 100000 in
set_option maxHeartbeats 4000000 in
theorem c_X9_innermost (l : Launch) (G : Gx) (S : St) (b0 : Nat) (o : Int32) (h : f_X9_innermost S b0 = some o) : Met l yX9_innermost (Cond.code yX9_innermost cX9_innermost 2 (some (.int)) :: wAll) ({ frames := 2, cells := 0, slots := 0, locals := 45 } : Room) (va_Pc [.ref (G.1 + b0)] (wPre G S)) (qI G (o, S)) 0 0 (wA G) := by
  refine m_start (by decide +kernel) (Nat.le_of_ble_eq_true rfl) (fun X C => ?_)
  unfold f_X9_innermost at h
  show WM X G 2 0 0 (wQ X G (qI G (o, S)) 0 0) 0 [(0, .ref (G.1 + b0))] [] S
  refine m_aload_n C (dOf DX9_innermost 0 rfl) rfl 0 rfl ?_
  refine m_gR C (dOf DX9_innermost 1 rfl) kf_X9_7 fg_9_1 h (fun a1 h => ?_)
  refine m_bipush C (dOf DX9_innermost 2 rfl) (v := 6) kb_6 ?_
  refine m_aI C (dOf DX9_innermost 3 rfl) h (fun v2 h => ?_)
  refine m_iconst C (dOf DX9_innermost 4 rfl) (v := 1) ki_1 ?_
  refine m_isub C (dOf DX9_innermost 5 rfl) h (fun v3 h => ?_)
  refine m_istore_n C (dOf DX9_innermost 6 rfl) rfl (by decide) (lv' := [(1, .int v3), (0, .ref (G.1 + b0))]) rfl ?_
  refine m_iload_n C (dOf DX9_innermost 7 rfl) rfl 0 rfl ?_
  refine m_jn (J := fun (x4 : Int32) => WM X G 2 0 0 (wQ X G (qI G (o, S)) 0 0) 33 [] [.int x4] S) h (fun x4 h => ?_) (fun j4 hj4 h => ?_)
  · exact m_iretP C rfl (dOf DX9_innermost 20 rfl) h
  refine m_ifge C (dOf DX9_innermost 8 rfl) (tgt := 18) rfl h (fun h => ?_) (fun h => ?_)
  · refine m_aload_n C (dOf DX9_innermost 11 rfl) rfl 1 rfl ?_
    refine m_aload_n C (dOf DX9_innermost 12 rfl) rfl 1 rfl ?_
    refine m_iload_n C (dOf DX9_innermost 13 rfl) rfl 0 rfl ?_
    obtain ⟨hc, h⟩ := ck_spec h
    refine m_cP (st := [.ref (G.1 + b0)]) h (fun o' ho H locs ls hl hr hs => ⟨_, m_runV C (dOf DX9_innermost 14 rfl) km_X9_162 ky_X9_openPage (by decide) ⟨rfl, rfl⟩ (c_X9_openPage _ G _ _ _ o' ho) hc.1 hc.2 (by decide) rfl rfl rfl (Nat.le_of_ble_eq_true rfl) ⟨Nat.le_refl _, Nat.le_refl _⟩ hl hr hs⟩) (fun v5 h => ?_)
    refine m_aload_n C (dOf DX9_innermost 15 rfl) rfl 1 rfl ?_
    refine m_iload_n C (dOf DX9_innermost 16 rfl) rfl 0 rfl ?_
    obtain ⟨hc, h⟩ := ck_spec h
    refine m_cP (st := [.int v5, .ref (G.1 + b0)]) h (fun o' ho H locs ls hl hr hs => ⟨_, m_runV C (dOf DX9_innermost 17 rfl) km_X9_165 ky_X9_openItem (by decide) ⟨rfl, rfl⟩ (c_X9_openItem _ G _ _ _ o' ho) hc.1 hc.2 (by decide) rfl rfl rfl (Nat.le_of_ble_eq_true rfl) ⟨Nat.le_refl _, Nat.le_refl _⟩ hl hr hs⟩) (fun v6 h => ?_)
    refine m_iconst C (dOf DX9_innermost 18 rfl) (v := 2) ki_2 ?_
    obtain ⟨hc, h⟩ := ck_spec h
    refine m_cP (st := []) h (fun o' ho H locs ls hl hr hs => ⟨_, m_runV C (dOf DX9_innermost 19 rfl) km_X9_155 ky_X9_item (by decide) ⟨rfl, rfl⟩ (c_X9_item _ G _ _ _ _ _ o' ho) hc.1 hc.2 (by decide) rfl rfl rfl (Nat.le_of_ble_eq_true rfl) ⟨Nat.le_refl _, Nat.le_refl _⟩ hl hr hs⟩) (fun v7 h => ?_)
    exact m_sub [] rfl (hj4 _ h)
  · refine m_iconst C (dOf DX9_innermost 9 rfl) (v := (-1)) ki_m1 ?_
    refine m_goto C (dOf DX9_innermost 10 rfl) (tgt := 33) rfl ?_
    exact m_sub [] rfl (hj4 _ h)
/-- TraceRingModel.deltaIn(I)I -/
def f_X9_deltaIn (S : St) (b0 : Nat) (p1 : Int32) : Option Int32 :=
  ck_ S b0 9 <| cP_ (f_X9_of S b0 p1 3) fun v1 =>
  jn_ (fun (x2 : Int32) =>
    rt_ x2
  ) fun j2 =>
  if v1 = 0 then
    j2 (0)
  else
    gR_ S b0 9 1 fun a3 =>
    aI_ S a3 11 3 fun v4 =>
    ck_ S b0 9 <| cP_ (f_X9_of S b0 p1 3) fun v5 =>
    lt_ (v5 - 1 : Int32) fun v6 =>
    ck_ S b0 9 <| cP_ (f_X9_item S b0 p1 v6 3) fun v7 =>
    lt_ (v4 - v7 : Int32) fun v8 =>
    j2 (v8)
set_option maxRecDepth 100000 in
set_option maxHeartbeats 4000000 in
theorem c_X9_deltaIn (l : Launch) (G : Gx) (S : St) (b0 : Nat) (p1 : Int32) (o : Int32) (h : f_X9_deltaIn S b0 p1 = some o) : Met l yX9_deltaIn (Cond.code yX9_deltaIn cX9_deltaIn 2 (some (.int)) :: wAll) ({ frames := 2, cells := 0, slots := 0, locals := 45 } : Room) (va_Pc [.ref (G.1 + b0), .int p1] (wPre G S)) (qI G (o, S)) 0 0 (wA G) := by
  refine m_start (by decide +kernel) (Nat.le_of_ble_eq_true rfl) (fun X C => ?_)
  unfold f_X9_deltaIn at h
  show WM X G 2 0 0 (wQ X G (qI G (o, S)) 0 0) 0 [(0, .ref (G.1 + b0)), (1, .int p1)] [] S
  refine m_aload_n C (dOf DX9_deltaIn 0 rfl) rfl 0 rfl ?_
  refine m_iload_n C (dOf DX9_deltaIn 1 rfl) rfl 1 rfl ?_
  refine m_iconst C (dOf DX9_deltaIn 2 rfl) (v := 3) ki_3 ?_
  obtain ⟨hc, h⟩ := ck_spec h
  refine m_cP (st := []) h (fun o' ho H locs ls hl hr hs => ⟨_, m_runV C (dOf DX9_deltaIn 3 rfl) km_X9_144 ky_X9_of (by decide) ⟨rfl, rfl⟩ (c_X9_of _ G _ _ _ _ o' ho) hc.1 hc.2 (by decide) rfl rfl rfl (Nat.le_of_ble_eq_true rfl) ⟨Nat.le_refl _, Nat.le_refl _⟩ hl hr hs⟩) (fun v1 h => ?_)
  refine m_jn (J := fun (x2 : Int32) => WM X G 2 0 0 (wQ X G (qI G (o, S)) 0 0) 34 [] [.int x2] S) h (fun x2 h => ?_) (fun j2 hj2 h => ?_)
  · exact m_iretP C rfl (dOf DX9_deltaIn 22 rfl) h
  refine m_ifne C (dOf DX9_deltaIn 4 rfl) (tgt := 13) rfl h (fun h => ?_) (fun h => ?_)
  · refine m_aload_n C (dOf DX9_deltaIn 7 rfl) rfl 0 rfl ?_
    refine m_gR C (dOf DX9_deltaIn 8 rfl) kf_X9_7 fg_9_1 h (fun a3 h => ?_)
    refine m_iconst C (dOf DX9_deltaIn 9 rfl) (v := 3) ki_3 ?_
    refine m_aI C (dOf DX9_deltaIn 10 rfl) h (fun v4 h => ?_)
    refine m_aload_n C (dOf DX9_deltaIn 11 rfl) rfl 0 rfl ?_
    refine m_iload_n C (dOf DX9_deltaIn 12 rfl) rfl 1 rfl ?_
    refine m_aload_n C (dOf DX9_deltaIn 13 rfl) rfl 0 rfl ?_
    refine m_iload_n C (dOf DX9_deltaIn 14 rfl) rfl 1 rfl ?_
    refine m_iconst C (dOf DX9_deltaIn 15 rfl) (v := 3) ki_3 ?_
    obtain ⟨hc, h⟩ := ck_spec h
    refine m_cP (st := [.int p1, .ref (G.1 + b0), .int v4]) h (fun o' ho H locs ls hl hr hs => ⟨_, m_runV C (dOf DX9_deltaIn 16 rfl) km_X9_144 ky_X9_of (by decide) ⟨rfl, rfl⟩ (c_X9_of _ G _ _ _ _ o' ho) hc.1 hc.2 (by decide) rfl rfl rfl (Nat.le_of_ble_eq_true rfl) ⟨Nat.le_refl _, Nat.le_refl _⟩ hl hr hs⟩) (fun v5 h => ?_)
    refine m_iconst C (dOf DX9_deltaIn 17 rfl) (v := 1) ki_1 ?_
    refine m_isub C (dOf DX9_deltaIn 18 rfl) h (fun v6 h => ?_)
    refine m_iconst C (dOf DX9_deltaIn 19 rfl) (v := 3) ki_3 ?_
    obtain ⟨hc, h⟩ := ck_spec h
    refine m_cP (st := [.int v4]) h (fun o' ho H locs ls hl hr hs => ⟨_, m_runV C (dOf DX9_deltaIn 20 rfl) km_X9_155 ky_X9_item (by decide) ⟨rfl, rfl⟩ (c_X9_item _ G _ _ _ _ _ o' ho) hc.1 hc.2 (by decide) rfl rfl rfl (Nat.le_of_ble_eq_true rfl) ⟨Nat.le_refl _, Nat.le_refl _⟩ hl hr hs⟩) (fun v7 h => ?_)
    refine m_isub C (dOf DX9_deltaIn 21 rfl) h (fun v8 h => ?_)
    exact m_sub [] rfl (hj2 _ h)
  · refine m_iconst C (dOf DX9_deltaIn 5 rfl) (v := 0) ki_0 ?_
    refine m_goto C (dOf DX9_deltaIn 6 rfl) (tgt := 34) rfl ?_
    exact m_sub [] rfl (hj2 _ h)
