/-! the functions with the literals as whole numbers -/
theorem u_X8_at (S : St) (b0 : Nat) (p1 : Int32) : f_X8_at S b0 p1 = (
    jn_ (fun (x1 : Int32) =>
      rt_ x1
    ) fun j1 =>
    jn_ (fun (x2 : Unit) =>
      j1 ((iI 0))
    ) fun j2 =>
    if p1 < iI 0 then
      j2 ()
    else
      al_ S b0 11 fun v3 =>
      if p1 < v3 then
        aI_ S b0 11 p1 fun v4 =>
        j1 (v4)
      else
        j2 ()) := rfl
theorem u_X6_byteAt (S : St) (b0 : Nat) (p1 : Int32) : f_X6_byteAt S b0 p1 = (
    gI_ S b0 6 1 fun v1 =>
    jn_ (fun (x2 : Int32) =>
      rt_ x2
    ) fun j2 =>
    if v1 ≤ p1 then
      j2 ((iI 0))
    else
      gR_ S b0 6 0 fun a3 =>
      cP_ (f_X8_at S a3 p1) fun v4 =>
      j2 (v4)) := rfl
theorem u_X1_clear (S : St) (b0 : Nat) : f_X1_clear S b0 = (
    pI_ S b0 1 1 (iI 0) fun S1 =>
    pI_ S1 b0 1 2 (iI 0) fun S2 =>
    pI_ S2 b0 1 3 (iI 0) fun S3 =>
    pI_ S3 b0 1 4 (iI 0) fun S4 =>
    pI_ S4 b0 1 5 (iI 0) fun S5 =>
    rt_ S5) := rfl
theorem u_X8_copyRow (S : St) (b0 : Nat) (b1 : Nat) : f_X8_copyRow S b0 b1 = (
    al_ S b0 11 fun v1 =>
    al_ S b1 11 fun v2 =>
    lt_ (if v2 < v1 then v2 else v1) fun v3 =>
    cp_ S b0 0 b1 0 v3 fun S4 =>
    rt_ S4) := rfl
theorem u_X1_copyFrom (S : St) (b0 : Nat) (b1 : Nat) : f_X1_copyFrom S b0 b1 = (
    gR_ S b1 1 0 fun a1 =>
    gR_ S b0 1 0 fun a2 =>
    cV_ (f_X8_copyRow S a1 a2) fun S3 =>
    gI_ S3 b1 1 1 fun v4 =>
    pI_ S3 b0 1 1 v4 fun S5 =>
    gI_ S5 b1 1 2 fun v6 =>
    pI_ S5 b0 1 2 v6 fun S7 =>
    gI_ S7 b1 1 3 fun v8 =>
    pI_ S7 b0 1 3 v8 fun S9 =>
    gI_ S9 b1 1 4 fun v10 =>
    pI_ S9 b0 1 4 v10 fun S11 =>
    gI_ S11 b1 1 5 fun v12 =>
    pI_ S11 b0 1 5 v12 fun S13 =>
    rt_ S13) := rfl
theorem u_X8_set (S : St) (b0 : Nat) (p1 : Int32) (p2 : Int32) : f_X8_set S b0 p1 p2 = (
    jn_ (fun (x1 : St) =>
      rt_ x1
    ) fun j1 =>
    if p1 < iI 0 then
      j1 (S)
    else
      al_ S b0 11 fun v2 =>
      if v2 ≤ p1 then
        j1 (S)
      else
        sI_ S b0 p1 p2 fun S3 =>
        j1 (S3)) := rfl
theorem u_X1_note (S : St) (b0 : Nat) (b1 : Nat) (p2 : Int32) : f_X1_note S b0 b1 p2 = (
    gR_ S b1 3 1 fun a1 =>
    cP_ (f_X8_at S a1 p2) fun v2 =>
    gI_ S b0 1 1 fun v3 =>
    lt_ (v2 - v3 : Int32) fun v4 =>
    lt_ (v4 - (iI 1) : Int32) fun v5 =>
    pI_ S b0 1 5 v5 fun S6 =>
    pI_ S6 b0 1 1 v2 fun S7 =>
    gR_ S7 b1 3 2 fun a8 =>
    cP_ (f_X8_at S7 a8 p2) fun v9 =>
    pI_ S7 b0 1 2 v9 fun S10 =>
    gR_ S10 b1 3 3 fun a11 =>
    cP_ (f_X8_at S10 a11 p2) fun v12 =>
    pI_ S10 b0 1 3 v12 fun S13 =>
    gR_ S13 b1 3 6 fun a14 =>
    cP_ (f_X8_at S13 a14 p2) fun v15 =>
    pI_ S13 b0 1 4 v15 fun S16 =>
    gR_ S16 b1 3 5 fun a17 =>
    cP_ (f_X8_at S16 a17 p2) fun v18 =>
    lt_ (v18 + (iI 1) : Int32) fun v19 =>
    lp_ (fun self20 (x20 : Int32 × St) =>
      gI_ x20.2 b0 1 4 fun v21 =>
      if v21 ≤ x20.1 then
        rt_ x20.2
      else
        gR_ x20.2 b0 1 0 fun a22 =>
        gR_ x20.2 b1 3 0 fun a23 =>
        lt_ (v19 + x20.1 : Int32) fun v24 =>
        cP_ (f_X8_at x20.2 a23 v24) fun v25 =>
        cV_ (f_X8_set x20.2 a22 x20.1 v25) fun S26 =>
        lt_ (x20.1 + iI 1) fun v27 =>
        self20 (v27, S26)
    ) FU ((iI 0), S16)) := rfl
theorem u_X1_figure (S : St) (b0 : Nat) (p1 : Int32) : f_X1_figure S b0 p1 = (
    gI_ S b0 1 1 fun v1 =>
    if v1 = iI 0 then
      rt_ (iI (-2))
    else
      jn_ (fun (x2 : Unit) =>
        if p1 = iI 0 then
          gI_ S b0 1 1 fun v3 =>
          rt_ v3
        else
        if p1 = iI 1 then
          gI_ S b0 1 2 fun v4 =>
          rt_ v4
        else
        if p1 = iI 2 then
          gI_ S b0 1 3 fun v5 =>
          rt_ v5
        else
        if p1 = iI 3 then
          gI_ S b0 1 4 fun v6 =>
          rt_ v6
        else
        if p1 = iI 4 then
          gI_ S b0 1 5 fun v7 =>
          rt_ v7
        else
        rt_ (iI (-2))
      ) fun j2 =>
      if p1 < (iI 10) then
        j2 ()
      else
        lt_ (p1 - (iI 10) : Int32) fun v8 =>
        gI_ S b0 1 4 fun v9 =>
        if v9 ≤ v8 then
          j2 ()
        else
          gR_ S b0 1 0 fun a10 =>
          lt_ (p1 - (iI 10) : Int32) fun v11 =>
          cP_ (f_X8_at S a10 v11) fun v12 =>
          rt_ v12) := rfl
theorem u_X6_blame (S : St) (b0 : Nat) (p1 : Int32) (p2 : Int32) : f_X6_blame S b0 p1 p2 = (
    pI_ S b0 6 2 p1 fun S1 =>
    pI_ S1 b0 6 3 p2 fun S2 =>
    rt_ S2) := rfl
theorem u_X6_isBlank (S : St) (b0 : Nat) (p1 : Int32) : f_X6_isBlank S b0 p1 = (
    jn_ (fun (x1 : Int32) =>
      rzP_ x1
    ) fun j1 =>
    jn_ (fun (x2 : Unit) =>
      j1 ((iI 1))
    ) fun j2 =>
    if p1 = (iI 32) then
      j2 ()
    else
      if p1 = (iI 10) then
        j2 ()
      else
        j1 ((iI 0))) := rfl
theorem u_X6_isLetter (S : St) (b0 : Nat) (p1 : Int32) : f_X6_isLetter S b0 p1 = (
    jn_ (fun (x1 : Int32) =>
      rzP_ x1
    ) fun j1 =>
    jn_ (fun (x2 : Unit) =>
      j1 ((iI 0))
    ) fun j2 =>
    if p1 < (iI 97) then
      j2 ()
    else
      if (iI 122) < p1 then
        j2 ()
      else
        j1 ((iI 1))) := rfl
theorem u_X6_passWord (S : St) (b0 : Nat) : f_X6_passWord S b0 = (
    lp_ (fun self1 (x1 : St) =>
      gI_ x1 b0 6 7 fun v2 =>
      gI_ x1 b0 6 1 fun v3 =>
      jn_ (fun (x4 : Unit) =>
        pI_ x1 b0 6 4 (iI 1) fun S5 =>
        rt_ S5
      ) fun j4 =>
      if v3 ≤ v2 then
        j4 ()
      else
        gI_ x1 b0 6 7 fun v6 =>
        ck_ x1 b0 6 <| cP_ (f_X6_byteAt x1 b0 v6) fun v7 =>
        ck_ x1 b0 6 <| cP_ (f_X6_isLetter x1 b0 v7) fun v8 =>
        if v8 = iI 0 then
          j4 ()
        else
          gI_ x1 b0 6 7 fun v9 =>
          lt_ (v9 + (iI 1) : Int32) fun v10 =>
          pI_ x1 b0 6 7 v10 fun S11 =>
          self1 (S11)
    ) FU (S)) := rfl
theorem u_X6_isDigit (S : St) (b0 : Nat) (p1 : Int32) : f_X6_isDigit S b0 p1 = (
    jn_ (fun (x1 : Int32) =>
      rzP_ x1
    ) fun j1 =>
    jn_ (fun (x2 : Unit) =>
      j1 ((iI 0))
    ) fun j2 =>
    if p1 < (iI 48) then
      j2 ()
    else
      if (iI 57) < p1 then
        j2 ()
      else
        j1 ((iI 1))) := rfl
theorem u_X6_passNumber (S : St) (b0 : Nat) : f_X6_passNumber S b0 = (
    pI_ S b0 6 6 (iI 0) fun S1 =>
    lp_ (fun self2 (x2 : St) =>
      gI_ x2 b0 6 7 fun v3 =>
      gI_ x2 b0 6 1 fun v4 =>
      jn_ (fun (x5 : Unit) =>
        gI_ x2 b0 6 7 fun v6 =>
        gI_ x2 b0 6 5 fun v7 =>
        lt_ (v6 - v7 : Int32) fun v8 =>
        jn_ (fun (x9 : Int32) =>
          pI_ x2 b0 6 4 x9 fun S10 =>
          rt_ S10
        ) fun j9 =>
        if (iI 6) < v8 then
          j9 ((iI 4))
        else
          j9 ((iI 2))
      ) fun j5 =>
      if v4 ≤ v3 then
        j5 ()
      else
        gI_ x2 b0 6 7 fun v11 =>
        ck_ x2 b0 6 <| cP_ (f_X6_byteAt x2 b0 v11) fun v12 =>
        ck_ x2 b0 6 <| cP_ (f_X6_isDigit x2 b0 v12) fun v13 =>
        if v13 = iI 0 then
          j5 ()
        else
          gI_ x2 b0 6 6 fun v14 =>
          lt_ ((iI 10) * v14 : Int32) fun v15 =>
          gI_ x2 b0 6 7 fun v16 =>
          ck_ x2 b0 6 <| cP_ (f_X6_byteAt x2 b0 v16) fun v17 =>
          lt_ (v15 + v17 : Int32) fun v18 =>
          lt_ (v18 - (iI 48) : Int32) fun v19 =>
          pI_ x2 b0 6 6 v19 fun S20 =>
          gI_ S20 b0 6 7 fun v21 =>
          lt_ (v21 + (iI 1) : Int32) fun v22 =>
          pI_ S20 b0 6 7 v22 fun S23 =>
          self2 (S23)
    ) FU (S1)) := rfl
theorem u_X6_goToNext (S : St) (b0 : Nat) : f_X6_goToNext S b0 = (
    lp_ (fun self1 (x1 : St) =>
      gI_ x1 b0 6 7 fun v2 =>
      gI_ x1 b0 6 1 fun v3 =>
      jn_ (fun (x4 : Unit) =>
        gI_ x1 b0 6 7 fun v5 =>
        pI_ x1 b0 6 5 v5 fun S6 =>
        gI_ S6 b0 6 5 fun v7 =>
        ck_ S6 b0 6 <| cP_ (f_X6_byteAt S6 b0 v7) fun v8 =>
        gI_ S6 b0 6 5 fun v9 =>
        gI_ S6 b0 6 1 fun v10 =>
        jn_ (fun (x11 : St) =>
          rt_ x11
        ) fun j11 =>
        if v9 < v10 then
          ck_ S6 b0 6 <| cP_ (f_X6_isLetter S6 b0 v8) fun v12 =>
          if v12 = iI 0 then
            ck_ S6 b0 6 <| cP_ (f_X6_isDigit S6 b0 v8) fun v13 =>
            if v13 = iI 0 then
              gI_ S6 b0 6 7 fun v14 =>
              lt_ (v14 + (iI 1) : Int32) fun v15 =>
              pI_ S6 b0 6 7 v15 fun S16 =>
              jn_ (fun (x17 : Int32) =>
                pI_ S16 b0 6 4 x17 fun S18 =>
                j11 (S18)
              ) fun j17 =>
              if v8 = (iI 59) then
                j17 ((iI 3))
              else
                j17 ((iI 4))
            else
              ck_ S6 b0 6 <| cV_ (f_X6_passNumber S6 b0) fun S19 =>
              j11 (S19)
          else
            ck_ S6 b0 6 <| cV_ (f_X6_passWord S6 b0) fun S20 =>
            j11 (S20)
        else
          pI_ S6 b0 6 4 (iI 0) fun S21 =>
          j11 (S21)
      ) fun j4 =>
      if v3 ≤ v2 then
        j4 ()
      else
        gI_ x1 b0 6 7 fun v22 =>
        ck_ x1 b0 6 <| cP_ (f_X6_byteAt x1 b0 v22) fun v23 =>
        ck_ x1 b0 6 <| cP_ (f_X6_isBlank x1 b0 v23) fun v24 =>
        if v24 = iI 0 then
          j4 ()
        else
          gI_ x1 b0 6 7 fun v25 =>
          lt_ (v25 + (iI 1) : Int32) fun v26 =>
          pI_ x1 b0 6 7 v26 fun S27 =>
          self1 (S27)
    ) FU (S)) := rfl
theorem u_X6_goToFirst (S : St) (b0 : Nat) : f_X6_goToFirst S b0 = (
    pI_ S b0 6 7 (iI 0) fun S1 =>
    ck_ S1 b0 6 <| cV_ (f_X6_goToNext S1 b0) fun S2 =>
    rt_ S2) := rfl
theorem u_X2_numbersOf (S : St) (b0 : Nat) (p1 : Int32) : f_X2_numbersOf S b0 p1 = (
    jn_ (fun (x1 : Unit) =>
      rt_ (iI 0)
    ) fun j1 =>
    jn_ (fun (x2 : Unit) =>
      rt_ (iI 1)
    ) fun j2 =>
    jn_ (fun (x3 : Unit) =>
      rt_ (iI 2)
    ) fun j3 =>
    if p1 = iI 2 then
      j1 ()
    else
    if p1 = iI 3 then
      j1 ()
    else
    if p1 = iI 4 then
      j2 ()
    else
    if p1 = iI 5 then
      j3 ()
    else
    if p1 = iI 6 then
      j3 ()
    else
    if p1 = iI 7 then
      j2 ()
    else
    if p1 = iI 8 then
      j2 ()
    else
    if p1 = iI 9 then
      j1 ()
    else
    if p1 = iI 10 then
      j1 ()
    else
    j2 ()) := rfl
theorem u_X2_isLevel (S : St) (b0 : Nat) (p1 : Int32) : f_X2_isLevel S b0 p1 = (
    jn_ (fun (x1 : Int32) =>
      rzP_ x1
    ) fun j1 =>
    jn_ (fun (x2 : Unit) =>
      j1 ((iI 0))
    ) fun j2 =>
    if p1 < iI 0 then
      j2 ()
    else
      if (iI 4) ≤ p1 then
        j2 ()
      else
        j1 ((iI 1))) := rfl
theorem u_X2_canBe (S : St) (b0 : Nat) (p1 : Int32) (p2 : Int32) (p3 : Int32) : f_X2_canBe S b0 p1 p2 p3 = (
    jn_ (fun (x1 : Unit) =>
      jn_ (fun (x2 : Int32) =>
        rzP_ x2
      ) fun j2 =>
      jn_ (fun (x3 : Unit) =>
        j2 ((iI 0))
      ) fun j3 =>
      if p3 < (iI 2) then
        j3 ()
      else
        if (iI 6) < p3 then
          j3 ()
        else
          j2 ((iI 1))
    ) fun j1 =>
    jn_ (fun (x4 : Unit) =>
      ck_ S b0 2 <| cP_ (f_X2_isLevel S b0 p3) fun v5 =>
      rzP_ v5
    ) fun j4 =>
    if p1 = iI 0 then
      j1 ()
    else
    if p1 = iI 1 then
      jn_ (fun (x6 : Int32) =>
        rzP_ x6
      ) fun j6 =>
      jn_ (fun (x7 : Unit) =>
        j6 ((iI 0))
      ) fun j7 =>
      if p3 < (iI 12) then
        j7 ()
      else
        if (iI 32) < p3 then
          j7 ()
        else
          j6 ((iI 1))
    else
    if p1 = iI 2 then
      j4 ()
    else
    if p1 = iI 3 then
      j4 ()
    else
    if p1 = iI 4 then
      jn_ (fun (x8 : Int32) =>
        rzP_ x8
      ) fun j8 =>
      jn_ (fun (x9 : Unit) =>
        j8 ((iI 0))
      ) fun j9 =>
      if p3 < (iI 1) then
        j9 ()
      else
        if (iI 5000) < p3 then
          j9 ()
        else
          j8 ((iI 1))
    else
    if p1 = iI 5 then
      jn_ (fun (x10 : Int32) =>
        rzP_ x10
      ) fun j10 =>
      if p2 = iI 0 then
        ck_ S b0 2 <| cP_ (f_X2_isLevel S b0 p3) fun v12 =>
        j10 (v12)
      else
        jn_ (fun (x11 : Unit) =>
          j10 ((iI 0))
        ) fun j11 =>
        if p3 < (iI 1) then
          j11 ()
        else
          if (iI 8) < p3 then
            j11 ()
          else
            j10 ((iI 1))
    else
    if p1 = iI 6 then
      jn_ (fun (x13 : Int32) =>
        rzP_ x13
      ) fun j13 =>
      if p2 = iI 0 then
        ck_ S b0 2 <| cP_ (f_X2_isLevel S b0 p3) fun v15 =>
        j13 (v15)
      else
        jn_ (fun (x14 : Unit) =>
          j13 ((iI 0))
        ) fun j14 =>
        if p3 < iI 0 then
          j14 ()
        else
          if (iI 255) < p3 then
            j14 ()
          else
            j13 ((iI 1))
    else
    if p1 = iI 7 then
      j4 ()
    else
    if p1 = iI 8 then
      j4 ()
    else
    if p1 = iI 9 then
      j4 ()
    else
    if p1 = iI 10 then
      j4 ()
    else
    if p1 = iI 11 then
      jn_ (fun (x16 : Int32) =>
        rzP_ x16
      ) fun j16 =>
      jn_ (fun (x17 : Unit) =>
        j16 ((iI 0))
      ) fun j17 =>
      if p3 < (iI 1) then
        j17 ()
      else
        if (iI 99) < p3 then
          j17 ()
        else
          j16 ((iI 1))
    else
    if p1 = iI 12 then
      jn_ (fun (x18 : Int32) =>
        rzP_ x18
      ) fun j18 =>
      jn_ (fun (x19 : Unit) =>
        j18 ((iI 0))
      ) fun j19 =>
      if p3 < iI 0 then
        j19 ()
      else
        if (iI 15) < p3 then
          j19 ()
        else
          j18 ((iI 1))
    else
    if p1 = iI 13 then
      j1 ()
    else
    j4 ()) := rfl
theorem u_X2_passLine (S : St) (b0 : Nat) (b1 : Nat) (p2 : Int32) (p3 : Int32) : f_X2_passLine S b0 b1 p2 p3 = (
    ck_ S b0 2 <| cP_ (f_X2_verbHere S b0 b1 p2 p3) fun v1 =>
    if v1 = (iI (-1)) then
      rz_ (iI 0) S
    else
      gR_ S b0 2 0 fun a2 =>
      gI_ S b0 2 3 fun v3 =>
      cV_ (f_X8_set S a2 v3 v1) fun S4 =>
      ck_ S4 b1 6 <| cV_ (f_X6_goToNext S4 b1) fun S5 =>
      lp_ (fun self6 (x6 : Int32 × St) =>
        ck_ x6.2 b0 2 <| cP_ (f_X2_numbersOf x6.2 b0 v1) fun v7 =>
        if v7 ≤ x6.1 then
          gI_ x6.2 b1 6 4 fun v8 =>
          if v8 = (iI 3) then
            ck_ x6.2 b1 6 <| cV_ (f_X6_goToNext x6.2 b1) fun S9 =>
            rz_ (iI 1) S9
          else
            rz_ (iI 0) x6.2
        else
          gI_ x6.2 b1 6 4 fun v10 =>
          if v10 = (iI 2) then
            jn_ (fun (x11 : Nat) =>
              gI_ x6.2 b0 2 3 fun v12 =>
              gI_ x6.2 b1 6 6 fun v13 =>
              cV_ (f_X8_set x6.2 x11 v12 v13) fun S14 =>
              gI_ S14 b0 2 4 fun v15 =>
              jn_ (fun (x16 : St) =>
                ck_ x16 b1 6 <| cV_ (f_X6_goToNext x16 b1) fun S17 =>
                lt_ (x6.1 + iI 1) fun v18 =>
                self6 (v18, S17)
              ) fun j16 =>
              if v15 = (iI (-1)) then
                gI_ S14 b1 6 6 fun v19 =>
                ck_ S14 b0 2 <| cP_ (f_X2_canBe S14 b0 v1 x6.1 v19) fun v20 =>
                if v20 = iI 0 then
                  gI_ S14 b1 6 5 fun v21 =>
                  pI_ S14 b0 2 4 v21 fun S22 =>
                  j16 (S22)
                else
                  j16 (S14)
              else
                j16 (S14)
            ) fun j11 =>
            if x6.1 = iI 0 then
              gR_ x6.2 b0 2 1 fun a24 =>
              j11 (a24)
            else
              gR_ x6.2 b0 2 2 fun a23 =>
              j11 (a23)
          else
            rz_ (iI 0) x6.2
      ) FU ((iI 0), S5)) := rfl
theorem u_X2_understand (S : St) (b0 : Nat) (b1 : Nat) (p2 : Int32) (p3 : Int32) : f_X2_understand S b0 b1 p2 p3 = (
    pI_ S b0 2 3 (iI 0) fun S1 =>
    pI_ S1 b0 2 4 (iI (-1)) fun S2 =>
    ck_ S2 b1 6 <| cV_ (f_X6_blame S2 b1 (iI 0) (iI (-1))) fun S3 =>
    ck_ S3 b1 6 <| cV_ (f_X6_goToFirst S3 b1) fun S4 =>
    lp_ (fun self5 (x5 : St) =>
      gI_ x5 b0 2 3 fun v6 =>
      jn_ (fun (x7 : Unit) =>
        gI_ x5 b0 2 4 fun v8 =>
        if v8 = (iI (-1)) then
          rz_ (iI 1) x5
        else
          gI_ x5 b0 2 4 fun v9 =>
          ck_ x5 b1 6 <| cV_ (f_X6_blame x5 b1 (iI 2) v9) fun S10 =>
          rz_ (iI 0) S10
      ) fun j7 =>
      if (iI 80) ≤ v6 then
        j7 ()
      else
        gI_ x5 b1 6 4 fun v11 =>
        if v11 = iI 0 then
          j7 ()
        else
          ck_ x5 b0 2 <| cI_ (f_X2_passLine x5 b0 b1 p2 p3) fun v13 S12 =>
          if v13 = iI 0 then
            gI_ S12 b1 6 5 fun v17 =>
            ck_ S12 b1 6 <| cV_ (f_X6_blame S12 b1 (iI 1) v17) fun S18 =>
            rz_ (iI 0) S18
          else
            gI_ S12 b0 2 3 fun v14 =>
            lt_ (v14 + (iI 1) : Int32) fun v15 =>
            pI_ S12 b0 2 3 v15 fun S16 =>
            self5 (S16)
    ) FU (S4)) := rfl
theorem u_X4_pageAt (S : St) (b0 : Nat) (p1 : Int32) : f_X4_pageAt S b0 p1 = (
    jn_ (fun (x1 : Unit) =>
      gR_ S b0 4 6 fun a2 =>
      rt_ a2
    ) fun j1 =>
    if p1 < iI 0 then
      j1 ()
    else
      gR_ S b0 4 0 fun a3 =>
      al_ S a3 15 fun v4 =>
      if v4 ≤ p1 then
        j1 ()
      else
        gR_ S b0 4 0 fun a5 =>
        aR_ S a5 15 p1 fun a6 =>
        gR_ S b0 4 0 fun a7 =>
        aR_ S a7 15 p1 fun a8 =>
        rt_ a8) := rfl
theorem u_X3_clear (S : St) (b0 : Nat) : f_X3_clear S b0 = (
    lp_ (fun self1 (x1 : Int32 × St) =>
      gR_ x1.2 b0 3 0 fun a2 =>
      al_ x1.2 a2 11 fun v3 =>
      if v3 ≤ x1.1 then
        pI_ x1.2 b0 3 8 (iI 0) fun S4 =>
        pI_ S4 b0 3 9 (iI 0) fun S5 =>
        pI_ S5 b0 3 10 (iI 0) fun S6 =>
        rt_ S6
      else
        gR_ x1.2 b0 3 0 fun a7 =>
        sI_ x1.2 a7 x1.1 (iI 0) fun S8 =>
        lt_ (x1.1 + iI 1) fun v9 =>
        self1 (v9, S8)
    ) FU ((iI 0), S)) := rfl
theorem u_X4_begin (S : St) (b0 : Nat) (p1 : Int32) (p2 : Int32) (p3 : Int32) : f_X4_begin S b0 p1 p2 p3 = (
    lp_ (fun self1 (x1 : Int32 × St) =>
      if (iI 6) ≤ x1.1 then
        lp_ (fun self2 (x2 : Int32 × St) =>
          gR_ x2.2 b0 4 4 fun a3 =>
          al_ x2.2 a3 11 fun v4 =>
          if v4 ≤ x2.1 then
            gR_ x2.2 b0 4 4 fun a5 =>
            cV_ (f_X8_set x2.2 a5 (iI 17) (iI (-1))) fun S6 =>
            gR_ S6 b0 4 6 fun a7 =>
            ck_ S6 a7 3 <| cV_ (f_X3_clear S6 a7) fun S8 =>
            gR_ S8 b0 4 5 fun a9 =>
            ck_ S8 a9 1 <| cV_ (f_X1_clear S8 a9) fun S10 =>
            pI_ S10 b0 4 7 (iI 0) fun S11 =>
            pI_ S11 b0 4 8 p1 fun S12 =>
            pI_ S12 b0 4 9 p2 fun S13 =>
            pZ_ S13 b0 4 10 p3 fun S14 =>
            pI_ S14 b0 4 11 (iI 0) fun S15 =>
            pI_ S15 b0 4 12 (iI 0) fun S16 =>
            pI_ S16 b0 4 13 (iI 1) fun S17 =>
            pI_ S17 b0 4 14 (iI 15) fun S18 =>
            pI_ S18 b0 4 15 (iI 0) fun S19 =>
            rt_ S19
          else
            gR_ x2.2 b0 4 4 fun a20 =>
            sI_ x2.2 a20 x2.1 (iI 0) fun S21 =>
            lt_ (x2.1 + iI 1) fun v22 =>
            self2 (v22, S21)
        ) FU ((iI 0), x1.2)
      else
        ck_ x1.2 b0 4 <| cP_ (f_X4_pageAt x1.2 b0 x1.1) fun a23 =>
        ck_ x1.2 a23 3 <| cV_ (f_X3_clear x1.2 a23) fun S24 =>
        lt_ (x1.1 + iI 1) fun v25 =>
        self1 (v25, S24)
    ) FU ((iI 0), S)) := rfl
theorem u_X2_found (S : St) (b0 : Nat) (b1 : Nat) : f_X2_found S b0 b1 = (
    lp_ (fun self1 (x1 : Int32 × Int32 × Int32 × Int32) =>
      gI_ S b0 2 3 fun v2 =>
      if v2 ≤ x1.2.2.2 then
        ck_ S b1 4 <| cV_ (f_X4_begin S b1 x1.1 x1.2.1 x1.2.2.1) fun S3 =>
        rt_ S3
      else
        gR_ S b0 2 1 fun a4 =>
        cP_ (f_X8_at S a4 x1.2.2.2) fun v5 =>
        gR_ S b0 2 0 fun a6 =>
        cP_ (f_X8_at S a6 x1.2.2.2) fun v7 =>
        jn_ (fun (x8 : Int32 × Int32 × Int32) =>
          lt_ (x1.2.2.2 + iI 1) fun v9 =>
          self1 (x8.1, x8.2.1, x8.2.2, v9)
        ) fun j8 =>
        if v7 = iI 0 then
          j8 (v5, x1.2.1, x1.2.2.1)
        else
        if v7 = iI 1 then
          j8 (x1.1, v5, x1.2.2.1)
        else
        if v7 = iI 2 then
          j8 (x1.1, x1.2.1, (iI 1))
        else
        j8 (x1.1, x1.2.1, (iI 0))
    ) FU ((iI 3), (iI 16), (iI 1), (iI 0))) := rfl
theorem u_X4_goOn (S : St) (b0 : Nat) (p1 : Int32) : f_X4_goOn S b0 p1 = (
    jn_ (fun (x1 : Unit) =>
      rt_ ((iI (-1)), S)
    ) fun j1 =>
    if p1 < (iI 1) then
      j1 ()
    else
      if (iI 5000) < p1 then
        j1 ()
      else
        gI_ S b0 4 11 fun v2 =>
        lt_ ((iI 999999) - v2 : Int32) fun v3 =>
        if p1 ≤ v3 then
          gI_ S b0 4 11 fun v4 =>
          lt_ (v4 + p1 : Int32) fun v5 =>
          pI_ S b0 4 11 v5 fun S6 =>
          gI_ S6 b0 4 11 fun v7 =>
          rt_ (v7, S6)
        else
          j1 ()) := rfl
theorem u_X4_innermostLevel (S : St) (b0 : Nat) : f_X4_innermostLevel S b0 = (
    gI_ S b0 4 15 fun v1 =>
    lt_ (v1 - (iI 1) : Int32) fun v2 =>
    jn_ (fun (x3 : Int32) =>
      rt_ x3
    ) fun j3 =>
    if iI 0 ≤ v2 then
      gR_ S b0 4 1 fun a4 =>
      cP_ (f_X8_at S a4 v2) fun v5 =>
      ck_ S b0 4 <| cP_ (f_X4_pageAt S b0 v5) fun a6 =>
      gR_ S a6 3 2 fun a7 =>
      gR_ S b0 4 2 fun a8 =>
      cP_ (f_X8_at S a8 v2) fun v9 =>
      cP_ (f_X8_at S a7 v9) fun v10 =>
      j3 (v10)
    else
      j3 ((iI (-1)))) := rfl
theorem u_X4_placeOf (S : St) (b0 : Nat) (p1 : Int32) : f_X4_placeOf S b0 p1 = (
    gI_ S b0 4 12 fun v1 =>
    lt_ (v1 + p1 : Int32) fun v2 =>
    gI_ S b0 4 8 fun v3 =>
    jn_ (fun (x4 : Int32) =>
      rt_ x4
    ) fun j4 =>
    if v3 ≤ v2 then
      gI_ S b0 4 8 fun v5 =>
      lt_ (v2 - v5 : Int32) fun v6 =>
      j4 (v6)
    else
      j4 (v2)) := rfl
theorem u_X4_tailPlace (S : St) (b0 : Nat) : f_X4_tailPlace S b0 = (
    gI_ S b0 4 13 fun v1 =>
    lt_ (v1 - (iI 1) : Int32) fun v2 =>
    ck_ S b0 4 <| cP_ (f_X4_placeOf S b0 v2) fun v3 =>
    rt_ v3) := rfl
theorem u_X3_deltaAt (S : St) (b0 : Nat) (p1 : Int32) : f_X3_deltaAt S b0 p1 = (
    gI_ S b0 3 8 fun v1 =>
    lt_ (v1 - (iI 1) : Int32) fun v2 =>
    jn_ (fun (x3 : Int32) =>
      rt_ x3
    ) fun j3 =>
    jn_ (fun (x4 : Unit) =>
      j3 ((iI 0))
    ) fun j4 =>
    if v2 < iI 0 then
      j4 ()
    else
      gR_ S b0 3 3 fun a5 =>
      al_ S a5 11 fun v6 =>
      if v2 < v6 then
        gR_ S b0 3 3 fun a7 =>
        aI_ S a7 11 v2 fun v8 =>
        lt_ (p1 - v8 : Int32) fun v9 =>
        j3 (v9)
      else
        j4 ()) := rfl
theorem u_X3_sizeFor (S : St) (b0 : Nat) (p1 : Int32) (p2 : Int32) : f_X3_sizeFor S b0 p1 p2 = (
    ck_ S b0 3 <| cP_ (f_X3_deltaAt S b0 p1) fun v1 =>
    jn_ (fun (x2 : Int32) =>
      rt_ x2
    ) fun j2 =>
    if v1 ≤ (iI 15) then
      lt_ ((iI 1) + p2 : Int32) fun v3 =>
      j2 (v3)
    else
      lt_ ((iI 4) + p2 : Int32) fun v4 =>
      j2 (v4)) := rfl
theorem u_X4_isOpenIn (S : St) (b0 : Nat) (p1 : Int32) : f_X4_isOpenIn S b0 p1 = (
    lp_ (fun self1 (x1 : Int32) =>
      gI_ S b0 4 15 fun v2 =>
      if v2 ≤ x1 then
        rzP_ (iI 0)
      else
        gR_ S b0 4 1 fun a3 =>
        cP_ (f_X8_at S a3 x1) fun v4 =>
        if v4 = p1 then
          rzP_ (iI 1)
        else
          lt_ (x1 + iI 1) fun v5 =>
          self1 (v5)
    ) FU ((iI 0))) := rfl
theorem u_X4_wayOf (S : St) (b0 : Nat) (p1 : Int32) (p2 : Int32) : f_X4_wayOf S b0 p1 p2 = (
    jn_ (fun (x1 : Unit) =>
      rt_ (iI (-1))
    ) fun j1 =>
    if p1 < iI 0 then
      j1 ()
    else
      if (iI 4) ≤ p1 then
        j1 ()
      else
        if p2 < (iI 1) then
          j1 ()
        else
          if p2 ≤ (iI 8) then
            ck_ S b0 4 <| cP_ (f_X4_innermostLevel S b0) fun v2 =>
            if v2 < p1 then
              ck_ S b0 4 <| cP_ (f_X4_tailPlace S b0) fun v3 =>
              ck_ S b0 4 <| cP_ (f_X4_pageAt S b0 v3) fun a4 =>
              gI_ S b0 4 11 fun v5 =>
              ck_ S a4 3 <| cP_ (f_X3_sizeFor S a4 v5 p2) fun v6 =>
              gI_ S b0 4 9 fun v7 =>
              gI_ S a4 3 9 fun v8 =>
              lt_ (v7 - v8 : Int32) fun v9 =>
              if v9 < v6 then
                gI_ S b0 4 13 fun v10 =>
                gI_ S b0 4 8 fun v11 =>
                if v11 ≤ v10 then
                  gI_ S b0 4 10 fun v12 =>
                  jn_ (fun (x13 : Int32) =>
                    rt_ x13
                  ) fun j13 =>
                  jn_ (fun (x14 : Unit) =>
                    j13 ((iI (-3)))
                  ) fun j14 =>
                  if v12 = iI 0 then
                    j14 ()
                  else
                    gI_ S b0 4 12 fun v15 =>
                    ck_ S b0 4 <| cP_ (f_X4_isOpenIn S b0 v15) fun v16 =>
                    if v16 = iI 0 then
                      j13 ((iI 2))
                    else
                      j14 ()
                else
                  rt_ (iI 1)
              else
                rt_ (iI 0)
            else
              rt_ (iI (-2))
          else
            j1 ()) := rfl
theorem u_X4_raise (S : St) (b0 : Nat) (p1 : Int32) (p2 : Int32) : f_X4_raise S b0 p1 p2 = (
    gR_ S b0 4 4 fun a1 =>
    gR_ S b0 4 4 fun a2 =>
    cP_ (f_X8_at S a2 p1) fun v3 =>
    lt_ (v3 + p2 : Int32) fun v4 =>
    cV_ (f_X8_set S a1 p1 v4) fun S5 =>
    rt_ S5) := rfl
theorem u_X3_isRecord (S : St) (b0 : Nat) (p1 : Int32) : f_X3_isRecord S b0 p1 = (
    jn_ (fun (x1 : Int32) =>
      rzP_ x1
    ) fun j1 =>
    jn_ (fun (x2 : Unit) =>
      j1 ((iI 0))
    ) fun j2 =>
    if p1 < iI 0 then
      j2 ()
    else
      gI_ S b0 3 8 fun v3 =>
      if v3 ≤ p1 then
        j2 ()
      else
        gR_ S b0 3 7 fun a4 =>
        al_ S a4 13 fun v5 =>
        if v5 ≤ p1 then
          j2 ()
        else
          gR_ S b0 3 7 fun a6 =>
          aI_ S a6 13 p1 fun v7 =>
          if v7 = iI 0 then
            j1 ((iI 1))
          else
            j2 ()) := rfl
theorem u_X3_recordsFrom (S : St) (b0 : Nat) (p1 : Int32) : f_X3_recordsFrom S b0 p1 = (
    lp_ (fun self1 (x1 : Int32 × Int32) =>
      gI_ S b0 3 8 fun v2 =>
      if v2 ≤ x1.2 then
        rt_ x1.1
      else
        ck_ S b0 3 <| cP_ (f_X3_isRecord S b0 x1.2) fun v3 =>
        jn_ (fun (x4 : Int32) =>
          lt_ (x1.2 + iI 1) fun v5 =>
          self1 (x4, v5)
        ) fun j4 =>
        if v3 = iI 0 then
          j4 (x1.1)
        else
          lt_ (x1.1 + iI 1) fun v6 =>
          j4 (v6)
    ) FU ((iI 0), p1)) := rfl
theorem u_X4_overwriteHead (S : St) (b0 : Nat) : f_X4_overwriteHead S b0 = (
    gI_ S b0 4 12 fun v1 =>
    ck_ S b0 4 <| cP_ (f_X4_pageAt S b0 v1) fun a2 =>
    ck_ S a2 3 <| cP_ (f_X3_recordsFrom S a2 (iI 0)) fun v3 =>
    ck_ S a2 3 <| cV_ (f_X3_clear S a2) fun S4 =>
    ck_ S4 b0 4 <| cP_ (f_X4_placeOf S4 b0 (iI 1)) fun v5 =>
    pI_ S4 b0 4 12 v5 fun S6 =>
    gI_ S6 b0 4 13 fun v7 =>
    lt_ (v7 - (iI 1) : Int32) fun v8 =>
    pI_ S6 b0 4 13 v8 fun S9 =>
    ck_ S9 b0 4 <| cV_ (f_X4_raise S9 b0 (iI 8) v3) fun S10 =>
    rt_ (v3, S10)) := rfl
theorem u_X3_layDown (S : St) (b0 : Nat) (p1 : Int32) (p2 : Int32) (p3 : Int32) (p4 : Int32) : f_X3_layDown S b0 p1 p2 p3 p4 = (
    gI_ S b0 3 8 fun v1 =>
    ck_ S b0 3 <| cP_ (f_X3_deltaAt S b0 p3) fun v2 =>
    jn_ (fun (x3 : Int32) =>
      jn_ (fun (x4 : St) =>
        jn_ (fun (x5 : Int32) =>
          gR_ x4 b0 3 0 fun a6 =>
          jn_ (fun (x7 : Int32) =>
            cV_ (f_X8_set x4 a6 x5 x7) fun S8 =>
            gR_ S8 b0 3 1 fun a9 =>
            cV_ (f_X8_set S8 a9 v1 p1) fun S10 =>
            gR_ S10 b0 3 2 fun a11 =>
            cV_ (f_X8_set S10 a11 v1 p2) fun S12 =>
            gR_ S12 b0 3 3 fun a13 =>
            cV_ (f_X8_set S12 a13 v1 p3) fun S14 =>
            gR_ S14 b0 3 4 fun a15 =>
            gI_ S14 b0 3 9 fun v16 =>
            cV_ (f_X8_set S14 a15 v1 v16) fun S17 =>
            gR_ S17 b0 3 5 fun a18 =>
            cV_ (f_X8_set S17 a18 v1 x5) fun S19 =>
            gR_ S19 b0 3 6 fun a20 =>
            cV_ (f_X8_set S19 a20 v1 p4) fun S21 =>
            jn_ (fun (x22 : St) =>
              lt_ (v1 + (iI 1) : Int32) fun v23 =>
              pI_ x22 b0 3 8 v23 fun S24 =>
              lt_ (x5 + (iI 1) : Int32) fun v25 =>
              lt_ (v25 + p4 : Int32) fun v26 =>
              pI_ S24 b0 3 9 v26 fun S27 =>
              rt_ (v1, S27)
            ) fun j22 =>
            if v1 < iI 0 then
              j22 (S21)
            else
              gR_ S21 b0 3 7 fun a28 =>
              al_ S21 a28 13 fun v29 =>
              if v29 ≤ v1 then
                j22 (S21)
              else
                gR_ S21 b0 3 7 fun a30 =>
                sZ_ S21 a30 v1 (iI 0) fun S31 =>
                j22 (S31)
          ) fun j7 =>
          if x3 = iI 0 then
            lt_ ((iI 16) * p4 : Int32) fun v32 =>
            lt_ (v32 + v2 : Int32) fun v33 =>
            j7 (v33)
          else
            lt_ ((iI 16) * p4 : Int32) fun v34 =>
            j7 (v34)
        ) fun j5 =>
        if x3 = iI 0 then
          gI_ x4 b0 3 9 fun v35 =>
          j5 (v35)
        else
          gI_ x4 b0 3 9 fun v36 =>
          lt_ (v36 + (iI 3) : Int32) fun v37 =>
          j5 (v37)
      ) fun j4 =>
      if x3 = iI 0 then
        j4 (S)
      else
        gR_ S b0 3 0 fun a38 =>
        gI_ S b0 3 9 fun v39 =>
        rm_ v2 (iI 16) fun v40 =>
        lt_ ((iI 240) + v40 : Int32) fun v41 =>
        cV_ (f_X8_set S a38 v39 v41) fun S42 =>
        gR_ S42 b0 3 0 fun a43 =>
        gI_ S42 b0 3 9 fun v44 =>
        lt_ (v44 + (iI 1) : Int32) fun v45 =>
        dv_ v2 (iI 16) fun v46 =>
        rm_ v46 (iI 256) fun v47 =>
        cV_ (f_X8_set S42 a43 v45 v47) fun S48 =>
        gR_ S48 b0 3 0 fun a49 =>
        gI_ S48 b0 3 9 fun v50 =>
        lt_ (v50 + (iI 2) : Int32) fun v51 =>
        dv_ v2 (iI 4096) fun v52 =>
        cV_ (f_X8_set S48 a49 v51 v52) fun S53 =>
        j4 (S53)
    ) fun j3 =>
    if v2 ≤ (iI 15) then
      j3 ((iI 0))
    else
      j3 ((iI 1))) := rfl
theorem u_X4_raiseTo (S : St) (b0 : Nat) (p1 : Int32) (p2 : Int32) : f_X4_raiseTo S b0 p1 p2 = (
    gR_ S b0 4 4 fun a1 =>
    gR_ S b0 4 4 fun a2 =>
    cP_ (f_X8_at S a2 p1) fun v3 =>
    lt_ (if v3 < p2 then p2 else v3) fun v4 =>
    cV_ (f_X8_set S a1 p1 v4) fun S5 =>
    rt_ S5) := rfl
theorem u_X4_openBehindTail (S : St) (b0 : Nat) (p1 : Int32) (p2 : Int32) : f_X4_openBehindTail S b0 p1 p2 = (
    ck_ S b0 4 <| cP_ (f_X4_tailPlace S b0) fun v1 =>
    ck_ S b0 4 <| cP_ (f_X4_pageAt S b0 v1) fun a2 =>
    gI_ S b0 4 11 fun v3 =>
    ck_ S a2 3 <| cP_ (f_X3_deltaAt S a2 v3) fun v4 =>
    jn_ (fun (x5 : St) =>
      gR_ x5 b0 4 1 fun a6 =>
      gI_ x5 b0 4 15 fun v7 =>
      ck_ x5 b0 4 <| cP_ (f_X4_tailPlace x5 b0) fun v8 =>
      cV_ (f_X8_set x5 a6 v7 v8) fun S9 =>
      gR_ S9 b0 4 2 fun a10 =>
      gI_ S9 b0 4 15 fun v11 =>
      gR_ S9 b0 4 4 fun a12 =>
      cP_ (f_X8_at S9 a12 (iI 6)) fun v13 =>
      gI_ S9 b0 4 11 fun v14 =>
      ck_ S9 a2 3 <| cI_ (f_X3_layDown S9 a2 v13 p1 v14 p2) fun v16 S15 =>
      cV_ (f_X8_set S15 a10 v11 v16) fun S17 =>
      gR_ S17 b0 4 3 fun a18 =>
      gI_ S17 b0 4 15 fun v19 =>
      cV_ (f_X8_set S17 a18 v19 (iI 0)) fun S20 =>
      gI_ S20 b0 4 15 fun v21 =>
      lt_ (v21 + (iI 1) : Int32) fun v22 =>
      pI_ S20 b0 4 15 v22 fun S23 =>
      lt_ ((iI 20) + p1 : Int32) fun v24 =>
      ck_ S23 b0 4 <| cV_ (f_X4_raise S23 b0 v24 (iI 1)) fun S25 =>
      ck_ S25 b0 4 <| cV_ (f_X4_raiseTo S25 b0 (iI 18) v4) fun S26 =>
      gI_ S26 b0 4 15 fun v27 =>
      ck_ S26 b0 4 <| cV_ (f_X4_raiseTo S26 b0 (iI 19) v27) fun S28 =>
      rt_ S28
    ) fun j5 =>
    if v4 ≤ (iI 15) then
      j5 (S)
    else
      ck_ S b0 4 <| cV_ (f_X4_raise S b0 (iI 13) (iI 1)) fun S29 =>
      j5 (S29)) := rfl
theorem u_X4_takeRoom (S : St) (b0 : Nat) (p1 : Int32) (p2 : Int32) : f_X4_takeRoom S b0 p1 p2 = (
    ck_ S b0 4 <| cP_ (f_X4_wayOf S b0 p1 p2) fun v1 =>
    jn_ (fun (x2 : Unit) =>
      rt_ (v1, S)
    ) fun j2 =>
    if v1 = (iI (-1)) then
      j2 ()
    else
      if v1 = (iI (-2)) then
        j2 ()
      else
        ck_ S b0 4 <| cV_ (f_X4_raise S b0 (iI 6) (iI 1)) fun S3 =>
        if v1 = (iI (-3)) then
          ck_ S3 b0 4 <| cV_ (f_X4_raise S3 b0 (iI 7) (iI 1)) fun S14 =>
          lt_ ((iI 30) + p1 : Int32) fun v15 =>
          ck_ S14 b0 4 <| cV_ (f_X4_raise S14 b0 v15 (iI 1)) fun S16 =>
          rt_ ((iI (-3)), S16)
        else
          jn_ (fun (x4 : St) =>
            jn_ (fun (x5 : St) =>
              ck_ x5 b0 4 <| cV_ (f_X4_openBehindTail x5 b0 p1 p2) fun S6 =>
              gR_ S6 b0 4 4 fun a7 =>
              cP_ (f_X8_at S6 a7 (iI 6)) fun v8 =>
              rt_ (v8, S6)
            ) fun j5 =>
            if v1 = iI 0 then
              j5 (x4)
            else
              gI_ x4 b0 4 13 fun v9 =>
              lt_ (v9 + (iI 1) : Int32) fun v10 =>
              pI_ x4 b0 4 13 v10 fun S11 =>
              j5 (S11)
          ) fun j4 =>
          if v1 = (iI 2) then
            ck_ S3 b0 4 <| cI_ (f_X4_overwriteHead S3 b0) fun v13 S12 =>
            j4 (S12)
          else
            j4 (S3)) := rfl
theorem u_X4_isInnermost (S : St) (b0 : Nat) (p1 : Int32) : f_X4_isInnermost S b0 p1 = (
    gI_ S b0 4 15 fun v1 =>
    jn_ (fun (x2 : Int32) =>
      rzP_ x2
    ) fun j2 =>
    jn_ (fun (x3 : Unit) =>
      j2 ((iI 0))
    ) fun j3 =>
    if v1 ≤ iI 0 then
      j3 ()
    else
      ck_ S b0 4 <| cP_ (f_X4_innermostLevel S b0) fun v4 =>
      if v4 = p1 then
        j2 ((iI 1))
      else
        j3 ()) := rfl
theorem u_X4_putData (S : St) (b0 : Nat) (p1 : Int32) (p2 : Int32) : f_X4_putData S b0 p1 p2 = (
    jn_ (fun (x1 : Unit) =>
      rt_ ((iI (-1)), S)
    ) fun j1 =>
    if p2 < iI 0 then
      j1 ()
    else
      if (iI 255) < p2 then
        j1 ()
      else
        ck_ S b0 4 <| cP_ (f_X4_isInnermost S b0 p1) fun v2 =>
        if v2 = iI 0 then
          j1 ()
        else
          gI_ S b0 4 15 fun v3 =>
          lt_ (v3 - (iI 1) : Int32) fun v4 =>
          gR_ S b0 4 1 fun a5 =>
          cP_ (f_X8_at S a5 v4) fun v6 =>
          ck_ S b0 4 <| cP_ (f_X4_pageAt S b0 v6) fun a7 =>
          gR_ S b0 4 2 fun a8 =>
          cP_ (f_X8_at S a8 v4) fun v9 =>
          gR_ S b0 4 3 fun a10 =>
          cP_ (f_X8_at S a10 v4) fun v11 =>
          gR_ S a7 3 6 fun a12 =>
          cP_ (f_X8_at S a12 v9) fun v13 =>
          lt_ (v13 - v11 : Int32) fun v14 =>
          if (iI 1) ≤ v14 then
            gR_ S a7 3 0 fun a15 =>
            gR_ S a7 3 5 fun a16 =>
            cP_ (f_X8_at S a16 v9) fun v17 =>
            lt_ (v17 + (iI 1) : Int32) fun v18 =>
            lt_ (v18 + v11 : Int32) fun v19 =>
            cV_ (f_X8_set S a15 v19 p2) fun S20 =>
            gR_ S20 b0 4 3 fun a21 =>
            lt_ (v11 + (iI 1) : Int32) fun v22 =>
            cV_ (f_X8_set S20 a21 v4 v22) fun S23 =>
            lt_ (v14 - (iI 1) : Int32) fun v24 =>
            rt_ (v24, S23)
          else
            rt_ ((iI (-1)), S)) := rfl
theorem u_X4_closeInnermost (S : St) (b0 : Nat) : f_X4_closeInnermost S b0 = (
    gI_ S b0 4 15 fun v1 =>
    lt_ (v1 - (iI 1) : Int32) fun v2 =>
    pI_ S b0 4 15 v2 fun S3 =>
    gI_ S3 b0 4 15 fun v4 =>
    jn_ (fun (x5 : St) =>
      rt_ x5
    ) fun j5 =>
    if v4 = iI 0 then
      lp_ (fun self6 (x6 : Int32 × St) =>
        gI_ x6.2 b0 4 13 fun v7 =>
        if v7 ≤ x6.1 then
          j5 (x6.2)
        else
          ck_ x6.2 b0 4 <| cP_ (f_X4_placeOf x6.2 b0 x6.1) fun v8 =>
          ck_ x6.2 b0 4 <| cP_ (f_X4_pageAt x6.2 b0 v8) fun a9 =>
          gI_ x6.2 a9 3 9 fun v10 =>
          pI_ x6.2 a9 3 10 v10 fun S11 =>
          lt_ (x6.1 + iI 1) fun v12 =>
          self6 (v12, S11)
      ) FU ((iI 0), S3)
    else
      j5 (S3)) := rfl
theorem u_X4_endInnermost (S : St) (b0 : Nat) (p1 : Int32) : f_X4_endInnermost S b0 p1 = (
    ck_ S b0 4 <| cP_ (f_X4_isInnermost S b0 p1) fun v1 =>
    if v1 = iI 0 then
      rt_ ((iI (-1)), S)
    else
      gI_ S b0 4 15 fun v2 =>
      lt_ (v2 - (iI 1) : Int32) fun v3 =>
      gR_ S b0 4 1 fun a4 =>
      cP_ (f_X8_at S a4 v3) fun v5 =>
      ck_ S b0 4 <| cP_ (f_X4_pageAt S b0 v5) fun a6 =>
      gR_ S b0 4 2 fun a7 =>
      cP_ (f_X8_at S a7 v3) fun v8 =>
      gI_ S b0 4 11 fun v9 =>
      gR_ S a6 3 3 fun a10 =>
      cP_ (f_X8_at S a10 v8) fun v11 =>
      lt_ (v9 - v11 : Int32) fun v12 =>
      gR_ S b0 4 4 fun a13 =>
      cP_ (f_X8_at S a13 (iI 17)) fun v14 =>
      jn_ (fun (x15 : St) =>
        ck_ x15 b0 4 <| cV_ (f_X4_closeInnermost x15 b0) fun S16 =>
        gI_ S16 b0 4 15 fun v17 =>
        rt_ (v17, S16)
      ) fun j15 =>
      jn_ (fun (x18 : Unit) =>
        gR_ S b0 4 4 fun a19 =>
        cV_ (f_X8_set S a19 (iI 16) v12) fun S20 =>
        gR_ S20 b0 4 4 fun a21 =>
        gR_ S20 a6 3 1 fun a22 =>
        cP_ (f_X8_at S20 a22 v8) fun v23 =>
        cV_ (f_X8_set S20 a21 (iI 17) v23) fun S24 =>
        j15 (S24)
      ) fun j18 =>
      if v14 = (iI (-1)) then
        j18 ()
      else
        gR_ S b0 4 4 fun a25 =>
        cP_ (f_X8_at S a25 (iI 16)) fun v26 =>
        if v12 ≤ v26 then
          j15 (S)
        else
          j18 ()) := rfl
theorem u_X3_takeBack (S : St) (b0 : Nat) : f_X3_takeBack S b0 = (
    gI_ S b0 3 8 fun v1 =>
    jn_ (fun (x2 : St) =>
      rt_ x2
    ) fun j2 =>
    if v1 ≤ iI 0 then
      j2 (S)
    else
      gI_ S b0 3 8 fun v3 =>
      lt_ (v3 - (iI 1) : Int32) fun v4 =>
      pI_ S b0 3 8 v4 fun S5 =>
      gR_ S5 b0 3 4 fun a6 =>
      gI_ S5 b0 3 8 fun v7 =>
      cP_ (f_X8_at S5 a6 v7) fun v8 =>
      lp_ (fun self9 (x9 : Int32 × St) =>
        gI_ x9.2 b0 3 9 fun v10 =>
        if v10 ≤ x9.1 then
          pI_ x9.2 b0 3 9 v8 fun S11 =>
          j2 (S11)
        else
          gR_ x9.2 b0 3 0 fun a12 =>
          cV_ (f_X8_set x9.2 a12 x9.1 (iI 0)) fun S13 =>
          lt_ (x9.1 + iI 1) fun v14 =>
          self9 (v14, S13)
      ) FU (v8, S5)) := rfl
theorem u_X3_leaveGap (S : St) (b0 : Nat) (p1 : Int32) : f_X3_leaveGap S b0 p1 = (
    gR_ S b0 3 5 fun a1 =>
    cP_ (f_X8_at S a1 p1) fun v2 =>
    gR_ S b0 3 6 fun a3 =>
    cP_ (f_X8_at S a3 p1) fun v4 =>
    gR_ S b0 3 0 fun a5 =>
    gR_ S b0 3 0 fun a6 =>
    cP_ (f_X8_at S a6 v2) fun v7 =>
    rm_ v7 (iI 16) fun v8 =>
    lt_ ((iI 224) + v8 : Int32) fun v9 =>
    cV_ (f_X8_set S a5 v2 v9) fun S10 =>
    gR_ S10 b0 3 0 fun a11 =>
    lt_ (v2 + (iI 1) : Int32) fun v12 =>
    cV_ (f_X8_set S10 a11 v12 v4) fun S13 =>
    lp_ (fun self14 (x14 : Int32 × St) =>
      if v4 ≤ x14.1 then
        jn_ (fun (x15 : St) =>
          rt_ x15
        ) fun j15 =>
        if p1 < iI 0 then
          j15 (x14.2)
        else
          gR_ x14.2 b0 3 7 fun a16 =>
          al_ x14.2 a16 13 fun v17 =>
          if v17 ≤ p1 then
            j15 (x14.2)
          else
            gR_ x14.2 b0 3 7 fun a18 =>
            sZ_ x14.2 a18 p1 (iI 1) fun S19 =>
            j15 (S19)
      else
        gR_ x14.2 b0 3 0 fun a20 =>
        lt_ (v2 + (iI 1) : Int32) fun v21 =>
        lt_ (v21 + x14.1 : Int32) fun v22 =>
        cV_ (f_X8_set x14.2 a20 v22 (iI 0)) fun S23 =>
        lt_ (x14.1 + iI 1) fun v24 =>
        self14 (v24, S23)
    ) FU ((iI 1), S13)) := rfl
theorem u_X4_dropInnermost (S : St) (b0 : Nat) (p1 : Int32) : f_X4_dropInnermost S b0 p1 = (
    ck_ S b0 4 <| cP_ (f_X4_isInnermost S b0 p1) fun v1 =>
    if v1 = iI 0 then
      rt_ ((iI (-1)), S)
    else
      gI_ S b0 4 15 fun v2 =>
      lt_ (v2 - (iI 1) : Int32) fun v3 =>
      gR_ S b0 4 1 fun a4 =>
      cP_ (f_X8_at S a4 v3) fun v5 =>
      gR_ S b0 4 2 fun a6 =>
      cP_ (f_X8_at S a6 v3) fun v7 =>
      ck_ S b0 4 <| cP_ (f_X4_pageAt S b0 v5) fun a8 =>
      ck_ S b0 4 <| cP_ (f_X4_tailPlace S b0) fun v9 =>
      jn_ (fun (x10 : Int32) =>
        jn_ (fun (x11 : St) =>
          ck_ x11 b0 4 <| cV_ (f_X4_raise x11 b0 (iI 9) (iI 1)) fun S12 =>
          ck_ S12 b0 4 <| cV_ (f_X4_closeInnermost S12 b0) fun S13 =>
          jn_ (fun (x14 : Int32) =>
            rt_ (x14, S13)
          ) fun j14 =>
          if x10 = iI 0 then
            j14 ((iI 1))
          else
            j14 ((iI 0))
        ) fun j11 =>
        if x10 = iI 0 then
          ck_ S a8 3 <| cV_ (f_X3_leaveGap S a8 v7) fun S15 =>
          j11 (S15)
        else
          ck_ S a8 3 <| cV_ (f_X3_takeBack S a8) fun S16 =>
          j11 (S16)
      ) fun j10 =>
      jn_ (fun (x17 : Unit) =>
        j10 ((iI 0))
      ) fun j17 =>
      if v5 = v9 then
        gI_ S a8 3 8 fun v18 =>
        lt_ (v18 - (iI 1) : Int32) fun v19 =>
        if v7 = v19 then
          j10 ((iI 1))
        else
          j17 ()
      else
        j17 ()) := rfl
theorem u_X4_canHeadBeHad (S : St) (b0 : Nat) (p1 : Int32) : f_X4_canHeadBeHad S b0 p1 = (
    gI_ S b0 4 13 fun v1 =>
    if v1 ≤ (iI 1) then
      jn_ (fun (x2 : Int32) =>
        rzP_ x2
      ) fun j2 =>
      jn_ (fun (x3 : Unit) =>
        j2 ((iI 0))
      ) fun j3 =>
      if p1 = iI 0 then
        j3 ()
      else
        gI_ S b0 4 12 fun v4 =>
        ck_ S b0 4 <| cP_ (f_X4_pageAt S b0 v4) fun a5 =>
        gI_ S a5 3 9 fun v6 =>
        if v6 ≤ iI 0 then
          j3 ()
        else
          gI_ S b0 4 15 fun v7 =>
          if v7 = iI 0 then
            j2 ((iI 1))
          else
            j3 ()
    else
      gI_ S b0 4 12 fun v8 =>
      ck_ S b0 4 <| cP_ (f_X4_isOpenIn S b0 v8) fun v9 =>
      jn_ (fun (x10 : Int32) =>
        rzP_ x10
      ) fun j10 =>
      if v9 = iI 0 then
        j10 ((iI 1))
      else
        j10 ((iI 0))) := rfl
theorem u_X4_swapHead (S : St) (b0 : Nat) (p1 : Int32) : f_X4_swapHead S b0 p1 = (
    ck_ S b0 4 <| cP_ (f_X4_canHeadBeHad S b0 p1) fun v1 =>
    jn_ (fun (x2 : Unit) =>
      rt_ ((iI (-1)), S)
    ) fun j2 =>
    if v1 = iI 0 then
      j2 ()
    else
      gI_ S b0 4 12 fun v3 =>
      if v3 < iI 0 then
        j2 ()
      else
        gI_ S b0 4 12 fun v4 =>
        gR_ S b0 4 0 fun a5 =>
        al_ S a5 15 fun v6 =>
        if v4 < v6 then
          gR_ S b0 4 6 fun a7 =>
          gI_ S b0 4 7 fun v8 =>
          ck_ S a7 3 <| cP_ (f_X3_recordsFrom S a7 v8) fun v9 =>
          ck_ S b0 4 <| cV_ (f_X4_raise S b0 (iI 10) v9) fun S10 =>
          ck_ S10 b0 4 <| cV_ (f_X4_raise S10 b0 (iI 14) (iI 1)) fun S11 =>
          gI_ S11 b0 4 12 fun v12 =>
          ck_ S11 b0 4 <| cP_ (f_X4_pageAt S11 b0 v12) fun a13 =>
          gR_ S11 b0 4 6 fun a14 =>
          ck_ S11 a14 3 <| cV_ (f_X3_clear S11 a14) fun S15 =>
          gR_ S15 b0 4 0 fun a16 =>
          gI_ S15 b0 4 12 fun v17 =>
          gR_ S15 b0 4 6 fun a18 =>
          sR_ S15 a16 15 v17 a18 3 fun S19 =>
          pR_ S19 b0 4 6 (some a13) fun S20 =>
          pI_ S20 b0 4 7 (iI 0) fun S21 =>
          gI_ S21 b0 4 13 fun v22 =>
          jn_ (fun (x23 : St) =>
            gR_ x23 b0 4 6 fun a24 =>
            ck_ x23 a24 3 <| cP_ (f_X3_recordsFrom x23 a24 (iI 0)) fun v25 =>
            rt_ (v25, x23)
          ) fun j23 =>
          if v22 ≤ (iI 1) then
            j23 (S21)
          else
            ck_ S21 b0 4 <| cP_ (f_X4_placeOf S21 b0 (iI 1)) fun v26 =>
            pI_ S21 b0 4 12 v26 fun S27 =>
            gI_ S27 b0 4 13 fun v28 =>
            lt_ (v28 - (iI 1) : Int32) fun v29 =>
            pI_ S27 b0 4 13 v29 fun S30 =>
            j23 (S30)
        else
          j2 ()) := rfl
theorem u_X4_readNext (S : St) (b0 : Nat) : f_X4_readNext S b0 = (
    lp_ (fun self1 (x1 : St) =>
      gI_ x1 b0 4 7 fun v2 =>
      gR_ x1 b0 4 6 fun a3 =>
      gI_ x1 a3 3 8 fun v4 =>
      if v4 ≤ v2 then
        rt_ ((iI (-1)), x1)
      else
        gI_ x1 b0 4 7 fun v5 =>
        gI_ x1 b0 4 7 fun v6 =>
        lt_ (v6 + (iI 1) : Int32) fun v7 =>
        pI_ x1 b0 4 7 v7 fun S8 =>
        gR_ S8 b0 4 6 fun a9 =>
        ck_ S8 a9 3 <| cP_ (f_X3_isRecord S8 a9 v5) fun v10 =>
        jn_ (fun (x11 : St) =>
          self1 (x11)
        ) fun j11 =>
        if v10 = iI 0 then
          j11 (S8)
        else
          gI_ S8 b0 4 14 fun v12 =>
          gR_ S8 b0 4 6 fun a13 =>
          gR_ S8 a13 3 2 fun a14 =>
          cP_ (f_X8_at S8 a14 v5) fun v15 =>
          lt_ (v12 >>> (v15 &&& 31) : Int32) fun v16 =>
          lt_ (v16 &&& (iI 1) : Int32) fun v17 =>
          if v17 = (iI 1) then
            gR_ S8 b0 4 5 fun a19 =>
            gR_ S8 b0 4 6 fun a20 =>
            ck_ S8 a19 1 <| cV_ (f_X1_note S8 a19 a20 v5) fun S21 =>
            ck_ S21 b0 4 <| cV_ (f_X4_raise S21 b0 (iI 11) (iI 1)) fun S22 =>
            gR_ S22 b0 4 5 fun a23 =>
            gI_ S22 a23 1 1 fun v24 =>
            rt_ (v24, S22)
          else
            ck_ S8 b0 4 <| cV_ (f_X4_raise S8 b0 (iI 10) (iI 1)) fun S18 =>
            j11 (S18)
    ) FU (S)) := rfl
theorem u_X4_readSome (S : St) (b0 : Nat) (p1 : Int32) : f_X4_readSome S b0 p1 = (
    lp_ (fun self1 (x1 : Int32 × St) =>
      jn_ (fun (x2 : St) =>
        jn_ (fun (x3 : Int32) =>
          rz_ x3 x2
        ) fun j3 =>
        if x1.1 ≤ iI 0 then
          j3 ((iI 0))
        else
          j3 ((iI 1))
      ) fun j2 =>
      if p1 ≤ x1.1 then
        j2 (x1.2)
      else
        ck_ x1.2 b0 4 <| cI_ (f_X4_readNext x1.2 b0) fun v5 S4 =>
        if v5 = (iI (-1)) then
          j2 (S4)
        else
          lt_ (x1.1 + iI 1) fun v6 =>
          self1 (v6, S4)
    ) FU ((iI 0), S)) := rfl
theorem u_X4_maskBy (S : St) (b0 : Nat) (p1 : Int32) : f_X4_maskBy S b0 p1 = (
    jn_ (fun (x1 : Unit) =>
      rz_ (iI 0) S
    ) fun j1 =>
    if p1 < iI 0 then
      j1 ()
    else
      if (iI 15) < p1 then
        j1 ()
      else
        gI_ S b0 4 14 fun v2 =>
        if p1 = v2 then
          j1 ()
        else
          pI_ S b0 4 14 p1 fun S3 =>
          rz_ (iI 1) S3) := rfl
theorem u_X4_turnByOne (S : St) (b0 : Nat) : f_X4_turnByOne S b0 = (
    ck_ S b0 4 <| cP_ (f_X4_pageAt S b0 (iI 0)) fun a1 =>
    lp_ (fun self2 (x2 : Int32 × St) =>
      gI_ x2.2 b0 4 8 fun v3 =>
      jn_ (fun (x4 : Unit) =>
        gI_ x2.2 b0 4 8 fun v5 =>
        jn_ (fun (x6 : St) =>
          rt_ x6
        ) fun j6 =>
        if v5 < (iI 1) then
          j6 (x2.2)
        else
          gI_ x2.2 b0 4 8 fun v7 =>
          gR_ x2.2 b0 4 0 fun a8 =>
          al_ x2.2 a8 15 fun v9 =>
          if v9 < v7 then
            j6 (x2.2)
          else
            gR_ x2.2 b0 4 0 fun a10 =>
            gI_ x2.2 b0 4 8 fun v11 =>
            lt_ (v11 - (iI 1) : Int32) fun v12 =>
            sR_ x2.2 a10 15 v12 a1 3 fun S13 =>
            j6 (S13)
      ) fun j4 =>
      if v3 ≤ x2.1 then
        j4 ()
      else
        gR_ x2.2 b0 4 0 fun a14 =>
        al_ x2.2 a14 15 fun v15 =>
        if v15 ≤ x2.1 then
          j4 ()
        else
          gR_ x2.2 b0 4 0 fun a16 =>
          lt_ (x2.1 - (iI 1) : Int32) fun v17 =>
          gR_ x2.2 b0 4 0 fun a18 =>
          aR_ x2.2 a18 15 x2.1 fun a19 =>
          sR_ x2.2 a16 15 v17 a19 3 fun S20 =>
          lt_ (x2.1 + iI 1) fun v21 =>
          self2 (v21, S20)
    ) FU ((iI 1), S)) := rfl
theorem u_X4_changePages (S : St) (b0 : Nat) (p1 : Int32) : f_X4_changePages S b0 p1 = (
    jn_ (fun (x1 : Unit) =>
      rt_ ((iI (-1)), S)
    ) fun j1 =>
    if p1 < (iI 2) then
      j1 ()
    else
      if (iI 6) < p1 then
        j1 ()
      else
        gI_ S b0 4 8 fun v2 =>
        if p1 = v2 then
          j1 ()
        else
          gI_ S b0 4 15 fun v3 =>
          if v3 ≤ iI 0 then
            gI_ S b0 4 13 fun v4 =>
            lt_ (v4 - p1 : Int32) fun v5 =>
            lp_ (fun self6 (x6 : Int32 × Int32 × St) =>
              if x6.2.1 ≤ iI 0 then
                gI_ x6.2.2 b0 4 12 fun v7 =>
                lp_ (fun self8 (x8 : Int32 × St) =>
                  if x8.1 ≤ iI 0 then
                    pI_ x8.2 b0 4 12 (iI 0) fun S9 =>
                    pI_ S9 b0 4 8 p1 fun S10 =>
                    rt_ (x6.1, S10)
                  else
                    ck_ x8.2 b0 4 <| cV_ (f_X4_turnByOne x8.2 b0) fun S11 =>
                    lt_ (x8.1 + iI (-1)) fun v12 =>
                    self8 (v12, S11)
                ) FU (v7, x6.2.2)
              else
                ck_ x6.2.2 b0 4 <| cI_ (f_X4_overwriteHead x6.2.2 b0) fun v14 S13 =>
                lt_ (x6.1 + v14 : Int32) fun v15 =>
                lt_ (x6.2.1 + iI (-1)) fun v16 =>
                self6 (v15, v16, S13)
            ) FU ((iI 0), v5, S)
          else
            j1 ()) := rfl
theorem u_X2_doLine (S : St) (b0 : Nat) (b1 : Nat) (p2 : Int32) : f_X2_doLine S b0 b1 p2 = (
    gR_ S b0 2 1 fun a1 =>
    cP_ (f_X8_at S a1 p2) fun v2 =>
    gR_ S b0 2 2 fun a3 =>
    cP_ (f_X8_at S a3 p2) fun v4 =>
    gR_ S b0 2 0 fun a5 =>
    cP_ (f_X8_at S a5 p2) fun v6 =>
    if v6 = iI 4 then
      ck_ S b1 4 <| cI_ (f_X4_goOn S b1 v2) fun v8 S7 =>
      jn_ (fun (x9 : Int32) =>
        rz_ x9 S7
      ) fun j9 =>
      if v8 = (iI (-1)) then
        j9 ((iI 0))
      else
        j9 ((iI 1))
    else
    if v6 = iI 5 then
      ck_ S b1 4 <| cI_ (f_X4_takeRoom S b1 v2 v4) fun v11 S10 =>
      jn_ (fun (x12 : Int32) =>
        rz_ x12 S10
      ) fun j12 =>
      if v11 = (iI (-2)) then
        j12 ((iI 0))
      else
        j12 ((iI 1))
    else
    if v6 = iI 6 then
      ck_ S b1 4 <| cI_ (f_X4_putData S b1 v2 v4) fun v14 S13 =>
      jn_ (fun (x15 : Int32) =>
        rz_ x15 S13
      ) fun j15 =>
      if v14 = (iI (-1)) then
        j15 ((iI 0))
      else
        j15 ((iI 1))
    else
    if v6 = iI 7 then
      ck_ S b1 4 <| cI_ (f_X4_endInnermost S b1 v2) fun v17 S16 =>
      jn_ (fun (x18 : Int32) =>
        rz_ x18 S16
      ) fun j18 =>
      if v17 = (iI (-1)) then
        j18 ((iI 0))
      else
        j18 ((iI 1))
    else
    if v6 = iI 8 then
      ck_ S b1 4 <| cI_ (f_X4_dropInnermost S b1 v2) fun v20 S19 =>
      jn_ (fun (x21 : Int32) =>
        rz_ x21 S19
      ) fun j21 =>
      if v20 = (iI (-1)) then
        j21 ((iI 0))
      else
        j21 ((iI 1))
    else
    if v6 = iI 9 then
      ck_ S b1 4 <| cI_ (f_X4_swapHead S b1 (iI 0)) fun v23 S22 =>
      jn_ (fun (x24 : Int32) =>
        rz_ x24 S22
      ) fun j24 =>
      if v23 = (iI (-1)) then
        j24 ((iI 0))
      else
        j24 ((iI 1))
    else
    if v6 = iI 10 then
      ck_ S b1 4 <| cI_ (f_X4_swapHead S b1 (iI 1)) fun v26 S25 =>
      jn_ (fun (x27 : Int32) =>
        rz_ x27 S25
      ) fun j27 =>
      if v26 = (iI (-1)) then
        j27 ((iI 0))
      else
        j27 ((iI 1))
    else
    if v6 = iI 11 then
      ck_ S b1 4 <| cI_ (f_X4_readSome S b1 v2) fun v29 S28 =>
      rz_ v29 S28
    else
    if v6 = iI 12 then
      ck_ S b1 4 <| cI_ (f_X4_maskBy S b1 v2) fun v31 S30 =>
      rz_ v31 S30
    else
    ck_ S b1 4 <| cI_ (f_X4_changePages S b1 v2) fun v33 S32 =>
    jn_ (fun (x34 : Int32) =>
      rz_ x34 S32
    ) fun j34 =>
    if v33 = (iI (-1)) then
      j34 ((iI 0))
    else
      j34 ((iI 1))) := rfl
theorem u_X2_carryOut (S : St) (b0 : Nat) (b1 : Nat) : f_X2_carryOut S b0 b1 = (
    lp_ (fun self1 (x1 : Int32 × St) =>
      gI_ x1.2 b0 2 3 fun v2 =>
      jn_ (fun (x3 : St) =>
        rt_ (x1.1, x3)
      ) fun j3 =>
      if v2 ≤ x1.1 then
        j3 (x1.2)
      else
        ck_ x1.2 b0 2 <| cI_ (f_X2_doLine x1.2 b0 b1 x1.1) fun v5 S4 =>
        if v5 = iI 0 then
          j3 (S4)
        else
          lt_ (x1.1 + iI 1) fun v6 =>
          self1 (v6, S4)
    ) FU ((iI 0), S)) := rfl
theorem u_X3_copyFrom (S : St) (b0 : Nat) (b1 : Nat) : f_X3_copyFrom S b0 b1 = (
    gR_ S b1 3 0 fun a1 =>
    gR_ S b0 3 0 fun a2 =>
    cV_ (f_X8_copyRow S a1 a2) fun S3 =>
    gR_ S3 b1 3 1 fun a4 =>
    gR_ S3 b0 3 1 fun a5 =>
    cV_ (f_X8_copyRow S3 a4 a5) fun S6 =>
    gR_ S6 b1 3 2 fun a7 =>
    gR_ S6 b0 3 2 fun a8 =>
    cV_ (f_X8_copyRow S6 a7 a8) fun S9 =>
    gR_ S9 b1 3 3 fun a10 =>
    gR_ S9 b0 3 3 fun a11 =>
    cV_ (f_X8_copyRow S9 a10 a11) fun S12 =>
    gR_ S12 b1 3 4 fun a13 =>
    gR_ S12 b0 3 4 fun a14 =>
    cV_ (f_X8_copyRow S12 a13 a14) fun S15 =>
    gR_ S15 b1 3 5 fun a16 =>
    gR_ S15 b0 3 5 fun a17 =>
    cV_ (f_X8_copyRow S15 a16 a17) fun S18 =>
    gR_ S18 b1 3 6 fun a19 =>
    gR_ S18 b0 3 6 fun a20 =>
    cV_ (f_X8_copyRow S18 a19 a20) fun S21 =>
    lp_ (fun self22 (x22 : Int32 × St) =>
      gR_ x22.2 b0 3 7 fun a23 =>
      al_ x22.2 a23 13 fun v24 =>
      jn_ (fun (x25 : Unit) =>
        gI_ x22.2 b1 3 8 fun v26 =>
        pI_ x22.2 b0 3 8 v26 fun S27 =>
        gI_ S27 b1 3 9 fun v28 =>
        pI_ S27 b0 3 9 v28 fun S29 =>
        gI_ S29 b1 3 10 fun v30 =>
        pI_ S29 b0 3 10 v30 fun S31 =>
        rt_ S31
      ) fun j25 =>
      if v24 ≤ x22.1 then
        j25 ()
      else
        gR_ x22.2 b1 3 7 fun a32 =>
        al_ x22.2 a32 13 fun v33 =>
        if v33 ≤ x22.1 then
          j25 ()
        else
          gR_ x22.2 b0 3 7 fun a34 =>
          gR_ x22.2 b1 3 7 fun a35 =>
          aI_ x22.2 a35 13 x22.1 fun v36 =>
          sZ_ x22.2 a34 x22.1 v36 fun S37 =>
          lt_ (x22.1 + iI 1) fun v38 =>
          self22 (v38, S37)
    ) FU ((iI 0), S21)) := rfl
theorem u_X3_isReady (S : St) (b0 : Nat) (p1 : Int32) : f_X3_isReady S b0 p1 = (
    ck_ S b0 3 <| cP_ (f_X3_isRecord S b0 p1) fun v1 =>
    jn_ (fun (x2 : Int32) =>
      rzP_ x2
    ) fun j2 =>
    jn_ (fun (x3 : Unit) =>
      j2 ((iI 0))
    ) fun j3 =>
    if v1 = iI 0 then
      j3 ()
    else
      gR_ S b0 3 5 fun a4 =>
      cP_ (f_X8_at S a4 p1) fun v5 =>
      gI_ S b0 3 10 fun v6 =>
      if v6 ≤ v5 then
        j3 ()
      else
        j2 ((iI 1))) := rfl
theorem u_X3_readyRecords (S : St) (b0 : Nat) : f_X3_readyRecords S b0 = (
    lp_ (fun self1 (x1 : Int32 × Int32) =>
      gI_ S b0 3 8 fun v2 =>
      if v2 ≤ x1.2 then
        rt_ x1.1
      else
        ck_ S b0 3 <| cP_ (f_X3_isReady S b0 x1.2) fun v3 =>
        jn_ (fun (x4 : Int32) =>
          lt_ (x1.2 + iI 1) fun v5 =>
          self1 (x4, v5)
        ) fun j4 =>
        if v3 = iI 0 then
          j4 (x1.1)
        else
          lt_ (x1.1 + iI 1) fun v6 =>
          j4 (v6)
    ) FU ((iI 0), (iI 0))) := rfl
theorem u_X3_itemOfRecord (S : St) (b0 : Nat) (p1 : Int32) : f_X3_itemOfRecord S b0 p1 = (
    lp_ (fun self1 (x1 : Int32 × Int32) =>
      gI_ S b0 3 8 fun v2 =>
      if v2 ≤ x1.2 then
        rt_ (iI (-1))
      else
        ck_ S b0 3 <| cP_ (f_X3_isRecord S b0 x1.2) fun v3 =>
        jn_ (fun (x4 : Int32) =>
          lt_ (x1.2 + iI 1) fun v5 =>
          self1 (x4, v5)
        ) fun j4 =>
        if v3 = iI 0 then
          j4 (x1.1)
        else
          if x1.1 = iI 0 then
            rt_ x1.2
          else
            lt_ (x1.1 + iI (-1)) fun v6 =>
            j4 (v6)
    ) FU (p1, (iI 0))) := rfl
theorem u_X3_figure (S : St) (b0 : Nat) (p1 : Int32) : f_X3_figure S b0 p1 = (
    ck_ S b0 3 <| cP_ (f_X3_recordsFrom S b0 (iI 0)) fun v1 =>
    if p1 = iI 0 then
      gI_ S b0 3 8 fun v2 =>
      jn_ (fun (x3 : Int32) =>
        rt_ x3
      ) fun j3 =>
      if v2 = iI 0 then
        j3 ((iI (-1)))
      else
        gR_ S b0 3 3 fun a4 =>
        cP_ (f_X8_at S a4 (iI 0)) fun v5 =>
        j3 (v5)
    else
    if p1 = iI 1 then
      gI_ S b0 3 9 fun v6 =>
      rt_ v6
    else
    if p1 = iI 2 then
      gI_ S b0 3 10 fun v7 =>
      rt_ v7
    else
    if p1 = iI 3 then
      rt_ v1
    else
    if p1 = iI 4 then
      gI_ S b0 3 8 fun v8 =>
      lt_ (v8 - v1 : Int32) fun v9 =>
      rt_ v9
    else
    rt_ (iI (-2))) := rfl
theorem u_X3_itemFigure (S : St) (b0 : Nat) (p1 : Int32) (p2 : Int32) : f_X3_itemFigure S b0 p1 p2 = (
    if p2 = iI 0 then
      gR_ S b0 3 1 fun a1 =>
      cP_ (f_X8_at S a1 p1) fun v2 =>
      rt_ v2
    else
    if p2 = iI 1 then
      gR_ S b0 3 2 fun a3 =>
      cP_ (f_X8_at S a3 p1) fun v4 =>
      rt_ v4
    else
    if p2 = iI 2 then
      gR_ S b0 3 3 fun a5 =>
      cP_ (f_X8_at S a5 p1) fun v6 =>
      rt_ v6
    else
    if p2 = iI 3 then
      gR_ S b0 3 6 fun a7 =>
      cP_ (f_X8_at S a7 p1) fun v8 =>
      rt_ v8
    else
    rt_ (iI (-2))) := rfl
theorem u_X3_dataOf (S : St) (b0 : Nat) (p1 : Int32) (p2 : Int32) : f_X3_dataOf S b0 p1 p2 = (
    gR_ S b0 3 0 fun a1 =>
    gR_ S b0 3 5 fun a2 =>
    cP_ (f_X8_at S a2 p1) fun v3 =>
    lt_ (v3 + (iI 1) : Int32) fun v4 =>
    lt_ (v4 + p2 : Int32) fun v5 =>
    cP_ (f_X8_at S a1 v5) fun v6 =>
    rt_ v6) := rfl
theorem u_X3_sumOf (S : St) (b0 : Nat) (p1 : Int32) (p2 : Int32) : f_X3_sumOf S b0 p1 p2 = (
    lp_ (fun self1 (x1 : Int32 × Int32) =>
      if p2 ≤ x1.2 then
        rt_ x1.1
      else
        gR_ S b0 3 0 fun a2 =>
        lt_ (p1 + x1.2 : Int32) fun v3 =>
        cP_ (f_X8_at S a2 v3) fun v4 =>
        lt_ (x1.1 + v4 : Int32) fun v5 =>
        lt_ (x1.2 + iI 1) fun v6 =>
        self1 (v5, v6)
    ) FU ((iI 0), (iI 0))) := rfl
theorem u_X3_kindAt (S : St) (b0 : Nat) (p1 : Int32) : f_X3_kindAt S b0 p1 = (
    gR_ S b0 3 0 fun a1 =>
    cP_ (f_X8_at S a1 p1) fun v2 =>
    if v2 < (iI 240) then
      jn_ (fun (x3 : Int32) =>
        rt_ x3
      ) fun j3 =>
      if v2 < (iI 224) then
        j3 ((iI 0))
      else
        j3 ((iI 1))
    else
      rt_ (iI 2)) := rfl
theorem u_X3_dataAt (S : St) (b0 : Nat) (p1 : Int32) : f_X3_dataAt S b0 p1 = (
    ck_ S b0 3 <| cP_ (f_X3_kindAt S b0 p1) fun v1 =>
    if v1 = iI 0 then
      gR_ S b0 3 0 fun a2 =>
      cP_ (f_X8_at S a2 p1) fun v3 =>
      dv_ v3 (iI 16) fun v4 =>
      rt_ v4
    else
    if v1 = iI 1 then
      gR_ S b0 3 0 fun a5 =>
      lt_ (p1 + (iI 1) : Int32) fun v6 =>
      cP_ (f_X8_at S a5 v6) fun v7 =>
      rt_ v7
    else
    rt_ (iI 0)) := rfl
theorem u_X3_sizeAt (S : St) (b0 : Nat) (p1 : Int32) : f_X3_sizeAt S b0 p1 = (
    ck_ S b0 3 <| cP_ (f_X3_kindAt S b0 p1) fun v1 =>
    jn_ (fun (x2 : Int32) =>
      rt_ x2
    ) fun j2 =>
    if v1 = (iI 2) then
      j2 ((iI 3))
    else
      ck_ S b0 3 <| cP_ (f_X3_dataAt S b0 p1) fun v3 =>
      lt_ ((iI 1) + v3 : Int32) fun v4 =>
      j2 (v4)) := rfl
theorem u_X3_deltaToldAt (S : St) (b0 : Nat) (p1 : Int32) : f_X3_deltaToldAt S b0 p1 = (
    gR_ S b0 3 0 fun a1 =>
    cP_ (f_X8_at S a1 p1) fun v2 =>
    rm_ v2 (iI 16) fun v3 =>
    ck_ S b0 3 <| cP_ (f_X3_kindAt S b0 p1) fun v4 =>
    if v4 = (iI 2) then
      gR_ S b0 3 0 fun a5 =>
      lt_ (p1 + (iI 1) : Int32) fun v6 =>
      cP_ (f_X8_at S a5 v6) fun v7 =>
      lt_ ((iI 16) * v7 : Int32) fun v8 =>
      lt_ (v3 + v8 : Int32) fun v9 =>
      gR_ S b0 3 0 fun a10 =>
      lt_ (p1 + (iI 2) : Int32) fun v11 =>
      cP_ (f_X8_at S a10 v11) fun v12 =>
      lt_ ((iI 4096) * v12 : Int32) fun v13 =>
      lt_ (v9 + v13 : Int32) fun v14 =>
      rt_ v14
    else
      rt_ v3) := rfl
theorem u_X3_howManyLie (S : St) (b0 : Nat) : f_X3_howManyLie S b0 = (
    lp_ (fun self1 (x1 : Int32 × Int32 × Int32) =>
      jn_ (fun (x2 : Unit) =>
        rt_ x1.1
      ) fun j2 =>
      if (iI 32) ≤ x1.2.2 then
        j2 ()
      else
        gI_ S b0 3 9 fun v3 =>
        if v3 ≤ x1.2.1 then
          j2 ()
        else
          ck_ S b0 3 <| cP_ (f_X3_sizeAt S b0 x1.2.1) fun v4 =>
          lt_ (x1.2.1 + v4 : Int32) fun v5 =>
          lt_ (x1.1 + iI 1) fun v6 =>
          lt_ (x1.2.2 + iI 1) fun v7 =>
          self1 (v6, v5, v7)
    ) FU ((iI 0), (iI 0), (iI 0))) := rfl
theorem u_X3_parse (S : St) (b0 : Nat) (p1 : Int32) (p2 : Int32) : f_X3_parse S b0 p1 p2 = (
    if iI 0 ≤ p1 then
      gR_ S b0 3 3 fun a1 =>
      cP_ (f_X8_at S a1 (iI 0)) fun v2 =>
      lp_ (fun self3 (x3 : Int32 × Int32 × Int32) =>
        jn_ (fun (x4 : Unit) =>
          gI_ S b0 3 9 fun v5 =>
          if x3.1 < v5 then
            ck_ S b0 3 <| cP_ (f_X3_deltaToldAt S b0 x3.1) fun v6 =>
            if p2 = iI 0 then
              ck_ S b0 3 <| cP_ (f_X3_kindAt S b0 x3.1) fun v7 =>
              rt_ v7
            else
            if p2 = iI 1 then
              rt_ x3.1
            else
            if p2 = iI 2 then
              ck_ S b0 3 <| cP_ (f_X3_sizeAt S b0 x3.1) fun v8 =>
              rt_ v8
            else
            if p2 = iI 3 then
              ck_ S b0 3 <| cP_ (f_X3_kindAt S b0 x3.1) fun v9 =>
              jn_ (fun (x10 : Int32) =>
                rt_ x10
              ) fun j10 =>
              if v9 = (iI 2) then
                j10 (v6)
              else
                lt_ (x3.2.1 + v6 : Int32) fun v11 =>
                j10 (v11)
            else
            if p2 = iI 4 then
              ck_ S b0 3 <| cP_ (f_X3_dataAt S b0 x3.1) fun v12 =>
              rt_ v12
            else
            rt_ (iI (-2))
          else
            rt_ (iI (-2))
        ) fun j4 =>
        if p1 ≤ x3.2.2 then
          j4 ()
        else
          gI_ S b0 3 9 fun v13 =>
          if v13 ≤ x3.1 then
            j4 ()
          else
            ck_ S b0 3 <| cP_ (f_X3_deltaToldAt S b0 x3.1) fun v14 =>
            lt_ (x3.2.1 + v14 : Int32) fun v15 =>
            ck_ S b0 3 <| cP_ (f_X3_sizeAt S b0 x3.1) fun v16 =>
            lt_ (x3.1 + v16 : Int32) fun v17 =>
            lt_ (x3.2.2 + iI 1) fun v18 =>
            self3 (v17, v15, v18)
      ) FU ((iI 0), v2, (iI 0))
    else
      rt_ (iI (-2))) := rfl
theorem u_X4_copyFrom (S : St) (b0 : Nat) (b1 : Nat) : f_X4_copyFrom S b0 b1 = (
    lp_ (fun self1 (x1 : Int32 × St) =>
      if (iI 6) ≤ x1.1 then
        gR_ x1.2 b0 4 6 fun a2 =>
        gR_ x1.2 b1 4 6 fun a3 =>
        ck_ x1.2 a2 3 <| cV_ (f_X3_copyFrom x1.2 a2 a3) fun S4 =>
        gR_ S4 b0 4 5 fun a5 =>
        gR_ S4 b1 4 5 fun a6 =>
        ck_ S4 a5 1 <| cV_ (f_X1_copyFrom S4 a5 a6) fun S7 =>
        gR_ S7 b1 4 1 fun a8 =>
        gR_ S7 b0 4 1 fun a9 =>
        cV_ (f_X8_copyRow S7 a8 a9) fun S10 =>
        gR_ S10 b1 4 2 fun a11 =>
        gR_ S10 b0 4 2 fun a12 =>
        cV_ (f_X8_copyRow S10 a11 a12) fun S13 =>
        gR_ S13 b1 4 3 fun a14 =>
        gR_ S13 b0 4 3 fun a15 =>
        cV_ (f_X8_copyRow S13 a14 a15) fun S16 =>
        gR_ S16 b1 4 4 fun a17 =>
        gR_ S16 b0 4 4 fun a18 =>
        cV_ (f_X8_copyRow S16 a17 a18) fun S19 =>
        gI_ S19 b1 4 7 fun v20 =>
        pI_ S19 b0 4 7 v20 fun S21 =>
        gI_ S21 b1 4 8 fun v22 =>
        pI_ S21 b0 4 8 v22 fun S23 =>
        gI_ S23 b1 4 9 fun v24 =>
        pI_ S23 b0 4 9 v24 fun S25 =>
        gI_ S25 b1 4 10 fun v26 =>
        pZ_ S25 b0 4 10 v26 fun S27 =>
        gI_ S27 b1 4 11 fun v28 =>
        pI_ S27 b0 4 11 v28 fun S29 =>
        gI_ S29 b1 4 12 fun v30 =>
        pI_ S29 b0 4 12 v30 fun S31 =>
        gI_ S31 b1 4 13 fun v32 =>
        pI_ S31 b0 4 13 v32 fun S33 =>
        gI_ S33 b1 4 14 fun v34 =>
        pI_ S33 b0 4 14 v34 fun S35 =>
        gI_ S35 b1 4 15 fun v36 =>
        pI_ S35 b0 4 15 v36 fun S37 =>
        rt_ S37
      else
        ck_ x1.2 b0 4 <| cP_ (f_X4_pageAt x1.2 b0 x1.1) fun a38 =>
        ck_ x1.2 b1 4 <| cP_ (f_X4_pageAt x1.2 b1 x1.1) fun a39 =>
        ck_ x1.2 a38 3 <| cV_ (f_X3_copyFrom x1.2 a38 a39) fun S40 =>
        lt_ (x1.1 + iI 1) fun v41 =>
        self1 (v41, S40)
    ) FU ((iI 0), S)) := rfl
theorem u_X4_pageOf (S : St) (b0 : Nat) (p1 : Int32) : f_X4_pageOf S b0 p1 = (
    if p1 = (iI (-1)) then
      gR_ S b0 4 6 fun a6 =>
      rt_ (some a6)
    else
      jn_ (fun (x1 : Option Nat) =>
        rt_ x1
      ) fun j1 =>
      jn_ (fun (x2 : Unit) =>
        j1 (none)
      ) fun j2 =>
      if p1 < iI 0 then
        j2 ()
      else
        gI_ S b0 4 13 fun v3 =>
        if p1 < v3 then
          ck_ S b0 4 <| cP_ (f_X4_placeOf S b0 p1) fun v4 =>
          ck_ S b0 4 <| cP_ (f_X4_pageAt S b0 v4) fun a5 =>
          j1 (some a5)
        else
          j2 ()) := rfl
theorem u_X4_readyRecords (S : St) (b0 : Nat) : f_X4_readyRecords S b0 = (
    lp_ (fun self1 (x1 : Int32 × Int32) =>
      gI_ S b0 4 13 fun v2 =>
      if v2 ≤ x1.2 then
        rt_ x1.1
      else
        ck_ S b0 4 <| cP_ (f_X4_placeOf S b0 x1.2) fun v3 =>
        ck_ S b0 4 <| cP_ (f_X4_pageAt S b0 v3) fun a4 =>
        ck_ S a4 3 <| cP_ (f_X3_readyRecords S a4) fun v5 =>
        lt_ (x1.1 + v5 : Int32) fun v6 =>
        lt_ (x1.2 + iI 1) fun v7 =>
        self1 (v6, v7)
    ) FU ((iI 0), (iI 0))) := rfl
theorem u_X4_isTallied (S : St) (b0 : Nat) (p1 : Int32) : f_X4_isTallied S b0 p1 = (
    jn_ (fun (x1 : Int32) =>
      jn_ (fun (x2 : Int32) =>
        rzP_ x2
      ) fun j2 =>
      jn_ (fun (x3 : Unit) =>
        j2 ((iI 1))
      ) fun j3 =>
      if x1 = iI 0 then
        jn_ (fun (x4 : Unit) =>
          j2 ((iI 0))
        ) fun j4 =>
        if p1 < (iI 6) then
          j4 ()
        else
          if (iI 19) < p1 then
            j4 ()
          else
            j3 ()
      else
        j3 ()
    ) fun j1 =>
    jn_ (fun (x5 : Unit) =>
      j1 ((iI 1))
    ) fun j5 =>
    jn_ (fun (x6 : Unit) =>
      jn_ (fun (x7 : Unit) =>
        j1 ((iI 0))
      ) fun j7 =>
      if p1 < (iI 30) then
        j7 ()
      else
        if (iI 34) ≤ p1 then
          j7 ()
        else
          j5 ()
    ) fun j6 =>
    if p1 < (iI 20) then
      j6 ()
    else
      if p1 < (iI 24) then
        j5 ()
      else
        j6 ()) := rfl
theorem u_X4_figure (S : St) (b0 : Nat) (p1 : Int32) : f_X4_figure S b0 p1 = (
    if p1 = iI 0 then
      gI_ S b0 4 8 fun v1 =>
      rt_ v1
    else
    if p1 = iI 1 then
      gI_ S b0 4 9 fun v2 =>
      rt_ v2
    else
    if p1 = iI 2 then
      gI_ S b0 4 10 fun v3 =>
      jn_ (fun (x4 : Int32) =>
        rt_ x4
      ) fun j4 =>
      if v3 = iI 0 then
        j4 ((iI 0))
      else
        j4 ((iI 1))
    else
    if p1 = iI 3 then
      gI_ S b0 4 11 fun v5 =>
      rt_ v5
    else
    if p1 = iI 4 then
      gI_ S b0 4 15 fun v6 =>
      rt_ v6
    else
    if p1 = iI 5 then
      gI_ S b0 4 13 fun v7 =>
      rt_ v7
    else
    if p1 = iI 12 then
      ck_ S b0 4 <| cP_ (f_X4_readyRecords S b0) fun v8 =>
      rt_ v8
    else
    if p1 = iI 40 then
      gI_ S b0 4 14 fun v9 =>
      rt_ v9
    else
    ck_ S b0 4 <| cP_ (f_X4_isTallied S b0 p1) fun v10 =>
    jn_ (fun (x11 : Int32) =>
      rt_ x11
    ) fun j11 =>
    if v10 = iI 0 then
      j11 ((iI (-1)))
    else
      gR_ S b0 4 4 fun a12 =>
      cP_ (f_X8_at S a12 p1) fun v13 =>
      j11 (v13)) := rfl
theorem u_X4_openFigure (S : St) (b0 : Nat) (p1 : Int32) (p2 : Int32) : f_X4_openFigure S b0 p1 p2 = (
    jn_ (fun (x1 : Unit) =>
      rt_ (iI (-2))
    ) fun j1 =>
    if p1 < iI 0 then
      j1 ()
    else
      gI_ S b0 4 15 fun v2 =>
      if p1 < v2 then
        gR_ S b0 4 1 fun a3 =>
        cP_ (f_X8_at S a3 p1) fun v4 =>
        gR_ S b0 4 2 fun a5 =>
        cP_ (f_X8_at S a5 p1) fun v6 =>
        if p2 = iI 4 then
          gR_ S b0 4 3 fun a7 =>
          cP_ (f_X8_at S a7 p1) fun v8 =>
          rt_ v8
        else
        if p2 = iI 5 then
          gI_ S b0 4 12 fun v9 =>
          jn_ (fun (x10 : Int32) =>
            rt_ x10
          ) fun j10 =>
          if v4 < v9 then
            gI_ S b0 4 12 fun v11 =>
            lt_ (v4 - v11 : Int32) fun v12 =>
            gI_ S b0 4 8 fun v13 =>
            lt_ (v12 + v13 : Int32) fun v14 =>
            j10 (v14)
          else
            gI_ S b0 4 12 fun v15 =>
            lt_ (v4 - v15 : Int32) fun v16 =>
            j10 (v16)
        else
        if p2 = iI 6 then
          ck_ S b0 4 <| cP_ (f_X4_pageAt S b0 v4) fun a17 =>
          gR_ S a17 3 5 fun a18 =>
          cP_ (f_X8_at S a18 v6) fun v19 =>
          rt_ v19
        else
        ck_ S b0 4 <| cP_ (f_X4_pageAt S b0 v4) fun a20 =>
        ck_ S a20 3 <| cP_ (f_X3_itemFigure S a20 v6 p2) fun v21 =>
        rt_ v21
      else
        j1 ()) := rfl
theorem u_X4_readyFigure (S : St) (b0 : Nat) (p1 : Int32) (p2 : Int32) : f_X4_readyFigure S b0 p1 p2 = (
    if iI 0 ≤ p1 then
      lp_ (fun self1 (x1 : Int32 × Int32) =>
        gI_ S b0 4 13 fun v2 =>
        if v2 ≤ x1.2 then
          rt_ (iI (-2))
        else
          ck_ S b0 4 <| cP_ (f_X4_placeOf S b0 x1.2) fun v3 =>
          ck_ S b0 4 <| cP_ (f_X4_pageAt S b0 v3) fun a4 =>
          ck_ S a4 3 <| cP_ (f_X3_readyRecords S a4) fun v5 =>
          if v5 ≤ x1.1 then
            lt_ (x1.1 - v5 : Int32) fun v6 =>
            lt_ (x1.2 + iI 1) fun v7 =>
            self1 (v6, v7)
          else
            ck_ S a4 3 <| cP_ (f_X3_itemOfRecord S a4 x1.1) fun v8 =>
            jn_ (fun (x9 : Int32) =>
              jn_ (fun (x10 : Int32) =>
                rt_ x10
              ) fun j10 =>
              if x9 = iI 0 then
                ck_ S a4 3 <| cP_ (f_X3_itemFigure S a4 v8 p2) fun v11 =>
                j10 (v11)
              else
                lt_ (p2 - (iI 10) : Int32) fun v12 =>
                ck_ S a4 3 <| cP_ (f_X3_dataOf S a4 v8 v12) fun v13 =>
                j10 (v13)
            ) fun j9 =>
            jn_ (fun (x14 : Unit) =>
              j9 ((iI 0))
            ) fun j14 =>
            if p2 < (iI 10) then
              j14 ()
            else
              lt_ (p2 - (iI 10) : Int32) fun v15 =>
              gR_ S a4 3 6 fun a16 =>
              cP_ (f_X8_at S a16 v8) fun v17 =>
              if v17 ≤ v15 then
                j14 ()
              else
                j9 ((iI 1))
      ) FU (p1, (iI 0))
    else
      rt_ (iI (-2))) := rfl
theorem u_X4_isWithin (S : St) (b0 : Nat) (b1 : Nat) (p2 : Int32) (p3 : Int32) (p4 : Int32) : f_X4_isWithin S b0 b1 p2 p3 p4 = (
    gR_ S b1 3 3 fun a1 =>
    cP_ (f_X8_at S a1 p2) fun v2 =>
    jn_ (fun (x3 : Int32) =>
      rzP_ x3
    ) fun j3 =>
    jn_ (fun (x4 : Unit) =>
      j3 ((iI 0))
    ) fun j4 =>
    if v2 < p3 then
      j4 ()
    else
      if p4 < v2 then
        j4 ()
      else
        j3 ((iI 1))) := rfl
theorem u_X4_howManyWithin (S : St) (b0 : Nat) (p1 : Int32) (p2 : Int32) : f_X4_howManyWithin S b0 p1 p2 = (
    lp_ (fun self1 (x1 : Int32 × Int32) =>
      gI_ S b0 4 13 fun v2 =>
      if v2 ≤ x1.2 then
        rt_ x1.1
      else
        ck_ S b0 4 <| cP_ (f_X4_placeOf S b0 x1.2) fun v3 =>
        ck_ S b0 4 <| cP_ (f_X4_pageAt S b0 v3) fun a4 =>
        lp_ (fun self5 (x5 : Int32 × Int32) =>
          gI_ S a4 3 8 fun v6 =>
          if v6 ≤ x5.2 then
            lt_ (x1.2 + iI 1) fun v7 =>
            self1 (x5.1, v7)
          else
            ck_ S a4 3 <| cP_ (f_X3_isReady S a4 x5.2) fun v8 =>
            jn_ (fun (x9 : Int32) =>
              lt_ (x5.2 + iI 1) fun v10 =>
              self5 (x9, v10)
            ) fun j9 =>
            if v8 = iI 0 then
              j9 (x5.1)
            else
              ck_ S b0 4 <| cP_ (f_X4_isWithin S b0 a4 x5.2 p1 p2) fun v11 =>
              if v11 = iI 0 then
                j9 (x5.1)
              else
                lt_ (x5.1 + iI 1) fun v12 =>
                j9 (v12)
        ) FU (x1.1, (iI 0))
    ) FU ((iI 0), (iI 0))) := rfl
theorem u_X4_firstWithin (S : St) (b0 : Nat) (p1 : Int32) (p2 : Int32) : f_X4_firstWithin S b0 p1 p2 = (
    lp_ (fun self1 (x1 : Int32 × Int32) =>
      gI_ S b0 4 13 fun v2 =>
      if v2 ≤ x1.2 then
        rt_ (iI (-1))
      else
        ck_ S b0 4 <| cP_ (f_X4_placeOf S b0 x1.2) fun v3 =>
        ck_ S b0 4 <| cP_ (f_X4_pageAt S b0 v3) fun a4 =>
        lp_ (fun self5 (x5 : Int32 × Int32) =>
          gI_ S a4 3 8 fun v6 =>
          if v6 ≤ x5.2 then
            lt_ (x1.2 + iI 1) fun v7 =>
            self1 (x5.1, v7)
          else
            ck_ S a4 3 <| cP_ (f_X3_isReady S a4 x5.2) fun v8 =>
            jn_ (fun (x9 : Int32) =>
              lt_ (x5.2 + iI 1) fun v10 =>
              self5 (x9, v10)
            ) fun j9 =>
            if v8 = iI 0 then
              j9 (x5.1)
            else
              ck_ S b0 4 <| cP_ (f_X4_isWithin S b0 a4 x5.2 p1 p2) fun v11 =>
              if v11 = iI 0 then
                lt_ (x5.1 + iI 1) fun v12 =>
                j9 (v12)
              else
                rt_ x5.1
        ) FU (x1.1, (iI 0))
    ) FU ((iI 0), (iI 0))) := rfl
theorem u_X4_roomFor (S : St) (b0 : Nat) (p1 : Int32) : f_X4_roomFor S b0 p1 = (
    jn_ (fun (x1 : Unit) =>
      rt_ (iI (-1))
    ) fun j1 =>
    if p1 < (iI 1) then
      j1 ()
    else
      if (iI 8) < p1 then
        j1 ()
      else
        ck_ S b0 4 <| cP_ (f_X4_innermostLevel S b0) fun v2 =>
        if v2 = (iI 3) then
          j1 ()
        else
          lt_ ((iI 1) + p1 : Int32) fun v3 =>
          ck_ S b0 4 <| cP_ (f_X4_tailPlace S b0) fun v4 =>
          ck_ S b0 4 <| cP_ (f_X4_pageAt S b0 v4) fun a5 =>
          gI_ S b0 4 9 fun v6 =>
          gI_ S a5 3 9 fun v7 =>
          lt_ (v6 - v7 : Int32) fun v8 =>
          gI_ S b0 4 11 fun v9 =>
          ck_ S a5 3 <| cP_ (f_X3_sizeFor S a5 v9 p1) fun v10 =>
          lt_ (v8 - v10 : Int32) fun v11 =>
          jn_ (fun (x12 : Int32) =>
            gI_ S b0 4 8 fun v13 =>
            gI_ S b0 4 13 fun v14 =>
            lt_ (v13 - v14 : Int32) fun v15 =>
            gI_ S b0 4 9 fun v16 =>
            dv_ v16 v3 fun v17 =>
            lt_ (v15 * v17 : Int32) fun v18 =>
            lt_ (x12 + v18 : Int32) fun v19 =>
            rt_ v19
          ) fun j12 =>
          if iI 0 ≤ v11 then
            dv_ v11 v3 fun v20 =>
            lt_ ((iI 1) + v20 : Int32) fun v21 =>
            j12 (v21)
          else
            j12 ((iI 0))) := rfl
theorem u_X5_draw (S : St) (b0 : Nat) (p1 : Int32) : f_X5_draw S b0 p1 = (
    gI_ S b0 5 0 fun v1 =>
    lt_ (v1 * (iI 1103515245) : Int32) fun v2 =>
    lt_ (v2 + (iI 12345) : Int32) fun v3 =>
    pI_ S b0 5 0 v3 fun S4 =>
    jn_ (fun (x5 : Int32) =>
      rt_ (x5, S4)
    ) fun j5 =>
    if (iI 1) ≤ p1 then
      gI_ S4 b0 5 0 fun v6 =>
      lt_ ((v6.toUInt32 >>> (Int32.toUInt32 (iI 16) &&& Int32.toUInt32 31)).toInt32 : Int32) fun v7 =>
      rm_ v7 p1 fun v8 =>
      j5 (v8)
    else
      j5 ((iI 0))) := rfl
theorem u_X5_takeOrEnd (S : St) (b0 : Nat) (b1 : Nat) : f_X5_takeOrEnd S b0 b1 = (
    ck_ S b1 4 <| cP_ (f_X4_innermostLevel S b1) fun v1 =>
    jn_ (fun (x2 : St) =>
      rt_ x2
    ) fun j2 =>
    if v1 = (iI 3) then
      ck_ S b1 4 <| cI_ (f_X4_endInnermost S b1 v1) fun v10 S9 =>
      j2 (S9)
    else
      lt_ (v1 + (iI 1) : Int32) fun v3 =>
      ck_ S b0 5 <| cI_ (f_X5_draw S b0 (iI 8)) fun v5 S4 =>
      lt_ ((iI 1) + v5 : Int32) fun v6 =>
      ck_ S4 b1 4 <| cI_ (f_X4_takeRoom S4 b1 v3 v6) fun v8 S7 =>
      j2 (S7)) := rfl
theorem u_X5_blow (S : St) (b0 : Nat) (b1 : Nat) (p2 : Int32) (p3 : Int32) : f_X5_blow S b0 b1 p2 p3 = (
    pI_ S b0 5 0 p2 fun S1 =>
    lp_ (fun self2 (x2 : Int32 × St) =>
      if p3 ≤ x2.1 then
        rt_ x2.2
      else
        ck_ x2.2 b0 5 <| cI_ (f_X5_draw x2.2 b0 (iI 10)) fun v4 S3 =>
        jn_ (fun (x5 : St) =>
          lt_ (x2.1 + iI 1) fun v6 =>
          self2 (v6, x5)
        ) fun j5 =>
        jn_ (fun (x7 : Unit) =>
          ck_ S3 b0 5 <| cV_ (f_X5_takeOrEnd S3 b0 b1) fun S8 =>
          j5 (S8)
        ) fun j7 =>
        jn_ (fun (x9 : Unit) =>
          ck_ S3 b1 4 <| cP_ (f_X4_innermostLevel S3 b1) fun v10 =>
          ck_ S3 b1 4 <| cI_ (f_X4_endInnermost S3 b1 v10) fun v12 S11 =>
          j5 (S11)
        ) fun j9 =>
        if v4 = iI 0 then
          ck_ S3 b0 5 <| cI_ (f_X5_draw S3 b0 (iI 40)) fun v14 S13 =>
          lt_ ((iI 1) + v14 : Int32) fun v15 =>
          ck_ S13 b1 4 <| cI_ (f_X4_goOn S13 b1 v15) fun v17 S16 =>
          j5 (S16)
        else
        if v4 = iI 1 then
          j7 ()
        else
        if v4 = iI 2 then
          j7 ()
        else
        if v4 = iI 3 then
          j7 ()
        else
        if v4 = iI 4 then
          j7 ()
        else
        if v4 = iI 5 then
          ck_ S3 b1 4 <| cP_ (f_X4_innermostLevel S3 b1) fun v18 =>
          ck_ S3 b0 5 <| cI_ (f_X5_draw S3 b0 (iI 256)) fun v20 S19 =>
          ck_ S19 b1 4 <| cI_ (f_X4_putData S19 b1 v18 v20) fun v22 S21 =>
          j5 (S21)
        else
        if v4 = iI 6 then
          j9 ()
        else
        if v4 = iI 7 then
          j9 ()
        else
        if v4 = iI 8 then
          ck_ S3 b1 4 <| cP_ (f_X4_innermostLevel S3 b1) fun v23 =>
          ck_ S3 b1 4 <| cI_ (f_X4_dropInnermost S3 b1 v23) fun v25 S24 =>
          j5 (S24)
        else
        ck_ S3 b0 5 <| cI_ (f_X5_draw S3 b0 (iI 2)) fun v27 S26 =>
        jn_ (fun (x28 : Int32) =>
          ck_ S26 b1 4 <| cI_ (f_X4_swapHead S26 b1 x28) fun v30 S29 =>
          ck_ S29 b1 4 <| cI_ (f_X4_readNext S29 b1) fun v32 S31 =>
          ck_ S31 b1 4 <| cI_ (f_X4_readNext S31 b1) fun v34 S33 =>
          j5 (S33)
        ) fun j28 =>
        if v27 = (iI 1) then
          j28 ((iI 1))
        else
          j28 ((iI 0))
    ) FU ((iI 0), S1)) := rfl
theorem u_X6_copyFrom (S : St) (b0 : Nat) (b1 : Nat) : f_X6_copyFrom S b0 b1 = (
    gR_ S b1 6 0 fun a1 =>
    gR_ S b0 6 0 fun a2 =>
    cV_ (f_X8_copyRow S a1 a2) fun S3 =>
    gI_ S3 b1 6 1 fun v4 =>
    pI_ S3 b0 6 1 v4 fun S5 =>
    gI_ S5 b1 6 2 fun v6 =>
    pI_ S5 b0 6 2 v6 fun S7 =>
    gI_ S7 b1 6 3 fun v8 =>
    pI_ S7 b0 6 3 v8 fun S9 =>
    rt_ S9) := rfl
theorem u_X6_byteOf (S : St) (b0 : Nat) (q1 : Int64) (p3 : Int32) : f_X6_byteOf S b0 q1 p3 = (
    lt_ ((iI 8) * p3 : Int32) fun v1 =>
    lt_ ((iI 56) - v1 : Int32) fun v2 =>
    lt_ ((q1.toUInt64 >>> ((Int32.toInt64 v2).toUInt64 &&& Int64.toUInt64 63)).toInt64 : Int64) fun v3 =>
    lt_ (v3 &&& 255 : Int64) fun v4 =>
    lt_ (Int64.toInt32 v4) fun v5 =>
    rt_ v5) := rfl
theorem u_X6_append (S : St) (b0 : Nat) (q1 : Int64) : f_X6_append S b0 q1 = (
    lp_ (fun self1 (x1 : Int32) =>
      jn_ (fun (x2 : Unit) =>
        gI_ S b0 6 1 fun v3 =>
        lt_ ((iI 400) - v3 : Int32) fun v4 =>
        if x1 ≤ v4 then
          lp_ (fun self5 (x5 : Int32 × St) =>
            if x1 ≤ x5.1 then
              gI_ x5.2 b0 6 1 fun v6 =>
              lt_ (v6 + x1 : Int32) fun v7 =>
              pI_ x5.2 b0 6 1 v7 fun S8 =>
              gI_ S8 b0 6 1 fun v9 =>
              rt_ (v9, S8)
            else
              gR_ x5.2 b0 6 0 fun a10 =>
              gI_ x5.2 b0 6 1 fun v11 =>
              lt_ (v11 + x5.1 : Int32) fun v12 =>
              ck_ x5.2 b0 6 <| cP_ (f_X6_byteOf x5.2 b0 q1 x5.1) fun v13 =>
              cV_ (f_X8_set x5.2 a10 v12 v13) fun S14 =>
              lt_ (x5.1 + iI 1) fun v15 =>
              self5 (v15, S14)
          ) FU ((iI 0), S)
        else
          rt_ ((iI (-1)), S)
      ) fun j2 =>
      if (iI 8) ≤ x1 then
        j2 ()
      else
        ck_ S b0 6 <| cP_ (f_X6_byteOf S b0 q1 x1) fun v16 =>
        if v16 = iI 0 then
          j2 ()
        else
          lt_ (x1 + iI 1) fun v17 =>
          self1 (v17)
    ) FU ((iI 0))) := rfl
theorem u_X8_tell (S : St) (b0 : Nat) (q1 : Int64) : f_X8_tell S b0 q1 = (
    gR_ S b0 8 2 fun a1 =>
    ck_ S a1 6 <| cI_ (f_X6_append S a1 q1) fun v3 S2 =>
    rt_ (v3, S2)) := rfl
theorem u_X8_ring (S : St) (b0 : Nat) : f_X8_ring S b0 = (
    gR_ S b0 8 3 fun a1 =>
    gR_ S b0 8 2 fun a2 =>
    ck_ S a1 2 <| cI_ (f_X2_understand S a1 a2 (iI 0) (iI 3)) fun v4 S3 =>
    gR_ S3 b0 8 2 fun a5 =>
    pI_ S3 a5 6 1 (iI 0) fun S6 =>
    if v4 = iI 0 then
      rt_ ((iI (-1)), S6)
    else
      gR_ S6 b0 8 3 fun a7 =>
      gR_ S6 b0 8 0 fun a8 =>
      ck_ S6 a7 2 <| cV_ (f_X2_found S6 a7 a8) fun S9 =>
      gR_ S9 b0 8 0 fun a10 =>
      gI_ S9 a10 4 8 fun v11 =>
      gR_ S9 b0 8 0 fun a12 =>
      gI_ S9 a12 4 9 fun v13 =>
      lt_ (v11 * v13 : Int32) fun v14 =>
      rt_ (v14, S9)) := rfl
theorem u_X8_script (S : St) (b0 : Nat) : f_X8_script S b0 = (
    gR_ S b0 8 3 fun a1 =>
    gR_ S b0 8 2 fun a2 =>
    ck_ S a1 2 <| cI_ (f_X2_understand S a1 a2 (iI 4) (iI 13)) fun v4 S3 =>
    gR_ S3 b0 8 2 fun a5 =>
    pI_ S3 a5 6 1 (iI 0) fun S6 =>
    jn_ (fun (x7 : Int32 × St) =>
      rt_ (x7.1, x7.2)
    ) fun j7 =>
    if v4 = iI 0 then
      j7 ((iI (-1)), S6)
    else
      gR_ S6 b0 8 3 fun a8 =>
      gR_ S6 b0 8 0 fun a9 =>
      ck_ S6 a8 2 <| cI_ (f_X2_carryOut S6 a8 a9) fun v11 S10 =>
      j7 (v11, S10)) := rfl
theorem u_X8_fault (S : St) (b0 : Nat) (p1 : Int32) : f_X8_fault S b0 p1 = (
    jn_ (fun (x1 : Int32) =>
      rt_ x1
    ) fun j1 =>
    if p1 = iI 0 then
      gR_ S b0 8 2 fun a2 =>
      gI_ S a2 6 2 fun v3 =>
      j1 (v3)
    else
      gR_ S b0 8 2 fun a4 =>
      gI_ S a4 6 3 fun v5 =>
      j1 (v5)) := rfl
theorem u_X8_tick (S : St) (b0 : Nat) (p1 : Int32) : f_X8_tick S b0 p1 = (
    gR_ S b0 8 0 fun a1 =>
    ck_ S a1 4 <| cI_ (f_X4_goOn S a1 p1) fun v3 S2 =>
    rt_ (v3, S2)) := rfl
theorem u_X8_take (S : St) (b0 : Nat) (p1 : Int32) (p2 : Int32) : f_X8_take S b0 p1 p2 = (
    gR_ S b0 8 0 fun a1 =>
    ck_ S a1 4 <| cI_ (f_X4_takeRoom S a1 p1 p2) fun v3 S2 =>
    rt_ (v3, S2)) := rfl
theorem u_X8_put (S : St) (b0 : Nat) (p1 : Int32) (p2 : Int32) : f_X8_put S b0 p1 p2 = (
    gR_ S b0 8 0 fun a1 =>
    ck_ S a1 4 <| cI_ (f_X4_putData S a1 p1 p2) fun v3 S2 =>
    rt_ (v3, S2)) := rfl
theorem u_X8_end (S : St) (b0 : Nat) (p1 : Int32) : f_X8_end S b0 p1 = (
    gR_ S b0 8 0 fun a1 =>
    ck_ S a1 4 <| cI_ (f_X4_endInnermost S a1 p1) fun v3 S2 =>
    rt_ (v3, S2)) := rfl
theorem u_X8_drop (S : St) (b0 : Nat) (p1 : Int32) : f_X8_drop S b0 p1 = (
    gR_ S b0 8 0 fun a1 =>
    ck_ S a1 4 <| cI_ (f_X4_dropInnermost S a1 p1) fun v3 S2 =>
    rt_ (v3, S2)) := rfl
theorem u_X8_swap (S : St) (b0 : Nat) (p1 : Int32) : f_X8_swap S b0 p1 = (
    gR_ S b0 8 0 fun a1 =>
    ck_ S a1 4 <| cI_ (f_X4_swapHead S a1 p1) fun v3 S2 =>
    rt_ (v3, S2)) := rfl
theorem u_X8_read (S : St) (b0 : Nat) : f_X8_read S b0 = (
    gR_ S b0 8 0 fun a1 =>
    ck_ S a1 4 <| cI_ (f_X4_readNext S a1) fun v3 S2 =>
    rt_ (v3, S2)) := rfl
theorem u_X8_mode (S : St) (b0 : Nat) (p1 : Int32) : f_X8_mode S b0 p1 = (
    gR_ S b0 8 0 fun a1 =>
    gI_ S a1 4 10 fun v2 =>
    jn_ (fun (x3 : Int32) =>
      gR_ S b0 8 0 fun a4 =>
      pZ_ S a4 4 10 p1 fun S5 =>
      rz_ x3 S5
    ) fun j3 =>
    if v2 = p1 then
      j3 ((iI 0))
    else
      j3 ((iI 1))) := rfl
theorem u_X8_mask (S : St) (b0 : Nat) (p1 : Int32) : f_X8_mask S b0 p1 = (
    gR_ S b0 8 0 fun a1 =>
    ck_ S a1 4 <| cI_ (f_X4_maskBy S a1 p1) fun v3 S2 =>
    rz_ v3 S2) := rfl
theorem u_X8_resize (S : St) (b0 : Nat) (p1 : Int32) : f_X8_resize S b0 p1 = (
    gR_ S b0 8 0 fun a1 =>
    ck_ S a1 4 <| cI_ (f_X4_changePages S a1 p1) fun v3 S2 =>
    rt_ (v3, S2)) := rfl
theorem u_X8_isStorm (S : St) (p0 : Int32) : f_X8_isStorm S p0 = (
    jn_ (fun (x1 : Int32) =>
      rzP_ x1
    ) fun j1 =>
    jn_ (fun (x2 : Unit) =>
      j1 ((iI 0))
    ) fun j2 =>
    if p0 < (iI 1) then
      j2 ()
    else
      if (iI 60) < p0 then
        j2 ()
      else
        j1 ((iI 1))) := rfl
theorem u_X8_storm (S : St) (b0 : Nat) (p1 : Int32) (p2 : Int32) : f_X8_storm S b0 p1 p2 = (
    cP_ (f_X8_isStorm S p2) fun v1 =>
    if v1 = iI 0 then
      rt_ ((iI (-1)), S)
    else
      gR_ S b0 8 0 fun a2 =>
      ck_ S a2 4 <| cP_ (f_X4_figure S a2 (iI 7)) fun v3 =>
      gR_ S b0 8 4 fun a4 =>
      gR_ S b0 8 0 fun a5 =>
      ck_ S a4 5 <| cV_ (f_X5_blow S a4 a5 p1 p2) fun S6 =>
      gR_ S6 b0 8 0 fun a7 =>
      ck_ S6 a7 4 <| cP_ (f_X4_figure S6 a7 (iI 7)) fun v8 =>
      lt_ (v8 - v3 : Int32) fun v9 =>
      rt_ (v9, S6)) := rfl
theorem u_X8_count (S : St) (b0 : Nat) (p1 : Int32) : f_X8_count S b0 p1 = (
    jn_ (fun (x1 : Int32) =>
      rt_ x1
    ) fun j1 =>
    if p1 = (iI 15) then
      gR_ S b0 8 2 fun a4 =>
      gI_ S a4 6 1 fun v5 =>
      j1 (v5)
    else
      gR_ S b0 8 0 fun a2 =>
      ck_ S a2 4 <| cP_ (f_X4_figure S a2 p1) fun v3 =>
      j1 (v3)) := rfl
theorem u_X8_page (S : St) (b0 : Nat) (p1 : Int32) (p2 : Int32) : f_X8_page S b0 p1 p2 = (
    gR_ S b0 8 0 fun a1 =>
    ck_ S a1 4 <| cP_ (f_X4_pageOf S a1 p1) fun a2 =>
    io_ a2 (
      rt_ (iI (-2))
    ) fun a3 =>
    if p2 = (iI 5) then
      jn_ (fun (x5 : Int32) =>
        rt_ x5
      ) fun j5 =>
      if p1 = (iI (-1)) then
        j5 ((iI (-1)))
      else
        gR_ S b0 8 0 fun a6 =>
        ck_ S a6 4 <| cP_ (f_X4_placeOf S a6 p1) fun v7 =>
        j5 (v7)
    else
      ck_ S a3 3 <| cP_ (f_X3_figure S a3 p2) fun v4 =>
      rt_ v4) := rfl
theorem u_X8_cell (S : St) (b0 : Nat) (p1 : Int32) (p2 : Int32) : f_X8_cell S b0 p1 p2 = (
    gR_ S b0 8 0 fun a1 =>
    ck_ S a1 4 <| cP_ (f_X4_pageOf S a1 p1) fun a2 =>
    jn_ (fun (x3 : Unit) =>
      rt_ (iI (-1))
    ) fun j3 =>
    io_ a2 (
      j3 ()
    ) fun a4 =>
    if p2 < iI 0 then
      j3 ()
    else
      gR_ S b0 8 0 fun a5 =>
      gI_ S a5 4 9 fun v6 =>
      if p2 < v6 then
        gR_ S a4 3 0 fun a7 =>
        cP_ (f_X8_at S a7 p2) fun v8 =>
        rt_ v8
      else
        j3 ()) := rfl
theorem u_X8_open (S : St) (b0 : Nat) (p1 : Int32) (p2 : Int32) : f_X8_open S b0 p1 p2 = (
    gR_ S b0 8 0 fun a1 =>
    ck_ S a1 4 <| cP_ (f_X4_openFigure S a1 p1 p2) fun v2 =>
    rt_ v2) := rfl
theorem u_X8_record (S : St) (b0 : Nat) (p1 : Int32) (p2 : Int32) : f_X8_record S b0 p1 p2 = (
    gR_ S b0 8 0 fun a1 =>
    ck_ S a1 4 <| cP_ (f_X4_readyFigure S a1 p1 p2) fun v2 =>
    rt_ v2) := rfl
theorem u_X8_latest (S : St) (b0 : Nat) (p1 : Int32) : f_X8_latest S b0 p1 = (
    jn_ (fun (x1 : Int32) =>
      rt_ x1
    ) fun j1 =>
    if p1 = (iI 5) then
      gR_ S b0 8 0 fun a5 =>
      gR_ S a5 4 6 fun a6 =>
      gR_ S b0 8 0 fun a7 =>
      gI_ S a7 4 7 fun v8 =>
      ck_ S a6 3 <| cP_ (f_X3_recordsFrom S a6 v8) fun v9 =>
      j1 (v9)
    else
      gR_ S b0 8 0 fun a2 =>
      gR_ S a2 4 5 fun a3 =>
      ck_ S a3 1 <| cP_ (f_X1_figure S a3 p1) fun v4 =>
      j1 (v4)) := rfl
theorem u_X8_parsed (S : St) (b0 : Nat) (p1 : Int32) (p2 : Int32) (p3 : Int32) : f_X8_parsed S b0 p1 p2 p3 = (
    gR_ S b0 8 0 fun a1 =>
    ck_ S a1 4 <| cP_ (f_X4_pageOf S a1 p1) fun a2 =>
    io_ a2 (
      rt_ (iI (-2))
    ) fun a3 =>
    if p2 = (iI (-1)) then
      jn_ (fun (x5 : Int32) =>
        rt_ x5
      ) fun j5 =>
      if p3 = iI 0 then
        ck_ S a3 3 <| cP_ (f_X3_howManyLie S a3) fun v6 =>
        j5 (v6)
      else
        j5 ((iI (-2)))
    else
      ck_ S a3 3 <| cP_ (f_X3_parse S a3 p2 p3) fun v4 =>
      rt_ v4) := rfl
theorem u_X8_between (S : St) (b0 : Nat) (p1 : Int32) (p2 : Int32) (p3 : Int32) : f_X8_between S b0 p1 p2 p3 = (
    jn_ (fun (x1 : Int32) =>
      rt_ x1
    ) fun j1 =>
    if p3 = iI 0 then
      gR_ S b0 8 0 fun a2 =>
      ck_ S a2 4 <| cP_ (f_X4_howManyWithin S a2 p1 p2) fun v3 =>
      j1 (v3)
    else
      gR_ S b0 8 0 fun a4 =>
      ck_ S a4 4 <| cP_ (f_X4_firstWithin S a4 p1 p2) fun v5 =>
      j1 (v5)) := rfl
theorem u_X8_sum (S : St) (b0 : Nat) (p1 : Int32) (p2 : Int32) (p3 : Int32) : f_X8_sum S b0 p1 p2 p3 = (
    gR_ S b0 8 0 fun a1 =>
    ck_ S a1 4 <| cP_ (f_X4_pageOf S a1 p1) fun a2 =>
    jn_ (fun (x3 : Unit) =>
      rt_ (iI (-1))
    ) fun j3 =>
    io_ a2 (
      j3 ()
    ) fun a4 =>
    if p3 < iI 0 then
      j3 ()
    else
      if iI 0 ≤ p2 then
        gR_ S b0 8 0 fun a5 =>
        gI_ S a5 4 9 fun v6 =>
        jn_ (fun (x7 : Unit) =>
          rt_ (iI (-1))
        ) fun j7 =>
        if v6 < p2 then
          j7 ()
        else
          gR_ S b0 8 0 fun a8 =>
          gI_ S a8 4 9 fun v9 =>
          lt_ (v9 - p2 : Int32) fun v10 =>
          if p3 ≤ v10 then
            ck_ S a4 3 <| cP_ (f_X3_sumOf S a4 p2 p3) fun v11 =>
            rt_ v11
          else
            j7 ()
      else
        j3 ()) := rfl
theorem u_X8_would (S : St) (b0 : Nat) (p1 : Int32) (p2 : Int32) : f_X8_would S b0 p1 p2 = (
    gR_ S b0 8 0 fun a1 =>
    ck_ S a1 4 <| cP_ (f_X4_wayOf S a1 p1 p2) fun v2 =>
    rt_ v2) := rfl
theorem u_X8_room (S : St) (b0 : Nat) (p1 : Int32) : f_X8_room S b0 p1 = (
    gR_ S b0 8 0 fun a1 =>
    ck_ S a1 4 <| cP_ (f_X4_roomFor S a1 p1) fun v2 =>
    rt_ v2) := rfl
theorem u_X8_after (S : St) (b0 : Nat) (p1 : Int32) (p2 : Int32) (p3 : Int32) : f_X8_after S b0 p1 p2 p3 = (
    cP_ (f_X8_isStorm S p2) fun v1 =>
    if v1 = iI 0 then
      rt_ ((iI (-1)), S)
    else
      if p3 = (iI 15) then
        gR_ S b0 8 2 fun a10 =>
        gI_ S a10 6 1 fun v11 =>
        rt_ (v11, S)
      else
        gR_ S b0 8 1 fun a2 =>
        gR_ S b0 8 0 fun a3 =>
        ck_ S a2 4 <| cV_ (f_X4_copyFrom S a2 a3) fun S4 =>
        gR_ S4 b0 8 4 fun a5 =>
        gR_ S4 b0 8 1 fun a6 =>
        ck_ S4 a5 5 <| cV_ (f_X5_blow S4 a5 a6 p1 p2) fun S7 =>
        gR_ S7 b0 8 1 fun a8 =>
        ck_ S7 a8 4 <| cP_ (f_X4_figure S7 a8 p3) fun v9 =>
        rt_ (v9, S7)) := rfl
theorem u_X8_fewest (S : St) (b0 : Nat) (p1 : Int32) (p2 : Int32) : f_X8_fewest S b0 p1 p2 = (
    cP_ (f_X8_isStorm S p2) fun v1 =>
    if v1 = iI 0 then
      rt_ ((iI (-1)), S)
    else
      lp_ (fun self2 (x2 : Int32 × St) =>
        if (iI 6) < x2.1 then
          rt_ ((iI (-1)), x2.2)
        else
          gR_ x2.2 b0 8 1 fun a3 =>
          gR_ x2.2 b0 8 0 fun a4 =>
          gI_ x2.2 a4 4 9 fun v5 =>
          gR_ x2.2 b0 8 0 fun a6 =>
          gI_ x2.2 a6 4 10 fun v7 =>
          ck_ x2.2 a3 4 <| cV_ (f_X4_begin x2.2 a3 x2.1 v5 v7) fun S8 =>
          gR_ S8 b0 8 4 fun a9 =>
          gR_ S8 b0 8 1 fun a10 =>
          ck_ S8 a9 5 <| cV_ (f_X5_blow S8 a9 a10 p1 p2) fun S11 =>
          gR_ S11 b0 8 1 fun a12 =>
          ck_ S11 a12 4 <| cP_ (f_X4_figure S11 a12 (iI 7)) fun v13 =>
          jn_ (fun (x14 : Unit) =>
            lt_ (x2.1 + iI 1) fun v15 =>
            self2 (v15, S11)
          ) fun j14 =>
          if v13 = iI 0 then
            gR_ S11 b0 8 1 fun a16 =>
            ck_ S11 a16 4 <| cP_ (f_X4_figure S11 a16 (iI 8)) fun v17 =>
            if v17 = iI 0 then
              rt_ (x2.1, S11)
            else
              j14 ()
          else
            j14 ()
      ) FU ((iI 2), S)) := rfl
theorem u_X8_imageOf (S : St) (b0 : Nat) (p1 : Int32) : f_X8_imageOf S b0 p1 = (
    jn_ (fun (x1 : Option Nat) =>
      rt_ x1
    ) fun j1 =>
    jn_ (fun (x2 : Unit) =>
      j1 (none)
    ) fun j2 =>
    if p1 < iI 0 then
      j2 ()
    else
      gR_ S b0 8 5 fun a3 =>
      al_ S a3 14 fun v4 =>
      if p1 < v4 then
        gR_ S b0 8 5 fun a5 =>
        aR_ S a5 14 p1 fun a6 =>
        j1 (some a6)
      else
        j2 ()) := rfl
theorem u_X8_image (S : St) (b0 : Nat) (p1 : Int32) : f_X8_image S b0 p1 = (
    ck_ S b0 8 <| cP_ (f_X8_imageOf S b0 p1) fun a1 =>
    io_ a1 (
      rz_ (iI 0) S
    ) fun a2 =>
    gR_ S a2 0 0 fun a3 =>
    gR_ S b0 8 0 fun a4 =>
    ck_ S a3 4 <| cV_ (f_X4_copyFrom S a3 a4) fun S5 =>
    gR_ S5 a2 0 1 fun a6 =>
    gR_ S5 b0 8 2 fun a7 =>
    ck_ S5 a6 6 <| cV_ (f_X6_copyFrom S5 a6 a7) fun S8 =>
    pZ_ S8 a2 0 2 (iI 1) fun S9 =>
    rz_ (iI 1) S9) := rfl
theorem u_X8_again (S : St) (b0 : Nat) (p1 : Int32) : f_X8_again S b0 p1 = (
    ck_ S b0 8 <| cP_ (f_X8_imageOf S b0 p1) fun a1 =>
    jn_ (fun (x2 : Unit) =>
      rz_ (iI 0) S
    ) fun j2 =>
    io_ a1 (
      j2 ()
    ) fun a3 =>
    gI_ S a3 0 2 fun v4 =>
    if v4 = iI 0 then
      j2 ()
    else
      gR_ S b0 8 0 fun a5 =>
      gR_ S a3 0 0 fun a6 =>
      ck_ S a5 4 <| cV_ (f_X4_copyFrom S a5 a6) fun S7 =>
      gR_ S7 b0 8 2 fun a8 =>
      gR_ S7 a3 0 1 fun a9 =>
      ck_ S7 a8 6 <| cV_ (f_X6_copyFrom S7 a8 a9) fun S10 =>
      rz_ (iI 1) S10) := rfl
theorem u_X9_in (S : St) (p0 : Int32) (p1 : Int32) (p2 : Int32) : f_X9_in S p0 p1 p2 = (
    jn_ (fun (x1 : Int32) =>
      rzP_ x1
    ) fun j1 =>
    jn_ (fun (x2 : Unit) =>
      j1 ((iI 0))
    ) fun j2 =>
    if p0 < p1 then
      j2 ()
    else
      if p2 < p0 then
        j2 ()
      else
        j1 ((iI 1))) := rfl
theorem u_X9_greater (S : St) (p0 : Int32) (p1 : Int32) : f_X9_greater S p0 p1 = (
    jn_ (fun (x1 : Int32) =>
      rt_ x1
    ) fun j1 =>
    if p0 ≤ p1 then
      j1 (p1)
    else
      j1 (p0)) := rfl
theorem u_X9_tell (S : St) (b0 : Nat) (q1 : Int64) : f_X9_tell S b0 q1 = (
    pI_ S b0 9 0 (iI 0) fun S1 =>
    lp_ (fun self2 (x2 : Int32) =>
      jn_ (fun (x3 : Unit) =>
        gR_ S1 b0 9 1 fun a4 =>
        aI_ S1 a4 11 (iI 985) fun v5 =>
        lt_ (v5 + x2 : Int32) fun v6 =>
        if v6 ≤ (iI 400) then
          lp_ (fun self7 (x7 : Int32 × St) =>
            if x2 ≤ x7.1 then
              gR_ x7.2 b0 9 1 fun a8 =>
              aI_ x7.2 a8 11 (iI 985) fun v9 =>
              rt_ (v9, x7.2)
            else
              gR_ x7.2 b0 9 2 fun a10 =>
              gR_ x7.2 b0 9 1 fun a11 =>
              aI_ x7.2 a11 11 (iI 985) fun v12 =>
              lt_ ((iI 8) * x7.1 : Int32) fun v13 =>
              lt_ ((iI 56) - v13 : Int32) fun v14 =>
              lt_ (q1 >>> (Int32.toInt64 v14 &&& 63) : Int64) fun v15 =>
              lt_ (Int64.toInt32 v15) fun v16 =>
              lt_ ((Int32.toInt8 v16).toInt32) fun v17 =>
              sB_ x7.2 a10 v12 v17 fun S18 =>
              gR_ S18 b0 9 1 fun a19 =>
              aI_ S18 a19 11 (iI 985) fun v20 =>
              lt_ (v20 + (iI 1) : Int32) fun v21 =>
              sI_ S18 a19 (iI 985) v21 fun S22 =>
              lt_ (x7.1 + iI 1) fun v23 =>
              self7 (v23, S22)
          ) FU ((iI 0), S1)
        else
          rt_ ((iI (-1)), S1)
      ) fun j3 =>
      if (iI 8) ≤ x2 then
        j3 ()
      else
        lt_ ((iI 8) * x2 : Int32) fun v24 =>
        lt_ ((iI 56) - v24 : Int32) fun v25 =>
        lt_ (q1 >>> (Int32.toInt64 v25 &&& 63) : Int64) fun v26 =>
        lt_ (v26 &&& 255 : Int64) fun v27 =>
        lt_ (lg_cmp v27 0 : Int32) fun v28 =>
        if v28 = iI 0 then
          j3 ()
        else
          lt_ (x2 + iI 1) fun v29 =>
          self2 (v29)
    ) FU ((iI 0))) := rfl
theorem u_X9_see (S : St) (b0 : Nat) : f_X9_see S b0 = (
    gI_ S b0 9 4 fun v1 =>
    gI_ S b0 9 5 fun v2 =>
    jn_ (fun (x3 : Int32) =>
      rt_ x3
    ) fun j3 =>
    if v2 ≤ v1 then
      j3 ((iI (-1)))
    else
      gR_ S b0 9 2 fun a4 =>
      gI_ S b0 9 4 fun v5 =>
      aI_ S a4 10 v5 fun v6 =>
      lt_ (v6 &&& (iI 255) : Int32) fun v7 =>
      j3 (v7)) := rfl
theorem u_X9_token (S : St) (b0 : Nat) : f_X9_token S b0 = (
    lp_ (fun self1 (x1 : St) =>
      ck_ x1 b0 9 <| cP_ (f_X9_see x1 b0) fun v2 =>
      jn_ (fun (x3 : Unit) =>
        gI_ x1 b0 9 4 fun v4 =>
        lt_ (v4 + (iI 1) : Int32) fun v5 =>
        pI_ x1 b0 9 4 v5 fun S6 =>
        self1 (S6)
      ) fun j3 =>
      if v2 = (iI 10) then
        j3 ()
      else
        ck_ x1 b0 9 <| cP_ (f_X9_see x1 b0) fun v7 =>
        if v7 = (iI 32) then
          j3 ()
        else
          gI_ x1 b0 9 4 fun v8 =>
          pI_ x1 b0 9 6 v8 fun S9 =>
          ck_ S9 b0 9 <| cP_ (f_X9_see S9 b0) fun v10 =>
          pJ_ S9 b0 9 9 0 fun S11 =>
          jn_ (fun (x12 : St) =>
            rt_ x12
          ) fun j12 =>
          if iI 0 ≤ v10 then
            cP_ (f_X9_in S11 v10 (iI 97) (iI 122)) fun v13 =>
            if v13 = iI 0 then
              cP_ (f_X9_in S11 v10 (iI 48) (iI 57)) fun v14 =>
              if v14 = iI 0 then
                gI_ S11 b0 9 4 fun v15 =>
                lt_ (v15 + (iI 1) : Int32) fun v16 =>
                pI_ S11 b0 9 4 v16 fun S17 =>
                jn_ (fun (x18 : Int32) =>
                  pI_ S17 b0 9 7 x18 fun S19 =>
                  j12 (S19)
                ) fun j18 =>
                if v10 = (iI 59) then
                  j18 ((iI 4))
                else
                  j18 ((iI 1))
              else
                pI_ S11 b0 9 8 (iI 0) fun S20 =>
                lp_ (fun self21 (x21 : Int32 × St) =>
                  ck_ x21.2 b0 9 <| cP_ (f_X9_see x21.2 b0) fun v22 =>
                  cP_ (f_X9_in x21.2 v22 (iI 48) (iI 57)) fun v23 =>
                  if v23 = iI 0 then
                    jn_ (fun (x24 : Int32) =>
                      pI_ x21.2 b0 9 7 x24 fun S25 =>
                      j12 (S25)
                    ) fun j24 =>
                    if x21.1 ≤ (iI 6) then
                      j24 ((iI 3))
                    else
                      j24 ((iI 1))
                  else
                    jn_ (fun (x26 : Int32) =>
                      pI_ x21.2 b0 9 8 x26 fun S27 =>
                      gI_ S27 b0 9 4 fun v28 =>
                      lt_ (v28 + (iI 1) : Int32) fun v29 =>
                      pI_ S27 b0 9 4 v29 fun S30 =>
                      lt_ (x21.1 + iI 1) fun v31 =>
                      self21 (v31, S30)
                    ) fun j26 =>
                    if (iI 6) ≤ x21.1 then
                      gI_ x21.2 b0 9 8 fun v32 =>
                      j26 (v32)
                    else
                      gI_ x21.2 b0 9 8 fun v33 =>
                      lt_ ((iI 10) * v33 : Int32) fun v34 =>
                      ck_ x21.2 b0 9 <| cP_ (f_X9_see x21.2 b0) fun v35 =>
                      lt_ (v34 + v35 : Int32) fun v36 =>
                      lt_ (v36 - (iI 48) : Int32) fun v37 =>
                      j26 (v37)
                ) FU ((iI 0), S20)
            else
              lp_ (fun self38 (x38 : Int32 × St) =>
                ck_ x38.2 b0 9 <| cP_ (f_X9_see x38.2 b0) fun v39 =>
                cP_ (f_X9_in x38.2 v39 (iI 97) (iI 122)) fun v40 =>
                if v40 = iI 0 then
                  jn_ (fun (x41 : Int64) =>
                    pJ_ x38.2 b0 9 9 x41 fun S42 =>
                    pI_ S42 b0 9 7 (iI 2) fun S43 =>
                    j12 (S43)
                  ) fun j41 =>
                  if x38.1 ≤ (iI 8) then
                    gJ_ x38.2 b0 9 9 fun v44 =>
                    j41 (v44)
                  else
                    j41 (0)
                else
                  gJ_ x38.2 b0 9 9 fun v45 =>
                  lt_ (v45 <<< (Int32.toInt64 (iI 8) &&& 63) : Int64) fun v46 =>
                  ck_ x38.2 b0 9 <| cP_ (f_X9_see x38.2 b0) fun v47 =>
                  lt_ (Int32.toInt64 v47) fun v48 =>
                  lt_ (v46 ||| v48 : Int64) fun v49 =>
                  pJ_ x38.2 b0 9 9 v49 fun S50 =>
                  gI_ S50 b0 9 4 fun v51 =>
                  lt_ (v51 + (iI 1) : Int32) fun v52 =>
                  pI_ S50 b0 9 4 v52 fun S53 =>
                  lt_ (x38.1 + iI 1) fun v54 =>
                  self38 (v54, S53)
              ) FU ((iI 0), S11)
          else
            pI_ S11 b0 9 7 (iI 0) fun S55 =>
            j12 (S55)
    ) FU (S)) := rfl
theorem u_X9_fails (S : St) (b0 : Nat) : f_X9_fails S b0 = (
    gI_ S b0 9 6 fun v1 =>
    pI_ S b0 9 10 v1 fun S2 =>
    rz_ (iI 0) S2) := rfl
theorem u_X9_takes (S : St) (b0 : Nat) (p1 : Int32) (p2 : Int32) (p3 : Int32) : f_X9_takes S b0 p1 p2 p3 = (
    gI_ S b0 9 7 fun v1 =>
    if v1 = (iI 3) then
      gR_ S b0 9 12 fun a2 =>
      gI_ S b0 9 8 fun v3 =>
      sI_ S a2 p1 v3 fun S4 =>
      gI_ S4 b0 9 11 fun v5 =>
      jn_ (fun (x6 : Int32) =>
        pI_ S4 b0 9 11 x6 fun S7 =>
        ck_ S7 b0 9 <| cV_ (f_X9_token S7 b0) fun S8 =>
        rz_ (iI 1) S8
      ) fun j6 =>
      jn_ (fun (x9 : Unit) =>
        gI_ S4 b0 9 11 fun v10 =>
        j6 (v10)
      ) fun j9 =>
      if v5 = (iI (-1)) then
        gI_ S4 b0 9 8 fun v11 =>
        cP_ (f_X9_in S4 v11 p2 p3) fun v12 =>
        if v12 = iI 0 then
          gI_ S4 b0 9 6 fun v13 =>
          j6 (v13)
        else
          j9 ()
      else
        j9 ()
    else
      ck_ S b0 9 <| cI_ (f_X9_fails S b0) fun v15 S14 =>
      rz_ v15 S14) := rfl
theorem u_X9_atFirst (S : St) (b0 : Nat) : f_X9_atFirst S b0 = (
    pI_ S b0 9 13 (iI 3) fun S1 =>
    pI_ S1 b0 9 14 (iI 16) fun S2 =>
    pI_ S2 b0 9 15 (iI 1) fun S3 =>
    rt_ S3) := rfl
theorem u_X9_ringLine (S : St) (b0 : Nat) (q1 : Int64) : f_X9_ringLine S b0 q1 = (
    lt_ (lg_cmp q1 1870030194 : Int32) fun v1 =>
    jn_ (fun (x2 : Unit) =>
      lt_ (lg_cmp q1 1870030194 : Int32) fun v3 =>
      jn_ (fun (x4 : Int32) =>
        pI_ S b0 9 15 x4 fun S5 =>
        ck_ S5 b0 9 <| cV_ (f_X9_token S5 b0) fun S6 =>
        rz_ (iI 1) S6
      ) fun j4 =>
      if v3 = iI 0 then
        j4 ((iI 1))
      else
        j4 ((iI 0))
    ) fun j2 =>
    if v1 = iI 0 then
      j2 ()
    else
      lt_ (lg_cmp q1 125779836236645 : Int32) fun v7 =>
      if v7 = iI 0 then
        j2 ()
      else
        lt_ (lg_cmp q1 482670503283 : Int32) fun v8 =>
        jn_ (fun (x9 : Unit) =>
          ck_ S b0 9 <| cV_ (f_X9_token S b0) fun S10 =>
          lt_ (lg_cmp q1 482670503283 : Int32) fun v11 =>
          jn_ (fun (x12 : Int32 × St) =>
            lt_ (lg_cmp q1 482670503283 : Int32) fun v13 =>
            jn_ (fun (x14 : Int32) =>
              pI_ x12.2 b0 9 13 x14 fun S15 =>
              lt_ (lg_cmp q1 426903366771 : Int32) fun v16 =>
              jn_ (fun (x17 : Int32) =>
                pI_ S15 b0 9 14 x17 fun S18 =>
                rz_ x12.1 S18
              ) fun j17 =>
              if v16 = iI 0 then
                gR_ S15 b0 9 12 fun a20 =>
                aI_ S15 a20 11 (iI 0) fun v21 =>
                j17 (v21)
              else
                gI_ S15 b0 9 14 fun v19 =>
                j17 (v19)
            ) fun j14 =>
            if v13 = iI 0 then
              gR_ x12.2 b0 9 12 fun a23 =>
              aI_ x12.2 a23 11 (iI 0) fun v24 =>
              j14 (v24)
            else
              gI_ x12.2 b0 9 13 fun v22 =>
              j14 (v22)
          ) fun j12 =>
          if v11 = iI 0 then
            ck_ S10 b0 9 <| cI_ (f_X9_takes S10 b0 (iI 0) (iI 2) (iI 6)) fun v28 S27 =>
            j12 (v28, S27)
          else
            ck_ S10 b0 9 <| cI_ (f_X9_takes S10 b0 (iI 0) (iI 12) (iI 32)) fun v26 S25 =>
            j12 (v26, S25)
        ) fun j9 =>
        if v8 = iI 0 then
          j9 ()
        else
          lt_ (lg_cmp q1 426903366771 : Int32) fun v29 =>
          if v29 = iI 0 then
            j9 ()
          else
            ck_ S b0 9 <| cI_ (f_X9_fails S b0) fun v31 S30 =>
            rz_ v31 S30) := rfl
theorem u_X9_scriptLine (S : St) (b0 : Nat) (q1 : Int64) : f_X9_scriptLine S b0 q1 = (
    lt_ (lg_cmp q1 1937203568 : Int32) fun v1 =>
    jn_ (fun (x2 : Int32) =>
      lt_ (lg_cmp q1 1952541541 : Int32) fun v3 =>
      jn_ (fun (x4 : Int32) =>
        jn_ (fun (x5 : Unit) =>
          ck_ S b0 9 <| cV_ (f_X9_token S b0) fun S6 =>
          gR_ S6 b0 9 12 fun a7 =>
          sI_ S6 a7 (iI 0) (iI 0) fun S8 =>
          gR_ S8 b0 9 12 fun a9 =>
          sI_ S8 a9 (iI 1) (iI 0) fun S10 =>
          jn_ (fun (x11 : Int32 × St) =>
            jn_ (fun (x12 : Int32 × St) =>
              gR_ x12.2 b0 9 16 fun a13 =>
              gI_ x12.2 b0 9 18 fun v14 =>
              sJ_ x12.2 a13 v14 q1 fun S15 =>
              gR_ S15 b0 9 17 fun a16 =>
              gI_ S15 b0 9 18 fun v17 =>
              lt_ ((iI 2) * v17 : Int32) fun v18 =>
              gR_ S15 b0 9 12 fun a19 =>
              aI_ S15 a19 11 (iI 0) fun v20 =>
              sI_ S15 a16 v18 v20 fun S21 =>
              gR_ S21 b0 9 17 fun a22 =>
              gI_ S21 b0 9 18 fun v23 =>
              lt_ ((iI 2) * v23 : Int32) fun v24 =>
              lt_ (v24 + (iI 1) : Int32) fun v25 =>
              gR_ S21 b0 9 12 fun a26 =>
              aI_ S21 a26 11 (iI 1) fun v27 =>
              sI_ S21 a22 v25 v27 fun S28 =>
              gI_ S28 b0 9 18 fun v29 =>
              lt_ (v29 + (iI 1) : Int32) fun v30 =>
              pI_ S28 b0 9 18 v30 fun S31 =>
              rz_ x12.1 S31
            ) fun j12 =>
            jn_ (fun (x32 : St) =>
              j12 ((iI 0), x32)
            ) fun j32 =>
            if x11.1 = iI 0 then
              j32 (x11.2)
            else
              jn_ (fun (x33 : St) =>
                j12 ((iI 1), x33)
              ) fun j33 =>
              if x4 = iI 0 then
                j33 (x11.2)
              else
                lt_ (lg_cmp q1 1952541541 : Int32) fun v34 =>
                if v34 = iI 0 then
                  ck_ x11.2 b0 9 <| cI_ (f_X9_takes x11.2 b0 (iI 1) (iI 1) (iI 8)) fun v38 S37 =>
                  if v38 = iI 0 then
                    j32 (S37)
                  else
                    j33 (S37)
                else
                  ck_ x11.2 b0 9 <| cI_ (f_X9_takes x11.2 b0 (iI 1) (iI 0) (iI 255)) fun v36 S35 =>
                  if v36 = iI 0 then
                    j32 (S35)
                  else
                    j33 (S35)
          ) fun j11 =>
          jn_ (fun (x39 : St) =>
            j11 ((iI 1), x39)
          ) fun j39 =>
          if x2 = iI 0 then
            lt_ (lg_cmp q1 1953063787 : Int32) fun v40 =>
            jn_ (fun (x41 : St) =>
              j11 ((iI 0), x41)
            ) fun j41 =>
            if v40 = iI 0 then
              ck_ S10 b0 9 <| cI_ (f_X9_takes S10 b0 (iI 0) (iI 1) (iI 5000)) fun v54 S53 =>
              if v54 = iI 0 then
                j41 (S53)
              else
                j39 (S53)
            else
              lt_ (lg_cmp q1 1919246692 : Int32) fun v42 =>
              if v42 = iI 0 then
                ck_ S10 b0 9 <| cI_ (f_X9_takes S10 b0 (iI 0) (iI 1) (iI 99)) fun v52 S51 =>
                if v52 = iI 0 then
                  j41 (S51)
                else
                  j39 (S51)
              else
                lt_ (lg_cmp q1 1835103083 : Int32) fun v43 =>
                if v43 = iI 0 then
                  ck_ S10 b0 9 <| cI_ (f_X9_takes S10 b0 (iI 0) (iI 0) (iI 15)) fun v50 S49 =>
                  if v50 = iI 0 then
                    j41 (S49)
                  else
                    j39 (S49)
                else
                  lt_ (lg_cmp q1 125780053555813 : Int32) fun v44 =>
                  if v44 = iI 0 then
                    ck_ S10 b0 9 <| cI_ (f_X9_takes S10 b0 (iI 0) (iI 2) (iI 6)) fun v48 S47 =>
                    if v48 = iI 0 then
                      j41 (S47)
                    else
                      j39 (S47)
                  else
                    ck_ S10 b0 9 <| cI_ (f_X9_takes S10 b0 (iI 0) (iI 0) (iI 3)) fun v46 S45 =>
                    if v46 = iI 0 then
                      j41 (S45)
                    else
                      j39 (S45)
          else
            j39 (S10)
        ) fun j5 =>
        if x2 = iI 0 then
          if x4 = iI 0 then
            lt_ (lg_cmp q1 1953063787 : Int32) fun v55 =>
            if v55 = iI 0 then
              j5 ()
            else
              lt_ (lg_cmp q1 6647396 : Int32) fun v56 =>
              if v56 = iI 0 then
                j5 ()
              else
                lt_ (lg_cmp q1 1685221232 : Int32) fun v57 =>
                if v57 = iI 0 then
                  j5 ()
                else
                  lt_ (lg_cmp q1 1919246692 : Int32) fun v58 =>
                  if v58 = iI 0 then
                    j5 ()
                  else
                    lt_ (lg_cmp q1 1835103083 : Int32) fun v59 =>
                    if v59 = iI 0 then
                      j5 ()
                    else
                      lt_ (lg_cmp q1 125780053555813 : Int32) fun v60 =>
                      if v60 = iI 0 then
                        j5 ()
                      else
                        ck_ S b0 9 <| cI_ (f_X9_fails S b0) fun v62 S61 =>
                        rz_ v62 S61
          else
            j5 ()
        else
          j5 ()
      ) fun j4 =>
      jn_ (fun (x63 : Unit) =>
        j4 ((iI 1))
      ) fun j63 =>
      if v3 = iI 0 then
        j63 ()
      else
        lt_ (lg_cmp q1 7370100 : Int32) fun v64 =>
        if v64 = iI 0 then
          j63 ()
        else
          j4 ((iI 0))
    ) fun j2 =>
    jn_ (fun (x65 : Unit) =>
      j2 ((iI 1))
    ) fun j65 =>
    if v1 = iI 0 then
      j65 ()
    else
      lt_ (lg_cmp q1 439956431717 : Int32) fun v66 =>
      if v66 = iI 0 then
        j65 ()
      else
        j2 ((iI 0))) := rfl
theorem u_X9_readsAll (S : St) (b0 : Nat) (p1 : Int32) : f_X9_readsAll S b0 p1 = (
    gR_ S b0 9 1 fun a1 =>
    aI_ S a1 11 (iI 985) fun v2 =>
    pI_ S b0 9 5 v2 fun S3 =>
    gR_ S3 b0 9 1 fun a4 =>
    sI_ S3 a4 (iI 985) (iI 0) fun S5 =>
    pI_ S5 b0 9 11 (iI (-1)) fun S6 =>
    pI_ S6 b0 9 4 (iI 0) fun S7 =>
    pI_ S7 b0 9 18 (iI 0) fun S8 =>
    ck_ S8 b0 9 <| cV_ (f_X9_atFirst S8 b0) fun S9 =>
    ck_ S9 b0 9 <| cV_ (f_X9_token S9 b0) fun S10 =>
    lp_ (fun self11 (x11 : Int32 × St) =>
      jn_ (fun (x12 : Unit) =>
        gR_ x11.2 b0 9 1 fun a13 =>
        jn_ (fun (x14 : Int32) =>
          sI_ x11.2 a13 (iI 986) x14 fun S15 =>
          gR_ S15 b0 9 1 fun a16 =>
          jn_ (fun (x17 : Int32) =>
            sI_ S15 a16 (iI 987) x17 fun S18 =>
            rt_ S18
          ) fun j17 =>
          if x11.1 = iI 0 then
            gI_ S15 b0 9 10 fun v20 =>
            j17 (v20)
          else
            gI_ S15 b0 9 11 fun v19 =>
            j17 (v19)
        ) fun j14 =>
        if x11.1 = iI 0 then
          j14 ((iI 1))
        else
          gI_ x11.2 b0 9 11 fun v21 =>
          if v21 = (iI (-1)) then
            j14 ((iI 0))
          else
            j14 ((iI 2))
      ) fun j12 =>
      if x11.1 = iI 0 then
        j12 ()
      else
        gI_ x11.2 b0 9 7 fun v22 =>
        if v22 = iI 0 then
          j12 ()
        else
          gI_ x11.2 b0 9 7 fun v23 =>
          jn_ (fun (x24 : Int64) =>
            jn_ (fun (x25 : Int32 × St) =>
              jn_ (fun (x26 : Int32 × St) =>
                jn_ (fun (x27 : St) =>
                  self11 (x26.1, x27)
                ) fun j27 =>
                if x26.1 = iI 0 then
                  j27 (x26.2)
                else
                  ck_ x26.2 b0 9 <| cV_ (f_X9_token x26.2 b0) fun S28 =>
                  j27 (S28)
              ) fun j26 =>
              if x25.1 = iI 0 then
                j26 (x25.1, x25.2)
              else
                gI_ x25.2 b0 9 7 fun v29 =>
                if v29 = (iI 4) then
                  j26 (x25.1, x25.2)
                else
                  ck_ x25.2 b0 9 <| cI_ (f_X9_fails x25.2 b0) fun v31 S30 =>
                  j26 (v31, S30)
            ) fun j25 =>
            if p1 = iI 0 then
              ck_ x11.2 b0 9 <| cI_ (f_X9_scriptLine x11.2 b0 x24) fun v33 S32 =>
              j25 (v33, S32)
            else
              ck_ x11.2 b0 9 <| cI_ (f_X9_ringLine x11.2 b0 x24) fun v35 S34 =>
              j25 (v35, S34)
          ) fun j24 =>
          if v23 = (iI 2) then
            gJ_ x11.2 b0 9 9 fun v36 =>
            j24 (v36)
          else
            j24 (0)
    ) FU ((iI 1), S10)) := rfl
theorem u_X9_lay (S : St) (b0 : Nat) (p1 : Int32) (p2 : Int32) (p3 : Int32) : f_X9_lay S b0 p1 p2 p3 = (
    gR_ S b0 9 1 fun a1 =>
    lt_ ((iI 132) * p1 : Int32) fun v2 =>
    lt_ ((iI 61) + v2 : Int32) fun v3 =>
    lt_ (v3 + p2 : Int32) fun v4 =>
    sI_ S a1 v4 p3 fun S5 =>
    rt_ S5) := rfl
theorem u_X9_begins (S : St) (b0 : Nat) (p1 : Int32) (p2 : Int32) (p3 : Int32) : f_X9_begins S b0 p1 p2 p3 = (
    lp_ (fun self1 (x1 : Int32 × St) =>
      if (iI 985) ≤ x1.1 then
        gR_ x1.2 b0 9 1 fun a2 =>
        sI_ x1.2 a2 (iI 0) p1 fun S3 =>
        gR_ S3 b0 9 1 fun a4 =>
        sI_ S3 a4 (iI 1) p2 fun S5 =>
        gR_ S5 b0 9 1 fun a6 =>
        sI_ S5 a6 (iI 2) p3 fun S7 =>
        gR_ S7 b0 9 1 fun a8 =>
        sI_ S7 a8 (iI 9) (iI 15) fun S9 =>
        gR_ S9 b0 9 1 fun a10 =>
        sI_ S9 a10 (iI 19) (iI (-1)) fun S11 =>
        gR_ S11 b0 9 1 fun a12 =>
        sI_ S11 a12 (iI 7) (iI 6) fun S13 =>
        lp_ (fun self14 (x14 : Int32 × St) =>
          if (iI 6) ≤ x14.1 then
            lp_ (fun self15 (x15 : Int32 × St) =>
              if (iI 6) < x15.1 then
                rt_ x15.2
              else
                ck_ x15.2 b0 9 <| cV_ (f_X9_lay x15.2 b0 x15.1 (iI 0) (iI (-1))) fun S16 =>
                lt_ (x15.1 + iI 1) fun v17 =>
                self15 (v17, S16)
            ) FU ((iI 0), x14.2)
          else
            gR_ x14.2 b0 9 1 fun a18 =>
            lt_ ((iI 55) + x14.1 : Int32) fun v19 =>
            sI_ x14.2 a18 v19 x14.1 fun S20 =>
            lt_ (x14.1 + iI 1) fun v21 =>
            self14 (v21, S20)
        ) FU ((iI 0), S13)
      else
        gR_ x1.2 b0 9 1 fun a22 =>
        sI_ x1.2 a22 x1.1 (iI 0) fun S23 =>
        lt_ (x1.1 + iI 1) fun v24 =>
        self1 (v24, S23)
    ) FU ((iI 0), S)) := rfl
theorem u_X9_ring (S : St) (b0 : Nat) : f_X9_ring S b0 = (
    pI_ S b0 9 0 (iI 0) fun S1 =>
    ck_ S1 b0 9 <| cV_ (f_X9_readsAll S1 b0 (iI 1)) fun S2 =>
    gR_ S2 b0 9 1 fun a3 =>
    aI_ S2 a3 11 (iI 986) fun v4 =>
    if v4 = iI 0 then
      gI_ S2 b0 9 13 fun v5 =>
      gI_ S2 b0 9 14 fun v6 =>
      gI_ S2 b0 9 15 fun v7 =>
      ck_ S2 b0 9 <| cV_ (f_X9_begins S2 b0 v5 v6 v7) fun S8 =>
      gI_ S8 b0 9 13 fun v9 =>
      gI_ S8 b0 9 14 fun v10 =>
      lt_ (v9 * v10 : Int32) fun v11 =>
      rt_ (v11, S8)
    else
      rt_ ((iI (-1)), S2)) := rfl
theorem u_X9_fault (S : St) (b0 : Nat) (p1 : Int32) : f_X9_fault S b0 p1 = (
    pI_ S b0 9 0 (iI 0) fun S1 =>
    jn_ (fun (x2 : Int32) =>
      rt_ (x2, S1)
    ) fun j2 =>
    if p1 = iI 0 then
      gR_ S1 b0 9 1 fun a3 =>
      aI_ S1 a3 11 (iI 986) fun v4 =>
      j2 (v4)
    else
      gR_ S1 b0 9 1 fun a5 =>
      aI_ S1 a5 11 (iI 987) fun v6 =>
      j2 (v6)) := rfl
theorem u_X9_of (S : St) (b0 : Nat) (p1 : Int32) (p2 : Int32) : f_X9_of S b0 p1 p2 = (
    gR_ S b0 9 1 fun a1 =>
    lt_ ((iI 132) * p1 : Int32) fun v2 =>
    lt_ ((iI 61) + v2 : Int32) fun v3 =>
    lt_ (v3 + p2 : Int32) fun v4 =>
    aI_ S a1 11 v4 fun v5 =>
    rt_ v5) := rfl
theorem u_X9_item (S : St) (b0 : Nat) (p1 : Int32) (p2 : Int32) (p3 : Int32) : f_X9_item S b0 p1 p2 p3 = (
    lt_ ((iI 6) * p2 : Int32) fun v1 =>
    lt_ ((iI 36) + v1 : Int32) fun v2 =>
    lt_ (v2 + p3 : Int32) fun v3 =>
    ck_ S b0 9 <| cP_ (f_X9_of S b0 p1 v3) fun v4 =>
    rt_ v4) := rfl
theorem u_X9_empties (S : St) (b0 : Nat) (p1 : Int32) : f_X9_empties S b0 p1 = (
    lp_ (fun self1 (x1 : Int32 × St) =>
      if (iI 132) ≤ x1.1 then
        ck_ x1.2 b0 9 <| cV_ (f_X9_lay x1.2 b0 p1 (iI 0) (iI (-1))) fun S2 =>
        rt_ S2
      else
        ck_ x1.2 b0 9 <| cV_ (f_X9_lay x1.2 b0 p1 x1.1 (iI 0)) fun S3 =>
        lt_ (x1.1 + iI 1) fun v4 =>
        self1 (v4, S3)
    ) FU ((iI 0), S)) := rfl
theorem u_X9_behind (S : St) (b0 : Nat) (p1 : Int32) : f_X9_behind S b0 p1 = (
    lt_ (p1 + (iI 1) : Int32) fun v1 =>
    gR_ S b0 9 1 fun a2 =>
    aI_ S a2 11 (iI 0) fun v3 =>
    jn_ (fun (x4 : Int32) =>
      rt_ x4
    ) fun j4 =>
    if v1 = v3 then
      j4 ((iI 0))
    else
      lt_ (p1 + (iI 1) : Int32) fun v5 =>
      j4 (v5)) := rfl
theorem u_X9_pageAt (S : St) (b0 : Nat) (p1 : Int32) : f_X9_pageAt S b0 p1 = (
    gR_ S b0 9 1 fun a1 =>
    lt_ ((iI 55) + p1 : Int32) fun v2 =>
    aI_ S a1 11 v2 fun v3 =>
    rt_ v3) := rfl
theorem u_X9_live (S : St) (b0 : Nat) : f_X9_live S b0 = (
    gR_ S b0 9 1 fun a1 =>
    aI_ S a1 11 (iI 5) fun v2 =>
    gR_ S b0 9 1 fun a3 =>
    aI_ S a3 11 (iI 4) fun v4 =>
    lt_ (v2 - v4 : Int32) fun v5 =>
    jn_ (fun (x6 : Int32) =>
      lt_ (x6 + (iI 1) : Int32) fun v7 =>
      rt_ v7
    ) fun j6 =>
    if iI 0 ≤ v5 then
      j6 (v5)
    else
      gR_ S b0 9 1 fun a8 =>
      aI_ S a8 11 (iI 0) fun v9 =>
      lt_ (v5 + v9 : Int32) fun v10 =>
      j6 (v10)) := rfl
theorem u_X9_livePage (S : St) (b0 : Nat) (p1 : Int32) : f_X9_livePage S b0 p1 = (
    if p1 = (iI (-1)) then
      gR_ S b0 9 1 fun a12 =>
      aI_ S a12 11 (iI 7) fun v13 =>
      rt_ v13
    else
      ck_ S b0 9 <| cP_ (f_X9_live S b0) fun v1 =>
      lt_ (v1 - (iI 1) : Int32) fun v2 =>
      cP_ (f_X9_in S p1 (iI 0) v2) fun v3 =>
      jn_ (fun (x4 : Int32) =>
        rt_ x4
      ) fun j4 =>
      if v3 = iI 0 then
        j4 ((iI (-2)))
      else
        gR_ S b0 9 1 fun a5 =>
        aI_ S a5 11 (iI 4) fun v6 =>
        lt_ (v6 + p1 : Int32) fun v7 =>
        gR_ S b0 9 1 fun a8 =>
        aI_ S a8 11 (iI 0) fun v9 =>
        rm_ v7 v9 fun v10 =>
        ck_ S b0 9 <| cP_ (f_X9_pageAt S b0 v10) fun v11 =>
        j4 (v11)) := rfl
theorem u_X9_recordsIn (S : St) (b0 : Nat) (p1 : Int32) (p2 : Int32) : f_X9_recordsIn S b0 p1 p2 = (
    lp_ (fun self1 (x1 : Int32 × Int32) =>
      ck_ S b0 9 <| cP_ (f_X9_of S b0 p1 (iI 3)) fun v2 =>
      if v2 ≤ x1.2 then
        rt_ x1.1
      else
        ck_ S b0 9 <| cP_ (f_X9_item S b0 p1 x1.2 (iI 0)) fun v3 =>
        jn_ (fun (x4 : Int32) =>
          lt_ (x1.1 + x4 : Int32) fun v5 =>
          lt_ (x1.2 + iI 1) fun v6 =>
          self1 (v5, v6)
        ) fun j4 =>
        if v3 = p2 then
          j4 ((iI 1))
        else
          j4 ((iI 0))
    ) FU ((iI 0), (iI 0))) := rfl
theorem u_X9_endOf (S : St) (b0 : Nat) (p1 : Int32) (p2 : Int32) : f_X9_endOf S b0 p1 p2 = (
    ck_ S b0 9 <| cP_ (f_X9_item S b0 p1 p2 (iI 5)) fun v1 =>
    lt_ (v1 + (iI 1) : Int32) fun v2 =>
    ck_ S b0 9 <| cP_ (f_X9_item S b0 p1 p2 (iI 4)) fun v3 =>
    lt_ (v2 + v3 : Int32) fun v4 =>
    rt_ v4) := rfl
theorem u_X9_startOf (S : St) (b0 : Nat) (p1 : Int32) (p2 : Int32) : f_X9_startOf S b0 p1 p2 = (
    jn_ (fun (x1 : Int32) =>
      rt_ x1
    ) fun j1 =>
    if p2 = iI 0 then
      j1 ((iI 0))
    else
      lt_ (p2 - (iI 1) : Int32) fun v2 =>
      ck_ S b0 9 <| cP_ (f_X9_endOf S b0 p1 v2) fun v3 =>
      j1 (v3)) := rfl
theorem u_X9_openPage (S : St) (b0 : Nat) (p1 : Int32) : f_X9_openPage S b0 p1 = (
    gR_ S b0 9 1 fun a1 =>
    lt_ ((iI 3) * p1 : Int32) fun v2 =>
    lt_ ((iI 43) + v2 : Int32) fun v3 =>
    aI_ S a1 11 v3 fun v4 =>
    rt_ v4) := rfl
theorem u_X9_openItem (S : St) (b0 : Nat) (p1 : Int32) : f_X9_openItem S b0 p1 = (
    gR_ S b0 9 1 fun a1 =>
    lt_ ((iI 3) * p1 : Int32) fun v2 =>
    lt_ ((iI 43) + v2 : Int32) fun v3 =>
    lt_ (v3 + (iI 1) : Int32) fun v4 =>
    aI_ S a1 11 v4 fun v5 =>
    rt_ v5) := rfl
theorem u_X9_isOpenIn (S : St) (b0 : Nat) (p1 : Int32) : f_X9_isOpenIn S b0 p1 = (
    lp_ (fun self1 (x1 : Int32) =>
      gR_ S b0 9 1 fun a2 =>
      aI_ S a2 11 (iI 6) fun v3 =>
      if v3 ≤ x1 then
        rzP_ (iI 0)
      else
        ck_ S b0 9 <| cP_ (f_X9_openPage S b0 x1) fun v4 =>
        if v4 = p1 then
          rzP_ (iI 1)
        else
          lt_ (x1 + iI 1) fun v5 =>
          self1 (v5)
    ) FU ((iI 0))) := rfl
theorem u_X9_innermost (S : St) (b0 : Nat) : f_X9_innermost S b0 = (
    gR_ S b0 9 1 fun a1 =>
    aI_ S a1 11 (iI 6) fun v2 =>
    lt_ (v2 - (iI 1) : Int32) fun v3 =>
    jn_ (fun (x4 : Int32) =>
      rt_ x4
    ) fun j4 =>
    if iI 0 ≤ v3 then
      ck_ S b0 9 <| cP_ (f_X9_openPage S b0 v3) fun v5 =>
      ck_ S b0 9 <| cP_ (f_X9_openItem S b0 v3) fun v6 =>
      ck_ S b0 9 <| cP_ (f_X9_item S b0 v5 v6 (iI 2)) fun v7 =>
      j4 (v7)
    else
      j4 ((iI (-1)))) := rfl
theorem u_X9_deltaIn (S : St) (b0 : Nat) (p1 : Int32) : f_X9_deltaIn S b0 p1 = (
    ck_ S b0 9 <| cP_ (f_X9_of S b0 p1 (iI 3)) fun v1 =>
    jn_ (fun (x2 : Int32) =>
      rt_ x2
    ) fun j2 =>
    if v1 = iI 0 then
      j2 ((iI 0))
    else
      gR_ S b0 9 1 fun a3 =>
      aI_ S a3 11 (iI 3) fun v4 =>
      ck_ S b0 9 <| cP_ (f_X9_of S b0 p1 (iI 3)) fun v5 =>
      lt_ (v5 - (iI 1) : Int32) fun v6 =>
      ck_ S b0 9 <| cP_ (f_X9_item S b0 p1 v6 (iI 3)) fun v7 =>
      lt_ (v4 - v7 : Int32) fun v8 =>
      j2 (v8)) := rfl
theorem u_X9_fits (S : St) (b0 : Nat) (p1 : Int32) (p2 : Int32) : f_X9_fits S b0 p1 p2 = (
    ck_ S b0 9 <| cP_ (f_X9_of S b0 p1 (iI 1)) fun v1 =>
    ck_ S b0 9 <| cP_ (f_X9_deltaIn S b0 p1) fun v2 =>
    jn_ (fun (x3 : Int32) =>
      lt_ (v1 + x3 : Int32) fun v4 =>
      lt_ (v4 + (iI 1) : Int32) fun v5 =>
      lt_ (v5 + p2 : Int32) fun v6 =>
      gR_ S b0 9 1 fun a7 =>
      aI_ S a7 11 (iI 1) fun v8 =>
      jn_ (fun (x9 : Int32) =>
        rzP_ x9
      ) fun j9 =>
      if v8 < v6 then
        j9 ((iI 0))
      else
        j9 ((iI 1))
    ) fun j3 =>
    if v2 ≤ (iI 15) then
      j3 ((iI 0))
    else
      j3 ((iI 3))) := rfl
theorem u_X9_cellIs (S : St) (b0 : Nat) (p1 : Int32) (p2 : Int32) (p3 : Int32) : f_X9_cellIs S b0 p1 p2 p3 = (
    lt_ ((iI 4) + p2 : Int32) fun v1 =>
    ck_ S b0 9 <| cV_ (f_X9_lay S b0 p1 v1 p3) fun S2 =>
    rt_ S2) := rfl
theorem u_X9_lays (S : St) (b0 : Nat) (p1 : Int32) (p2 : Int32) (p3 : Int32) : f_X9_lays S b0 p1 p2 p3 = (
    ck_ S b0 9 <| cP_ (f_X9_deltaIn S b0 p1) fun v1 =>
    ck_ S b0 9 <| cP_ (f_X9_of S b0 p1 (iI 1)) fun v2 =>
    jn_ (fun (x3 : St) =>
      jn_ (fun (x4 : Int32 × St) =>
        lt_ ((iI 16) * p3 : Int32) fun v5 =>
        jn_ (fun (x6 : Int32) =>
          lt_ (v5 + x6 : Int32) fun v7 =>
          ck_ x4.2 b0 9 <| cV_ (f_X9_cellIs x4.2 b0 p1 x4.1 v7) fun S8 =>
          ck_ S8 b0 9 <| cP_ (f_X9_of S8 b0 p1 (iI 3)) fun v9 =>
          lt_ ((iI 6) * v9 : Int32) fun v10 =>
          lt_ ((iI 36) + v10 : Int32) fun v11 =>
          lt_ (v11 + (iI 0) : Int32) fun v12 =>
          ck_ S8 b0 9 <| cV_ (f_X9_lay S8 b0 p1 v12 (iI 0)) fun S13 =>
          lt_ (v11 + (iI 1) : Int32) fun v14 =>
          gR_ S13 b0 9 1 fun a15 =>
          aI_ S13 a15 11 (iI 10) fun v16 =>
          ck_ S13 b0 9 <| cV_ (f_X9_lay S13 b0 p1 v14 v16) fun S17 =>
          lt_ (v11 + (iI 2) : Int32) fun v18 =>
          ck_ S17 b0 9 <| cV_ (f_X9_lay S17 b0 p1 v18 p2) fun S19 =>
          lt_ (v11 + (iI 3) : Int32) fun v20 =>
          gR_ S19 b0 9 1 fun a21 =>
          aI_ S19 a21 11 (iI 3) fun v22 =>
          ck_ S19 b0 9 <| cV_ (f_X9_lay S19 b0 p1 v20 v22) fun S23 =>
          lt_ (v11 + (iI 4) : Int32) fun v24 =>
          ck_ S23 b0 9 <| cV_ (f_X9_lay S23 b0 p1 v24 p3) fun S25 =>
          lt_ (v11 + (iI 5) : Int32) fun v26 =>
          ck_ S25 b0 9 <| cV_ (f_X9_lay S25 b0 p1 v26 x4.1) fun S27 =>
          lt_ (v9 + (iI 1) : Int32) fun v28 =>
          ck_ S27 b0 9 <| cV_ (f_X9_lay S27 b0 p1 (iI 3) v28) fun S29 =>
          lt_ (x4.1 + (iI 1) : Int32) fun v30 =>
          lt_ (v30 + p3 : Int32) fun v31 =>
          ck_ S29 b0 9 <| cV_ (f_X9_lay S29 b0 p1 (iI 1) v31) fun S32 =>
          gR_ S32 b0 9 1 fun a33 =>
          gR_ S32 b0 9 1 fun a34 =>
          aI_ S32 a34 11 (iI 20) fun v35 =>
          cP_ (f_X9_greater S32 v35 v1) fun v36 =>
          sI_ S32 a33 (iI 20) v36 fun S37 =>
          gR_ S37 b0 9 1 fun a38 =>
          aI_ S37 a38 11 (iI 6) fun v39 =>
          lt_ ((iI 3) * v39 : Int32) fun v40 =>
          lt_ ((iI 43) + v40 : Int32) fun v41 =>
          gR_ S37 b0 9 1 fun a42 =>
          sI_ S37 a42 v41 p1 fun S43 =>
          gR_ S43 b0 9 1 fun a44 =>
          lt_ (v41 + (iI 1) : Int32) fun v45 =>
          sI_ S43 a44 v45 v9 fun S46 =>
          gR_ S46 b0 9 1 fun a47 =>
          lt_ (v41 + (iI 2) : Int32) fun v48 =>
          sI_ S46 a47 v48 (iI 0) fun S49 =>
          gR_ S49 b0 9 1 fun a50 =>
          aI_ S49 a50 11 (iI 6) fun v51 =>
          lt_ (v51 + (iI 1) : Int32) fun v52 =>
          sI_ S49 a50 (iI 6) v52 fun S53 =>
          gR_ S53 b0 9 1 fun a54 =>
          gR_ S53 b0 9 1 fun a55 =>
          aI_ S53 a55 11 (iI 21) fun v56 =>
          gR_ S53 b0 9 1 fun a57 =>
          aI_ S53 a57 11 (iI 6) fun v58 =>
          cP_ (f_X9_greater S53 v56 v58) fun v59 =>
          sI_ S53 a54 (iI 21) v59 fun S60 =>
          gR_ S60 b0 9 1 fun a61 =>
          lt_ ((iI 22) + p2 : Int32) fun v62 =>
          aI_ S60 a61 11 v62 fun v63 =>
          lt_ (v63 + (iI 1) : Int32) fun v64 =>
          sI_ S60 a61 v62 v64 fun S65 =>
          rt_ S65
        ) fun j6 =>
        if v1 ≤ (iI 15) then
          j6 (v1)
        else
          j6 ((iI 0))
      ) fun j4 =>
      if v1 ≤ (iI 15) then
        j4 (v2, x3)
      else
        rm_ v1 (iI 16) fun v66 =>
        lt_ ((iI 240) + v66 : Int32) fun v67 =>
        ck_ x3 b0 9 <| cV_ (f_X9_cellIs x3 b0 p1 v2 v67) fun S68 =>
        lt_ (v2 + (iI 1) : Int32) fun v69 =>
        dv_ v1 (iI 16) fun v70 =>
        rm_ v70 (iI 256) fun v71 =>
        ck_ S68 b0 9 <| cV_ (f_X9_cellIs S68 b0 p1 v69 v71) fun S72 =>
        lt_ (v2 + (iI 2) : Int32) fun v73 =>
        dv_ v1 (iI 4096) fun v74 =>
        ck_ S72 b0 9 <| cV_ (f_X9_cellIs S72 b0 p1 v73 v74) fun S75 =>
        lt_ (v2 + iI 3) fun v76 =>
        gR_ S75 b0 9 1 fun a77 =>
        aI_ S75 a77 11 (iI 16) fun v78 =>
        lt_ (v78 + (iI 1) : Int32) fun v79 =>
        sI_ S75 a77 (iI 16) v79 fun S80 =>
        j4 (v76, S80)
    ) fun j3 =>
    if v2 = iI 0 then
      gR_ S b0 9 1 fun a81 =>
      aI_ S a81 11 (iI 3) fun v82 =>
      ck_ S b0 9 <| cV_ (f_X9_lay S b0 p1 (iI 0) v82) fun S83 =>
      j3 (S83)
    else
      j3 (S)) := rfl
theorem u_X9_comes (S : St) (b0 : Nat) (p1 : Int32) (p2 : Int32) : f_X9_comes S b0 p1 p2 = (
    ck_ S b0 9 <| cP_ (f_X9_innermost S b0) fun v1 =>
    if v1 < p1 then
      gR_ S b0 9 1 fun a2 =>
      aI_ S a2 11 (iI 5) fun v3 =>
      ck_ S b0 9 <| cP_ (f_X9_pageAt S b0 v3) fun v4 =>
      ck_ S b0 9 <| cP_ (f_X9_fits S b0 v4 p2) fun v5 =>
      if v5 = iI 0 then
        gR_ S b0 9 1 fun a6 =>
        aI_ S a6 11 (iI 5) fun v7 =>
        ck_ S b0 9 <| cP_ (f_X9_behind S b0 v7) fun v8 =>
        gR_ S b0 9 1 fun a9 =>
        aI_ S a9 11 (iI 4) fun v10 =>
        if v8 = v10 then
          gR_ S b0 9 1 fun a11 =>
          aI_ S a11 11 (iI 2) fun v12 =>
          jn_ (fun (x13 : Int32) =>
            rt_ x13
          ) fun j13 =>
          jn_ (fun (x14 : Unit) =>
            j13 ((iI (-3)))
          ) fun j14 =>
          if v12 = iI 0 then
            j14 ()
          else
            ck_ S b0 9 <| cP_ (f_X9_pageAt S b0 v8) fun v15 =>
            ck_ S b0 9 <| cP_ (f_X9_isOpenIn S b0 v15) fun v16 =>
            if v16 = iI 0 then
              j13 ((iI 2))
            else
              j14 ()
        else
          rt_ (iI 1)
      else
        rt_ (iI 0)
    else
      rt_ (iI (-2))) := rfl
theorem u_X9_overwrites (S : St) (b0 : Nat) : f_X9_overwrites S b0 = (
    gR_ S b0 9 1 fun a1 =>
    aI_ S a1 11 (iI 4) fun v2 =>
    ck_ S b0 9 <| cP_ (f_X9_pageAt S b0 v2) fun v3 =>
    gR_ S b0 9 1 fun a4 =>
    aI_ S a4 11 (iI 12) fun v5 =>
    ck_ S b0 9 <| cP_ (f_X9_recordsIn S b0 v3 (iI 0)) fun v6 =>
    lt_ (v5 + v6 : Int32) fun v7 =>
    sI_ S a4 (iI 12) v7 fun S8 =>
    ck_ S8 b0 9 <| cV_ (f_X9_empties S8 b0 v3) fun S9 =>
    gR_ S9 b0 9 1 fun a10 =>
    gR_ S9 b0 9 1 fun a11 =>
    aI_ S9 a11 11 (iI 4) fun v12 =>
    ck_ S9 b0 9 <| cP_ (f_X9_behind S9 b0 v12) fun v13 =>
    sI_ S9 a10 (iI 4) v13 fun S14 =>
    rt_ S14) := rfl
theorem u_X9_taken (S : St) (b0 : Nat) (p1 : Int32) (p2 : Int32) : f_X9_taken S b0 p1 p2 = (
    ck_ S b0 9 <| cP_ (f_X9_comes S b0 p1 p2) fun v1 =>
    if v1 = (iI (-2)) then
      rt_ ((iI (-2)), S)
    else
      gR_ S b0 9 1 fun a2 =>
      aI_ S a2 11 (iI 10) fun v3 =>
      lt_ (v3 + (iI 1) : Int32) fun v4 =>
      sI_ S a2 (iI 10) v4 fun S5 =>
      if v1 = (iI (-3)) then
        gR_ S5 b0 9 1 fun a22 =>
        aI_ S5 a22 11 (iI 11) fun v23 =>
        lt_ (v23 + (iI 1) : Int32) fun v24 =>
        sI_ S5 a22 (iI 11) v24 fun S25 =>
        gR_ S25 b0 9 1 fun a26 =>
        lt_ ((iI 26) + p1 : Int32) fun v27 =>
        aI_ S25 a26 11 v27 fun v28 =>
        lt_ (v28 + (iI 1) : Int32) fun v29 =>
        sI_ S25 a26 v27 v29 fun S30 =>
        rt_ ((iI (-3)), S30)
      else
        jn_ (fun (x6 : St) =>
          gR_ x6 b0 9 1 fun a7 =>
          jn_ (fun (x8 : Int32) =>
            sI_ x6 a7 (iI 5) x8 fun S9 =>
            gR_ S9 b0 9 1 fun a10 =>
            aI_ S9 a10 11 (iI 5) fun v11 =>
            ck_ S9 b0 9 <| cP_ (f_X9_pageAt S9 b0 v11) fun v12 =>
            ck_ S9 b0 9 <| cV_ (f_X9_lays S9 b0 v12 p1 p2) fun S13 =>
            gR_ S13 b0 9 1 fun a14 =>
            aI_ S13 a14 11 (iI 10) fun v15 =>
            rt_ (v15, S13)
          ) fun j8 =>
          if v1 = iI 0 then
            gR_ x6 b0 9 1 fun a19 =>
            aI_ x6 a19 11 (iI 5) fun v20 =>
            j8 (v20)
          else
            gR_ x6 b0 9 1 fun a16 =>
            aI_ x6 a16 11 (iI 5) fun v17 =>
            ck_ x6 b0 9 <| cP_ (f_X9_behind x6 b0 v17) fun v18 =>
            j8 (v18)
        ) fun j6 =>
        if v1 = (iI 2) then
          ck_ S5 b0 9 <| cV_ (f_X9_overwrites S5 b0) fun S21 =>
          j6 (S21)
        else
          j6 (S5)) := rfl
theorem u_X9_puts (S : St) (b0 : Nat) (p1 : Int32) (p2 : Int32) : f_X9_puts S b0 p1 p2 = (
    gR_ S b0 9 1 fun a1 =>
    aI_ S a1 11 (iI 6) fun v2 =>
    lt_ (v2 - (iI 1) : Int32) fun v3 =>
    ck_ S b0 9 <| cP_ (f_X9_innermost S b0) fun v4 =>
    jn_ (fun (x5 : Unit) =>
      rt_ ((iI (-1)), S)
    ) fun j5 =>
    if v4 = p1 then
      if iI 0 ≤ v3 then
        ck_ S b0 9 <| cP_ (f_X9_openPage S b0 v3) fun v6 =>
        ck_ S b0 9 <| cP_ (f_X9_openItem S b0 v3) fun v7 =>
        ck_ S b0 9 <| cP_ (f_X9_item S b0 v6 v7 (iI 4)) fun v8 =>
        gR_ S b0 9 1 fun a9 =>
        lt_ ((iI 3) * v3 : Int32) fun v10 =>
        lt_ ((iI 43) + v10 : Int32) fun v11 =>
        lt_ (v11 + (iI 2) : Int32) fun v12 =>
        aI_ S a9 11 v12 fun v13 =>
        if v13 = v8 then
          rt_ ((iI (-1)), S)
        else
          ck_ S b0 9 <| cP_ (f_X9_openItem S b0 v3) fun v14 =>
          ck_ S b0 9 <| cP_ (f_X9_item S b0 v6 v14 (iI 5)) fun v15 =>
          lt_ (v15 + (iI 1) : Int32) fun v16 =>
          lt_ (v16 + v13 : Int32) fun v17 =>
          ck_ S b0 9 <| cV_ (f_X9_cellIs S b0 v6 v17 p2) fun S18 =>
          gR_ S18 b0 9 1 fun a19 =>
          lt_ ((iI 3) * v3 : Int32) fun v20 =>
          lt_ ((iI 43) + v20 : Int32) fun v21 =>
          lt_ (v21 + (iI 2) : Int32) fun v22 =>
          lt_ (v13 + (iI 1) : Int32) fun v23 =>
          sI_ S18 a19 v22 v23 fun S24 =>
          lt_ (v8 - v13 : Int32) fun v25 =>
          lt_ (v25 - (iI 1) : Int32) fun v26 =>
          rt_ (v26, S24)
      else
        j5 ()
    else
      j5 ()) := rfl
theorem u_X9_closes (S : St) (b0 : Nat) : f_X9_closes S b0 = (
    gR_ S b0 9 1 fun a1 =>
    aI_ S a1 11 (iI 6) fun v2 =>
    lt_ (v2 - (iI 1) : Int32) fun v3 =>
    sI_ S a1 (iI 6) v3 fun S4 =>
    lp_ (fun self5 (x5 : Int32 × St) =>
      gR_ x5.2 b0 9 1 fun a6 =>
      aI_ x5.2 a6 11 (iI 0) fun v7 =>
      jn_ (fun (x8 : Unit) =>
        rt_ x5.2
      ) fun j8 =>
      if v7 ≤ x5.1 then
        j8 ()
      else
        gR_ x5.2 b0 9 1 fun a9 =>
        aI_ x5.2 a9 11 (iI 6) fun v10 =>
        if v10 = iI 0 then
          ck_ x5.2 b0 9 <| cP_ (f_X9_pageAt x5.2 b0 x5.1) fun v11 =>
          ck_ x5.2 b0 9 <| cP_ (f_X9_pageAt x5.2 b0 x5.1) fun v12 =>
          ck_ x5.2 b0 9 <| cP_ (f_X9_of x5.2 b0 v12 (iI 1)) fun v13 =>
          ck_ x5.2 b0 9 <| cV_ (f_X9_lay x5.2 b0 v11 (iI 2) v13) fun S14 =>
          lt_ (x5.1 + iI 1) fun v15 =>
          self5 (v15, S14)
        else
          j8 ()
    ) FU ((iI 0), S4)) := rfl
theorem u_X9_ended (S : St) (b0 : Nat) (p1 : Int32) : f_X9_ended S b0 p1 = (
    gR_ S b0 9 1 fun a1 =>
    aI_ S a1 11 (iI 6) fun v2 =>
    lt_ (v2 - (iI 1) : Int32) fun v3 =>
    ck_ S b0 9 <| cP_ (f_X9_innermost S b0) fun v4 =>
    jn_ (fun (x5 : Unit) =>
      rt_ ((iI (-1)), S)
    ) fun j5 =>
    if v4 = p1 then
      if iI 0 ≤ v3 then
        gR_ S b0 9 1 fun a6 =>
        aI_ S a6 11 (iI 3) fun v7 =>
        ck_ S b0 9 <| cP_ (f_X9_openPage S b0 v3) fun v8 =>
        ck_ S b0 9 <| cP_ (f_X9_openItem S b0 v3) fun v9 =>
        ck_ S b0 9 <| cP_ (f_X9_item S b0 v8 v9 (iI 3)) fun v10 =>
        lt_ (v7 - v10 : Int32) fun v11 =>
        gR_ S b0 9 1 fun a12 =>
        aI_ S a12 11 (iI 19) fun v13 =>
        jn_ (fun (x14 : St) =>
          ck_ x14 b0 9 <| cV_ (f_X9_closes x14 b0) fun S15 =>
          gR_ S15 b0 9 1 fun a16 =>
          aI_ S15 a16 11 (iI 6) fun v17 =>
          rt_ (v17, S15)
        ) fun j14 =>
        jn_ (fun (x18 : Unit) =>
          gR_ S b0 9 1 fun a19 =>
          sI_ S a19 (iI 18) v11 fun S20 =>
          gR_ S20 b0 9 1 fun a21 =>
          ck_ S20 b0 9 <| cP_ (f_X9_openPage S20 b0 v3) fun v22 =>
          ck_ S20 b0 9 <| cP_ (f_X9_openItem S20 b0 v3) fun v23 =>
          ck_ S20 b0 9 <| cP_ (f_X9_item S20 b0 v22 v23 (iI 1)) fun v24 =>
          sI_ S20 a21 (iI 19) v24 fun S25 =>
          j14 (S25)
        ) fun j18 =>
        if v13 = (iI (-1)) then
          j18 ()
        else
          gR_ S b0 9 1 fun a26 =>
          aI_ S a26 11 (iI 18) fun v27 =>
          if v11 ≤ v27 then
            j14 (S)
          else
            j18 ()
      else
        j5 ()
    else
      j5 ()) := rfl
theorem u_X9_dropped (S : St) (b0 : Nat) (p1 : Int32) : f_X9_dropped S b0 p1 = (
    gR_ S b0 9 1 fun a1 =>
    aI_ S a1 11 (iI 6) fun v2 =>
    lt_ (v2 - (iI 1) : Int32) fun v3 =>
    ck_ S b0 9 <| cP_ (f_X9_innermost S b0) fun v4 =>
    jn_ (fun (x5 : Unit) =>
      rt_ ((iI (-1)), S)
    ) fun j5 =>
    if v4 = p1 then
      if iI 0 ≤ v3 then
        ck_ S b0 9 <| cP_ (f_X9_openPage S b0 v3) fun v6 =>
        ck_ S b0 9 <| cP_ (f_X9_openItem S b0 v3) fun v7 =>
        gR_ S b0 9 1 fun a8 =>
        aI_ S a8 11 (iI 5) fun v9 =>
        ck_ S b0 9 <| cP_ (f_X9_pageAt S b0 v9) fun v10 =>
        jn_ (fun (x11 : Int32) =>
          jn_ (fun (x12 : St) =>
            gR_ x12 b0 9 1 fun a13 =>
            aI_ x12 a13 11 (iI 13) fun v14 =>
            lt_ (v14 + (iI 1) : Int32) fun v15 =>
            sI_ x12 a13 (iI 13) v15 fun S16 =>
            ck_ S16 b0 9 <| cV_ (f_X9_closes S16 b0) fun S17 =>
            jn_ (fun (x18 : Int32) =>
              rt_ (x18, S17)
            ) fun j18 =>
            if x11 = iI 0 then
              j18 ((iI 1))
            else
              j18 ((iI 0))
          ) fun j12 =>
          if x11 = iI 0 then
            ck_ S b0 9 <| cP_ (f_X9_item S b0 v6 v7 (iI 5)) fun v19 =>
            ck_ S b0 9 <| cP_ (f_X9_item S b0 v6 v7 (iI 4)) fun v20 =>
            lt_ ((iI 4) + v19 : Int32) fun v21 =>
            ck_ S b0 9 <| cP_ (f_X9_of S b0 v6 v21) fun v22 =>
            rm_ v22 (iI 16) fun v23 =>
            lt_ ((iI 224) + v23 : Int32) fun v24 =>
            ck_ S b0 9 <| cV_ (f_X9_cellIs S b0 v6 v19 v24) fun S25 =>
            lp_ (fun self26 (x26 : Int32 × St) =>
              if v20 < x26.1 then
                lt_ ((iI 6) * v7 : Int32) fun v27 =>
                lt_ ((iI 36) + v27 : Int32) fun v28 =>
                lt_ (v28 + (iI 0) : Int32) fun v29 =>
                ck_ x26.2 b0 9 <| cV_ (f_X9_lay x26.2 b0 v6 v29 (iI 1)) fun S30 =>
                j12 (S30)
              else
                lt_ (v19 + x26.1 : Int32) fun v31 =>
                jn_ (fun (x32 : Int32) =>
                  ck_ x26.2 b0 9 <| cV_ (f_X9_cellIs x26.2 b0 v6 v31 x32) fun S33 =>
                  lt_ (x26.1 + iI 1) fun v34 =>
                  self26 (v34, S33)
                ) fun j32 =>
                if x26.1 = (iI 1) then
                  j32 (v20)
                else
                  j32 ((iI 0))
            ) FU ((iI 1), S25)
          else
            ck_ S b0 9 <| cP_ (f_X9_startOf S b0 v6 v7) fun v35 =>
            lp_ (fun self36 (x36 : Int32 × St) =>
              ck_ x36.2 b0 9 <| cP_ (f_X9_of x36.2 b0 v6 (iI 1)) fun v37 =>
              if v37 ≤ x36.1 then
                ck_ x36.2 b0 9 <| cV_ (f_X9_lay x36.2 b0 v6 (iI 1) v35) fun S38 =>
                ck_ S38 b0 9 <| cV_ (f_X9_lay S38 b0 v6 (iI 3) v7) fun S39 =>
                jn_ (fun (x40 : Int32) =>
                  ck_ S39 b0 9 <| cV_ (f_X9_lay S39 b0 v6 (iI 0) x40) fun S41 =>
                  j12 (S41)
                ) fun j40 =>
                if v7 = iI 0 then
                  j40 ((iI (-1)))
                else
                  ck_ S39 b0 9 <| cP_ (f_X9_of S39 b0 v6 (iI 0)) fun v42 =>
                  j40 (v42)
              else
                ck_ x36.2 b0 9 <| cV_ (f_X9_cellIs x36.2 b0 v6 x36.1 (iI 0)) fun S43 =>
                lt_ (x36.1 + iI 1) fun v44 =>
                self36 (v44, S43)
            ) FU (v35, S)
        ) fun j11 =>
        jn_ (fun (x45 : Unit) =>
          j11 ((iI 0))
        ) fun j45 =>
        if v6 = v10 then
          ck_ S b0 9 <| cP_ (f_X9_of S b0 v6 (iI 3)) fun v46 =>
          lt_ (v46 - (iI 1) : Int32) fun v47 =>
          if v7 = v47 then
            j11 ((iI 1))
          else
            j45 ()
        else
          j45 ()
      else
        j5 ()
    else
      j5 ()) := rfl
theorem u_X9_swapped (S : St) (b0 : Nat) (p1 : Int32) : f_X9_swapped S b0 p1 = (
    gR_ S b0 9 1 fun a1 =>
    aI_ S a1 11 (iI 4) fun v2 =>
    ck_ S b0 9 <| cP_ (f_X9_pageAt S b0 v2) fun v3 =>
    gR_ S b0 9 1 fun a4 =>
    aI_ S a4 11 (iI 4) fun v5 =>
    gR_ S b0 9 1 fun a6 =>
    aI_ S a6 11 (iI 5) fun v7 =>
    jn_ (fun (x8 : Int32) =>
      ck_ S b0 9 <| cP_ (f_X9_isOpenIn S b0 v3) fun v9 =>
      jn_ (fun (x10 : Unit) =>
        rt_ ((iI (-1)), S)
      ) fun j10 =>
      if v9 = iI 0 then
        jn_ (fun (x11 : Unit) =>
          gR_ S b0 9 1 fun a12 =>
          aI_ S a12 11 (iI 7) fun v13 =>
          gR_ S b0 9 1 fun a14 =>
          aI_ S a14 11 (iI 8) fun v15 =>
          lp_ (fun self16 (x16 : Int32 × St) =>
            ck_ x16.2 b0 9 <| cP_ (f_X9_of x16.2 b0 v13 (iI 3)) fun v17 =>
            if v17 ≤ x16.1 then
              ck_ x16.2 b0 9 <| cV_ (f_X9_empties x16.2 b0 v13) fun S18 =>
              gR_ S18 b0 9 1 fun a19 =>
              gR_ S18 b0 9 1 fun a20 =>
              aI_ S18 a20 11 (iI 4) fun v21 =>
              lt_ ((iI 55) + v21 : Int32) fun v22 =>
              sI_ S18 a19 v22 v13 fun S23 =>
              gR_ S23 b0 9 1 fun a24 =>
              sI_ S23 a24 (iI 7) v3 fun S25 =>
              gR_ S25 b0 9 1 fun a26 =>
              sI_ S25 a26 (iI 8) (iI 0) fun S27 =>
              gR_ S27 b0 9 1 fun a28 =>
              jn_ (fun (x29 : Int32) =>
                sI_ S27 a28 (iI 4) x29 fun S30 =>
                gR_ S30 b0 9 1 fun a31 =>
                aI_ S30 a31 11 (iI 17) fun v32 =>
                lt_ (v32 + (iI 1) : Int32) fun v33 =>
                sI_ S30 a31 (iI 17) v33 fun S34 =>
                ck_ S34 b0 9 <| cP_ (f_X9_recordsIn S34 b0 v3 (iI 0)) fun v35 =>
                rt_ (v35, S34)
              ) fun j29 =>
              if x8 = iI 0 then
                gR_ S27 b0 9 1 fun a36 =>
                aI_ S27 a36 11 (iI 4) fun v37 =>
                ck_ S27 b0 9 <| cP_ (f_X9_behind S27 b0 v37) fun v38 =>
                j29 (v38)
              else
                gR_ S27 b0 9 1 fun a39 =>
                aI_ S27 a39 11 (iI 4) fun v40 =>
                j29 (v40)
            else
              gR_ x16.2 b0 9 1 fun a41 =>
              aI_ x16.2 a41 11 (iI 14) fun v42 =>
              ck_ x16.2 b0 9 <| cP_ (f_X9_item x16.2 b0 v13 x16.1 (iI 0)) fun v43 =>
              jn_ (fun (x44 : Int32) =>
                lt_ (v42 + x44 : Int32) fun v45 =>
                sI_ x16.2 a41 (iI 14) v45 fun S46 =>
                lt_ (x16.1 + iI 1) fun v47 =>
                self16 (v47, S46)
              ) fun j44 =>
              if v43 = iI 0 then
                j44 ((iI 1))
              else
                j44 ((iI 0))
          ) FU (v15, S)
        ) fun j11 =>
        if x8 = iI 0 then
          j11 ()
        else
          if p1 = iI 0 then
            j10 ()
          else
            ck_ S b0 9 <| cP_ (f_X9_of S b0 v3 (iI 1)) fun v48 =>
            if v48 = iI 0 then
              j10 ()
            else
              gR_ S b0 9 1 fun a49 =>
              aI_ S a49 11 (iI 6) fun v50 =>
              if v50 ≤ iI 0 then
                j11 ()
              else
                j10 ()
      else
        j10 ()
    ) fun j8 =>
    if v5 = v7 then
      j8 ((iI 1))
    else
      j8 ((iI 0))) := rfl
theorem u_X9_readOne (S : St) (b0 : Nat) : f_X9_readOne S b0 = (
    gR_ S b0 9 1 fun a1 =>
    aI_ S a1 11 (iI 7) fun v2 =>
    gR_ S b0 9 1 fun a3 =>
    aI_ S a3 11 (iI 8) fun v4 =>
    lp_ (fun self5 (x5 : Int32 × Int32) =>
      ck_ S b0 9 <| cP_ (f_X9_of S b0 v2 (iI 3)) fun v6 =>
      if v6 ≤ x5.2 then
        gR_ S b0 9 1 fun a7 =>
        aI_ S a7 11 (iI 14) fun v8 =>
        lt_ (v8 + x5.1 : Int32) fun v9 =>
        sI_ S a7 (iI 14) v9 fun S10 =>
        gR_ S10 b0 9 1 fun a11 =>
        ck_ S10 b0 9 <| cP_ (f_X9_of S10 b0 v2 (iI 3)) fun v12 =>
        sI_ S10 a11 (iI 8) v12 fun S13 =>
        rt_ ((iI (-1)), S13)
      else
        ck_ S b0 9 <| cP_ (f_X9_item S b0 v2 x5.2 (iI 0)) fun v14 =>
        jn_ (fun (x15 : Int32) =>
          lt_ (x5.2 + iI 1) fun v16 =>
          self5 (x15, v16)
        ) fun j15 =>
        if v14 = (iI 1) then
          j15 (x5.1)
        else
          gR_ S b0 9 1 fun a17 =>
          aI_ S a17 11 (iI 9) fun v18 =>
          ck_ S b0 9 <| cP_ (f_X9_item S b0 v2 x5.2 (iI 2)) fun v19 =>
          lt_ (v18 >>> (v19 &&& 31) : Int32) fun v20 =>
          lt_ (v20 &&& (iI 1) : Int32) fun v21 =>
          if v21 = iI 0 then
            lt_ (x5.1 + iI 1) fun v63 =>
            j15 (v63)
          else
            ck_ S b0 9 <| cP_ (f_X9_item S b0 v2 x5.2 (iI 1)) fun v22 =>
            gR_ S b0 9 1 fun a23 =>
            gR_ S b0 9 1 fun a24 =>
            aI_ S a24 11 (iI 30) fun v25 =>
            lt_ (v22 - v25 : Int32) fun v26 =>
            lt_ (v26 - (iI 1) : Int32) fun v27 =>
            sI_ S a23 (iI 34) v27 fun S28 =>
            gR_ S28 b0 9 1 fun a29 =>
            sI_ S28 a29 (iI 30) v22 fun S30 =>
            gR_ S30 b0 9 1 fun a31 =>
            ck_ S30 b0 9 <| cP_ (f_X9_item S30 b0 v2 x5.2 (iI 2)) fun v32 =>
            sI_ S30 a31 (iI 31) v32 fun S33 =>
            gR_ S33 b0 9 1 fun a34 =>
            ck_ S33 b0 9 <| cP_ (f_X9_item S33 b0 v2 x5.2 (iI 3)) fun v35 =>
            sI_ S33 a34 (iI 32) v35 fun S36 =>
            gR_ S36 b0 9 1 fun a37 =>
            ck_ S36 b0 9 <| cP_ (f_X9_item S36 b0 v2 x5.2 (iI 4)) fun v38 =>
            sI_ S36 a37 (iI 33) v38 fun S39 =>
            lp_ (fun self40 (x40 : Int32 × St) =>
              if (iI 8) ≤ x40.1 then
                gR_ x40.2 b0 9 1 fun a41 =>
                aI_ x40.2 a41 11 (iI 14) fun v42 =>
                lt_ (v42 + x5.1 : Int32) fun v43 =>
                sI_ x40.2 a41 (iI 14) v43 fun S44 =>
                gR_ S44 b0 9 1 fun a45 =>
                lt_ (x5.2 + (iI 1) : Int32) fun v46 =>
                sI_ S44 a45 (iI 8) v46 fun S47 =>
                gR_ S47 b0 9 1 fun a48 =>
                aI_ S47 a48 11 (iI 15) fun v49 =>
                lt_ (v49 + (iI 1) : Int32) fun v50 =>
                sI_ S47 a48 (iI 15) v50 fun S51 =>
                rt_ (v22, S51)
              else
                gR_ x40.2 b0 9 1 fun a52 =>
                lt_ ((iI 35) + x40.1 : Int32) fun v53 =>
                ck_ x40.2 b0 9 <| cP_ (f_X9_item x40.2 b0 v2 x5.2 (iI 4)) fun v54 =>
                jn_ (fun (x55 : Int32) =>
                  sI_ x40.2 a52 v53 x55 fun S56 =>
                  lt_ (x40.1 + iI 1) fun v57 =>
                  self40 (v57, S56)
                ) fun j55 =>
                if v54 ≤ x40.1 then
                  j55 ((iI 0))
                else
                  ck_ x40.2 b0 9 <| cP_ (f_X9_item x40.2 b0 v2 x5.2 (iI 5)) fun v58 =>
                  lt_ ((iI 4) + v58 : Int32) fun v59 =>
                  lt_ (v59 + (iI 1) : Int32) fun v60 =>
                  lt_ (v60 + x40.1 : Int32) fun v61 =>
                  ck_ x40.2 b0 9 <| cP_ (f_X9_of x40.2 b0 v2 v61) fun v62 =>
                  j55 (v62)
            ) FU ((iI 0), S39)
    ) FU ((iI 0), v4)) := rfl
theorem u_X9_resized (S : St) (b0 : Nat) (p1 : Int32) : f_X9_resized S b0 p1 = (
    cP_ (f_X9_in S p1 (iI 2) (iI 6)) fun v1 =>
    jn_ (fun (x2 : Unit) =>
      rt_ ((iI (-1)), S)
    ) fun j2 =>
    if v1 = iI 0 then
      j2 ()
    else
      gR_ S b0 9 1 fun a3 =>
      aI_ S a3 11 (iI 0) fun v4 =>
      if p1 = v4 then
        j2 ()
      else
        gR_ S b0 9 1 fun a5 =>
        aI_ S a5 11 (iI 6) fun v6 =>
        if v6 ≤ iI 0 then
          gR_ S b0 9 1 fun a7 =>
          aI_ S a7 11 (iI 12) fun v8 =>
          lp_ (fun self9 (x9 : St) =>
            ck_ x9 b0 9 <| cP_ (f_X9_live x9 b0) fun v10 =>
            if v10 ≤ p1 then
              ck_ x9 b0 9 <| cP_ (f_X9_live x9 b0) fun v11 =>
              gR_ x9 b0 9 1 fun a12 =>
              aI_ x9 a12 11 (iI 7) fun v13 =>
              lt_ ((iI 1) <<< (v13 &&& 31) : Int32) fun v14 =>
              lp_ (fun self15 (x15 : Int32 × Int32 × St) =>
                if v11 ≤ x15.1 then
                  lp_ (fun self16 (x16 : Int32 × Int32 × St) =>
                    if (iI 6) < x16.2.1 then
                      lp_ (fun self17 (x17 : Int32 × St) =>
                        if (iI 6) ≤ x17.1 then
                          gR_ x17.2 b0 9 1 fun a18 =>
                          sI_ x17.2 a18 (iI 0) p1 fun S19 =>
                          gR_ S19 b0 9 1 fun a20 =>
                          sI_ S19 a20 (iI 4) (iI 0) fun S21 =>
                          gR_ S21 b0 9 1 fun a22 =>
                          lt_ (v11 - (iI 1) : Int32) fun v23 =>
                          sI_ S21 a22 (iI 5) v23 fun S24 =>
                          gR_ S24 b0 9 1 fun a25 =>
                          aI_ S24 a25 11 (iI 12) fun v26 =>
                          lt_ (v26 - v8 : Int32) fun v27 =>
                          rt_ (v27, S24)
                        else
                          gR_ x17.2 b0 9 1 fun a28 =>
                          lt_ ((iI 55) + x17.1 : Int32) fun v29 =>
                          gR_ x17.2 b0 9 19 fun a30 =>
                          aI_ x17.2 a30 11 x17.1 fun v31 =>
                          sI_ x17.2 a28 v29 v31 fun S32 =>
                          lt_ (x17.1 + iI 1) fun v33 =>
                          self17 (v33, S32)
                      ) FU ((iI 0), x16.2.2)
                    else
                      lt_ (x15.2.1 >>> (x16.2.1 &&& 31) : Int32) fun v34 =>
                      lt_ (v34 &&& (iI 1) : Int32) fun v35 =>
                      jn_ (fun (x36 : Int32 × St) =>
                        lt_ (x16.2.1 + iI 1) fun v37 =>
                        self16 (x36.1, v37, x36.2)
                      ) fun j36 =>
                      if v35 = iI 0 then
                        gR_ x16.2.2 b0 9 19 fun a38 =>
                        sI_ x16.2.2 a38 x16.1 x16.2.1 fun S39 =>
                        lt_ (x16.1 + iI 1) fun v40 =>
                        j36 (v40, S39)
                      else
                        j36 (x16.1, x16.2.2)
                  ) FU (x15.1, (iI 0), x15.2.2)
                else
                  gR_ x15.2.2 b0 9 19 fun a41 =>
                  ck_ x15.2.2 b0 9 <| cP_ (f_X9_livePage x15.2.2 b0 x15.1) fun v42 =>
                  sI_ x15.2.2 a41 x15.1 v42 fun S43 =>
                  gR_ S43 b0 9 19 fun a44 =>
                  aI_ S43 a44 11 x15.1 fun v45 =>
                  lt_ ((iI 1) <<< (v45 &&& 31) : Int32) fun v46 =>
                  lt_ (x15.2.1 ||| v46 : Int32) fun v47 =>
                  lt_ (x15.1 + iI 1) fun v48 =>
                  self15 (v48, v47, S43)
              ) FU ((iI 0), v14, x9)
            else
              ck_ x9 b0 9 <| cV_ (f_X9_overwrites x9 b0) fun S49 =>
              self9 (S49)
          ) FU (S)
        else
          j2 ()) := rfl
theorem u_X9_ticked (S : St) (b0 : Nat) (p1 : Int32) : f_X9_ticked S b0 p1 = (
    cP_ (f_X9_in S p1 (iI 1) (iI 5000)) fun v1 =>
    jn_ (fun (x2 : Unit) =>
      rt_ ((iI (-1)), S)
    ) fun j2 =>
    if v1 = iI 0 then
      j2 ()
    else
      gR_ S b0 9 1 fun a3 =>
      aI_ S a3 11 (iI 3) fun v4 =>
      lt_ (v4 + p1 : Int32) fun v5 =>
      if v5 ≤ (iI 999999) then
        gR_ S b0 9 1 fun a6 =>
        aI_ S a6 11 (iI 3) fun v7 =>
        lt_ (v7 + p1 : Int32) fun v8 =>
        sI_ S a6 (iI 3) v8 fun S9 =>
        gR_ S9 b0 9 1 fun a10 =>
        aI_ S9 a10 11 (iI 3) fun v11 =>
        rt_ (v11, S9)
      else
        j2 ()) := rfl
theorem u_X9_masked (S : St) (b0 : Nat) (p1 : Int32) : f_X9_masked S b0 p1 = (
    cP_ (f_X9_in S p1 (iI 0) (iI 15)) fun v1 =>
    jn_ (fun (x2 : Unit) =>
      rz_ (iI 0) S
    ) fun j2 =>
    if v1 = iI 0 then
      j2 ()
    else
      gR_ S b0 9 1 fun a3 =>
      aI_ S a3 11 (iI 9) fun v4 =>
      if v4 = p1 then
        j2 ()
      else
        gR_ S b0 9 1 fun a5 =>
        sI_ S a5 (iI 9) p1 fun S6 =>
        rz_ (iI 1) S6) := rfl
theorem u_X9_readMany (S : St) (b0 : Nat) (p1 : Int32) : f_X9_readMany S b0 p1 = (
    lp_ (fun self1 (x1 : Int32 × St) =>
      jn_ (fun (x2 : St) =>
        jn_ (fun (x3 : Int32) =>
          rz_ x3 x2
        ) fun j3 =>
        if x1.1 ≤ iI 0 then
          j3 ((iI 0))
        else
          j3 ((iI 1))
      ) fun j2 =>
      if p1 ≤ x1.1 then
        j2 (x1.2)
      else
        ck_ x1.2 b0 9 <| cI_ (f_X9_readOne x1.2 b0) fun v5 S4 =>
        if v5 = (iI (-1)) then
          j2 (S4)
        else
          lt_ (x1.1 + iI 1) fun v6 =>
          self1 (v6, S4)
    ) FU ((iI 0), S)) := rfl
theorem u_X9_isDone (S : St) (b0 : Nat) (q1 : Int64) (p3 : Int32) (p4 : Int32) : f_X9_isDone S b0 q1 p3 p4 = (
    lt_ (lg_cmp q1 1953063787 : Int32) fun v1 =>
    if v1 = iI 0 then
      ck_ S b0 9 <| cI_ (f_X9_ticked S b0 p3) fun v38 S37 =>
      jn_ (fun (x39 : Int32) =>
        rz_ x39 S37
      ) fun j39 =>
      if v38 = (iI (-1)) then
        j39 ((iI 0))
      else
        j39 ((iI 1))
    else
      lt_ (lg_cmp q1 1952541541 : Int32) fun v2 =>
      if v2 = iI 0 then
        ck_ S b0 9 <| cI_ (f_X9_taken S b0 p3 p4) fun v35 S34 =>
        jn_ (fun (x36 : Int32) =>
          rz_ x36 S34
        ) fun j36 =>
        if v35 = (iI (-2)) then
          j36 ((iI 0))
        else
          j36 ((iI 1))
      else
        lt_ (lg_cmp q1 7370100 : Int32) fun v3 =>
        if v3 = iI 0 then
          ck_ S b0 9 <| cI_ (f_X9_puts S b0 p3 p4) fun v32 S31 =>
          jn_ (fun (x33 : Int32) =>
            rz_ x33 S31
          ) fun j33 =>
          if v32 = (iI (-1)) then
            j33 ((iI 0))
          else
            j33 ((iI 1))
        else
          lt_ (lg_cmp q1 6647396 : Int32) fun v4 =>
          jn_ (fun (x5 : Unit) =>
            lt_ (lg_cmp q1 6647396 : Int32) fun v6 =>
            jn_ (fun (x7 : Int32 × St) =>
              jn_ (fun (x8 : Int32) =>
                rz_ x8 x7.2
              ) fun j8 =>
              if x7.1 = (iI (-1)) then
                j8 ((iI 0))
              else
                j8 ((iI 1))
            ) fun j7 =>
            if v6 = iI 0 then
              ck_ S b0 9 <| cI_ (f_X9_ended S b0 p3) fun v12 S11 =>
              j7 (v12, S11)
            else
              ck_ S b0 9 <| cI_ (f_X9_dropped S b0 p3) fun v10 S9 =>
              j7 (v10, S9)
          ) fun j5 =>
          if v4 = iI 0 then
            j5 ()
          else
            lt_ (lg_cmp q1 1685221232 : Int32) fun v13 =>
            if v13 = iI 0 then
              j5 ()
            else
              lt_ (lg_cmp q1 1937203568 : Int32) fun v14 =>
              jn_ (fun (x15 : Unit) =>
                lt_ (lg_cmp q1 439956431717 : Int32) fun v16 =>
                jn_ (fun (x17 : Int32) =>
                  ck_ S b0 9 <| cI_ (f_X9_swapped S b0 x17) fun v19 S18 =>
                  jn_ (fun (x20 : Int32) =>
                    rz_ x20 S18
                  ) fun j20 =>
                  if v19 = (iI (-1)) then
                    j20 ((iI 0))
                  else
                    j20 ((iI 1))
                ) fun j17 =>
                if v16 = iI 0 then
                  j17 ((iI 1))
                else
                  j17 ((iI 0))
              ) fun j15 =>
              if v14 = iI 0 then
                j15 ()
              else
                lt_ (lg_cmp q1 439956431717 : Int32) fun v21 =>
                if v21 = iI 0 then
                  j15 ()
                else
                  lt_ (lg_cmp q1 1919246692 : Int32) fun v22 =>
                  jn_ (fun (x23 : Int32 × St) =>
                    rz_ x23.1 x23.2
                  ) fun j23 =>
                  if v22 = iI 0 then
                    ck_ S b0 9 <| cI_ (f_X9_readMany S b0 p3) fun v30 S29 =>
                    j23 (v30, S29)
                  else
                    lt_ (lg_cmp q1 1835103083 : Int32) fun v24 =>
                    if v24 = iI 0 then
                      ck_ S b0 9 <| cI_ (f_X9_masked S b0 p3) fun v28 S27 =>
                      j23 (v28, S27)
                    else
                      ck_ S b0 9 <| cI_ (f_X9_resized S b0 p3) fun v26 S25 =>
                      if v26 = (iI (-1)) then
                        j23 ((iI 0), S25)
                      else
                        j23 ((iI 1), S25)) := rfl
theorem u_X9_script (S : St) (b0 : Nat) : f_X9_script S b0 = (
    pI_ S b0 9 0 (iI 0) fun S1 =>
    ck_ S1 b0 9 <| cV_ (f_X9_readsAll S1 b0 (iI 0)) fun S2 =>
    gR_ S2 b0 9 1 fun a3 =>
    aI_ S2 a3 11 (iI 986) fun v4 =>
    if v4 = iI 0 then
      lp_ (fun self5 (x5 : Int32 × St) =>
        gI_ x5.2 b0 9 18 fun v6 =>
        jn_ (fun (x7 : St) =>
          rt_ (x5.1, x7)
        ) fun j7 =>
        if v6 ≤ x5.1 then
          j7 (x5.2)
        else
          gR_ x5.2 b0 9 16 fun a8 =>
          aJ_ x5.2 a8 x5.1 fun v9 =>
          gR_ x5.2 b0 9 17 fun a10 =>
          lt_ ((iI 2) * x5.1 : Int32) fun v11 =>
          aI_ x5.2 a10 11 v11 fun v12 =>
          gR_ x5.2 b0 9 17 fun a13 =>
          lt_ ((iI 2) * x5.1 : Int32) fun v14 =>
          lt_ (v14 + (iI 1) : Int32) fun v15 =>
          aI_ x5.2 a13 11 v15 fun v16 =>
          ck_ x5.2 b0 9 <| cI_ (f_X9_isDone x5.2 b0 v9 v12 v16) fun v18 S17 =>
          if v18 = iI 0 then
            j7 (S17)
          else
            lt_ (x5.1 + iI 1) fun v19 =>
            self5 (v19, S17)
      ) FU ((iI 0), S2)
    else
      rt_ ((iI (-1)), S2)) := rfl
theorem u_X9_drawn (S : St) (b0 : Nat) (p1 : Int32) : f_X9_drawn S b0 p1 = (
    gI_ S b0 9 20 fun v1 =>
    lt_ (v1 * (iI 1103515245) : Int32) fun v2 =>
    lt_ (v2 + (iI 12345) : Int32) fun v3 =>
    pI_ S b0 9 20 v3 fun S4 =>
    gI_ S4 b0 9 20 fun v5 =>
    lt_ ((v5.toUInt32 >>> (Int32.toUInt32 (iI 16) &&& Int32.toUInt32 31)).toInt32 : Int32) fun v6 =>
    rm_ v6 p1 fun v7 =>
    rt_ (v7, S4)) := rfl
theorem u_X9_blows (S : St) (b0 : Nat) : f_X9_blows S b0 = (
    ck_ S b0 9 <| cI_ (f_X9_drawn S b0 (iI 10)) fun v2 S1 =>
    ck_ S1 b0 9 <| cP_ (f_X9_innermost S1 b0) fun v3 =>
    jn_ (fun (x4 : St) =>
      rt_ x4
    ) fun j4 =>
    if v2 = iI 0 then
      ck_ S1 b0 9 <| cI_ (f_X9_drawn S1 b0 (iI 40)) fun v30 S29 =>
      lt_ ((iI 1) + v30 : Int32) fun v31 =>
      ck_ S29 b0 9 <| cI_ (f_X9_ticked S29 b0 v31) fun v33 S32 =>
      j4 (S32)
    else
      if (iI 5) ≤ v2 then
        if v2 = (iI 5) then
          ck_ S1 b0 9 <| cI_ (f_X9_drawn S1 b0 (iI 256)) fun v17 S16 =>
          ck_ S16 b0 9 <| cI_ (f_X9_puts S16 b0 v3 v17) fun v19 S18 =>
          j4 (S18)
        else
          if (iI 8) ≤ v2 then
            if v2 = (iI 8) then
              ck_ S1 b0 9 <| cI_ (f_X9_dropped S1 b0 v3) fun v13 S12 =>
              j4 (S12)
            else
              ck_ S1 b0 9 <| cI_ (f_X9_drawn S1 b0 (iI 2)) fun v6 S5 =>
              jn_ (fun (x7 : Int32) =>
                ck_ S5 b0 9 <| cI_ (f_X9_swapped S5 b0 x7) fun v9 S8 =>
                ck_ S8 b0 9 <| cI_ (f_X9_readMany S8 b0 (iI 2)) fun v11 S10 =>
                j4 (S10)
              ) fun j7 =>
              if v6 = (iI 1) then
                j7 ((iI 1))
              else
                j7 ((iI 0))
          else
            ck_ S1 b0 9 <| cI_ (f_X9_ended S1 b0 v3) fun v15 S14 =>
            j4 (S14)
      else
        jn_ (fun (x20 : Int32 × St) =>
          j4 (x20.2)
        ) fun j20 =>
        if v3 = (iI 3) then
          ck_ S1 b0 9 <| cI_ (f_X9_ended S1 b0 v3) fun v28 S27 =>
          j20 (v28, S27)
        else
          lt_ (v3 + (iI 1) : Int32) fun v21 =>
          ck_ S1 b0 9 <| cI_ (f_X9_drawn S1 b0 (iI 8)) fun v23 S22 =>
          lt_ ((iI 1) + v23 : Int32) fun v24 =>
          ck_ S22 b0 9 <| cI_ (f_X9_taken S22 b0 v21 v24) fun v26 S25 =>
          j20 (v26, S25)) := rfl
theorem u_X9_storms (S : St) (b0 : Nat) (p1 : Int32) (p2 : Int32) : f_X9_storms S b0 p1 p2 = (
    pI_ S b0 9 20 p1 fun S1 =>
    gR_ S1 b0 9 1 fun a2 =>
    aI_ S1 a2 11 (iI 11) fun v3 =>
    lp_ (fun self4 (x4 : Int32 × St) =>
      if p2 ≤ x4.1 then
        gR_ x4.2 b0 9 1 fun a5 =>
        aI_ x4.2 a5 11 (iI 11) fun v6 =>
        lt_ (v6 - v3 : Int32) fun v7 =>
        rt_ (v7, x4.2)
      else
        ck_ x4.2 b0 9 <| cV_ (f_X9_blows x4.2 b0) fun S8 =>
        lt_ (x4.1 + iI 1) fun v9 =>
        self4 (v9, S8)
    ) FU ((iI 0), S1)) := rfl
theorem u_X9_tick (S : St) (b0 : Nat) (p1 : Int32) : f_X9_tick S b0 p1 = (
    pI_ S b0 9 0 (iI 0) fun S1 =>
    ck_ S1 b0 9 <| cI_ (f_X9_ticked S1 b0 p1) fun v3 S2 =>
    rt_ (v3, S2)) := rfl
theorem u_X9_isTake (S : St) (p0 : Int32) (p1 : Int32) : f_X9_isTake S p0 p1 = (
    cP_ (f_X9_in S p0 (iI 0) (iI 3)) fun v1 =>
    jn_ (fun (x2 : Int32) =>
      rzP_ x2
    ) fun j2 =>
    jn_ (fun (x3 : Unit) =>
      j2 ((iI 0))
    ) fun j3 =>
    if v1 = iI 0 then
      j3 ()
    else
      cP_ (f_X9_in S p1 (iI 1) (iI 8)) fun v4 =>
      if v4 = iI 0 then
        j3 ()
      else
        j2 ((iI 1))) := rfl
theorem u_X9_take (S : St) (b0 : Nat) (p1 : Int32) (p2 : Int32) : f_X9_take S b0 p1 p2 = (
    pI_ S b0 9 0 (iI 0) fun S1 =>
    cP_ (f_X9_isTake S1 p1 p2) fun v2 =>
    jn_ (fun (x3 : Int32 × St) =>
      rt_ (x3.1, x3.2)
    ) fun j3 =>
    if v2 = iI 0 then
      j3 ((iI (-1)), S1)
    else
      ck_ S1 b0 9 <| cI_ (f_X9_taken S1 b0 p1 p2) fun v5 S4 =>
      j3 (v5, S4)) := rfl
theorem u_X9_put (S : St) (b0 : Nat) (p1 : Int32) (p2 : Int32) : f_X9_put S b0 p1 p2 = (
    pI_ S b0 9 0 (iI 0) fun S1 =>
    cP_ (f_X9_in S1 p2 (iI 0) (iI 255)) fun v2 =>
    jn_ (fun (x3 : Int32 × St) =>
      rt_ (x3.1, x3.2)
    ) fun j3 =>
    if v2 = iI 0 then
      j3 ((iI (-1)), S1)
    else
      ck_ S1 b0 9 <| cI_ (f_X9_puts S1 b0 p1 p2) fun v5 S4 =>
      j3 (v5, S4)) := rfl
theorem u_X9_end (S : St) (b0 : Nat) (p1 : Int32) : f_X9_end S b0 p1 = (
    pI_ S b0 9 0 (iI 0) fun S1 =>
    ck_ S1 b0 9 <| cI_ (f_X9_ended S1 b0 p1) fun v3 S2 =>
    rt_ (v3, S2)) := rfl
theorem u_X9_drop (S : St) (b0 : Nat) (p1 : Int32) : f_X9_drop S b0 p1 = (
    pI_ S b0 9 0 (iI 0) fun S1 =>
    ck_ S1 b0 9 <| cI_ (f_X9_dropped S1 b0 p1) fun v3 S2 =>
    rt_ (v3, S2)) := rfl
theorem u_X9_swap (S : St) (b0 : Nat) (p1 : Int32) : f_X9_swap S b0 p1 = (
    pI_ S b0 9 0 (iI 0) fun S1 =>
    ck_ S1 b0 9 <| cI_ (f_X9_swapped S1 b0 p1) fun v3 S2 =>
    rt_ (v3, S2)) := rfl
theorem u_X9_read (S : St) (b0 : Nat) : f_X9_read S b0 = (
    pI_ S b0 9 0 (iI 0) fun S1 =>
    ck_ S1 b0 9 <| cI_ (f_X9_readOne S1 b0) fun v3 S2 =>
    rt_ (v3, S2)) := rfl
theorem u_X9_mode (S : St) (b0 : Nat) (p1 : Int32) : f_X9_mode S b0 p1 = (
    pI_ S b0 9 0 (iI 0) fun S1 =>
    jn_ (fun (x2 : Int32) =>
      gR_ S1 b0 9 1 fun a3 =>
      aI_ S1 a3 11 (iI 2) fun v4 =>
      jn_ (fun (x5 : Int32) =>
        gR_ S1 b0 9 1 fun a6 =>
        sI_ S1 a6 (iI 2) x2 fun S7 =>
        rz_ x5 S7
      ) fun j5 =>
      if v4 = x2 then
        j5 ((iI 0))
      else
        j5 ((iI 1))
    ) fun j2 =>
    if p1 = iI 0 then
      j2 ((iI 0))
    else
      j2 ((iI 1))) := rfl
theorem u_X9_mask (S : St) (b0 : Nat) (p1 : Int32) : f_X9_mask S b0 p1 = (
    pI_ S b0 9 0 (iI 0) fun S1 =>
    ck_ S1 b0 9 <| cI_ (f_X9_masked S1 b0 p1) fun v3 S2 =>
    rz_ v3 S2) := rfl
theorem u_X9_resize (S : St) (b0 : Nat) (p1 : Int32) : f_X9_resize S b0 p1 = (
    pI_ S b0 9 0 (iI 0) fun S1 =>
    ck_ S1 b0 9 <| cI_ (f_X9_resized S1 b0 p1) fun v3 S2 =>
    rt_ (v3, S2)) := rfl
theorem u_X9_storm (S : St) (b0 : Nat) (p1 : Int32) (p2 : Int32) : f_X9_storm S b0 p1 p2 = (
    pI_ S b0 9 0 (iI 0) fun S1 =>
    cP_ (f_X9_in S1 p2 (iI 1) (iI 60)) fun v2 =>
    jn_ (fun (x3 : Int32 × St) =>
      rt_ (x3.1, x3.2)
    ) fun j3 =>
    if v2 = iI 0 then
      j3 ((iI (-1)), S1)
    else
      ck_ S1 b0 9 <| cI_ (f_X9_storms S1 b0 p1 p2) fun v5 S4 =>
      j3 (v5, S4)) := rfl
theorem u_X9_isReady (S : St) (b0 : Nat) (p1 : Int32) (p2 : Int32) : f_X9_isReady S b0 p1 p2 = (
    ck_ S b0 9 <| cP_ (f_X9_item S b0 p1 p2 (iI 0)) fun v1 =>
    jn_ (fun (x2 : Int32) =>
      rzP_ x2
    ) fun j2 =>
    jn_ (fun (x3 : Unit) =>
      j2 ((iI 0))
    ) fun j3 =>
    if v1 = iI 0 then
      ck_ S b0 9 <| cP_ (f_X9_endOf S b0 p1 p2) fun v4 =>
      ck_ S b0 9 <| cP_ (f_X9_of S b0 p1 (iI 2)) fun v5 =>
      if v5 < v4 then
        j3 ()
      else
        j2 ((iI 1))
    else
      j3 ()) := rfl
theorem u_X9_readyMany (S : St) (b0 : Nat) : f_X9_readyMany S b0 = (
    lp_ (fun self1 (x1 : Int32 × Int32) =>
      ck_ S b0 9 <| cP_ (f_X9_live S b0) fun v2 =>
      if v2 ≤ x1.2 then
        rt_ x1.1
      else
        ck_ S b0 9 <| cP_ (f_X9_livePage S b0 x1.2) fun v3 =>
        lp_ (fun self4 (x4 : Int32 × Int32) =>
          ck_ S b0 9 <| cP_ (f_X9_of S b0 v3 (iI 3)) fun v5 =>
          if v5 ≤ x4.2 then
            lt_ (x1.2 + iI 1) fun v6 =>
            self1 (x4.1, v6)
          else
            ck_ S b0 9 <| cP_ (f_X9_isReady S b0 v3 x4.2) fun v7 =>
            jn_ (fun (x8 : Int32) =>
              lt_ (x4.1 + x8 : Int32) fun v9 =>
              lt_ (x4.2 + iI 1) fun v10 =>
              self4 (v9, v10)
            ) fun j8 =>
            if v7 = iI 0 then
              j8 ((iI 0))
            else
              j8 ((iI 1))
        ) FU (x1.1, (iI 0))
    ) FU ((iI 0), (iI 0))) := rfl
theorem u_X9_isCount (S : St) (b0 : Nat) (p1 : Int32) : f_X9_isCount S b0 p1 = (
    cP_ (f_X9_in S p1 (iI 0) (iI 19)) fun v1 =>
    jn_ (fun (x2 : Int32) =>
      rzP_ x2
    ) fun j2 =>
    jn_ (fun (x3 : Unit) =>
      j2 ((iI 1))
    ) fun j3 =>
    if v1 = iI 0 then
      cP_ (f_X9_in S p1 (iI 20) (iI 23)) fun v4 =>
      if v4 = iI 0 then
        cP_ (f_X9_in S p1 (iI 30) (iI 33)) fun v5 =>
        if v5 = iI 0 then
          if p1 = (iI 40) then
            j3 ()
          else
            j2 ((iI 0))
        else
          j3 ()
      else
        j3 ()
    else
      j3 ()) := rfl
theorem u_X9_told (S : St) (b0 : Nat) (p1 : Int32) : f_X9_told S b0 p1 = (
    jn_ (fun (x1 : Unit) =>
      gR_ S b0 9 1 fun a2 =>
      aI_ S a2 11 p1 fun v3 =>
      rt_ v3
    ) fun j1 =>
    jn_ (fun (x4 : Unit) =>
      gR_ S b0 9 1 fun a5 =>
      lt_ ((iI 10) + p1 : Int32) fun v6 =>
      lt_ (v6 - (iI 6) : Int32) fun v7 =>
      aI_ S a5 11 v7 fun v8 =>
      rt_ v8
    ) fun j4 =>
    jn_ (fun (x9 : Unit) =>
      gR_ S b0 9 1 fun a10 =>
      lt_ ((iI 16) + p1 : Int32) fun v11 =>
      lt_ (v11 - (iI 13) : Int32) fun v12 =>
      aI_ S a10 11 v12 fun v13 =>
      rt_ v13
    ) fun j9 =>
    jn_ (fun (x14 : Unit) =>
      gR_ S b0 9 1 fun a15 =>
      lt_ ((iI 18) + p1 : Int32) fun v16 =>
      lt_ (v16 - (iI 16) : Int32) fun v17 =>
      aI_ S a15 11 v17 fun v18 =>
      rt_ v18
    ) fun j14 =>
    jn_ (fun (x19 : Unit) =>
      jn_ (fun (x20 : Int32) =>
        rt_ x20
      ) fun j20 =>
      if (iI 30) ≤ p1 then
        gR_ S b0 9 1 fun a21 =>
        lt_ ((iI 26) + p1 : Int32) fun v22 =>
        lt_ (v22 - (iI 30) : Int32) fun v23 =>
        aI_ S a21 11 v23 fun v24 =>
        j20 (v24)
      else
        gR_ S b0 9 1 fun a25 =>
        lt_ ((iI 22) + p1 : Int32) fun v26 =>
        lt_ (v26 - (iI 20) : Int32) fun v27 =>
        aI_ S a25 11 v27 fun v28 =>
        j20 (v28)
    ) fun j19 =>
    if p1 = iI 0 then
      j1 ()
    else
    if p1 = iI 1 then
      j1 ()
    else
    if p1 = iI 2 then
      j1 ()
    else
    if p1 = iI 3 then
      j1 ()
    else
    if p1 = iI 4 then
      gR_ S b0 9 1 fun a29 =>
      aI_ S a29 11 (iI 6) fun v30 =>
      rt_ v30
    else
    if p1 = iI 5 then
      ck_ S b0 9 <| cP_ (f_X9_live S b0) fun v31 =>
      rt_ v31
    else
    if p1 = iI 6 then
      j4 ()
    else
    if p1 = iI 7 then
      j4 ()
    else
    if p1 = iI 8 then
      j4 ()
    else
    if p1 = iI 9 then
      j4 ()
    else
    if p1 = iI 10 then
      j4 ()
    else
    if p1 = iI 11 then
      j4 ()
    else
    if p1 = iI 12 then
      ck_ S b0 9 <| cP_ (f_X9_readyMany S b0) fun v32 =>
      rt_ v32
    else
    if p1 = iI 13 then
      j9 ()
    else
    if p1 = iI 14 then
      j9 ()
    else
    if p1 = iI 15 then
      gR_ S b0 9 1 fun a33 =>
      aI_ S a33 11 (iI 985) fun v34 =>
      rt_ v34
    else
    if p1 = iI 16 then
      j14 ()
    else
    if p1 = iI 17 then
      j14 ()
    else
    if p1 = iI 18 then
      j14 ()
    else
    if p1 = iI 19 then
      j14 ()
    else
    if p1 = iI 20 then
      j19 ()
    else
    if p1 = iI 21 then
      j19 ()
    else
    if p1 = iI 22 then
      j19 ()
    else
    if p1 = iI 23 then
      j19 ()
    else
    if p1 = iI 24 then
      j19 ()
    else
    if p1 = iI 25 then
      j19 ()
    else
    if p1 = iI 26 then
      j19 ()
    else
    if p1 = iI 27 then
      j19 ()
    else
    if p1 = iI 28 then
      j19 ()
    else
    if p1 = iI 29 then
      j19 ()
    else
    if p1 = iI 30 then
      j19 ()
    else
    if p1 = iI 31 then
      j19 ()
    else
    if p1 = iI 32 then
      j19 ()
    else
    if p1 = iI 33 then
      j19 ()
    else
    if p1 = iI 34 then
      j19 ()
    else
    if p1 = iI 35 then
      j19 ()
    else
    if p1 = iI 36 then
      j19 ()
    else
    if p1 = iI 37 then
      j19 ()
    else
    if p1 = iI 38 then
      j19 ()
    else
    if p1 = iI 39 then
      j19 ()
    else
    if p1 = iI 40 then
      gR_ S b0 9 1 fun a35 =>
      aI_ S a35 11 (iI 9) fun v36 =>
      rt_ v36
    else
    j19 ()) := rfl
theorem u_X9_count (S : St) (b0 : Nat) (p1 : Int32) : f_X9_count S b0 p1 = (
    pI_ S b0 9 0 (iI 0) fun S1 =>
    ck_ S1 b0 9 <| cP_ (f_X9_isCount S1 b0 p1) fun v2 =>
    jn_ (fun (x3 : Int32) =>
      rt_ (x3, S1)
    ) fun j3 =>
    if v2 = iI 0 then
      j3 ((iI (-1)))
    else
      ck_ S1 b0 9 <| cP_ (f_X9_told S1 b0 p1) fun v4 =>
      j3 (v4)) := rfl
theorem u_X9_placeOf (S : St) (b0 : Nat) (p1 : Int32) : f_X9_placeOf S b0 p1 = (
    lp_ (fun self1 (x1 : Int32) =>
      gR_ S b0 9 1 fun a2 =>
      aI_ S a2 11 (iI 0) fun v3 =>
      if v3 ≤ x1 then
        rt_ (iI (-1))
      else
        ck_ S b0 9 <| cP_ (f_X9_pageAt S b0 x1) fun v4 =>
        if v4 = p1 then
          rt_ x1
        else
          lt_ (x1 + iI 1) fun v5 =>
          self1 (v5)
    ) FU ((iI 0))) := rfl
theorem u_X9_page (S : St) (b0 : Nat) (p1 : Int32) (p2 : Int32) : f_X9_page S b0 p1 p2 = (
    pI_ S b0 9 0 (iI 0) fun S1 =>
    ck_ S1 b0 9 <| cP_ (f_X9_livePage S1 b0 p1) fun v2 =>
    jn_ (fun (x3 : Unit) =>
      rt_ ((iI (-2)), S1)
    ) fun j3 =>
    if v2 = (iI (-2)) then
      j3 ()
    else
      cP_ (f_X9_in S1 p2 (iI 0) (iI 5)) fun v4 =>
      if v4 = iI 0 then
        j3 ()
      else
        jn_ (fun (x5 : Int32) =>
          rt_ (x5, S1)
        ) fun j5 =>
        if (iI 3) ≤ p2 then
          if p2 = (iI 3) then
            ck_ S1 b0 9 <| cP_ (f_X9_recordsIn S1 b0 v2 (iI 0)) fun v8 =>
            j5 (v8)
          else
            if p2 = (iI 4) then
              ck_ S1 b0 9 <| cP_ (f_X9_recordsIn S1 b0 v2 (iI 1)) fun v7 =>
              j5 (v7)
            else
              ck_ S1 b0 9 <| cP_ (f_X9_placeOf S1 b0 v2) fun v6 =>
              j5 (v6)
        else
          ck_ S1 b0 9 <| cP_ (f_X9_of S1 b0 v2 p2) fun v9 =>
          j5 (v9)) := rfl
theorem u_X9_cell (S : St) (b0 : Nat) (p1 : Int32) (p2 : Int32) : f_X9_cell S b0 p1 p2 = (
    pI_ S b0 9 0 (iI 0) fun S1 =>
    ck_ S1 b0 9 <| cP_ (f_X9_livePage S1 b0 p1) fun v2 =>
    jn_ (fun (x3 : Int32) =>
      rt_ (x3, S1)
    ) fun j3 =>
    jn_ (fun (x4 : Unit) =>
      j3 ((iI (-1)))
    ) fun j4 =>
    if v2 = (iI (-2)) then
      j4 ()
    else
      gR_ S1 b0 9 1 fun a5 =>
      aI_ S1 a5 11 (iI 1) fun v6 =>
      lt_ (v6 - (iI 1) : Int32) fun v7 =>
      cP_ (f_X9_in S1 p2 (iI 0) v7) fun v8 =>
      if v8 = iI 0 then
        j4 ()
      else
        lt_ ((iI 4) + p2 : Int32) fun v9 =>
        ck_ S1 b0 9 <| cP_ (f_X9_of S1 b0 v2 v9) fun v10 =>
        j3 (v10)) := rfl
theorem u_X9_liveOf (S : St) (b0 : Nat) (p1 : Int32) : f_X9_liveOf S b0 p1 = (
    lp_ (fun self1 (x1 : Int32) =>
      ck_ S b0 9 <| cP_ (f_X9_live S b0) fun v2 =>
      jn_ (fun (x3 : Unit) =>
        rt_ x1
      ) fun j3 =>
      if v2 ≤ x1 then
        j3 ()
      else
        ck_ S b0 9 <| cP_ (f_X9_livePage S b0 x1) fun v4 =>
        if v4 = p1 then
          j3 ()
        else
          lt_ (x1 + iI 1) fun v5 =>
          self1 (v5)
    ) FU ((iI 0))) := rfl
theorem u_X9_open (S : St) (b0 : Nat) (p1 : Int32) (p2 : Int32) : f_X9_open S b0 p1 p2 = (
    pI_ S b0 9 0 (iI 0) fun S1 =>
    gR_ S1 b0 9 1 fun a2 =>
    aI_ S1 a2 11 (iI 6) fun v3 =>
    lt_ (v3 - (iI 1) : Int32) fun v4 =>
    cP_ (f_X9_in S1 p1 (iI 0) v4) fun v5 =>
    jn_ (fun (x6 : Unit) =>
      rt_ ((iI (-2)), S1)
    ) fun j6 =>
    if v5 = iI 0 then
      j6 ()
    else
      cP_ (f_X9_in S1 p2 (iI 0) (iI 6)) fun v7 =>
      if v7 = iI 0 then
        j6 ()
      else
        ck_ S1 b0 9 <| cP_ (f_X9_openPage S1 b0 p1) fun v8 =>
        ck_ S1 b0 9 <| cP_ (f_X9_openItem S1 b0 p1) fun v9 =>
        jn_ (fun (x10 : Int32) =>
          rt_ (x10, S1)
        ) fun j10 =>
        if (iI 4) ≤ p2 then
          if p2 = (iI 4) then
            gR_ S1 b0 9 1 fun a13 =>
            lt_ ((iI 3) * p1 : Int32) fun v14 =>
            lt_ ((iI 43) + v14 : Int32) fun v15 =>
            lt_ (v15 + (iI 2) : Int32) fun v16 =>
            aI_ S1 a13 11 v16 fun v17 =>
            j10 (v17)
          else
            if p2 = (iI 5) then
              ck_ S1 b0 9 <| cP_ (f_X9_liveOf S1 b0 v8) fun v12 =>
              j10 (v12)
            else
              ck_ S1 b0 9 <| cP_ (f_X9_item S1 b0 v8 v9 (iI 5)) fun v11 =>
              j10 (v11)
        else
          lt_ ((iI 1) + p2 : Int32) fun v18 =>
          ck_ S1 b0 9 <| cP_ (f_X9_item S1 b0 v8 v9 v18) fun v19 =>
          j10 (v19)) := rfl
theorem u_X9_finds (S : St) (b0 : Nat) (p1 : Int32) : f_X9_finds S b0 p1 = (
    lp_ (fun self1 (x1 : Int32 × Int32 × St) =>
      ck_ x1.2.2 b0 9 <| cP_ (f_X9_live x1.2.2 b0) fun v2 =>
      if v2 ≤ x1.2.1 then
        rz_ (iI 0) x1.2.2
      else
        ck_ x1.2.2 b0 9 <| cP_ (f_X9_livePage x1.2.2 b0 x1.2.1) fun v3 =>
        pI_ x1.2.2 b0 9 21 v3 fun S4 =>
        pI_ S4 b0 9 22 (iI 0) fun S5 =>
        lp_ (fun self6 (x6 : Int32 × St) =>
          gI_ x6.2 b0 9 22 fun v7 =>
          gI_ x6.2 b0 9 21 fun v8 =>
          ck_ x6.2 b0 9 <| cP_ (f_X9_of x6.2 b0 v8 (iI 3)) fun v9 =>
          if v9 ≤ v7 then
            lt_ (x1.2.1 + iI 1) fun v10 =>
            self1 (x6.1, v10, x6.2)
          else
            gI_ x6.2 b0 9 21 fun v11 =>
            gI_ x6.2 b0 9 22 fun v12 =>
            ck_ x6.2 b0 9 <| cP_ (f_X9_isReady x6.2 b0 v11 v12) fun v13 =>
            jn_ (fun (x14 : Unit) =>
              jn_ (fun (x15 : Int32) =>
                lt_ (x6.1 + x15 : Int32) fun v16 =>
                gI_ x6.2 b0 9 22 fun v17 =>
                lt_ (v17 + (iI 1) : Int32) fun v18 =>
                pI_ x6.2 b0 9 22 v18 fun S19 =>
                self6 (v16, S19)
              ) fun j15 =>
              if v13 = iI 0 then
                j15 ((iI 0))
              else
                j15 ((iI 1))
            ) fun j14 =>
            if v13 = iI 0 then
              j14 ()
            else
              if x6.1 = p1 then
                rz_ (iI 1) x6.2
              else
                j14 ()
        ) FU (x1.1, S5)
    ) FU ((iI 0), (iI 0), S)) := rfl
theorem u_X9_record (S : St) (b0 : Nat) (p1 : Int32) (p2 : Int32) : f_X9_record S b0 p1 p2 = (
    pI_ S b0 9 0 (iI 0) fun S1 =>
    jn_ (fun (x2 : St) =>
      rt_ ((iI (-2)), x2)
    ) fun j2 =>
    if p1 < iI 0 then
      j2 (S1)
    else
      ck_ S1 b0 9 <| cI_ (f_X9_finds S1 b0 p1) fun v4 S3 =>
      if v4 = iI 0 then
        j2 (S3)
      else
        cP_ (f_X9_in S3 p2 (iI 0) (iI 3)) fun v5 =>
        if v5 = iI 0 then
          lt_ (p2 - (iI 10) : Int32) fun v6 =>
          gI_ S3 b0 9 21 fun v7 =>
          gI_ S3 b0 9 22 fun v8 =>
          ck_ S3 b0 9 <| cP_ (f_X9_item S3 b0 v7 v8 (iI 4)) fun v9 =>
          lt_ (v9 - (iI 1) : Int32) fun v10 =>
          cP_ (f_X9_in S3 v6 (iI 0) v10) fun v11 =>
          jn_ (fun (x12 : Int32) =>
            rt_ (x12, S3)
          ) fun j12 =>
          if v11 = iI 0 then
            j12 ((iI (-2)))
          else
            gI_ S3 b0 9 21 fun v13 =>
            gI_ S3 b0 9 21 fun v14 =>
            gI_ S3 b0 9 22 fun v15 =>
            ck_ S3 b0 9 <| cP_ (f_X9_item S3 b0 v14 v15 (iI 5)) fun v16 =>
            lt_ ((iI 4) + v16 : Int32) fun v17 =>
            lt_ (v17 + (iI 1) : Int32) fun v18 =>
            lt_ (v18 + p2 : Int32) fun v19 =>
            lt_ (v19 - (iI 10) : Int32) fun v20 =>
            ck_ S3 b0 9 <| cP_ (f_X9_of S3 b0 v13 v20) fun v21 =>
            j12 (v21)
        else
          gI_ S3 b0 9 21 fun v22 =>
          gI_ S3 b0 9 22 fun v23 =>
          lt_ ((iI 1) + p2 : Int32) fun v24 =>
          ck_ S3 b0 9 <| cP_ (f_X9_item S3 b0 v22 v23 v24) fun v25 =>
          rt_ (v25, S3)) := rfl
theorem u_X9_notRead (S : St) (b0 : Nat) : f_X9_notRead S b0 = (
    gR_ S b0 9 1 fun a1 =>
    aI_ S a1 11 (iI 8) fun v2 =>
    lp_ (fun self3 (x3 : Int32 × Int32) =>
      gR_ S b0 9 1 fun a4 =>
      aI_ S a4 11 (iI 7) fun v5 =>
      ck_ S b0 9 <| cP_ (f_X9_of S b0 v5 (iI 3)) fun v6 =>
      if v6 ≤ x3.2 then
        rt_ x3.1
      else
        gR_ S b0 9 1 fun a7 =>
        aI_ S a7 11 (iI 7) fun v8 =>
        ck_ S b0 9 <| cP_ (f_X9_item S b0 v8 x3.2 (iI 0)) fun v9 =>
        jn_ (fun (x10 : Int32) =>
          lt_ (x3.1 + x10 : Int32) fun v11 =>
          lt_ (x3.2 + iI 1) fun v12 =>
          self3 (v11, v12)
        ) fun j10 =>
        if v9 = iI 0 then
          j10 ((iI 1))
        else
          j10 ((iI 0))
    ) FU ((iI 0), v2)) := rfl
theorem u_X9_latest (S : St) (b0 : Nat) (p1 : Int32) : f_X9_latest S b0 p1 = (
    pI_ S b0 9 0 (iI 0) fun S1 =>
    if p1 = (iI 5) then
      ck_ S1 b0 9 <| cP_ (f_X9_notRead S1 b0) fun v20 =>
      rt_ (v20, S1)
    else
      gR_ S1 b0 9 1 fun a2 =>
      aI_ S1 a2 11 (iI 30) fun v3 =>
      jn_ (fun (x4 : Unit) =>
        rt_ ((iI (-2)), S1)
      ) fun j4 =>
      if v3 = iI 0 then
        j4 ()
      else
        cP_ (f_X9_in S1 p1 (iI 0) (iI 4)) fun v5 =>
        jn_ (fun (x6 : Unit) =>
          jn_ (fun (x7 : Int32) =>
            rt_ (x7, S1)
          ) fun j7 =>
          if (iI 5) ≤ p1 then
            gR_ S1 b0 9 1 fun a8 =>
            lt_ ((iI 35) + p1 : Int32) fun v9 =>
            lt_ (v9 - (iI 10) : Int32) fun v10 =>
            aI_ S1 a8 11 v10 fun v11 =>
            j7 (v11)
          else
            gR_ S1 b0 9 1 fun a12 =>
            lt_ ((iI 30) + p1 : Int32) fun v13 =>
            aI_ S1 a12 11 v13 fun v14 =>
            j7 (v14)
        ) fun j6 =>
        if v5 = iI 0 then
          lt_ (p1 - (iI 10) : Int32) fun v15 =>
          gR_ S1 b0 9 1 fun a16 =>
          aI_ S1 a16 11 (iI 33) fun v17 =>
          lt_ (v17 - (iI 1) : Int32) fun v18 =>
          cP_ (f_X9_in S1 v15 (iI 0) v18) fun v19 =>
          if v19 = iI 0 then
            j4 ()
          else
            j6 ()
        else
          j6 ()) := rfl
theorem u_X9_parses (S : St) (b0 : Nat) (p1 : Int32) (p2 : Int32) : f_X9_parses S b0 p1 p2 = (
    ck_ S b0 9 <| cP_ (f_X9_of S b0 p1 (iI 0)) fun v1 =>
    pI_ S b0 9 23 (iI 0) fun S2 =>
    lp_ (fun self3 (x3 : Int32 × Int32 × Int32 × St) =>
      ck_ x3.2.2.2 b0 9 <| cP_ (f_X9_of x3.2.2.2 b0 p1 (iI 1)) fun v4 =>
      jn_ (fun (x5 : Unit) =>
        rt_ x3.2.2.2
      ) fun j5 =>
      if v4 ≤ x3.1 then
        j5 ()
      else
        gI_ x3.2.2.2 b0 9 23 fun v6 =>
        lt_ (p2 + (iI 1) : Int32) fun v7 =>
        if v6 = v7 then
          j5 ()
        else
          lt_ ((iI 4) + x3.1 : Int32) fun v8 =>
          ck_ x3.2.2.2 b0 9 <| cP_ (f_X9_of x3.2.2.2 b0 p1 v8) fun v9 =>
          pI_ x3.2.2.2 b0 9 25 x3.1 fun S10 =>
          jn_ (fun (x11 : Int32) =>
            pI_ S10 b0 9 24 x11 fun S12 =>
            gI_ S12 b0 9 24 fun v13 =>
            jn_ (fun (x14 : Int32 × Int32 × St) =>
              gI_ x14.2.2 b0 9 26 fun v15 =>
              lt_ (x3.1 + v15 : Int32) fun v16 =>
              gI_ x14.2.2 b0 9 23 fun v17 =>
              lt_ (v17 + (iI 1) : Int32) fun v18 =>
              pI_ x14.2.2 b0 9 23 v18 fun S19 =>
              self3 (v16, x14.1, x14.2.1, S19)
            ) fun j14 =>
            if v13 = (iI 2) then
              rm_ v9 (iI 16) fun v34 =>
              lt_ ((iI 4) + x3.1 : Int32) fun v35 =>
              lt_ (v35 + (iI 1) : Int32) fun v36 =>
              ck_ S12 b0 9 <| cP_ (f_X9_of S12 b0 p1 v36) fun v37 =>
              lt_ ((iI 16) * v37 : Int32) fun v38 =>
              lt_ (v34 + v38 : Int32) fun v39 =>
              lt_ ((iI 4) + x3.1 : Int32) fun v40 =>
              lt_ (v40 + (iI 2) : Int32) fun v41 =>
              ck_ S12 b0 9 <| cP_ (f_X9_of S12 b0 p1 v41) fun v42 =>
              lt_ ((iI 4096) * v42 : Int32) fun v43 =>
              lt_ (v39 + v43 : Int32) fun v44 =>
              pI_ S12 b0 9 26 (iI 3) fun S45 =>
              pI_ S45 b0 9 27 v44 fun S46 =>
              pI_ S46 b0 9 28 (iI 0) fun S47 =>
              j14 (x3.2.1, v44, S47)
            else
              rm_ v9 (iI 16) fun v20 =>
              lt_ (x3.2.2.1 + v20 : Int32) fun v21 =>
              lt_ (x3.2.1 + v21 : Int32) fun v22 =>
              gI_ S12 b0 9 24 fun v23 =>
              jn_ (fun (x24 : Int32) =>
                pI_ S12 b0 9 28 x24 fun S25 =>
                gI_ S25 b0 9 28 fun v26 =>
                lt_ ((iI 1) + v26 : Int32) fun v27 =>
                pI_ S25 b0 9 26 v27 fun S28 =>
                pI_ S28 b0 9 27 v22 fun S29 =>
                j14 (v22, (iI 0), S29)
              ) fun j24 =>
              if v23 = (iI 1) then
                lt_ ((iI 4) + x3.1 : Int32) fun v31 =>
                lt_ (v31 + (iI 1) : Int32) fun v32 =>
                ck_ S12 b0 9 <| cP_ (f_X9_of S12 b0 p1 v32) fun v33 =>
                j24 (v33)
              else
                dv_ v9 (iI 16) fun v30 =>
                j24 (v30)
          ) fun j11 =>
          if v9 < (iI 240) then
            if v9 < (iI 224) then
              j11 ((iI 0))
            else
              j11 ((iI 1))
          else
            j11 ((iI 2))
    ) FU ((iI 0), v1, (iI 0), S2)) := rfl
theorem u_X9_parsed (S : St) (b0 : Nat) (p1 : Int32) (p2 : Int32) (p3 : Int32) : f_X9_parsed S b0 p1 p2 p3 = (
    pI_ S b0 9 0 (iI 0) fun S1 =>
    ck_ S1 b0 9 <| cP_ (f_X9_livePage S1 b0 p1) fun v2 =>
    jn_ (fun (x3 : Unit) =>
      rt_ ((iI (-2)), S1)
    ) fun j3 =>
    if v2 = (iI (-2)) then
      j3 ()
    else
      if (iI (-1)) ≤ p2 then
        jn_ (fun (x4 : Int32) =>
          ck_ S1 b0 9 <| cV_ (f_X9_parses S1 b0 v2 x4) fun S5 =>
          if p2 = (iI (-1)) then
            jn_ (fun (x13 : Int32) =>
              rt_ (x13, S5)
            ) fun j13 =>
            if p3 = iI 0 then
              gI_ S5 b0 9 23 fun v14 =>
              j13 (v14)
            else
              j13 ((iI (-2)))
          else
            gI_ S5 b0 9 23 fun v6 =>
            lt_ (p2 + (iI 1) : Int32) fun v7 =>
            if v6 = v7 then
              if p3 = iI 0 then
                gI_ S5 b0 9 24 fun v8 =>
                rt_ (v8, S5)
              else
              if p3 = iI 1 then
                gI_ S5 b0 9 25 fun v9 =>
                rt_ (v9, S5)
              else
              if p3 = iI 2 then
                gI_ S5 b0 9 26 fun v10 =>
                rt_ (v10, S5)
              else
              if p3 = iI 3 then
                gI_ S5 b0 9 27 fun v11 =>
                rt_ (v11, S5)
              else
              if p3 = iI 4 then
                gI_ S5 b0 9 28 fun v12 =>
                rt_ (v12, S5)
              else
              rt_ ((iI (-2)), S5)
            else
              rt_ ((iI (-2)), S5)
        ) fun j4 =>
        if p2 = (iI (-1)) then
          j4 ((iI 32))
        else
          j4 (p2)
      else
        j3 ()) := rfl
theorem u_X9_between (S : St) (b0 : Nat) (p1 : Int32) (p2 : Int32) (p3 : Int32) : f_X9_between S b0 p1 p2 p3 = (
    pI_ S b0 9 0 (iI 0) fun S1 =>
    lp_ (fun self2 (x2 : Int32 × Int32 × St) =>
      ck_ x2.2.2 b0 9 <| cI_ (f_X9_finds x2.2.2 b0 x2.2.1) fun v4 S3 =>
      if v4 = iI 0 then
        jn_ (fun (x5 : Int32) =>
          rt_ (x5, S3)
        ) fun j5 =>
        if p3 = iI 0 then
          j5 (x2.1)
        else
          j5 ((iI (-1)))
      else
        gI_ S3 b0 9 21 fun v6 =>
        gI_ S3 b0 9 22 fun v7 =>
        ck_ S3 b0 9 <| cP_ (f_X9_item S3 b0 v6 v7 (iI 3)) fun v8 =>
        cP_ (f_X9_in S3 v8 p1 p2) fun v9 =>
        jn_ (fun (x10 : Int32) =>
          lt_ (x2.2.1 + iI 1) fun v11 =>
          self2 (x10, v11, S3)
        ) fun j10 =>
        if v9 = iI 0 then
          j10 (x2.1)
        else
          if p3 = iI 0 then
            lt_ (x2.1 + iI 1) fun v12 =>
            j10 (v12)
          else
            rt_ (x2.2.1, S3)
    ) FU ((iI 0), (iI 0), S1)) := rfl
theorem u_X9_sum (S : St) (b0 : Nat) (p1 : Int32) (p2 : Int32) (p3 : Int32) : f_X9_sum S b0 p1 p2 p3 = (
    pI_ S b0 9 0 (iI 0) fun S1 =>
    ck_ S1 b0 9 <| cP_ (f_X9_livePage S1 b0 p1) fun v2 =>
    jn_ (fun (x3 : Unit) =>
      rt_ ((iI (-1)), S1)
    ) fun j3 =>
    if v2 = (iI (-2)) then
      j3 ()
    else
      if p2 < iI 0 then
        j3 ()
      else
        if p3 < iI 0 then
          j3 ()
        else
          gR_ S1 b0 9 1 fun a4 =>
          aI_ S1 a4 11 (iI 1) fun v5 =>
          if v5 < p2 then
            j3 ()
          else
            gR_ S1 b0 9 1 fun a6 =>
            aI_ S1 a6 11 (iI 1) fun v7 =>
            lt_ (v7 - p2 : Int32) fun v8 =>
            if p3 ≤ v8 then
              lp_ (fun self9 (x9 : Int32 × Int32) =>
                lt_ (p2 + p3 : Int32) fun v10 =>
                if v10 ≤ x9.2 then
                  rt_ (x9.1, S1)
                else
                  lt_ ((iI 4) + x9.2 : Int32) fun v11 =>
                  ck_ S1 b0 9 <| cP_ (f_X9_of S1 b0 v2 v11) fun v12 =>
                  lt_ (x9.1 + v12 : Int32) fun v13 =>
                  lt_ (x9.2 + iI 1) fun v14 =>
                  self9 (v13, v14)
              ) FU ((iI 0), p2)
            else
              j3 ()) := rfl
theorem u_X9_would (S : St) (b0 : Nat) (p1 : Int32) (p2 : Int32) : f_X9_would S b0 p1 p2 = (
    pI_ S b0 9 0 (iI 0) fun S1 =>
    cP_ (f_X9_isTake S1 p1 p2) fun v2 =>
    jn_ (fun (x3 : Int32) =>
      rt_ (x3, S1)
    ) fun j3 =>
    if v2 = iI 0 then
      j3 ((iI (-1)))
    else
      ck_ S1 b0 9 <| cP_ (f_X9_comes S1 b0 p1 p2) fun v4 =>
      j3 (v4)) := rfl
theorem u_X9_copies (S : St) (b0 : Nat) (p1 : Int32) (p2 : Int32) : f_X9_copies S b0 p1 p2 = (
    lp_ (fun self1 (x1 : Int32 × St) =>
      if (iI 988) ≤ x1.1 then
        rt_ x1.2
      else
        gR_ x1.2 b0 9 1 fun a2 =>
        lt_ ((iI 988) * p2 : Int32) fun v3 =>
        lt_ (v3 + x1.1 : Int32) fun v4 =>
        gR_ x1.2 b0 9 1 fun a5 =>
        lt_ ((iI 988) * p1 : Int32) fun v6 =>
        lt_ (v6 + x1.1 : Int32) fun v7 =>
        aI_ x1.2 a5 11 v7 fun v8 =>
        sI_ x1.2 a2 v4 v8 fun S9 =>
        lt_ (x1.1 + iI 1) fun v10 =>
        self1 (v10, S9)
    ) FU ((iI 0), S)) := rfl
theorem u_X9_back (S : St) (b0 : Nat) (p1 : Int32) : f_X9_back S b0 p1 = (
    ck_ S b0 9 <| cV_ (f_X9_copies S b0 (iI 4) (iI 0)) fun S1 =>
    rt_ (p1, S1)) := rfl
theorem u_X9_room (S : St) (b0 : Nat) (p1 : Int32) : f_X9_room S b0 p1 = (
    pI_ S b0 9 0 (iI 0) fun S1 =>
    cP_ (f_X9_in S1 p1 (iI 1) (iI 8)) fun v2 =>
    jn_ (fun (x3 : Unit) =>
      rt_ ((iI (-1)), S1)
    ) fun j3 =>
    if v2 = iI 0 then
      j3 ()
    else
      ck_ S1 b0 9 <| cP_ (f_X9_innermost S1 b0) fun v4 =>
      if v4 = (iI 3) then
        j3 ()
      else
        ck_ S1 b0 9 <| cV_ (f_X9_copies S1 b0 (iI 0) (iI 4)) fun S5 =>
        ck_ S5 b0 9 <| cP_ (f_X9_comes S5 b0 (iI 3) p1) fun v6 =>
        lp_ (fun self7 (x7 : Int32 × Int32 × St) =>
          jn_ (fun (x8 : Unit) =>
            ck_ x7.2.2 b0 9 <| cI_ (f_X9_taken x7.2.2 b0 (iI 3) p1) fun v10 S9 =>
            ck_ S9 b0 9 <| cI_ (f_X9_ended S9 b0 (iI 3)) fun v12 S11 =>
            lt_ (x7.1 + iI 1) fun v13 =>
            ck_ S11 b0 9 <| cP_ (f_X9_comes S11 b0 (iI 3) p1) fun v14 =>
            self7 (v13, v14, S11)
          ) fun j8 =>
          if x7.2.1 = iI 0 then
            j8 ()
          else
            if x7.2.1 = (iI 1) then
              j8 ()
            else
              ck_ x7.2.2 b0 9 <| cI_ (f_X9_back x7.2.2 b0 x7.1) fun v16 S15 =>
              rt_ (v16, S15)
        ) FU ((iI 0), v6, S5)) := rfl
theorem u_X9_after (S : St) (b0 : Nat) (p1 : Int32) (p2 : Int32) (p3 : Int32) : f_X9_after S b0 p1 p2 p3 = (
    pI_ S b0 9 0 (iI 0) fun S1 =>
    cP_ (f_X9_in S1 p2 (iI 1) (iI 60)) fun v2 =>
    jn_ (fun (x3 : Unit) =>
      rt_ ((iI (-1)), S1)
    ) fun j3 =>
    if v2 = iI 0 then
      j3 ()
    else
      ck_ S1 b0 9 <| cP_ (f_X9_isCount S1 b0 p3) fun v4 =>
      if v4 = iI 0 then
        j3 ()
      else
        ck_ S1 b0 9 <| cV_ (f_X9_copies S1 b0 (iI 0) (iI 4)) fun S5 =>
        ck_ S5 b0 9 <| cI_ (f_X9_storms S5 b0 p1 p2) fun v7 S6 =>
        ck_ S6 b0 9 <| cP_ (f_X9_told S6 b0 p3) fun v8 =>
        ck_ S6 b0 9 <| cI_ (f_X9_back S6 b0 v8) fun v10 S9 =>
        rt_ (v10, S9)) := rfl
theorem u_X9_fewest (S : St) (b0 : Nat) (p1 : Int32) (p2 : Int32) : f_X9_fewest S b0 p1 p2 = (
    pI_ S b0 9 0 (iI 0) fun S1 =>
    cP_ (f_X9_in S1 p2 (iI 1) (iI 60)) fun v2 =>
    if v2 = iI 0 then
      rt_ ((iI (-1)), S1)
    else
      ck_ S1 b0 9 <| cV_ (f_X9_copies S1 b0 (iI 0) (iI 4)) fun S3 =>
      gR_ S3 b0 9 1 fun a4 =>
      aI_ S3 a4 11 (iI 1) fun v5 =>
      gR_ S3 b0 9 1 fun a6 =>
      aI_ S3 a6 11 (iI 2) fun v7 =>
      lp_ (fun self8 (x8 : Int32 × St) =>
        if (iI 6) < x8.1 then
          ck_ x8.2 b0 9 <| cI_ (f_X9_back x8.2 b0 (iI (-1))) fun v10 S9 =>
          rt_ (v10, S9)
        else
          ck_ x8.2 b0 9 <| cV_ (f_X9_begins x8.2 b0 x8.1 v5 v7) fun S11 =>
          ck_ S11 b0 9 <| cI_ (f_X9_storms S11 b0 p1 p2) fun v13 S12 =>
          jn_ (fun (x14 : Unit) =>
            lt_ (x8.1 + iI 1) fun v15 =>
            self8 (v15, S12)
          ) fun j14 =>
          if v13 = iI 0 then
            gR_ S12 b0 9 1 fun a16 =>
            aI_ S12 a16 11 (iI 12) fun v17 =>
            if v17 = iI 0 then
              ck_ S12 b0 9 <| cI_ (f_X9_back S12 b0 x8.1) fun v19 S18 =>
              rt_ (v19, S18)
            else
              j14 ()
          else
            j14 ()
      ) FU ((iI 2), S3)) := rfl
theorem u_X9_copiesText (S : St) (b0 : Nat) (p1 : Int32) (p2 : Int32) : f_X9_copiesText S b0 p1 p2 = (
    ck_ S b0 9 <| cV_ (f_X9_copies S b0 p1 p2) fun S1 =>
    lp_ (fun self2 (x2 : Int32 × St) =>
      if (iI 400) ≤ x2.1 then
        rt_ x2.2
      else
        gR_ x2.2 b0 9 2 fun a3 =>
        lt_ ((iI 400) * p2 : Int32) fun v4 =>
        lt_ (v4 + x2.1 : Int32) fun v5 =>
        gR_ x2.2 b0 9 2 fun a6 =>
        lt_ ((iI 400) * p1 : Int32) fun v7 =>
        lt_ (v7 + x2.1 : Int32) fun v8 =>
        aI_ x2.2 a6 10 v8 fun v9 =>
        sB_ x2.2 a3 v5 v9 fun S10 =>
        lt_ (x2.1 + iI 1) fun v11 =>
        self2 (v11, S10)
    ) FU ((iI 0), S1)) := rfl
theorem u_X9_image (S : St) (b0 : Nat) (p1 : Int32) : f_X9_image S b0 p1 = (
    pI_ S b0 9 0 (iI 0) fun S1 =>
    cP_ (f_X9_in S1 p1 (iI 0) (iI 2)) fun v2 =>
    if v2 = iI 0 then
      rz_ (iI 0) S1
    else
      lt_ (p1 + (iI 1) : Int32) fun v3 =>
      ck_ S1 b0 9 <| cV_ (f_X9_copiesText S1 b0 (iI 0) v3) fun S4 =>
      gR_ S4 b0 9 3 fun a5 =>
      sZ_ S4 a5 p1 (iI 1) fun S6 =>
      rz_ (iI 1) S6) := rfl
theorem u_X9_again (S : St) (b0 : Nat) (p1 : Int32) : f_X9_again S b0 p1 = (
    pI_ S b0 9 0 (iI 0) fun S1 =>
    cP_ (f_X9_in S1 p1 (iI 0) (iI 2)) fun v2 =>
    jn_ (fun (x3 : Unit) =>
      rz_ (iI 0) S1
    ) fun j3 =>
    if v2 = iI 0 then
      j3 ()
    else
      gR_ S1 b0 9 3 fun a4 =>
      aI_ S1 a4 13 p1 fun v5 =>
      if v5 = iI 0 then
        j3 ()
      else
        lt_ (p1 + (iI 1) : Int32) fun v6 =>
        ck_ S1 b0 9 <| cV_ (f_X9_copiesText S1 b0 v6 (iI 0)) fun S7 =>
        rz_ (iI 1) S7) := rfl
