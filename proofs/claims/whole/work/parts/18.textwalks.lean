/-! WALKS OVER TEXTS -/
def strC (i : Nat) (k : Int32) : Int32 := (strB.getD i []).getD k.toNatClampNeg 0
theorem str_fit : ∀ i, i < 14 → ∀ j, j < 7 → (((strB.getD i []).getD j 0 &&& 255).toUInt32 % 65536).toInt32 = (strB.getD i []).getD j 0 ∧ narrow .char (.int ((strB.getD i []).getD j 0)) = .int ((strB.getD i []).getD j 0) := by decide +kernel
theorem str_len : ∀ i, i < 14 → strL.getD i 0 < 7 := by decide +kernel
theorem str_sh : ∀ i, i < 14 → Int32.ofNat (strL.getD i 0) >>> ((0 : Int32) &&& 31) = Int32.ofNat (strL.getD i 0) := by decide +kernel
/-- an answer that is a text -/
def qT (G : Gx) (adK : Nat → Nat) (i : Nat) (S : St) : Array Value → State → Outcome → State → Prop := va_Qr (fun (_ : Unit) => True) (fun _ a t => a = adK i ∧ wRel G S t.heap) (wA G)
section TXW
variable {X : Cx} {G : Gx} {adK adV : Nat → Nat} {own : String} {cc : ByteArray} {nL n1 n2 : Nat} {ret : Option FieldType} {rm : Room} {Q : State → Prop} {pc : Nat} {lv lv' : List (Nat × Value)} {st st0 : List Value} {S : St} {mc ms : Nat}
theorem m_ishrD {x y v : Int32} (C : Cok X G own cc nL ret rm) (hd : decode cc pc = .ok (.ishr, 1)) (hv : x >>> (y &&& 31) = v) (k : WM X G nL n1 n2 Q (pc + 1) lv (.int v :: st) S) : WM X G nL n1 n2 Q pc lv (.int y :: .int x :: st) S := by
  intro H locs ls hl hr hs
  refine lv_ishr C.hx C.hb hd ?_
  rw [hv]
  exact k H locs ls hl hr hs
theorem m_iandD {x y : Int32} (C : Cok X G own cc nL ret rm) (hd : decode cc pc = .ok (.iand, 1)) (k : WM X G nL n1 n2 Q (pc + 1) lv (.int (x &&& y) :: st) S) : WM X G nL n1 n2 Q pc lv (.int y :: .int x :: st) S := by
  intro H locs ls hl hr hs
  exact lv_iand C.hx C.hb hd (k H locs ls hl hr hs)
theorem m_afterT {i : Nat} {S' : St} (hM : Runs X G nL n1 n2 mc ms pc lv st0 st S (qT G adK i S')) (kk : WM X G nL (n1 + mc) (n2 + ms) Q (pc + 3) lv (.ref (adK i) :: st) S') : WM X G nL n1 n2 Q pc lv st0 S := by
  intro H locs ls hl hr hs
  obtain ⟨av, hrun⟩ := hM H locs ls hl hr hs
  refine va_callr hrun hs (fun _ _ q => q) (fun _ q => q) (fun u ra t H1 locs1 ht hvm hw hB hz hk1 hs1 => ?_)
  obtain ⟨rfl, hB⟩ := hB
  rw [ht] at hB
  exact kk H1 locs1 ls hl hB hs1
theorem m_tret {i : Nat} {ty : FieldType} (C : Cok X G own cc nL ret rm) (hret : ret = some ty) (hty : (∃ n, ty = .object n) ∨ ∃ t, ty = .array t) (hd : decode cc pc = .ok (.areturn, 1)) : WM X G nL n1 n2 (wQ X G (qT G adK i S) n1 n2) pc lv [.ref (adK i)] S := by
  intro H locs ls hl hr hs
  exact W.aret C.hx C.hb (C.hret.trans hret) hty (Or.inr ⟨_, rfl⟩) (fun t ht hW => ⟨⟨(), adK i, rfl, trivial, rfl, (show wRel G S t.heap from ht ▸ hr)⟩, hs.F ht⟩) hs.2.2 hd C.hlk
theorem m_ldcS {idx q : Nat} {tx : String} (C : Cok X G own cc nL ret rm) (hd : decode cc pc = .ok (.ldc idx, 2)) (hZ : vk_R own idx tx q (xs X)) (k : WM X G nL n1 n2 Q (pc + 2) lv (.ref q :: st) S) : WM X G nL n1 n2 Q pc lv st S := by
  intro H locs ls hl hr hs
  exact va_ldcS C.hx C.hb C.hown hZ hd (k H locs ls hl hr hs)
end TXW
set_option maxRecDepth 100000 in
set_option maxHeartbeats 4000000 in
theorem c_coder (l : Launch) (G : Gx) (adK adV : Nat → Nat) (S : St) {i : Nat} (hi : i < 14) : Met l yJ0_coder_7d493 (Cond.code yJ0_coder_7d493 cJ0_coder_7d493 1 (some .byte) :: wAll) ({ frames := 0, cells := 0, slots := 0, locals := 0 } : Room) (va_Pc [.ref (adK i)] (wPreE G adK adV S)) (qI G (0, S)) 0 0 (wA G) := by
  refine m_startE (by decide +kernel) (Nat.le_of_ble_eq_true rfl) (fun X C hE => ?_)
  show WM X G 1 0 0 (wQ X G (qI G (0, S)) 0 0) 0 [(0, .ref (adK i))] [] S
  refine m_gets C (dOf DJ0_coder_7d493 0 rfl) hE.2.2.1 kj_compact ?_
  refine m_ifeq (β := Unit) (A := none) (B := some ()) (o := ()) C (dOf DJ0_coder_7d493 1 rfl) (tgt := 13) rfl (if_neg (by decide)) (fun h => by cases h) (fun _ => ?_)
  refine m_aload_n C (dOf DJ0_coder_7d493 2 rfl) rfl 0 rfl ?_
  refine m_sget C (dOf DJ0_coder_7d493 3 rfl) (hE.2.1.1 i hi).2.1 kj_coder ?_
  refine m_goto C (dOf DJ0_coder_7d493 4 rfl) (tgt := 14) rfl ?_
  exact m_nret C rfl (by decide) (dOf DJ0_coder_7d493 6 rfl) rfl
set_option maxRecDepth 100000 in
set_option maxHeartbeats 4000000 in
theorem c_isLatin1 (l : Launch) (G : Gx) (adK adV : Nat → Nat) (S : St) {i : Nat} (hi : i < 14) : Met l yJ0_isLatin1_aae02 (Cond.code yJ0_isLatin1_aae02 cJ0_isLatin1_aae02 1 (some .boolean) :: wAll) ({ frames := 0, cells := 0, slots := 0, locals := 0 } : Room) (va_Pc [.ref (adK i)] (wPreE G adK adV S)) (qI G (1, S)) 0 0 (wA G) := by
  refine m_startE (by decide +kernel) (Nat.le_of_ble_eq_true rfl) (fun X C hE => ?_)
  show WM X G 1 0 0 (wQ X G (qI G (1, S)) 0 0) 0 [(0, .ref (adK i))] [] S
  refine m_gets C (dOf DJ0_isLatin1_aae02 0 rfl) hE.2.2.1 kj_compact ?_
  refine m_ifeq (β := Unit) (A := none) (B := some ()) (o := ()) C (dOf DJ0_isLatin1_aae02 1 rfl) (tgt := 17) rfl (if_neg (by decide)) (fun h => by cases h) (fun _ => ?_)
  refine m_aload_n C (dOf DJ0_isLatin1_aae02 2 rfl) rfl 0 rfl ?_
  refine m_sget C (dOf DJ0_isLatin1_aae02 3 rfl) (hE.2.1.1 i hi).2.1 kj_coder ?_
  refine m_ifne (β := Unit) (A := some ()) (B := none) (o := ()) C (dOf DJ0_isLatin1_aae02 4 rfl) (tgt := 17) rfl (if_pos rfl) (fun h => by cases h) (fun _ => ?_)
  refine m_iconst C (dOf DJ0_isLatin1_aae02 5 rfl) (v := 1) ki_1 ?_
  refine m_goto C (dOf DJ0_isLatin1_aae02 6 rfl) (tgt := 18) rfl ?_
  exact m_nret C rfl (by decide) (dOf DJ0_isLatin1_aae02 8 rfl) rfl
set_option maxRecDepth 100000 in
set_option maxHeartbeats 4000000 in
theorem c_length (l : Launch) (G : Gx) (adK adV : Nat → Nat) (S : St) {i : Nat} (hi : i < 14) : Met l yJ0_length_8abf5 (Cond.code yJ0_length_8abf5 cJ0_length_8abf5 1 (some .int) :: wAll) ({ frames := 1, cells := 0, slots := 0, locals := 20 } : Room) (va_Pc [.ref (adK i)] (wPreE G adK adV S)) (qI G (Int32.ofNat (strL.getD i 0), S)) 0 0 (wA G) := by
  refine m_startE (by decide +kernel) (Nat.le_of_ble_eq_true rfl) (fun X C hE => ?_)
  show WM X G 1 0 0 (wQ X G (qI G (Int32.ofNat (strL.getD i 0), S)) 0 0) 0 [(0, .ref (adK i))] [] S
  refine m_aload_n C (dOf DJ0_length_8abf5 0 rfl) rfl 0 rfl ?_
  refine m_sget C (dOf DJ0_length_8abf5 1 rfl) (hE.2.1.1 i hi).2.2.1 kj_value ?_
  refine m_tlen C (dOf DJ0_length_8abf5 2 rfl) (hE.2.1.1 i hi).2.2.2 rfl ?_
  refine m_aload_n C (dOf DJ0_length_8abf5 3 rfl) rfl 0 rfl ?_
  refine m_afterI (st := [.int (Int32.ofNat (strL.getD i 0))]) (o' := (0, S)) (mc := 0) (ms := 0) (fun H locs ls hl hr hs => ⟨_, m_runVg C (dOf DJ0_length_8abf5 4 rfl) km_J0_335 ky_J0_coder_7d493 (by decide) ⟨rfl, rfl⟩ (c_coder _ G adK adV S hi) (pre_ofE C hE hr hs) (vk_recv hE.2.1 hi hs) rfl rfl (Nat.le_of_ble_eq_true rfl) ⟨Nat.le_refl _, Nat.le_refl _⟩ hl⟩) ?_
  refine m_ishrD C (dOf DJ0_length_8abf5 5 rfl) (str_sh i hi) ?_
  exact m_nret C rfl rfl (dOf DJ0_length_8abf5 6 rfl) rfl
set_option maxRecDepth 100000 in
set_option maxHeartbeats 4000000 in
theorem c_pcheck (l : Launch) (G : Gx) (adK adV : Nat → Nat) (S : St) {k z : Int32} {v : Value} (h0 : ¬ k < 0) (h1 : k < z) (hv : v.category = 1) : Met l yJ3_checkIndex_8e157 (Cond.code yJ3_checkIndex_8e157 cJ3_checkIndex_8e157 3 (some .int) :: wAll) ({ frames := 0, cells := 0, slots := 0, locals := 0 } : Room) (va_Pc [.int k, .int z, v] (wPreE G adK adV S)) (qI G (k, S)) 0 0 (wA G) := by
  refine m_startE (by decide +kernel) (by simp [lg_sl, hv, show (Value.int k).category = 1 from rfl, show (Value.int z).category = 1 from rfl]) (fun X C hE => ?_)
  have hlv : lv_args 0 [.int k, .int z, v] = [(0, .int k), (1, .int z), (2, v)] := by simp [lv_args, show (Value.int k).category = 1 from rfl, show (Value.int z).category = 1 from rfl]
  rw [hlv]
  show WM X G 3 0 0 (wQ X G (qI G (k, S)) 0 0) 0 [(0, .int k), (1, .int z), (2, v)] [] S
  refine m_iload_n C (dOf DJ3_checkIndex_8e157 0 rfl) rfl 0 rfl ?_
  refine m_iflt (β := Unit) (A := none) (B := some ()) (o := ()) C (dOf DJ3_checkIndex_8e157 1 rfl) (tgt := 9) rfl (if_neg h0) (fun h => by cases h) (fun _ => ?_)
  refine m_iload_n C (dOf DJ3_checkIndex_8e157 2 rfl) rfl 0 rfl ?_
  refine m_iload_n C (dOf DJ3_checkIndex_8e157 3 rfl) rfl 1 rfl ?_
  refine m_icmplt (β := Unit) (A := some ()) (B := none) (o := ()) C (dOf DJ3_checkIndex_8e157 4 rfl) (tgt := 16) rfl (if_pos h1) (fun _ => ?_) (fun h => by cases h)
  refine m_iload_n C (dOf DJ3_checkIndex_8e157 10 rfl) rfl 0 rfl ?_
  exact m_nret C rfl rfl (dOf DJ3_checkIndex_8e157 11 rfl) rfl
set_option maxRecDepth 100000 in
set_option maxHeartbeats 4000000 in
theorem c_scheck (l : Launch) (G : Gx) (adK adV : Nat → Nat) (S : St) {k z : Int32} (h0 : ¬ k < 0) (h1 : k < z) : Met l yJ0_checkIndex_df160 (Cond.code yJ0_checkIndex_df160 cJ0_checkIndex_df160 2 none :: wAll) ({ frames := 1, cells := 0, slots := 0, locals := 22 } : Room) (va_Pc [.int k, .int z] (wPreE G adK adV S)) (qV G S) 0 0 (wA G) := by
  refine m_startE (by decide +kernel) (Nat.le_of_ble_eq_true rfl) (fun X C hE => ?_)
  show WM X G 2 0 0 (wQ X G (qV G S) 0 0) 0 [(0, .int k), (1, .int z)] [] S
  refine m_iload_n C (dOf DJ0_checkIndex_df160 0 rfl) rfl 0 rfl ?_
  refine m_iload_n C (dOf DJ0_checkIndex_df160 1 rfl) rfl 1 rfl ?_
  rcases hE.2.2.2 with hZ | ⟨q, hZ⟩
  · refine m_gets C (dOf DJ0_checkIndex_df160 2 rfl) hZ kj_sioobe ?_
    refine m_afterI (st := []) (o' := (k, S)) (mc := 0) (ms := 0) (fun H locs ls hl hr hs => ⟨_, m_runSg C (dOf DJ0_checkIndex_df160 3 rfl) km_J0_1059 ks_J3_checkIndex_8e157 (by decide) ⟨rfl, rfl⟩ (c_pcheck _ G adK adV S h0 h1 rfl) (pre_ofE C hE hr hs) rfl rfl (Nat.le_of_ble_eq_true rfl) ⟨Nat.le_refl _, Nat.le_refl _⟩ hl⟩) ?_
    refine m_pop C (dOf DJ0_checkIndex_df160 4 rfl) rfl ?_
    exact m_vret C rfl (dOf DJ0_checkIndex_df160 5 rfl) rfl
  · refine m_gets C (dOf DJ0_checkIndex_df160 2 rfl) hZ kj_sioobe ?_
    refine m_afterI (st := []) (o' := (k, S)) (mc := 0) (ms := 0) (fun H locs ls hl hr hs => ⟨_, m_runSg C (dOf DJ0_checkIndex_df160 3 rfl) km_J0_1059 ks_J3_checkIndex_8e157 (by decide) ⟨rfl, rfl⟩ (c_pcheck _ G adK adV S h0 h1 rfl) (pre_ofE C hE hr hs) rfl rfl (Nat.le_of_ble_eq_true rfl) ⟨Nat.le_refl _, Nat.le_refl _⟩ hl⟩) ?_
    refine m_pop C (dOf DJ0_checkIndex_df160 4 rfl) rfl ?_
    exact m_vret C rfl (dOf DJ0_checkIndex_df160 5 rfl) rfl
set_option maxRecDepth 100000 in
set_option maxHeartbeats 4000000 in
theorem c_lchar (l : Launch) (G : Gx) (adK adV : Nat → Nat) (S : St) {i : Nat} {k : Int32} (hi : i < 14) (hk : vp_in k (strL.getD i 0)) : Met l yJ1_charAt_3b067 (Cond.code yJ1_charAt_3b067 cJ1_charAt_3b067 2 (some .char) :: wAll) ({ frames := 2, cells := 0, slots := 0, locals := 43 } : Room) (va_Pc [.ref (adV i), .int k] (wPreE G adK adV S)) (qI G (strC i k, S)) 0 0 (wA G) := by
  refine m_startE (by decide +kernel) (Nat.le_of_ble_eq_true rfl) (fun X C hE => ?_)
  show WM X G 2 0 0 (wQ X G (qI G (strC i k, S)) 0 0) 0 [(0, .ref (adV i)), (1, .int k)] [] S
  have hlt : k.toNatClampNeg < strL.getD i 0 := Nat.not_le.mp fun q => hk (Or.inr q)
  have hz := str_len i hi
  have hkn : k < Int32.ofNat (strL.getD i 0) := by
    obtain ⟨j, hj, e⟩ := vp_in_of hk (by omega)
    rw [e]
    exact nI_lt hj (by omega)
  refine m_iload_n C (dOf DJ1_charAt_3b067 0 rfl) rfl 1 rfl ?_
  refine m_aload_n C (dOf DJ1_charAt_3b067 1 rfl) rfl 0 rfl ?_
  refine m_tlen C (dOf DJ1_charAt_3b067 2 rfl) (hE.2.1.1 i hi).2.2.2 rfl ?_
  refine m_afterV (st := []) (o' := S) (mc := 0) (ms := 0) (fun H locs ls hl hr hs => ⟨_, m_runSg C (dOf DJ1_charAt_3b067 3 rfl) km_J1_9 ks_J0_checkIndex_df160 (by decide) ⟨rfl, rfl⟩ (c_scheck _ G adK adV S (fun q => hk (Or.inl q)) hkn) (pre_ofE C hE hr hs) rfl rfl (Nat.le_of_ble_eq_true rfl) ⟨Nat.le_refl _, Nat.le_refl _⟩ hl⟩) ?_
  refine m_aload_n C (dOf DJ1_charAt_3b067 4 rfl) rfl 0 rfl ?_
  refine m_iload_n C (dOf DJ1_charAt_3b067 5 rfl) rfl 1 rfl ?_
  refine m_tb C (dOf DJ1_charAt_3b067 6 rfl) (hE.2.1.1 i hi).2.2.2 hk rfl ?_
  refine m_sipush C (dOf DJ1_charAt_3b067 7 rfl) (v := 255) ks_255 ?_
  refine m_iandD C (dOf DJ1_charAt_3b067 8 rfl) ?_
  refine m_i2c C (dOf DJ1_charAt_3b067 9 rfl) (str_fit i hi _ (by omega)).1 ?_
  exact m_nret C rfl (str_fit i hi _ (by omega)).2 (dOf DJ1_charAt_3b067 10 rfl) rfl
set_option maxRecDepth 100000 in
set_option maxHeartbeats 4000000 in
theorem c_charAt (l : Launch) (G : Gx) (adK adV : Nat → Nat) (S : St) {i : Nat} {k : Int32} (hi : i < 14) (hk : vp_in k (strL.getD i 0)) : Met l yJ0_charAt_5068e (Cond.code yJ0_charAt_5068e cJ0_charAt_5068e 2 (some .char) :: wAll) ({ frames := 3, cells := 0, slots := 0, locals := 64 } : Room) (va_Pc [.ref (adK i), .int k] (wPreE G adK adV S)) (qI G (strC i k, S)) 0 0 (wA G) := by
  refine m_startE (by decide +kernel) (Nat.le_of_ble_eq_true rfl) (fun X C hE => ?_)
  show WM X G 2 0 0 (wQ X G (qI G (strC i k, S)) 0 0) 0 [(0, .ref (adK i)), (1, .int k)] [] S
  have hlt : k.toNatClampNeg < strL.getD i 0 := Nat.not_le.mp fun q => hk (Or.inr q)
  have hz := str_len i hi
  refine m_aload_n C (dOf DJ0_charAt_5068e 0 rfl) rfl 0 rfl ?_
  refine m_afterI (st := []) (o' := (1, S)) (mc := 0) (ms := 0) (fun H locs ls hl hr hs => ⟨_, m_runVg C (dOf DJ0_charAt_5068e 1 rfl) km_J0_492 ky_J0_isLatin1_aae02 (by decide) ⟨rfl, rfl⟩ (c_isLatin1 _ G adK adV S hi) (pre_ofE C hE hr hs) (vk_recv hE.2.1 hi hs) rfl rfl (Nat.le_of_ble_eq_true rfl) ⟨Nat.le_refl _, Nat.le_refl _⟩ hl⟩) ?_
  refine m_ifeq (x := 1) (β := Unit) (A := none) (B := some ()) (o := ()) C (dOf DJ0_charAt_5068e 2 rfl) (tgt := 16) rfl (if_neg (by decide)) (fun h => by cases h) (fun _ => ?_)
  refine m_aload_n C (dOf DJ0_charAt_5068e 3 rfl) rfl 0 rfl ?_
  refine m_sget C (dOf DJ0_charAt_5068e 4 rfl) (hE.2.1.1 i hi).2.2.1 kj_value ?_
  refine m_iload_n C (dOf DJ0_charAt_5068e 5 rfl) rfl 1 rfl ?_
  refine m_afterI (st := []) (o' := (strC i k, S)) (mc := 0) (ms := 0) (fun H locs ls hl hr hs => ⟨_, m_runSg C (dOf DJ0_charAt_5068e 6 rfl) km_J0_495 ks_J1_charAt_3b067 (by decide) ⟨rfl, rfl⟩ (c_lchar _ G adK adV S hi hk) (pre_ofE C hE hr hs) rfl rfl (Nat.le_of_ble_eq_true rfl) ⟨Nat.le_refl _, Nat.le_refl _⟩ hl⟩) ?_
  exact m_nret C rfl (str_fit i hi _ (by omega)).2 (dOf DJ0_charAt_5068e 7 rfl) rfl
/-- which text a verb has -/
def wIx (v : Int32) : Nat := if v = 0 then 0 else if v = 1 then 1 else if v = 2 then 2 else if v = 3 then 3 else if v = 4 then 4 else if v = 5 then 5 else if v = 6 then 6 else if v = 7 then 7 else if v = 8 then 8 else if v = 9 then 9 else if v = 10 then 10 else if v = 11 then 11 else if v = 12 then 12 else 13
theorem wIx_lt (v : Int32) : wIx v < 14 := by
  unfold wIx
  repeat' split
  all_goals decide
set_option maxRecDepth 100000 in
set_option maxHeartbeats 4000000 in
theorem c_X2_wordOf (l : Launch) (G : Gx) (adK adV : Nat → Nat) (S : St) (b0 : Nat) (p1 : Int32) : Met l yX2_wordOf (Cond.code yX2_wordOf cX2_wordOf 2 (some (.object "java/lang/String")) :: wAll) ({ frames := 0, cells := 0, slots := 0, locals := 0 } : Room) (va_Pc [.ref (G.1 + b0), .int p1] (wPreE G adK adV S)) (qT G adK (wIx p1) S) 0 0 (wA G) := by
  refine m_startE (by decide +kernel) (Nat.le_of_ble_eq_true rfl) (fun X C hE => ?_)
  show WM X G 2 0 0 (wQ X G (qT G adK (wIx p1) S) 0 0) 0 [(0, .ref (G.1 + b0)), (1, .int p1)] [] S
  refine m_iload_n C (dOf DX2_wordOf 0 rfl) rfl 1 rfl ?_
  by_cases n0 : p1 = 0
  · have e : wIx p1 = 0 := by subst n0; decide
    rw [e]
    refine m_tin C (dOf DX2_wordOf 1 rfl) 0 n0 (by decide) (by decide) (off := 67) rfl (tgt := 68) rfl ?_
    refine m_ldcS C (dOf DX2_wordOf 2 rfl) (hE.1 0 (by decide)) ?_
    exact m_tret (i := 0) C rfl (Or.inl ⟨_, rfl⟩) (dOf DX2_wordOf 3 rfl)
  by_cases n1 : p1 = 1
  · have e : wIx p1 = 1 := by subst n1; decide
    rw [e]
    refine m_tin C (dOf DX2_wordOf 1 rfl) 1 n1 (by decide) (by decide) (off := 70) rfl (tgt := 71) rfl ?_
    refine m_ldcS C (dOf DX2_wordOf 4 rfl) (hE.1 1 (by decide)) ?_
    exact m_tret (i := 1) C rfl (Or.inl ⟨_, rfl⟩) (dOf DX2_wordOf 5 rfl)
  by_cases n2 : p1 = 2
  · have e : wIx p1 = 2 := by subst n2; decide
    rw [e]
    refine m_tin C (dOf DX2_wordOf 1 rfl) 2 n2 (by decide) (by decide) (off := 73) rfl (tgt := 74) rfl ?_
    refine m_ldcS C (dOf DX2_wordOf 6 rfl) (hE.1 2 (by decide)) ?_
    exact m_tret (i := 2) C rfl (Or.inl ⟨_, rfl⟩) (dOf DX2_wordOf 7 rfl)
  by_cases n3 : p1 = 3
  · have e : wIx p1 = 3 := by subst n3; decide
    rw [e]
    refine m_tin C (dOf DX2_wordOf 1 rfl) 3 n3 (by decide) (by decide) (off := 76) rfl (tgt := 77) rfl ?_
    refine m_ldcS C (dOf DX2_wordOf 8 rfl) (hE.1 3 (by decide)) ?_
    exact m_tret (i := 3) C rfl (Or.inl ⟨_, rfl⟩) (dOf DX2_wordOf 9 rfl)
  by_cases n4 : p1 = 4
  · have e : wIx p1 = 4 := by subst n4; decide
    rw [e]
    refine m_tin C (dOf DX2_wordOf 1 rfl) 4 n4 (by decide) (by decide) (off := 79) rfl (tgt := 80) rfl ?_
    refine m_ldcS C (dOf DX2_wordOf 10 rfl) (hE.1 4 (by decide)) ?_
    exact m_tret (i := 4) C rfl (Or.inl ⟨_, rfl⟩) (dOf DX2_wordOf 11 rfl)
  by_cases n5 : p1 = 5
  · have e : wIx p1 = 5 := by subst n5; decide
    rw [e]
    refine m_tin C (dOf DX2_wordOf 1 rfl) 5 n5 (by decide) (by decide) (off := 82) rfl (tgt := 83) rfl ?_
    refine m_ldcS C (dOf DX2_wordOf 12 rfl) (hE.1 5 (by decide)) ?_
    exact m_tret (i := 5) C rfl (Or.inl ⟨_, rfl⟩) (dOf DX2_wordOf 13 rfl)
  by_cases n6 : p1 = 6
  · have e : wIx p1 = 6 := by subst n6; decide
    rw [e]
    refine m_tin C (dOf DX2_wordOf 1 rfl) 6 n6 (by decide) (by decide) (off := 85) rfl (tgt := 86) rfl ?_
    refine m_ldcS C (dOf DX2_wordOf 14 rfl) (hE.1 6 (by decide)) ?_
    exact m_tret (i := 6) C rfl (Or.inl ⟨_, rfl⟩) (dOf DX2_wordOf 15 rfl)
  by_cases n7 : p1 = 7
  · have e : wIx p1 = 7 := by subst n7; decide
    rw [e]
    refine m_tin C (dOf DX2_wordOf 1 rfl) 7 n7 (by decide) (by decide) (off := 88) rfl (tgt := 89) rfl ?_
    refine m_ldcS C (dOf DX2_wordOf 16 rfl) (hE.1 7 (by decide)) ?_
    exact m_tret (i := 7) C rfl (Or.inl ⟨_, rfl⟩) (dOf DX2_wordOf 17 rfl)
  by_cases n8 : p1 = 8
  · have e : wIx p1 = 8 := by subst n8; decide
    rw [e]
    refine m_tin C (dOf DX2_wordOf 1 rfl) 8 n8 (by decide) (by decide) (off := 91) rfl (tgt := 92) rfl ?_
    refine m_ldcS C (dOf DX2_wordOf 18 rfl) (hE.1 8 (by decide)) ?_
    exact m_tret (i := 8) C rfl (Or.inl ⟨_, rfl⟩) (dOf DX2_wordOf 19 rfl)
  by_cases n9 : p1 = 9
  · have e : wIx p1 = 9 := by subst n9; decide
    rw [e]
    refine m_tin C (dOf DX2_wordOf 1 rfl) 9 n9 (by decide) (by decide) (off := 94) rfl (tgt := 95) rfl ?_
    refine m_ldcS C (dOf DX2_wordOf 20 rfl) (hE.1 9 (by decide)) ?_
    exact m_tret (i := 9) C rfl (Or.inl ⟨_, rfl⟩) (dOf DX2_wordOf 21 rfl)
  by_cases n10 : p1 = 10
  · have e : wIx p1 = 10 := by subst n10; decide
    rw [e]
    refine m_tin C (dOf DX2_wordOf 1 rfl) 10 n10 (by decide) (by decide) (off := 97) rfl (tgt := 98) rfl ?_
    refine m_ldcS C (dOf DX2_wordOf 22 rfl) (hE.1 10 (by decide)) ?_
    exact m_tret (i := 10) C rfl (Or.inl ⟨_, rfl⟩) (dOf DX2_wordOf 23 rfl)
  by_cases n11 : p1 = 11
  · have e : wIx p1 = 11 := by subst n11; decide
    rw [e]
    refine m_tin C (dOf DX2_wordOf 1 rfl) 11 n11 (by decide) (by decide) (off := 100) rfl (tgt := 101) rfl ?_
    refine m_ldcS C (dOf DX2_wordOf 24 rfl) (hE.1 11 (by decide)) ?_
    exact m_tret (i := 11) C rfl (Or.inl ⟨_, rfl⟩) (dOf DX2_wordOf 25 rfl)
  by_cases n12 : p1 = 12
  · have e : wIx p1 = 12 := by subst n12; decide
    rw [e]
    refine m_tin C (dOf DX2_wordOf 1 rfl) 12 n12 (by decide) (by decide) (off := 103) rfl (tgt := 104) rfl ?_
    refine m_ldcS C (dOf DX2_wordOf 26 rfl) (hE.1 12 (by decide)) ?_
    exact m_tret (i := 12) C rfl (Or.inl ⟨_, rfl⟩) (dOf DX2_wordOf 27 rfl)
  have q0 := neT n0 kt_0
  have q1 := neT n1 kt_1
  have q2 := neT n2 kt_2
  have q3 := neT n3 kt_3
  have q4 := neT n4 kt_4
  have q5 := neT n5 kt_5
  have q6 := neT n6 kt_6
  have q7 := neT n7 kt_7
  have q8 := neT n8 kt_8
  have q9 := neT n9 kt_9
  have q10 := neT n10 kt_10
  have q11 := neT n11 kt_11
  have q12 := neT n12 kt_12
  have e : wIx p1 = 13 := by simp [wIx, n0, n1, n2, n3, n4, n5, n6, n7, n8, n9, n10, n11, n12]
  rw [e]
  refine m_tout C (dOf DX2_wordOf 1 rfl) (tgt := 107) (by omega) rfl ?_
  refine m_ldcS C (dOf DX2_wordOf 28 rfl) (hE.1 13 (by decide)) ?_
  exact m_tret (i := 13) C rfl (Or.inl ⟨_, rfl⟩) (dOf DX2_wordOf 29 rfl)
def ci_ {β : Type} (w : Nat) (x : Int32) (K : Int32 → Option β) : Option β := if ¬ (x < 0 ∨ strL.getD w 0 ≤ x.toNatClampNeg) then K (strC w x) else none
def f_X6_isThisWord (S : St) (b0 : Nat) (w : Nat) : Option Int32 :=
  gI_ S b0 6 4 fun v1 =>
  if v1 = 1 then
    gI_ S b0 6 7 fun v2 =>
    gI_ S b0 6 5 fun v3 =>
    lt_ (v2 - v3 : Int32) fun v4 =>
    if v4 = Int32.ofNat (strL.getD w 0) then
      lp_ (fun self (x : Int32) =>
        if Int32.ofNat (strL.getD w 0) ≤ x then
          rzP_ 1
        else
          gI_ S b0 6 5 fun v6 =>
          lt_ (v6 + x : Int32) fun v7 =>
          ck_ S b0 6 <| cP_ (f_X6_byteAt S b0 v7) fun v8 =>
          ci_ w x fun v9 =>
          if v8 = v9 then
            lt_ (x + 1) fun v10 =>
            self v10
          else
            rzP_ 0
      ) FU (0)
    else
      rzP_ 0
  else
    rzP_ 0
set_option maxRecDepth 100000 in
set_option maxHeartbeats 4000000 in
theorem c_X6_isThisWord (l : Launch) (G : Gx) (adK adV : Nat → Nat) (S : St) (b0 : Nat) {w : Nat} (hw : w < 14) (o : Int32) (h : f_X6_isThisWord S b0 w = some o) : Met l yX6_isThisWord (Cond.code yX6_isThisWord cX6_isThisWord 3 (some (.boolean)) :: wAll) ({ frames := 4, cells := 0, slots := 0, locals := 86 } : Room) (va_Pc [.ref (G.1 + b0), .ref (adK w)] (wPreE G adK adV S)) (qI G (o, S)) 0 0 (wA G) := by
  refine m_startE (by decide +kernel) (Nat.le_of_ble_eq_true rfl) (fun X C hE => ?_)
  show WM X G 3 0 0 (wQ X G (qI G (o, S)) 0 0) 0 [(0, .ref (G.1 + b0)), (1, .ref (adK w))] [] S
  unfold f_X6_isThisWord at h
  have ret0 : ∀ (lv : List (Nat × Value)), rzP_ 0 = some o → WM X G 3 0 0 (wQ X G (qI G (o, S)) 0 0) 24 lv [] S := by
    intro lv h
    refine m_iconst C (dOf DX6_isThisWord 12 rfl) (v := 0) ki_0 ?_
    exact m_zretP C rfl (dOf DX6_isThisWord 13 rfl) h
  refine m_aload_n C (dOf DX6_isThisWord 0 rfl) rfl 0 rfl ?_
  refine m_gI C (dOf DX6_isThisWord 1 rfl) kf_X6_22 fg_6_4 h (fun v1 h => ?_)
  refine m_iconst C (dOf DX6_isThisWord 2 rfl) (v := 1) ki_1 ?_
  refine m_icmpne C (dOf DX6_isThisWord 3 rfl) (tgt := 24) rfl h (fun h => ?_) (fun h => ?_)
  · exact ret0 _ h
  · refine m_aload_n C (dOf DX6_isThisWord 4 rfl) rfl 0 rfl ?_
    refine m_gI C (dOf DX6_isThisWord 5 rfl) kf_X6_46 fg_6_7 h (fun v2 h => ?_)
    refine m_aload_n C (dOf DX6_isThisWord 6 rfl) rfl 0 rfl ?_
    refine m_gI C (dOf DX6_isThisWord 7 rfl) kf_X6_60 fg_6_5 h (fun v3 h => ?_)
    refine m_isub C (dOf DX6_isThisWord 8 rfl) h (fun v4 h => ?_)
    refine m_aload_n C (dOf DX6_isThisWord 9 rfl) rfl 1 rfl ?_
    refine m_afterI (st := [.int v4]) (o' := (Int32.ofNat (strL.getD w 0), S)) (mc := 0) (ms := 0) (fun H locs ls hl hr hs => ⟨_, m_runVg C (dOf DX6_isThisWord 10 rfl) km_X6_78 ky_J0_length_8abf5 (by decide) ⟨rfl, rfl⟩ (c_length _ G adK adV S hw) (pre_ofE C hE hr hs) (vk_recv hE.2.1 hw hs) rfl rfl (Nat.le_of_ble_eq_true rfl) ⟨Nat.le_refl _, Nat.le_refl _⟩ hl⟩) ?_
    refine m_icmpeq C (dOf DX6_isThisWord 11 rfl) (tgt := 26) rfl h (fun h => ?_) (fun h => ?_)
    · refine m_iconst C (dOf DX6_isThisWord 14 rfl) (v := 0) ki_0 ?_
      refine m_istore_n C (dOf DX6_isThisWord 15 rfl) rfl (by decide) (lv' := [(2, .int 0), (0, .ref (G.1 + b0)), (1, .ref (adK w))]) rfl ?_
      refine m_sub [1, 2, 0] rfl (m_lp (J := fun (x : Int32) => WM X G 3 0 0 (wQ X G (qI G (o, S)) 0 0) 28 [(0, .ref (G.1 + b0)), (1, .ref (adK w)), (2, .int x)] [] S) h (fun self hself x h => ?_))
      refine m_iload_n C (dOf DX6_isThisWord 16 rfl) rfl 2 rfl ?_
      refine m_aload_n C (dOf DX6_isThisWord 17 rfl) rfl 1 rfl ?_
      refine m_afterI (st := [.int x]) (o' := (Int32.ofNat (strL.getD w 0), S)) (mc := 0) (ms := 0) (fun H locs ls hl hr hs => ⟨_, m_runVg C (dOf DX6_isThisWord 18 rfl) km_X6_78 ky_J0_length_8abf5 (by decide) ⟨rfl, rfl⟩ (c_length _ G adK adV S hw) (pre_ofE C hE hr hs) (vk_recv hE.2.1 hw hs) rfl rfl (Nat.le_of_ble_eq_true rfl) ⟨Nat.le_refl _, Nat.le_refl _⟩ hl⟩) ?_
      refine m_icmpge C (dOf DX6_isThisWord 19 rfl) (tgt := 62) rfl h (fun h => ?_) (fun h => ?_)
      · refine m_iconst C (dOf DX6_isThisWord 34 rfl) (v := 1) ki_1 ?_
        exact m_zretP C rfl (dOf DX6_isThisWord 35 rfl) h
      · refine m_aload_n C (dOf DX6_isThisWord 20 rfl) rfl 0 rfl ?_
        refine m_aload_n C (dOf DX6_isThisWord 21 rfl) rfl 0 rfl ?_
        refine m_gI C (dOf DX6_isThisWord 22 rfl) kf_X6_60 fg_6_5 h (fun v6 h => ?_)
        refine m_iload_n C (dOf DX6_isThisWord 23 rfl) rfl 2 rfl ?_
        refine m_iadd C (dOf DX6_isThisWord 24 rfl) h (fun v7 h => ?_)
        obtain ⟨hc, h⟩ := ck_spec h
        refine m_cP (st := []) h (fun o' ho H locs ls hl hr hs => ⟨_, m_runV C (dOf DX6_isThisWord 25 rfl) km_X6_52 ky_X6_byteAt (by decide) ⟨rfl, rfl⟩ (c_X6_byteAt _ G _ _ _ o' ho) hc.1 hc.2 (by decide) rfl rfl rfl (Nat.le_of_ble_eq_true rfl) ⟨Nat.le_refl _, Nat.le_refl _⟩ hl hr hs⟩) (fun v8 h => ?_)
        refine m_aload_n C (dOf DX6_isThisWord 26 rfl) rfl 1 rfl ?_
        refine m_iload_n C (dOf DX6_isThisWord 27 rfl) rfl 2 rfl ?_
        unfold ci_ at h
        split at h
        · next hin =>
          refine m_afterI (st := [.int v8]) (o' := (strC w x, S)) (mc := 0) (ms := 0) (fun H locs ls hl hr hs => ⟨_, m_runVg C (dOf DX6_isThisWord 28 rfl) km_X6_83 ky_J0_charAt_5068e (by decide) ⟨rfl, rfl⟩ (c_charAt _ G adK adV S hw hin) (pre_ofE C hE hr hs) (vk_recv hE.2.1 hw hs) rfl rfl (Nat.le_of_ble_eq_true rfl) ⟨Nat.le_refl _, Nat.le_refl _⟩ hl⟩) ?_
          refine m_icmpeq C (dOf DX6_isThisWord 29 rfl) (tgt := 56) rfl h (fun h => ?_) (fun h => ?_)
          · refine m_iinc C (dOf DX6_isThisWord 32 rfl) (w := 1) ki_1 2 rfl (by decide) h (fun v10 h => ⟨[(2, .int v10), (0, .ref (G.1 + b0)), (1, .ref (adK w))], rfl, ?_⟩)
            refine m_goto C (dOf DX6_isThisWord 33 rfl) (tgt := 28) rfl ?_
            exact m_sub [1, 2, 0] rfl (hself _ h)
          · refine m_iconst C (dOf DX6_isThisWord 30 rfl) (v := 0) ki_0 ?_
            exact m_zretP C rfl (dOf DX6_isThisWord 31 rfl) h
        · cases h
    · exact ret0 _ h
  
def f_X2_verbHere (S : St) (b0 : Nat) (b1 : Nat) (p2 : Int32) (p3 : Int32) : Option Int32 :=
  lp_ (fun self (x : Int32) =>
    if p3 < x then
      rt_ (-1)
    else
      ck_ S b0 2 <| ck_ S b1 6 <| cP_ (f_X6_isThisWord S b1 (wIx x)) fun v2 =>
      if v2 = 0 then
        lt_ (x + 1) fun v3 =>
        self v3
      else
        rt_ x
  ) FU (p2)
set_option maxRecDepth 100000 in
set_option maxHeartbeats 4000000 in
theorem c_X2_verbHere (l : Launch) (G : Gx) (S : St) (b0 : Nat) (b1 : Nat) (p2 : Int32) (p3 : Int32) (o : Int32) (h : f_X2_verbHere S b0 b1 p2 p3 = some o) : Met l yX2_verbHere (Cond.code yX2_verbHere cX2_verbHere 5 (some (.int)) :: wAll) ({ frames := 6, cells := 0, slots := 0, locals := 140 } : Room) (va_Pc [.ref (G.1 + b0), .ref (G.1 + b1), .int p2, .int p3] (wPre G S)) (qI G (o, S)) 0 0 (wA G) := by
  refine m_start (by decide +kernel) (Nat.le_of_ble_eq_true rfl) (fun X C => ?_)
  unfold f_X2_verbHere at h
  obtain ⟨adK, adV, hE⟩ := C.hS
  show WM X G 5 0 0 (wQ X G (qI G (o, S)) 0 0) 0 [(0, .ref (G.1 + b0)), (1, .ref (G.1 + b1)), (2, .int p2), (3, .int p3)] [] S
  refine m_iload_n C (dOf DX2_verbHere 0 rfl) rfl 2 rfl ?_
  refine m_istore C (dOf DX2_verbHere 1 rfl) (by decide) (lv' := [(4, .int p2), (0, .ref (G.1 + b0)), (1, .ref (G.1 + b1)), (2, .int p2), (3, .int p3)]) rfl ?_
  refine m_sub [1, 2, 4, 0] rfl (m_lp (J := fun (x : Int32) => WM X G 5 0 0 (wQ X G (qI G (o, S)) 0 0) 3 [(0, .ref (G.1 + b0)), (1, .ref (G.1 + b1)), (3, .int p3), (4, .int x)] [] S) h (fun self hself x h => ?_))
  refine m_iload C (dOf DX2_verbHere 2 rfl) 3 rfl ?_
  refine m_iload_n C (dOf DX2_verbHere 3 rfl) rfl 2 rfl ?_
  refine m_icmpgt C (dOf DX2_verbHere 4 rfl) (tgt := 31) rfl h (fun h => ?_) (fun h => ?_)
  · refine m_iconst C (dOf DX2_verbHere 15 rfl) (v := (-1)) ki_m1 ?_
    exact m_iretP C rfl (dOf DX2_verbHere 16 rfl) h
  · refine m_aload_n C (dOf DX2_verbHere 5 rfl) rfl 1 rfl ?_
    refine m_aload_n C (dOf DX2_verbHere 6 rfl) rfl 0 rfl ?_
    refine m_iload C (dOf DX2_verbHere 7 rfl) 3 rfl ?_
    obtain ⟨hc, h⟩ := ck_spec h
    refine m_afterT (st := [.ref (G.1 + b1)]) (adK := adK) (i := wIx x) (S' := S) (mc := 0) (ms := 0) (fun H locs ls hl hr hs => ⟨_, m_runVg C (dOf DX2_verbHere 8 rfl) km_X2_69 ky_X2_wordOf (by decide) ⟨rfl, rfl⟩ (c_X2_wordOf _ G adK adV S b0 x) (pre_ofE C hE hr hs) (va_recv C.hK (obj_at hr hc.1 hc.2 (by decide)) (ci := 2) (q0 := 0) (cl_get (by decide)) rfl) rfl rfl (Nat.le_of_ble_eq_true rfl) ⟨Nat.le_refl _, Nat.le_refl _⟩ hl⟩) ?_
    obtain ⟨hc, h⟩ := ck_spec h
    refine m_cP (st := []) h (fun o' ho H locs ls hl hr hs => ⟨_, m_runVg C (dOf DX2_verbHere 9 rfl) km_X2_73 ky_X6_isThisWord (by decide) ⟨rfl, rfl⟩ (c_X6_isThisWord _ G adK adV S b1 (wIx_lt x) o' ho) (pre_ofE C hE hr hs) (va_recv C.hK (obj_at hr hc.1 hc.2 (by decide)) (ci := 6) (q0 := 0) (cl_get (by decide)) rfl) rfl rfl (Nat.le_of_ble_eq_true rfl) ⟨Nat.le_refl _, Nat.le_refl _⟩ hl⟩) (fun v2 h => ?_)
    refine m_ifeq C (dOf DX2_verbHere 10 rfl) (tgt := 25) rfl h (fun h => ?_) (fun h => ?_)
    · refine m_iinc C (dOf DX2_verbHere 13 rfl) (w := 1) ki_1 3 rfl (by decide) h (fun v3 h => ⟨[(4, .int v3), (0, .ref (G.1 + b0)), (1, .ref (G.1 + b1)), (3, .int p3)], rfl, ?_⟩)
      refine m_goto C (dOf DX2_verbHere 14 rfl) (tgt := 3) rfl ?_
      exact m_sub [1, 2, 3, 0] rfl (hself _ h)
    · refine m_iload C (dOf DX2_verbHere 11 rfl) 3 rfl ?_
      exact m_iretP C rfl (dOf DX2_verbHere 12 rfl) h
