-- KingPrices$Story.copyFrom(LKingPrices$Story;)V height 1 writes
def f_X2_copyFrom (S : zS) (r : Nat) (q : Nat) : Option zS :=
  some (zu (zr S (r + 1) (va_cpy (S.1 (q + 1)) (S.1 (r + 1)) 0 0 308)) r 1 ((zr S (r + 1) (va_cpy (S.1 (q + 1)) (S.1 (r + 1)) 0 0 308)).1 q 1))
set_option maxRecDepth 100000 in
set_option maxHeartbeats 4000000 in
theorem c_X2_copyFrom {W : zS → List va_E} {r : Nat} {q : Nat} (hT : zStory W r) (hU : zStory W q) (d : Nat) (hd : 1 ≤ d) (S : zS) (S' : zS) (hf : f_X2_copyFrom S r q = (some S')) : zC d yX2_copyFrom cX2_copyFrom 2 none [.ref r, .ref q] (W S) (zq none (W S')) := by
  obtain ⟨d, rfl⟩ : ∃ e, d = e + 1 := ⟨d - 1, by omega⟩
  refine zC_intro (by decide) rfl (Nat.le_of_ble_eq_true rfl) ?_
  unfold f_X2_copyFrom at hf
  refine zv_aload_n dX2_copyFrom_0 rfl rfl ?_
  refine zv_get zf_X2_9 (hU.1 S) rfl dX2_copyFrom_1 ?_
  refine zv_iconst (v := 0) dX2_copyFrom_4 (by decide) ?_
  refine zv_aload_n dX2_copyFrom_5 rfl rfl ?_
  refine zv_get zf_X2_9 (hT.1 S) rfl dX2_copyFrom_6 ?_
  refine zv_iconst (v := 0) dX2_copyFrom_9 (by decide) ?_
  refine zv_aload_n dX2_copyFrom_10 rfl rfl ?_
  refine zv_get zf_X2_9 (hT.1 S) rfl dX2_copyFrom_11 ?_
  refine zv_alen (v := 308) (t := 0) (by decide) (by decide) (hT.2.2.1 S) dX2_copyFrom_14 ?_
  refine zv_copyK (k0 := 0) (k1 := 0) (k2 := 308) (by decide) (by decide) (by decide) (by unfold zcpy; decide) zk_X2_53 (hU.2.2.1 S) (hT.2.2.1 S) (hT.2.2.2 S (va_cpy (S.1 (q + 1)) (S.1 (r + 1)) 0 0 308)) (Nat.le_of_ble_eq_true rfl) dX2_copyFrom_15 ?_
  refine zv_aload_n dX2_copyFrom_18 rfl rfl ?_
  refine zv_aload_n dX2_copyFrom_19 rfl rfl ?_
  refine zv_get zf_X2_21 (hU.1 (zr S (r + 1) (va_cpy (S.1 (q + 1)) (S.1 (r + 1)) 0 0 308))) rfl dX2_copyFrom_20 ?_
  refine zv_put zp_X2_21 (hT.1 (zr S (r + 1) (va_cpy (S.1 (q + 1)) (S.1 (r + 1)) 0 0 308))) rfl (fun _ => ⟨rfl, rfl⟩) (Nat.le_of_ble_eq_true rfl) (hT.2.1 (zr S (r + 1) (va_cpy (S.1 (q + 1)) (S.1 (r + 1)) 0 0 308)) ((zr S (r + 1) (va_cpy (S.1 (q + 1)) (S.1 (r + 1)) 0 0 308)).1 q 1)) dX2_copyFrom_23 ?_
  exact zv_vret dX2_copyFrom_26 rfl (zret0 W hf)
-- KingPrices$Story.get(I)I height 0 reads
def f_X2_get (S : zS) (r : Nat) (a1 : Int32) : Option Int32 :=
  (if a1 < (0 : Int32) then some ((0 : Int32)) else (if (28 : Int32) ≤ a1 then some ((0 : Int32)) else (if zin a1 308 then some ((S.1 (r + 1) (a1).toNatClampNeg)) else none)))
set_option maxRecDepth 100000 in
set_option maxHeartbeats 4000000 in
theorem c_X2_get {W : zS → List va_E} {r : Nat} (hT : zStory W r) (d : Nat) (S : zS) (a1 : Int32) (v : Int32) (hf : f_X2_get S r a1 = (some v)) : zC d yX2_get cX2_get 2 (some .int) [.ref r, .int a1] (W S) (zq (some (.int v)) (W S)) := by
  refine zC_intro (by decide) rfl (Nat.le_of_ble_eq_true rfl) ?_
  unfold f_X2_get at hf
  refine zv_iconst (v := 0) dX2_get_0 (by decide) ?_
  refine zv_iload_n dX2_get_1 rfl rfl ?_
  refine zv_icmp_gt (tgt := 20) dX2_get_2 (by decide) (fun c1 => ?_) (fun c1 => ?_)
  · replace hf := (if_pos c1).symm.trans hf
    refine zv_iconst (v := 0) dX2_get_20 (by decide) ?_
    exact zv_iret (ty := .int) dX2_get_21 rfl rfl (zret1 hf)
  · replace hf := (if_neg c1).symm.trans hf
    refine zv_iload_n dX2_get_5 rfl rfl ?_
    refine zv_bipush (v := 28) dX2_get_6 (by decide) ?_
    refine zv_icmp_ge (tgt := 20) dX2_get_8 (by decide) (fun c2 => ?_) (fun c2 => ?_)
    · replace hf := (if_pos c2).symm.trans hf
      refine zv_iconst (v := 0) dX2_get_20 (by decide) ?_
      exact zv_iret (ty := .int) dX2_get_21 rfl rfl (zret1 hf)
    · replace hf := (if_neg c2).symm.trans hf
      refine zv_aload_n dX2_get_11 rfl rfl ?_
      refine zv_get zf_X2_9 (hT.1 S) rfl dX2_get_12 ?_
      refine zv_iload_n dX2_get_15 rfl rfl ?_
      obtain ⟨hb3, hf⟩ := zifb hf
      refine zv_iald hb3 (hT.2.2.1 S) dX2_get_16 ?_
      refine zv_goto (tgt := 21) dX2_get_17 (by decide) ?_
      exact zv_iret (ty := .int) dX2_get_21 rfl rfl (zret1 hf)
-- KingPrices.isWithin(III)Z height 0 reads
def f_X5_isWithin (a0 : Int32) (a1 : Int32) (a2 : Int32) : Option Int32 :=
  (if a0 < a1 then some ((0 : Int32)) else (if a2 < a0 then some ((0 : Int32)) else some ((1 : Int32))))
set_option maxRecDepth 100000 in
set_option maxHeartbeats 4000000 in
theorem c_X5_isWithin {h : List va_E} (d : Nat) (a0 : Int32) (a1 : Int32) (a2 : Int32) (v : Int32) (hf : f_X5_isWithin a0 a1 a2 = (some v)) : zC d yX5_isWithin cX5_isWithin 3 (some .boolean) [.int a0, .int a1, .int a2] h (zq (some (.int v)) h) := by
  refine zC_intro (by decide) rfl (Nat.le_of_ble_eq_true rfl) ?_
  unfold f_X5_isWithin at hf
  refine zv_iload_n dX5_isWithin_0 rfl rfl ?_
  refine zv_iload_n dX5_isWithin_1 rfl rfl ?_
  refine zv_icmp_gt (tgt := 14) dX5_isWithin_2 (by decide) (fun c1 => ?_) (fun c1 => ?_)
  · replace hf := (if_pos c1).symm.trans hf
    refine zv_iconst (v := 0) dX5_isWithin_14 (by decide) ?_
    exact zv_iret (ty := .boolean) dX5_isWithin_15 rfl rfl (zret1 hf)
  · replace hf := (if_neg c1).symm.trans hf
    refine zv_iload_n dX5_isWithin_5 rfl rfl ?_
    refine zv_iload_n dX5_isWithin_6 rfl rfl ?_
    refine zv_icmp_gt (tgt := 14) dX5_isWithin_7 (by decide) (fun c2 => ?_) (fun c2 => ?_)
    · replace hf := (if_pos c2).symm.trans hf
      refine zv_iconst (v := 0) dX5_isWithin_14 (by decide) ?_
      exact zv_iret (ty := .boolean) dX5_isWithin_15 rfl rfl (zret1 hf)
    · replace hf := (if_neg c2).symm.trans hf
      refine zv_iconst (v := 1) dX5_isWithin_10 (by decide) ?_
      refine zv_goto (tgt := 15) dX5_isWithin_11 (by decide) ?_
      exact zv_iret (ty := .boolean) dX5_isWithin_15 rfl rfl (zret1 hf)
-- KingPrices$Land.knows(I)Z height 0 reads
def f_X0_knows (S : zS) (r : Nat) (a1 : Int32) : Option Int32 :=
  (if a1 < (0 : Int32) then some ((0 : Int32)) else (if (S.1 r 6) ≤ a1 then some ((0 : Int32)) else (if (6 : Int32) ≤ a1 then some ((0 : Int32)) else some ((1 : Int32)))))
set_option maxRecDepth 100000 in
set_option maxHeartbeats 4000000 in
theorem c_X0_knows {W : zS → List va_E} {r : Nat} (hL : zLand W r) (d : Nat) (S : zS) (a1 : Int32) (v : Int32) (hf : f_X0_knows S r a1 = (some v)) : zC d yX0_knows cX0_knows 2 (some .boolean) [.ref r, .int a1] (W S) (zq (some (.int v)) (W S)) := by
  refine zC_intro (by decide) rfl (Nat.le_of_ble_eq_true rfl) ?_
  unfold f_X0_knows at hf
  refine zv_iconst (v := 0) dX0_knows_0 (by decide) ?_
  refine zv_iload_n dX0_knows_1 rfl rfl ?_
  refine zv_icmp_gt (tgt := 23) dX0_knows_2 (by decide) (fun c1 => ?_) (fun c1 => ?_)
  · replace hf := (if_pos c1).symm.trans hf
    refine zv_iconst (v := 0) dX0_knows_23 (by decide) ?_
    exact zv_iret (ty := .boolean) dX0_knows_24 rfl rfl (zret1 hf)
  · replace hf := (if_neg c1).symm.trans hf
    refine zv_iload_n dX0_knows_5 rfl rfl ?_
    refine zv_aload_n dX0_knows_6 rfl rfl ?_
    refine zv_get zf_X0_33 (hL.1 S) rfl dX0_knows_7 ?_
    refine zv_icmp_ge (tgt := 23) dX0_knows_10 (by decide) (fun c2 => ?_) (fun c2 => ?_)
    · replace hf := (if_pos c2).symm.trans hf
      refine zv_iconst (v := 0) dX0_knows_23 (by decide) ?_
      exact zv_iret (ty := .boolean) dX0_knows_24 rfl rfl (zret1 hf)
    · replace hf := (if_neg c2).symm.trans hf
      refine zv_iload_n dX0_knows_13 rfl rfl ?_
      refine zv_bipush (v := 6) dX0_knows_14 (by decide) ?_
      refine zv_icmp_ge (tgt := 23) dX0_knows_16 (by decide) (fun c3 => ?_) (fun c3 => ?_)
      · replace hf := (if_pos c3).symm.trans hf
        refine zv_iconst (v := 0) dX0_knows_23 (by decide) ?_
        exact zv_iret (ty := .boolean) dX0_knows_24 rfl rfl (zret1 hf)
      · replace hf := (if_neg c3).symm.trans hf
        refine zv_iconst (v := 1) dX0_knows_19 (by decide) ?_
        refine zv_goto (tgt := 24) dX0_knows_20 (by decide) ?_
        exact zv_iret (ty := .boolean) dX0_knows_24 rfl rfl (zret1 hf)
-- KingPrices$Land.daysBetween(II)I height 1 reads
def f_X0_daysBetween (S : zS) (r : Nat) (a1 : Int32) (a2 : Int32) : Option Int32 :=
  ((f_X0_knows S r a1).bind (fun x2 => (if x2 = 0 then some ((-9 : Int32)) else ((f_X0_knows S r a2).bind (fun x5 => (if x5 = 0 then some ((-9 : Int32)) else (if zin ((a1 * (6 : Int32)) + a2) 36 then (if (S.1 (r + 4) (((a1 * (6 : Int32)) + a2)).toNatClampNeg) < (1000 : Int32) then some ((S.1 (r + 4) (((a1 * (6 : Int32)) + a2)).toNatClampNeg)) else some ((-9 : Int32))) else none)))))))
set_option maxRecDepth 100000 in
set_option maxHeartbeats 4000000 in
theorem c_X0_daysBetween {W : zS → List va_E} {r : Nat} (hL : zLand W r) (d : Nat) (hd : 1 ≤ d) (S : zS) (a1 : Int32) (a2 : Int32) (v : Int32) (hf : f_X0_daysBetween S r a1 a2 = (some v)) : zC d yX0_daysBetween cX0_daysBetween 4 (some .int) [.ref r, .int a1, .int a2] (W S) (zq (some (.int v)) (W S)) := by
  obtain ⟨d, rfl⟩ : ∃ e, d = e + 1 := ⟨d - 1, by omega⟩
  refine zC_intro (by decide) rfl (Nat.le_of_ble_eq_true rfl) ?_
  unfold f_X0_daysBetween at hf
  refine zv_aload_n dX0_daysBetween_0 rfl rfl ?_
  refine zv_iload_n dX0_daysBetween_1 rfl rfl ?_
  obtain ⟨x2, hc1, hf⟩ := zbind hf
  refine zv_callV dX0_daysBetween_2 zk_X0_58 zm_X0_knows (c_X0_knows hL d S a1 x2 hc1) (hL.1 S) rfl rfl rfl (Nat.le_of_ble_eq_true rfl) ?_
  refine zv_if_eq (tgt := 16) dX0_daysBetween_5 (by decide) (fun c3 => ?_) (fun c3 => ?_)
  · replace hf := (if_pos c3).symm.trans hf
    refine zv_bipush (v := -9) dX0_daysBetween_16 (by decide) ?_
    exact zv_iret (ty := .int) dX0_daysBetween_18 rfl rfl (zret1 hf)
  · replace hf := (if_neg c3).symm.trans hf
    refine zv_aload_n dX0_daysBetween_8 rfl rfl ?_
    refine zv_iload_n dX0_daysBetween_9 rfl rfl ?_
    obtain ⟨x5, hc4, hf⟩ := zbind hf
    refine zv_callV dX0_daysBetween_10 zk_X0_58 zm_X0_knows (c_X0_knows hL d S a2 x5 hc4) (hL.1 S) rfl rfl rfl (Nat.le_of_ble_eq_true rfl) ?_
    refine zv_if_ne (tgt := 19) dX0_daysBetween_13 (by decide) (fun c6 => ?_) (fun c6 => ?_)
    · replace hf := (if_neg c6).symm.trans hf
      refine zv_aload_n dX0_daysBetween_19 rfl rfl ?_
      refine zv_get zf_X0_21 (hL.1 S) rfl dX0_daysBetween_20 ?_
      refine zv_iload_n dX0_daysBetween_23 rfl rfl ?_
      refine zv_bipush (v := 6) dX0_daysBetween_24 (by decide) ?_
      refine zv_imul dX0_daysBetween_26 ?_
      refine zv_iload_n dX0_daysBetween_27 rfl rfl ?_
      refine zv_iadd dX0_daysBetween_28 ?_
      obtain ⟨hb7, hf⟩ := zifb hf
      refine zv_iald hb7 (hL.a4 S) dX0_daysBetween_29 ?_
      refine zv_istore_n dX0_daysBetween_30 rfl (by decide) ?_
      refine zv_iload_n dX0_daysBetween_31 rfl rfl ?_
      refine zv_sipush (v := 1000) dX0_daysBetween_32 (by decide) ?_
      refine zv_icmp_lt (tgt := 43) dX0_daysBetween_35 (by decide) (fun c8 => ?_) (fun c8 => ?_)
      · replace hf := (if_pos c8).symm.trans hf
        refine zv_iload_n dX0_daysBetween_43 rfl rfl ?_
        exact zv_iret (ty := .int) dX0_daysBetween_44 rfl rfl (zret1 hf)
      · replace hf := (if_neg c8).symm.trans hf
        refine zv_bipush (v := -9) dX0_daysBetween_38 (by decide) ?_
        refine zv_goto (tgt := 44) dX0_daysBetween_40 (by decide) ?_
        exact zv_iret (ty := .int) dX0_daysBetween_44 rfl rfl (zret1 hf)
    · replace hf := (if_pos c6).symm.trans hf
      refine zv_bipush (v := -9) dX0_daysBetween_16 (by decide) ?_
      exact zv_iret (ty := .int) dX0_daysBetween_18 rfl rfl (zret1 hf)
-- java/lang/Integer.bitCount(I)I height 0 reads
def f_J6_bitCount_0f7a4_48 (a0 : Int32) : Option Int32 :=
  some ((a0 &&& (63 : Int32)))
set_option maxRecDepth 100000 in
set_option maxHeartbeats 4000000 in
theorem v_J6_bitCount_0f7a4_48 {h : List va_E} (d : Nat) (a0 : Int32) (v : Int32) (hf : f_J6_bitCount_0f7a4_48 a0 = (some v)) : zV none d yJ6_bitCount_0f7a4 cJ6_bitCount_0f7a4 1 (some .int) 48 [(0, .int a0)] [] h (zq (some (.int v)) h) := by
  unfold f_J6_bitCount_0f7a4_48 at hf
  refine zv_iload_n dJ6_bitCount_0f7a4_48 rfl rfl ?_
  refine zv_bipush (v := 63) dJ6_bitCount_0f7a4_49 (by decide) ?_
  refine zv_iand dJ6_bitCount_0f7a4_51 ?_
  exact zv_iret (ty := .int) dJ6_bitCount_0f7a4_52 rfl rfl (zret1 hf)
def f_J6_bitCount_0f7a4_41 (a0 : Int32) : Option Int32 :=
  f_J6_bitCount_0f7a4_48 (a0 + ((a0).toUInt32 >>> (((16 : Int32)).toUInt32 &&& Int32.toUInt32 31)).toInt32)
set_option maxRecDepth 100000 in
set_option maxHeartbeats 4000000 in
theorem v_J6_bitCount_0f7a4_41 {h : List va_E} (d : Nat) (a0 : Int32) (v : Int32) (hf : f_J6_bitCount_0f7a4_41 a0 = (some v)) : zV none d yJ6_bitCount_0f7a4 cJ6_bitCount_0f7a4 1 (some .int) 41 [(0, .int a0)] [] h (zq (some (.int v)) h) := by
  unfold f_J6_bitCount_0f7a4_41 at hf
  refine zv_iload_n dJ6_bitCount_0f7a4_41 rfl rfl ?_
  refine zv_iload_n dJ6_bitCount_0f7a4_42 rfl rfl ?_
  refine zv_bipush (v := 16) dJ6_bitCount_0f7a4_43 (by decide) ?_
  refine zv_iushr dJ6_bitCount_0f7a4_45 ?_
  refine zv_iadd dJ6_bitCount_0f7a4_46 ?_
  refine zv_istore_n dJ6_bitCount_0f7a4_47 rfl (by decide) ?_
  exact zV_sub ([(0, .int (a0 + ((a0).toUInt32 >>> (((16 : Int32)).toUInt32 &&& Int32.toUInt32 31)).toInt32))]) ⟨rfl, trivial⟩ (v_J6_bitCount_0f7a4_48 d (a0 + ((a0).toUInt32 >>> (((16 : Int32)).toUInt32 &&& Int32.toUInt32 31)).toInt32) _ hf)
def f_J6_bitCount_0f7a4_34 (a0 : Int32) : Option Int32 :=
  f_J6_bitCount_0f7a4_41 (a0 + ((a0).toUInt32 >>> (((8 : Int32)).toUInt32 &&& Int32.toUInt32 31)).toInt32)
set_option maxRecDepth 100000 in
set_option maxHeartbeats 4000000 in
theorem v_J6_bitCount_0f7a4_34 {h : List va_E} (d : Nat) (a0 : Int32) (v : Int32) (hf : f_J6_bitCount_0f7a4_34 a0 = (some v)) : zV none d yJ6_bitCount_0f7a4 cJ6_bitCount_0f7a4 1 (some .int) 34 [(0, .int a0)] [] h (zq (some (.int v)) h) := by
  unfold f_J6_bitCount_0f7a4_34 at hf
  refine zv_iload_n dJ6_bitCount_0f7a4_34 rfl rfl ?_
  refine zv_iload_n dJ6_bitCount_0f7a4_35 rfl rfl ?_
  refine zv_bipush (v := 8) dJ6_bitCount_0f7a4_36 (by decide) ?_
  refine zv_iushr dJ6_bitCount_0f7a4_38 ?_
  refine zv_iadd dJ6_bitCount_0f7a4_39 ?_
  refine zv_istore_n dJ6_bitCount_0f7a4_40 rfl (by decide) ?_
  exact zV_sub ([(0, .int (a0 + ((a0).toUInt32 >>> (((8 : Int32)).toUInt32 &&& Int32.toUInt32 31)).toInt32))]) ⟨rfl, trivial⟩ (v_J6_bitCount_0f7a4_41 d (a0 + ((a0).toUInt32 >>> (((8 : Int32)).toUInt32 &&& Int32.toUInt32 31)).toInt32) _ hf)
def f_J6_bitCount_0f7a4_24 (a0 : Int32) : Option Int32 :=
  f_J6_bitCount_0f7a4_34 ((a0 + ((a0).toUInt32 >>> (((4 : Int32)).toUInt32 &&& Int32.toUInt32 31)).toInt32) &&& (252645135 : Int32))
set_option maxRecDepth 100000 in
set_option maxHeartbeats 4000000 in
theorem v_J6_bitCount_0f7a4_24 {h : List va_E} (d : Nat) (a0 : Int32) (v : Int32) (hf : f_J6_bitCount_0f7a4_24 a0 = (some v)) : zV none d yJ6_bitCount_0f7a4 cJ6_bitCount_0f7a4 1 (some .int) 24 [(0, .int a0)] [] h (zq (some (.int v)) h) := by
  unfold f_J6_bitCount_0f7a4_24 at hf
  refine zv_iload_n dJ6_bitCount_0f7a4_24 rfl rfl ?_
  refine zv_iload_n dJ6_bitCount_0f7a4_25 rfl rfl ?_
  refine zv_iconst (v := 4) dJ6_bitCount_0f7a4_26 (by decide) ?_
  refine zv_iushr dJ6_bitCount_0f7a4_27 ?_
  refine zv_iadd dJ6_bitCount_0f7a4_28 ?_
  refine zv_ldcw rfl zcn_J6_267 dJ6_bitCount_0f7a4_29 ?_
  refine zv_iand dJ6_bitCount_0f7a4_32 ?_
  refine zv_istore_n dJ6_bitCount_0f7a4_33 rfl (by decide) ?_
  exact zV_sub ([(0, .int ((a0 + ((a0).toUInt32 >>> (((4 : Int32)).toUInt32 &&& Int32.toUInt32 31)).toInt32) &&& (252645135 : Int32)))]) ⟨rfl, trivial⟩ (v_J6_bitCount_0f7a4_34 d ((a0 + ((a0).toUInt32 >>> (((4 : Int32)).toUInt32 &&& Int32.toUInt32 31)).toInt32) &&& (252645135 : Int32)) _ hf)
def f_J6_bitCount_0f7a4_10 (a0 : Int32) : Option Int32 :=
  f_J6_bitCount_0f7a4_24 ((a0 &&& (858993459 : Int32)) + (((a0).toUInt32 >>> (((2 : Int32)).toUInt32 &&& Int32.toUInt32 31)).toInt32 &&& (858993459 : Int32)))
set_option maxRecDepth 100000 in
set_option maxHeartbeats 4000000 in
theorem v_J6_bitCount_0f7a4_10 {h : List va_E} (d : Nat) (a0 : Int32) (v : Int32) (hf : f_J6_bitCount_0f7a4_10 a0 = (some v)) : zV none d yJ6_bitCount_0f7a4 cJ6_bitCount_0f7a4 1 (some .int) 10 [(0, .int a0)] [] h (zq (some (.int v)) h) := by
  unfold f_J6_bitCount_0f7a4_10 at hf
  refine zv_iload_n dJ6_bitCount_0f7a4_10 rfl rfl ?_
  refine zv_ldcw rfl zcn_J6_266 dJ6_bitCount_0f7a4_11 ?_
  refine zv_iand dJ6_bitCount_0f7a4_14 ?_
  refine zv_iload_n dJ6_bitCount_0f7a4_15 rfl rfl ?_
  refine zv_iconst (v := 2) dJ6_bitCount_0f7a4_16 (by decide) ?_
  refine zv_iushr dJ6_bitCount_0f7a4_17 ?_
  refine zv_ldcw rfl zcn_J6_266 dJ6_bitCount_0f7a4_18 ?_
  refine zv_iand dJ6_bitCount_0f7a4_21 ?_
  refine zv_iadd dJ6_bitCount_0f7a4_22 ?_
  refine zv_istore_n dJ6_bitCount_0f7a4_23 rfl (by decide) ?_
  exact zV_sub ([(0, .int ((a0 &&& (858993459 : Int32)) + (((a0).toUInt32 >>> (((2 : Int32)).toUInt32 &&& Int32.toUInt32 31)).toInt32 &&& (858993459 : Int32))))]) ⟨rfl, trivial⟩ (v_J6_bitCount_0f7a4_24 d ((a0 &&& (858993459 : Int32)) + (((a0).toUInt32 >>> (((2 : Int32)).toUInt32 &&& Int32.toUInt32 31)).toInt32 &&& (858993459 : Int32))) _ hf)
def f_J6_bitCount_0f7a4 (a0 : Int32) : Option Int32 :=
  f_J6_bitCount_0f7a4_10 (a0 - (((a0).toUInt32 >>> (((1 : Int32)).toUInt32 &&& Int32.toUInt32 31)).toInt32 &&& (1431655765 : Int32)))
set_option maxRecDepth 100000 in
set_option maxHeartbeats 4000000 in
theorem c_J6_bitCount_0f7a4 {h : List va_E} (d : Nat) (a0 : Int32) (v : Int32) (hf : f_J6_bitCount_0f7a4 a0 = (some v)) : zC d yJ6_bitCount_0f7a4 cJ6_bitCount_0f7a4 1 (some .int) [.int a0] h (zq (some (.int v)) h) := by
  refine zC_intro (by decide) rfl (Nat.le_of_ble_eq_true rfl) ?_
  unfold f_J6_bitCount_0f7a4 at hf
  refine zv_iload_n dJ6_bitCount_0f7a4_0 rfl rfl ?_
  refine zv_iload_n dJ6_bitCount_0f7a4_1 rfl rfl ?_
  refine zv_iconst (v := 1) dJ6_bitCount_0f7a4_2 (by decide) ?_
  refine zv_iushr dJ6_bitCount_0f7a4_3 ?_
  refine zv_ldcw rfl zcn_J6_265 dJ6_bitCount_0f7a4_4 ?_
  refine zv_iand dJ6_bitCount_0f7a4_7 ?_
  refine zv_isub dJ6_bitCount_0f7a4_8 ?_
  refine zv_istore_n dJ6_bitCount_0f7a4_9 rfl (by decide) ?_
  exact zV_sub ([(0, .int (a0 - (((a0).toUInt32 >>> (((1 : Int32)).toUInt32 &&& Int32.toUInt32 31)).toInt32 &&& (1431655765 : Int32))))]) ⟨rfl, trivial⟩ (v_J6_bitCount_0f7a4_10 d (a0 - (((a0).toUInt32 >>> (((1 : Int32)).toUInt32 &&& Int32.toUInt32 31)).toInt32 &&& (1431655765 : Int32))) _ hf)
-- KingPrices$Land.hasCharter(I)Z height 1 reads
def f_X0_hasCharter (S : zS) (r : Nat) (a1 : Int32) : Option Int32 :=
  ((f_X0_knows S r a1).bind (fun x2 => (if x2 = 0 then some ((0 : Int32)) else (if zin a1 6 then (if (S.1 (r + 3) (a1).toNatClampNeg) = (1 : Int32) then some ((1 : Int32)) else some ((0 : Int32))) else none))))
set_option maxRecDepth 100000 in
set_option maxHeartbeats 4000000 in
theorem c_X0_hasCharter {W : zS → List va_E} {r : Nat} (hL : zLand W r) (d : Nat) (hd : 1 ≤ d) (S : zS) (a1 : Int32) (v : Int32) (hf : f_X0_hasCharter S r a1 = (some v)) : zC d yX0_hasCharter cX0_hasCharter 2 (some .boolean) [.ref r, .int a1] (W S) (zq (some (.int v)) (W S)) := by
  obtain ⟨d, rfl⟩ : ∃ e, d = e + 1 := ⟨d - 1, by omega⟩
  refine zC_intro (by decide) rfl (Nat.le_of_ble_eq_true rfl) ?_
  unfold f_X0_hasCharter at hf
  refine zv_aload_n dX0_hasCharter_0 rfl rfl ?_
  refine zv_iload_n dX0_hasCharter_1 rfl rfl ?_
  obtain ⟨x2, hc1, hf⟩ := zbind hf
  refine zv_callV dX0_hasCharter_2 zk_X0_58 zm_X0_knows (c_X0_knows hL d S a1 x2 hc1) (hL.1 S) rfl rfl rfl (Nat.le_of_ble_eq_true rfl) ?_
  refine zv_if_eq (tgt := 22) dX0_hasCharter_5 (by decide) (fun c3 => ?_) (fun c3 => ?_)
  · replace hf := (if_pos c3).symm.trans hf
    refine zv_iconst (v := 0) dX0_hasCharter_22 (by decide) ?_
    exact zv_iret (ty := .boolean) dX0_hasCharter_23 rfl rfl (zret1 hf)
  · replace hf := (if_neg c3).symm.trans hf
    refine zv_aload_n dX0_hasCharter_8 rfl rfl ?_
    refine zv_get zf_X0_18 (hL.1 S) rfl dX0_hasCharter_9 ?_
    refine zv_iload_n dX0_hasCharter_12 rfl rfl ?_
    obtain ⟨hb4, hf⟩ := zifb hf
    refine zv_iald hb4 (hL.a3 S) dX0_hasCharter_13 ?_
    refine zv_iconst (v := 1) dX0_hasCharter_14 (by decide) ?_
    refine zv_icmp_ne (tgt := 22) dX0_hasCharter_15 (by decide) (fun c5 => ?_) (fun c5 => ?_)
    · replace hf := (if_neg c5).symm.trans hf
      refine zv_iconst (v := 0) dX0_hasCharter_22 (by decide) ?_
      exact zv_iret (ty := .boolean) dX0_hasCharter_23 rfl rfl (zret1 hf)
    · replace hf := (if_pos c5).symm.trans hf
      refine zv_iconst (v := 1) dX0_hasCharter_18 (by decide) ?_
      refine zv_goto (tgt := 23) dX0_hasCharter_19 (by decide) ?_
      exact zv_iret (ty := .boolean) dX0_hasCharter_23 rfl rfl (zret1 hf)
-- KingPrices$Land.needOf(I)I height 1 reads
def f_X0_needOf (S : zS) (r : Nat) (a1 : Int32) : Option Int32 :=
  ((f_X0_knows S r a1).bind (fun x2 => (if x2 = 0 then some ((0 : Int32)) else (if zin a1 6 then some ((S.1 (r + 2) (a1).toNatClampNeg)) else none))))
set_option maxRecDepth 100000 in
set_option maxHeartbeats 4000000 in
theorem c_X0_needOf {W : zS → List va_E} {r : Nat} (hL : zLand W r) (d : Nat) (hd : 1 ≤ d) (S : zS) (a1 : Int32) (v : Int32) (hf : f_X0_needOf S r a1 = (some v)) : zC d yX0_needOf cX0_needOf 2 (some .int) [.ref r, .int a1] (W S) (zq (some (.int v)) (W S)) := by
  obtain ⟨d, rfl⟩ : ∃ e, d = e + 1 := ⟨d - 1, by omega⟩
  refine zC_intro (by decide) rfl (Nat.le_of_ble_eq_true rfl) ?_
  unfold f_X0_needOf at hf
  refine zv_aload_n dX0_needOf_0 rfl rfl ?_
  refine zv_iload_n dX0_needOf_1 rfl rfl ?_
  obtain ⟨x2, hc1, hf⟩ := zbind hf
  refine zv_callV dX0_needOf_2 zk_X0_58 zm_X0_knows (c_X0_knows hL d S a1 x2 hc1) (hL.1 S) rfl rfl rfl (Nat.le_of_ble_eq_true rfl) ?_
  refine zv_if_eq (tgt := 17) dX0_needOf_5 (by decide) (fun c3 => ?_) (fun c3 => ?_)
  · replace hf := (if_pos c3).symm.trans hf
    refine zv_iconst (v := 0) dX0_needOf_17 (by decide) ?_
    exact zv_iret (ty := .int) dX0_needOf_18 rfl rfl (zret1 hf)
  · replace hf := (if_neg c3).symm.trans hf
    refine zv_aload_n dX0_needOf_8 rfl rfl ?_
    refine zv_get zf_X0_15 (hL.1 S) rfl dX0_needOf_9 ?_
    refine zv_iload_n dX0_needOf_12 rfl rfl ?_
    obtain ⟨hb4, hf⟩ := zifb hf
    refine zv_iald hb4 (hL.a2 S) dX0_needOf_13 ?_
    refine zv_goto (tgt := 18) dX0_needOf_14 (by decide) ?_
    exact zv_iret (ty := .int) dX0_needOf_18 rfl rfl (zret1 hf)
-- KingPrices$Story.put(II)V height 0 writes
def f_X2_put (S : zS) (r : Nat) (a1 : Int32) (a2 : Int32) : Option zS :=
  (if a1 < (0 : Int32) then some S else (if (28 : Int32) ≤ a1 then some S else (if zin a1 308 then some (zr S (r + 1) (upd (S.1 (r + 1)) (a1).toNatClampNeg a2)) else none)))
set_option maxRecDepth 100000 in
set_option maxHeartbeats 4000000 in
theorem c_X2_put {W : zS → List va_E} {r : Nat} (hT : zStory W r) (d : Nat) (S : zS) (a1 : Int32) (a2 : Int32) (S' : zS) (hf : f_X2_put S r a1 a2 = (some S')) : zC d yX2_put cX2_put 3 none [.ref r, .int a1, .int a2] (W S) (zq none (W S')) := by
  refine zC_intro (by decide) rfl (Nat.le_of_ble_eq_true rfl) ?_
  unfold f_X2_put at hf
  refine zv_iconst (v := 0) dX2_put_0 (by decide) ?_
  refine zv_iload_n dX2_put_1 rfl rfl ?_
  refine zv_icmp_gt (tgt := 18) dX2_put_2 (by decide) (fun c1 => ?_) (fun c1 => ?_)
  · replace hf := (if_pos c1).symm.trans hf
    exact zv_vret dX2_put_18 rfl (zret0 W hf)
  · replace hf := (if_neg c1).symm.trans hf
    refine zv_iload_n dX2_put_5 rfl rfl ?_
    refine zv_bipush (v := 28) dX2_put_6 (by decide) ?_
    refine zv_icmp_ge (tgt := 18) dX2_put_8 (by decide) (fun c2 => ?_) (fun c2 => ?_)
    · replace hf := (if_pos c2).symm.trans hf
      exact zv_vret dX2_put_18 rfl (zret0 W hf)
    · replace hf := (if_neg c2).symm.trans hf
      refine zv_aload_n dX2_put_11 rfl rfl ?_
      refine zv_get zf_X2_9 (hT.1 S) rfl dX2_put_12 ?_
      refine zv_iload_n dX2_put_15 rfl rfl ?_
      refine zv_iload_n dX2_put_16 rfl rfl ?_
      obtain ⟨hb3, hf⟩ := zifb hf
      refine zv_iast hb3 (hT.2.2.1 S) (hT.2.2.2 S (upd (S.1 (r + 1)) (a1).toNatClampNeg a2)) dX2_put_17 ?_
      exact zv_vret dX2_put_18 rfl (zret0 W hf)
-- KingPrices$Story.add(II)V height 1 writes
def f_X2_add (S : zS) (r : Nat) (a1 : Int32) (a2 : Int32) : Option zS :=
  ((f_X2_get S r a1).bind (fun x2 => ((f_X2_put S r a1 (x2 + a2)).bind (fun S4 => some S4))))
set_option maxRecDepth 100000 in
set_option maxHeartbeats 4000000 in
theorem c_X2_add {W : zS → List va_E} {r : Nat} (hT : zStory W r) (d : Nat) (hd : 1 ≤ d) (S : zS) (a1 : Int32) (a2 : Int32) (S' : zS) (hf : f_X2_add S r a1 a2 = (some S')) : zC d yX2_add cX2_add 3 none [.ref r, .int a1, .int a2] (W S) (zq none (W S')) := by
  obtain ⟨d, rfl⟩ : ∃ e, d = e + 1 := ⟨d - 1, by omega⟩
  refine zC_intro (by decide) rfl (Nat.le_of_ble_eq_true rfl) ?_
  unfold f_X2_add at hf
  refine zv_aload_n dX2_add_0 rfl rfl ?_
  refine zv_iload_n dX2_add_1 rfl rfl ?_
  refine zv_aload_n dX2_add_2 rfl rfl ?_
  refine zv_iload_n dX2_add_3 rfl rfl ?_
  obtain ⟨x2, hc1, hf⟩ := zbind hf
  refine zv_callV dX2_add_4 zk_X2_41 zm_X2_get (c_X2_get hT d S a1 x2 hc1) (hT.1 S) rfl rfl rfl (Nat.le_of_ble_eq_true rfl) ?_
  refine zv_iload_n dX2_add_7 rfl rfl ?_
  refine zv_iadd dX2_add_8 ?_
  obtain ⟨S4, hc3, hf⟩ := zbind hf
  refine zv_callV dX2_add_9 zk_X2_30 zm_X2_put (c_X2_put hT d S a1 (x2 + a2) S4 hc3) (hT.1 S) rfl rfl rfl (Nat.le_of_ble_eq_true rfl) ?_
  exact zv_vret dX2_add_12 rfl (zret0 W hf)
-- KingPrices$Story.letDaysPass(II)V height 2 writes
def f_X2_letDaysPass (S : zS) (r : Nat) (a1 : Int32) (a2 : Int32) : Option zS :=
  ((f_X2_get S r (2 : Int32)).bind (fun x2 => ((f_X2_add S r (1 : Int32) a1).bind (fun S4 => ((f_X2_add S4 r (2 : Int32) (-(if x2 < (a1 * a2) then x2 else (a1 * a2)))).bind (fun S6 => ((f_X2_get S6 r (3 : Int32)).bind (fun x8 => ((f_X2_put S6 r (3 : Int32) (if ((x8 + (a1 * a2)) - (if x2 < (a1 * a2) then x2 else (a1 * a2))) < (9999 : Int32) then ((x8 + (a1 * a2)) - (if x2 < (a1 * a2) then x2 else (a1 * a2))) else (9999 : Int32))).bind (fun S10 => some S10))))))))))
set_option maxRecDepth 100000 in
set_option maxHeartbeats 4000000 in
theorem c_X2_letDaysPass {W : zS → List va_E} {r : Nat} (hT : zStory W r) (d : Nat) (hd : 2 ≤ d) (S : zS) (a1 : Int32) (a2 : Int32) (S' : zS) (hf : f_X2_letDaysPass S r a1 a2 = (some S')) : zC d yX2_letDaysPass cX2_letDaysPass 5 none [.ref r, .int a1, .int a2] (W S) (zq none (W S')) := by
  obtain ⟨d, rfl⟩ : ∃ e, d = e + 1 := ⟨d - 1, by omega⟩
  refine zC_intro (by decide) rfl (Nat.le_of_ble_eq_true rfl) ?_
  unfold f_X2_letDaysPass at hf
  refine zv_iload_n dX2_letDaysPass_0 rfl rfl ?_
  refine zv_iload_n dX2_letDaysPass_1 rfl rfl ?_
  refine zv_imul dX2_letDaysPass_2 ?_
  refine zv_istore_n dX2_letDaysPass_3 rfl (by decide) ?_
  refine zv_iload_n dX2_letDaysPass_4 rfl rfl ?_
  refine zv_aload_n dX2_letDaysPass_5 rfl rfl ?_
  refine zv_iconst (v := 2) dX2_letDaysPass_6 (by decide) ?_
  obtain ⟨x2, hc1, hf⟩ := zbind hf
  refine zv_callV dX2_letDaysPass_7 zk_X2_41 zm_X2_get (c_X2_get hT d S (2 : Int32) x2 hc1) (hT.1 S) rfl rfl rfl (Nat.le_of_ble_eq_true rfl) ?_
  refine zv_min zk_X2_44 (Nat.le_of_ble_eq_true rfl) dX2_letDaysPass_10 ?_
  refine zv_istore dX2_letDaysPass_13 (by decide) ?_
  refine zv_aload_n dX2_letDaysPass_15 rfl rfl ?_
  refine zv_iconst (v := 1) dX2_letDaysPass_16 (by decide) ?_
  refine zv_iload_n dX2_letDaysPass_17 rfl rfl ?_
  obtain ⟨S4, hc3, hf⟩ := zbind hf
  refine zv_callV dX2_letDaysPass_18 zk_X2_50 zm_X2_add (c_X2_add hT d (by omega) S (1 : Int32) a1 S4 hc3) (hT.1 S) rfl rfl rfl (Nat.le_of_ble_eq_true rfl) ?_
  refine zv_aload_n dX2_letDaysPass_21 rfl rfl ?_
  refine zv_iconst (v := 2) dX2_letDaysPass_22 (by decide) ?_
  refine zv_iload dX2_letDaysPass_23 rfl ?_
  refine zv_ineg dX2_letDaysPass_25 ?_
  obtain ⟨S6, hc5, hf⟩ := zbind hf
  refine zv_callV dX2_letDaysPass_26 zk_X2_50 zm_X2_add (c_X2_add hT d (by omega) S4 (2 : Int32) (-(if x2 < (a1 * a2) then x2 else (a1 * a2))) S6 hc5) (hT.1 S4) rfl rfl rfl (Nat.le_of_ble_eq_true rfl) ?_
  refine zv_aload_n dX2_letDaysPass_29 rfl rfl ?_
  refine zv_iconst (v := 3) dX2_letDaysPass_30 (by decide) ?_
  refine zv_sipush (v := 9999) dX2_letDaysPass_31 (by decide) ?_
  refine zv_aload_n dX2_letDaysPass_34 rfl rfl ?_
  refine zv_iconst (v := 3) dX2_letDaysPass_35 (by decide) ?_
  obtain ⟨x8, hc7, hf⟩ := zbind hf
  refine zv_callV dX2_letDaysPass_36 zk_X2_41 zm_X2_get (c_X2_get hT d S6 (3 : Int32) x8 hc7) (hT.1 S6) rfl rfl rfl (Nat.le_of_ble_eq_true rfl) ?_
  refine zv_iload_n dX2_letDaysPass_39 rfl rfl ?_
  refine zv_iadd dX2_letDaysPass_40 ?_
  refine zv_iload dX2_letDaysPass_41 rfl ?_
  refine zv_isub dX2_letDaysPass_43 ?_
  refine zv_min zk_X2_44 (Nat.le_of_ble_eq_true rfl) dX2_letDaysPass_44 ?_
  obtain ⟨S10, hc9, hf⟩ := zbind hf
  refine zv_callV dX2_letDaysPass_47 zk_X2_30 zm_X2_put (c_X2_put hT d S6 (3 : Int32) (if ((x8 + (a1 * a2)) - (if x2 < (a1 * a2) then x2 else (a1 * a2))) < (9999 : Int32) then ((x8 + (a1 * a2)) - (if x2 < (a1 * a2) then x2 else (a1 * a2))) else (9999 : Int32)) S10 hc9) (hT.1 S6) rfl rfl rfl (Nat.le_of_ble_eq_true rfl) ?_
  exact zv_vret dX2_letDaysPass_50 rfl (zret0 W hf)
-- KingPrices$Story.remember()V height 1 writes
def f_X2_remember (S : zS) (r : Nat) : Option zS :=
  some (zu (zr S (r + 1) (va_cpy (S.1 (r + 1)) (S.1 (r + 1)) 0 28 280)) r 1 (if (((zr S (r + 1) (va_cpy (S.1 (r + 1)) (S.1 (r + 1)) 0 28 280)).1 r 1) + (1 : Int32)) < (10 : Int32) then (((zr S (r + 1) (va_cpy (S.1 (r + 1)) (S.1 (r + 1)) 0 28 280)).1 r 1) + (1 : Int32)) else (10 : Int32)))
set_option maxRecDepth 100000 in
set_option maxHeartbeats 4000000 in
theorem c_X2_remember {W : zS → List va_E} {r : Nat} (hT : zStory W r) (d : Nat) (hd : 1 ≤ d) (S : zS) (S' : zS) (hf : f_X2_remember S r = (some S')) : zC d yX2_remember cX2_remember 1 none [.ref r] (W S) (zq none (W S')) := by
  obtain ⟨d, rfl⟩ : ∃ e, d = e + 1 := ⟨d - 1, by omega⟩
  refine zC_intro (by decide) rfl (Nat.le_of_ble_eq_true rfl) ?_
  unfold f_X2_remember at hf
  refine zv_aload_n dX2_remember_0 rfl rfl ?_
  refine zv_get zf_X2_9 (hT.1 S) rfl dX2_remember_1 ?_
  refine zv_iconst (v := 0) dX2_remember_4 (by decide) ?_
  refine zv_aload_n dX2_remember_5 rfl rfl ?_
  refine zv_get zf_X2_9 (hT.1 S) rfl dX2_remember_6 ?_
  refine zv_bipush (v := 28) dX2_remember_9 (by decide) ?_
  refine zv_sipush (v := 280) dX2_remember_11 (by decide) ?_
  refine zv_copyK (k0 := 0) (k1 := 28) (k2 := 280) (by decide) (by decide) (by decide) (by unfold zcpy; decide) zk_X2_53 (hT.2.2.1 S) (hT.2.2.1 S) (hT.2.2.2 S (va_cpy (S.1 (r + 1)) (S.1 (r + 1)) 0 28 280)) (Nat.le_of_ble_eq_true rfl) dX2_remember_14 ?_
  refine zv_aload_n dX2_remember_17 rfl rfl ?_
  refine zv_bipush (v := 10) dX2_remember_18 (by decide) ?_
  refine zv_aload_n dX2_remember_20 rfl rfl ?_
  refine zv_get zf_X2_21 (hT.1 (zr S (r + 1) (va_cpy (S.1 (r + 1)) (S.1 (r + 1)) 0 28 280))) rfl dX2_remember_21 ?_
  refine zv_iconst (v := 1) dX2_remember_24 (by decide) ?_
  refine zv_iadd dX2_remember_25 ?_
  refine zv_min zk_X2_44 (Nat.le_of_ble_eq_true rfl) dX2_remember_26 ?_
  refine zv_put zp_X2_21 (hT.1 (zr S (r + 1) (va_cpy (S.1 (r + 1)) (S.1 (r + 1)) 0 28 280))) rfl (fun _ => ⟨rfl, rfl⟩) (Nat.le_of_ble_eq_true rfl) (hT.2.1 (zr S (r + 1) (va_cpy (S.1 (r + 1)) (S.1 (r + 1)) 0 28 280)) (if (((zr S (r + 1) (va_cpy (S.1 (r + 1)) (S.1 (r + 1)) 0 28 280)).1 r 1) + (1 : Int32)) < (10 : Int32) then (((zr S (r + 1) (va_cpy (S.1 (r + 1)) (S.1 (r + 1)) 0 28 280)).1 r 1) + (1 : Int32)) else (10 : Int32))) dX2_remember_29 ?_
  exact zv_vret dX2_remember_32 rfl (zret0 W hf)
-- KingPrices$Land.writtenFor(I)I height 0 reads
def f_X0_writtenFor (S : zS) (r : Nat) (a1 : Int32) : Option Int32 :=
  some ((((S.1 r 9) * a1) / (10 : Int32)))
set_option maxRecDepth 100000 in
set_option maxHeartbeats 4000000 in
theorem c_X0_writtenFor {W : zS → List va_E} {r : Nat} (hL : zLand W r) (d : Nat) (S : zS) (a1 : Int32) (v : Int32) (hf : f_X0_writtenFor S r a1 = (some v)) : zC d yX0_writtenFor cX0_writtenFor 2 (some .int) [.ref r, .int a1] (W S) (zq (some (.int v)) (W S)) := by
  refine zC_intro (by decide) rfl (Nat.le_of_ble_eq_true rfl) ?_
  unfold f_X0_writtenFor at hf
  refine zv_aload_n dX0_writtenFor_0 rfl rfl ?_
  refine zv_get zf_X0_43 (hL.1 S) rfl dX0_writtenFor_1 ?_
  refine zv_iload_n dX0_writtenFor_4 rfl rfl ?_
  refine zv_imul dX0_writtenFor_5 ?_
  refine zv_bipush (v := 10) dX0_writtenFor_6 (by decide) ?_
  refine zv_idiv (by decide) dX0_writtenFor_8 ?_
  exact zv_iret (ty := .int) dX0_writtenFor_9 rfl rfl (zret1 hf)
-- java/util/Arrays.fill([II)V height 0 writes
def f_J7_fill_53178_5 (q : Nat) (len : Nat) : Nat → zS → Int32 → Int32 → Int32 → Option zS
  | 0, _, _, _, _ => none
  | n + 1, S, a1, a2, a3 => (if a3 ≤ a2 then some S else (if zin a2 len then f_J7_fill_53178_5 q len n (zr S q (upd (S.1 q) (a2).toNatClampNeg a1)) a1 (a2 + (1 : Int32)) a3 else none))
set_option maxRecDepth 100000 in
set_option maxHeartbeats 4000000 in
theorem v_J7_fill_53178_5 {W : zS → List va_E} {q : Nat} {len : Nat} (hn : len < 1000) (hr : ∀ S : zS, (W S)[q]? = some (.inl (0, len, .inl (S.1 q)))) (hs : ∀ (S : zS) (g : Nat → Int32), (W S).set q (.inl (0, len, .inl g)) = W (zr S q g)) (d : Nat) : ∀ (n : Nat) (S : zS) (a1 : Int32) (a2 : Int32) (a3 : Int32) (S' : zS), f_J7_fill_53178_5 q len n S a1 a2 a3 = (some S') → zV none d yJ7_fill_53178 cJ7_fill_53178 4 none 5 [(0, .ref q), (1, .int a1), (2, .int a2), (3, .int a3)] [] (W S) (zq none (W S')) := by
  intro n
  induction n with
  | zero =>
    intro S a1 a2 a3 S' hf
    cases hf
  | succ n ih =>
    intro S a1 a2 a3 S' hf
    rw [f_J7_fill_53178_5] at hf
    refine zv_iload_n dJ7_fill_53178_5 rfl rfl ?_
    refine zv_iload_n dJ7_fill_53178_6 rfl rfl ?_
    refine zv_icmp_ge (tgt := 20) dJ7_fill_53178_7 (by decide) (fun c1 => ?_) (fun c1 => ?_)
    · replace hf := (if_pos c1).symm.trans hf
      exact zv_vret dJ7_fill_53178_20 rfl (zret0 W hf)
    · replace hf := (if_neg c1).symm.trans hf
      refine zv_aload_n dJ7_fill_53178_10 rfl rfl ?_
      refine zv_iload_n dJ7_fill_53178_11 rfl rfl ?_
      refine zv_iload_n dJ7_fill_53178_12 rfl rfl ?_
      obtain ⟨hb2, hf⟩ := zifb hf
      refine zv_iast hb2 (hr S) (hs S (upd (S.1 q) (a2).toNatClampNeg a1)) dJ7_fill_53178_13 ?_
      refine zv_iinc (v := 1) dJ7_fill_53178_14 rfl (by decide) (by decide) ?_
      refine zv_goto (tgt := 5) dJ7_fill_53178_17 (by decide) ?_
      exact zV_sub ([(0, .ref q), (1, .int a1), (2, .int (a2 + (1 : Int32))), (3, .int a3)]) ⟨rfl, rfl, rfl, rfl, trivial⟩ (ih (zr S q (upd (S.1 q) (a2).toNatClampNeg a1)) a1 (a2 + (1 : Int32)) a3 _ hf)
def f_J7_fill_53178 (S : zS) (q : Nat) (len : Nat) (a1 : Int32) : Option zS :=
  f_J7_fill_53178_5 q len zN S a1 (0 : Int32) (nI len)
set_option maxRecDepth 100000 in
set_option maxHeartbeats 4000000 in
theorem c_J7_fill_53178 {W : zS → List va_E} {q : Nat} {len : Nat} (hn : len < 1000) (hr : ∀ S : zS, (W S)[q]? = some (.inl (0, len, .inl (S.1 q)))) (hs : ∀ (S : zS) (g : Nat → Int32), (W S).set q (.inl (0, len, .inl g)) = W (zr S q g)) (d : Nat) (S : zS) (a1 : Int32) (S' : zS) (hf : f_J7_fill_53178 S q len a1 = (some S')) : zC d yJ7_fill_53178 cJ7_fill_53178 4 none [.ref q, .int a1] (W S) (zq none (W S')) := by
  refine zC_intro (by decide) rfl (Nat.le_of_ble_eq_true rfl) ?_
  unfold f_J7_fill_53178 at hf
  refine zv_iconst (v := 0) dJ7_fill_53178_0 (by decide) ?_
  refine zv_istore_n dJ7_fill_53178_1 rfl (by decide) ?_
  refine zv_aload_n dJ7_fill_53178_2 rfl rfl ?_
  refine zv_alen (t := 0) (by decide) rfl (hr S) dJ7_fill_53178_3 ?_
  refine zv_istore_n dJ7_fill_53178_4 rfl (by decide) ?_
  exact zV_sub ([(0, .ref q), (1, .int a1), (2, .int (0 : Int32)), (3, .int (nI len))]) ⟨rfl, rfl, rfl, rfl, trivial⟩ (v_J7_fill_53178_5 hn hr hs d zN S a1 (0 : Int32) (nI len) _ hf)
-- KingPrices$Land.empty()V height 1 writes
def f_X0_empty_51 (r : Nat) : Nat → zS → Int32 → Option zS
  | 0, _, _ => none
  | n + 1, S, a1 => (if (6 : Int32) ≤ a1 then some S else (if zin ((a1 * (6 : Int32)) + a1) 36 then f_X0_empty_51 r n (zr S (r + 4) (upd (S.1 (r + 4)) (((a1 * (6 : Int32)) + a1)).toNatClampNeg (0 : Int32))) (a1 + (1 : Int32)) else none))
set_option maxRecDepth 100000 in
set_option maxHeartbeats 4000000 in
theorem v_X0_empty_51 {W : zS → List va_E} {r : Nat} (hL : zLand W r) (d : Nat) (hd : 0 ≤ d) : ∀ (n : Nat) (S : zS) (a1 : Int32) (S' : zS), f_X0_empty_51 r n S a1 = (some S') → zV none (d + 1) yX0_empty cX0_empty 2 none 51 [(0, .ref r), (1, .int a1)] [] (W S) (zq none (W S')) := by
  intro n
  induction n with
  | zero =>
    intro S a1 S' hf
    cases hf
  | succ n ih =>
    intro S a1 S' hf
    rw [f_X0_empty_51] at hf
    refine zv_iload_n dX0_empty_51 rfl rfl ?_
    refine zv_bipush (v := 6) dX0_empty_52 (by decide) ?_
    refine zv_icmp_ge (tgt := 75) dX0_empty_54 (by decide) (fun c1 => ?_) (fun c1 => ?_)
    · replace hf := (if_pos c1).symm.trans hf
      exact zv_vret dX0_empty_75 rfl (zret0 W hf)
    · replace hf := (if_neg c1).symm.trans hf
      refine zv_aload_n dX0_empty_57 rfl rfl ?_
      refine zv_get zf_X0_21 (hL.1 S) rfl dX0_empty_58 ?_
      refine zv_iload_n dX0_empty_61 rfl rfl ?_
      refine zv_bipush (v := 6) dX0_empty_62 (by decide) ?_
      refine zv_imul dX0_empty_64 ?_
      refine zv_iload_n dX0_empty_65 rfl rfl ?_
      refine zv_iadd dX0_empty_66 ?_
      refine zv_iconst (v := 0) dX0_empty_67 (by decide) ?_
      obtain ⟨hb2, hf⟩ := zifb hf
      refine zv_iast hb2 (hL.a4 S) (hL.s4 S (upd (S.1 (r + 4)) (((a1 * (6 : Int32)) + a1)).toNatClampNeg (0 : Int32))) dX0_empty_68 ?_
      refine zv_iinc (v := 1) dX0_empty_69 rfl (by decide) (by decide) ?_
      refine zv_goto (tgt := 51) dX0_empty_72 (by decide) ?_
      exact zV_sub ([(0, .ref r), (1, .int (a1 + (1 : Int32)))]) ⟨rfl, rfl, trivial⟩ (ih (zr S (r + 4) (upd (S.1 (r + 4)) (((a1 * (6 : Int32)) + a1)).toNatClampNeg (0 : Int32))) (a1 + (1 : Int32)) _ hf)
def f_X0_empty (S : zS) (r : Nat) : Option zS :=
  ((f_J7_fill_53178 (zu (zu (zu (zu (zu (zu S r 6 (0 : Int32)) r 7 (0 : Int32)) r 8 (3 : Int32)) r 9 (8 : Int32)) r 10 (0 : Int32)) r 11 (0 : Int32)) (r + 5) 36 (0 : Int32)).bind (fun S2 => ((f_J7_fill_53178 S2 (r + 4) 36 (1000 : Int32)).bind (fun S4 => f_X0_empty_51 r zN S4 (0 : Int32)))))
set_option maxRecDepth 100000 in
set_option maxHeartbeats 4000000 in
theorem c_X0_empty {W : zS → List va_E} {r : Nat} (hL : zLand W r) (d : Nat) (hd : 1 ≤ d) (S : zS) (S' : zS) (hf : f_X0_empty S r = (some S')) : zC d yX0_empty cX0_empty 2 none [.ref r] (W S) (zq none (W S')) := by
  obtain ⟨d, rfl⟩ : ∃ e, d = e + 1 := ⟨d - 1, by omega⟩
  refine zC_intro (by decide) rfl (Nat.le_of_ble_eq_true rfl) ?_
  unfold f_X0_empty at hf
  refine zv_aload_n dX0_empty_0 rfl rfl ?_
  refine zv_iconst (v := 0) dX0_empty_1 (by decide) ?_
  refine zv_put zp_X0_33 (hL.1 S) rfl (fun _ => ⟨rfl, rfl⟩) (Nat.le_of_ble_eq_true rfl) (hL.p6 S (0 : Int32)) dX0_empty_2 ?_
  refine zv_aload_n dX0_empty_5 rfl rfl ?_
  refine zv_iconst (v := 0) dX0_empty_6 (by decide) ?_
  refine zv_put zp_X0_37 (hL.1 (zu S r 6 (0 : Int32))) rfl (fun _ => ⟨rfl, rfl⟩) (Nat.le_of_ble_eq_true rfl) (hL.p7 (zu S r 6 (0 : Int32)) (0 : Int32)) dX0_empty_7 ?_
  refine zv_aload_n dX0_empty_10 rfl rfl ?_
  refine zv_iconst (v := 3) dX0_empty_11 (by decide) ?_
  refine zv_put zp_X0_40 (hL.1 (zu (zu S r 6 (0 : Int32)) r 7 (0 : Int32))) rfl (fun _ => ⟨rfl, rfl⟩) (Nat.le_of_ble_eq_true rfl) (hL.p8 (zu (zu S r 6 (0 : Int32)) r 7 (0 : Int32)) (3 : Int32)) dX0_empty_12 ?_
  refine zv_aload_n dX0_empty_15 rfl rfl ?_
  refine zv_bipush (v := 8) dX0_empty_16 (by decide) ?_
  refine zv_put zp_X0_43 (hL.1 (zu (zu (zu S r 6 (0 : Int32)) r 7 (0 : Int32)) r 8 (3 : Int32))) rfl (fun _ => ⟨rfl, rfl⟩) (Nat.le_of_ble_eq_true rfl) (hL.p9 (zu (zu (zu S r 6 (0 : Int32)) r 7 (0 : Int32)) r 8 (3 : Int32)) (8 : Int32)) dX0_empty_18 ?_
  refine zv_aload_n dX0_empty_21 rfl rfl ?_
  refine zv_iconst (v := 0) dX0_empty_22 (by decide) ?_
  refine zv_put zp_X0_46 (hL.1 (zu (zu (zu (zu S r 6 (0 : Int32)) r 7 (0 : Int32)) r 8 (3 : Int32)) r 9 (8 : Int32))) rfl (fun _ => ⟨rfl, rfl⟩) (Nat.le_of_ble_eq_true rfl) (hL.p10 (zu (zu (zu (zu S r 6 (0 : Int32)) r 7 (0 : Int32)) r 8 (3 : Int32)) r 9 (8 : Int32)) (0 : Int32)) dX0_empty_23 ?_
  refine zv_aload_n dX0_empty_26 rfl rfl ?_
  refine zv_iconst (v := 0) dX0_empty_27 (by decide) ?_
  refine zv_put zp_X0_49 (hL.1 (zu (zu (zu (zu (zu S r 6 (0 : Int32)) r 7 (0 : Int32)) r 8 (3 : Int32)) r 9 (8 : Int32)) r 10 (0 : Int32))) rfl (fun _ => ⟨rfl, rfl⟩) (Nat.le_of_ble_eq_true rfl) (hL.p11 (zu (zu (zu (zu (zu S r 6 (0 : Int32)) r 7 (0 : Int32)) r 8 (3 : Int32)) r 9 (8 : Int32)) r 10 (0 : Int32)) (0 : Int32)) dX0_empty_28 ?_
  refine zv_aload_n dX0_empty_31 rfl rfl ?_
  refine zv_get zf_X0_24 (hL.1 (zu (zu (zu (zu (zu (zu S r 6 (0 : Int32)) r 7 (0 : Int32)) r 8 (3 : Int32)) r 9 (8 : Int32)) r 10 (0 : Int32)) r 11 (0 : Int32))) rfl dX0_empty_32 ?_
  refine zv_iconst (v := 0) dX0_empty_35 (by decide) ?_
  obtain ⟨S2, hc1, hf⟩ := zbind hf
  refine zv_callS dX0_empty_36 zk_X0_52 zm_J7_fill_53178 (c_J7_fill_53178 (by decide) hL.a5 hL.s5 d (zu (zu (zu (zu (zu (zu S r 6 (0 : Int32)) r 7 (0 : Int32)) r 8 (3 : Int32)) r 9 (8 : Int32)) r 10 (0 : Int32)) r 11 (0 : Int32)) (0 : Int32) S2 hc1) rfl rfl (Nat.le_of_ble_eq_true rfl) ?_
  refine zv_aload_n dX0_empty_39 rfl rfl ?_
  refine zv_get zf_X0_21 (hL.1 S2) rfl dX0_empty_40 ?_
  refine zv_sipush (v := 1000) dX0_empty_43 (by decide) ?_
  obtain ⟨S4, hc3, hf⟩ := zbind hf
  refine zv_callS dX0_empty_46 zk_X0_52 zm_J7_fill_53178 (c_J7_fill_53178 (by decide) hL.a4 hL.s4 d S2 (1000 : Int32) S4 hc3) rfl rfl (Nat.le_of_ble_eq_true rfl) ?_
  refine zv_iconst (v := 0) dX0_empty_49 (by decide) ?_
  refine zv_istore_n dX0_empty_50 rfl (by decide) ?_
  exact zV_sub ([(0, .ref r), (1, .int (0 : Int32))]) ⟨rfl, rfl, trivial⟩ (v_X0_empty_51 hL d (by omega) zN S4 (0 : Int32) _ hf)
-- KingPrices$Land.shortenWay(III)V height 1 writes
def f_X0_shortenWay (S : zS) (r : Nat) (a1 : Int32) (a2 : Int32) (a3 : Int32) : Option zS :=
  ((f_X0_knows S r a1).bind (fun x2 => (if x2 = 0 then some S else ((f_X0_knows S r a2).bind (fun x5 => (if x5 = 0 then some S else (if zin ((a1 * (6 : Int32)) + a2) 36 then (if zin ((a1 * (6 : Int32)) + a2) 36 then some (zr S (r + 4) (upd (S.1 (r + 4)) (((a1 * (6 : Int32)) + a2)).toNatClampNeg (if a3 < (S.1 (r + 4) (((a1 * (6 : Int32)) + a2)).toNatClampNeg) then a3 else (S.1 (r + 4) (((a1 * (6 : Int32)) + a2)).toNatClampNeg)))) else none) else none)))))))
set_option maxRecDepth 100000 in
set_option maxHeartbeats 4000000 in
theorem c_X0_shortenWay {W : zS → List va_E} {r : Nat} (hL : zLand W r) (d : Nat) (hd : 1 ≤ d) (S : zS) (a1 : Int32) (a2 : Int32) (a3 : Int32) (S' : zS) (hf : f_X0_shortenWay S r a1 a2 a3 = (some S')) : zC d yX0_shortenWay cX0_shortenWay 5 none [.ref r, .int a1, .int a2, .int a3] (W S) (zq none (W S')) := by
  obtain ⟨d, rfl⟩ : ∃ e, d = e + 1 := ⟨d - 1, by omega⟩
  refine zC_intro (by decide) rfl (Nat.le_of_ble_eq_true rfl) ?_
  unfold f_X0_shortenWay at hf
  refine zv_aload_n dX0_shortenWay_0 rfl rfl ?_
  refine zv_iload_n dX0_shortenWay_1 rfl rfl ?_
  obtain ⟨x2, hc1, hf⟩ := zbind hf
  refine zv_callV dX0_shortenWay_2 zk_X0_58 zm_X0_knows (c_X0_knows hL d S a1 x2 hc1) (hL.1 S) rfl rfl rfl (Nat.le_of_ble_eq_true rfl) ?_
  refine zv_if_eq (tgt := 42) dX0_shortenWay_5 (by decide) (fun c3 => ?_) (fun c3 => ?_)
  · replace hf := (if_pos c3).symm.trans hf
    exact zv_vret dX0_shortenWay_42 rfl (zret0 W hf)
  · replace hf := (if_neg c3).symm.trans hf
    refine zv_aload_n dX0_shortenWay_8 rfl rfl ?_
    refine zv_iload_n dX0_shortenWay_9 rfl rfl ?_
    obtain ⟨x5, hc4, hf⟩ := zbind hf
    refine zv_callV dX0_shortenWay_10 zk_X0_58 zm_X0_knows (c_X0_knows hL d S a2 x5 hc4) (hL.1 S) rfl rfl rfl (Nat.le_of_ble_eq_true rfl) ?_
    refine zv_if_eq (tgt := 42) dX0_shortenWay_13 (by decide) (fun c6 => ?_) (fun c6 => ?_)
    · replace hf := (if_pos c6).symm.trans hf
      exact zv_vret dX0_shortenWay_42 rfl (zret0 W hf)
    · replace hf := (if_neg c6).symm.trans hf
      refine zv_iload_n dX0_shortenWay_16 rfl rfl ?_
      refine zv_bipush (v := 6) dX0_shortenWay_17 (by decide) ?_
      refine zv_imul dX0_shortenWay_19 ?_
      refine zv_iload_n dX0_shortenWay_20 rfl rfl ?_
      refine zv_iadd dX0_shortenWay_21 ?_
      refine zv_istore dX0_shortenWay_22 (by decide) ?_
      refine zv_aload_n dX0_shortenWay_24 rfl rfl ?_
      refine zv_get zf_X0_21 (hL.1 S) rfl dX0_shortenWay_25 ?_
      refine zv_iload dX0_shortenWay_28 rfl ?_
      refine zv_aload_n dX0_shortenWay_30 rfl rfl ?_
      refine zv_get zf_X0_21 (hL.1 S) rfl dX0_shortenWay_31 ?_
      refine zv_iload dX0_shortenWay_34 rfl ?_
      obtain ⟨hb7, hf⟩ := zifb hf
      refine zv_iald hb7 (hL.a4 S) dX0_shortenWay_36 ?_
      refine zv_iload_n dX0_shortenWay_37 rfl rfl ?_
      refine zv_min zk_X0_128 (Nat.le_of_ble_eq_true rfl) dX0_shortenWay_38 ?_
      obtain ⟨hb8, hf⟩ := zifb hf
      refine zv_iast hb8 (hL.a4 S) (hL.s4 S (upd (S.1 (r + 4)) (((a1 * (6 : Int32)) + a2)).toNatClampNeg (if a3 < (S.1 (r + 4) (((a1 * (6 : Int32)) + a2)).toNatClampNeg) then a3 else (S.1 (r + 4) (((a1 * (6 : Int32)) + a2)).toNatClampNeg)))) dX0_shortenWay_41 ?_
      exact zv_vret dX0_shortenWay_42 rfl (zret0 W hf)
-- KingPrices$Land.findShortestWays()V height 2 writes
def f_X0_findShortestWays_71 (k2 : zS → Int32 → Option zS) (k12 : zS → Int32 → Int32 → Option zS) (k22 : zS → Int32 → Int32 → Int32 → Option zS) (r : Nat) (S : zS) (a1 : Int32) (a2 : Int32) (a3 : Int32) : Option zS :=
  k22 S a1 a2 (a3 + (1 : Int32))
set_option maxRecDepth 100000 in
set_option maxHeartbeats 4000000 in
theorem v_X0_findShortestWays_71 {W : zS → List va_E} {r : Nat} (hL : zLand W r) (d : Nat) (hd : 1 ≤ d) (k2 : zS → Int32 → Option zS) (hk2 : ∀ (S : zS) (a1 : Int32) S', k2 S a1 = (some S') → zV none (d + 1) yX0_findShortestWays cX0_findShortestWays 6 none 2 [(0, .ref r), (1, .int a1)] [] (W S) (zq none (W S'))) (k12 : zS → Int32 → Int32 → Option zS) (hk12 : ∀ (S : zS) (a1 a2 : Int32) S', k12 S a1 a2 = (some S') → zV none (d + 1) yX0_findShortestWays cX0_findShortestWays 6 none 12 [(0, .ref r), (1, .int a1), (2, .int a2)] [] (W S) (zq none (W S'))) (k22 : zS → Int32 → Int32 → Int32 → Option zS) (hk22 : ∀ (S : zS) (a1 a2 a3 : Int32) S', k22 S a1 a2 a3 = (some S') → zV none (d + 1) yX0_findShortestWays cX0_findShortestWays 6 none 22 [(0, .ref r), (1, .int a1), (2, .int a2), (3, .int a3)] [] (W S) (zq none (W S'))) (S : zS) (a1 : Int32) (a2 : Int32) (a3 : Int32) (S' : zS) (hf : f_X0_findShortestWays_71 k2 k12 k22 r S a1 a2 a3 = (some S')) : zV none (d + 1) yX0_findShortestWays cX0_findShortestWays 6 none 71 [(0, .ref r), (1, .int a1), (2, .int a2), (3, .int a3)] [] (W S) (zq none (W S')) := by
  unfold f_X0_findShortestWays_71 at hf
  refine zv_iinc (v := 1) dX0_findShortestWays_71 rfl (by decide) (by decide) ?_
  refine zv_goto (tgt := 22) dX0_findShortestWays_74 (by decide) ?_
  exact zV_sub ([(0, .ref r), (1, .int a1), (2, .int a2), (3, .int (a3 + (1 : Int32)))]) ⟨rfl, rfl, rfl, rfl, trivial⟩ (hk22 S a1 a2 (a3 + (1 : Int32)) _ hf)
def f_X0_findShortestWays_22 (k2 : zS → Int32 → Option zS) (k12 : zS → Int32 → Int32 → Option zS) (r : Nat) : Nat → zS → Int32 → Int32 → Int32 → Option zS
  | 0, _, _, _, _ => none
  | n + 1, S, a1, a2, a3 => (if (S.1 r 6) ≤ a3 then k12 S a1 (a2 + (1 : Int32)) else ((f_X0_daysBetween S r a2 a1).bind (fun x3 => ((f_X0_daysBetween S r a1 a3).bind (fun x5 => (if x3 = (-9 : Int32) then f_X0_findShortestWays_71 k2 k12 (f_X0_findShortestWays_22 k2 k12 r n) r S a1 a2 a3 else (if x5 = (-9 : Int32) then f_X0_findShortestWays_71 k2 k12 (f_X0_findShortestWays_22 k2 k12 r n) r S a1 a2 a3 else ((f_X0_shortenWay S r a2 a3 (x3 + x5)).bind (fun S9 => f_X0_findShortestWays_71 k2 k12 (f_X0_findShortestWays_22 k2 k12 r n) r S9 a1 a2 a3)))))))))
set_option maxRecDepth 100000 in
set_option maxHeartbeats 4000000 in
theorem v_X0_findShortestWays_22 {W : zS → List va_E} {r : Nat} (hL : zLand W r) (d : Nat) (hd : 1 ≤ d) (k2 : zS → Int32 → Option zS) (hk2 : ∀ (S : zS) (a1 : Int32) S', k2 S a1 = (some S') → zV none (d + 1) yX0_findShortestWays cX0_findShortestWays 6 none 2 [(0, .ref r), (1, .int a1)] [] (W S) (zq none (W S'))) (k12 : zS → Int32 → Int32 → Option zS) (hk12 : ∀ (S : zS) (a1 a2 : Int32) S', k12 S a1 a2 = (some S') → zV none (d + 1) yX0_findShortestWays cX0_findShortestWays 6 none 12 [(0, .ref r), (1, .int a1), (2, .int a2)] [] (W S) (zq none (W S'))) : ∀ (n : Nat) (S : zS) (a1 : Int32) (a2 : Int32) (a3 : Int32) (S' : zS), f_X0_findShortestWays_22 k2 k12 r n S a1 a2 a3 = (some S') → zV none (d + 1) yX0_findShortestWays cX0_findShortestWays 6 none 22 [(0, .ref r), (1, .int a1), (2, .int a2), (3, .int a3)] [] (W S) (zq none (W S')) := by
  intro n
  induction n with
  | zero =>
    intro S a1 a2 a3 S' hf
    cases hf
  | succ n ih =>
    intro S a1 a2 a3 S' hf
    rw [f_X0_findShortestWays_22] at hf
    refine zv_iload_n dX0_findShortestWays_22 rfl rfl ?_
    refine zv_aload_n dX0_findShortestWays_23 rfl rfl ?_
    refine zv_get zf_X0_33 (hL.1 S) rfl dX0_findShortestWays_24 ?_
    refine zv_icmp_ge (tgt := 77) dX0_findShortestWays_27 (by decide) (fun c1 => ?_) (fun c1 => ?_)
    · replace hf := (if_pos c1).symm.trans hf
      refine zv_iinc (v := 1) dX0_findShortestWays_77 rfl (by decide) (by decide) ?_
      refine zv_goto (tgt := 12) dX0_findShortestWays_80 (by decide) ?_
      exact zV_sub ([(0, .ref r), (1, .int a1), (2, .int (a2 + (1 : Int32)))]) ⟨rfl, rfl, rfl, trivial⟩ (hk12 S a1 (a2 + (1 : Int32)) _ hf)
    · replace hf := (if_neg c1).symm.trans hf
      refine zv_aload_n dX0_findShortestWays_30 rfl rfl ?_
      refine zv_iload_n dX0_findShortestWays_31 rfl rfl ?_
      refine zv_iload_n dX0_findShortestWays_32 rfl rfl ?_
      obtain ⟨x3, hc2, hf⟩ := zbind hf
      refine zv_callV dX0_findShortestWays_33 zk_X0_133 zm_X0_daysBetween (c_X0_daysBetween hL d (by omega) S a2 a1 x3 hc2) (hL.1 S) rfl rfl rfl (Nat.le_of_ble_eq_true rfl) ?_
      refine zv_istore dX0_findShortestWays_36 (by decide) ?_
      refine zv_aload_n dX0_findShortestWays_38 rfl rfl ?_
      refine zv_iload_n dX0_findShortestWays_39 rfl rfl ?_
      refine zv_iload_n dX0_findShortestWays_40 rfl rfl ?_
      obtain ⟨x5, hc4, hf⟩ := zbind hf
      refine zv_callV dX0_findShortestWays_41 zk_X0_133 zm_X0_daysBetween (c_X0_daysBetween hL d (by omega) S a1 a3 x5 hc4) (hL.1 S) rfl rfl rfl (Nat.le_of_ble_eq_true rfl) ?_
      refine zv_istore dX0_findShortestWays_44 (by decide) ?_
      refine zv_iload dX0_findShortestWays_46 rfl ?_
      refine zv_bipush (v := -9) dX0_findShortestWays_48 (by decide) ?_
      refine zv_icmp_eq (tgt := 71) dX0_findShortestWays_50 (by decide) (fun c6 => ?_) (fun c6 => ?_)
      · replace hf := (if_pos c6).symm.trans hf
        exact zV_sub ([(0, .ref r), (1, .int a1), (2, .int a2), (3, .int a3)]) ⟨rfl, rfl, rfl, rfl, trivial⟩ (v_X0_findShortestWays_71 hL d (by omega) k2 hk2 k12 hk12 (f_X0_findShortestWays_22 k2 k12 r n) ih S a1 a2 a3 _ hf)
      · replace hf := (if_neg c6).symm.trans hf
        refine zv_iload dX0_findShortestWays_53 rfl ?_
        refine zv_bipush (v := -9) dX0_findShortestWays_55 (by decide) ?_
        refine zv_icmp_eq (tgt := 71) dX0_findShortestWays_57 (by decide) (fun c7 => ?_) (fun c7 => ?_)
        · replace hf := (if_pos c7).symm.trans hf
          exact zV_sub ([(0, .ref r), (1, .int a1), (2, .int a2), (3, .int a3)]) ⟨rfl, rfl, rfl, rfl, trivial⟩ (v_X0_findShortestWays_71 hL d (by omega) k2 hk2 k12 hk12 (f_X0_findShortestWays_22 k2 k12 r n) ih S a1 a2 a3 _ hf)
        · replace hf := (if_neg c7).symm.trans hf
          refine zv_aload_n dX0_findShortestWays_60 rfl rfl ?_
          refine zv_iload_n dX0_findShortestWays_61 rfl rfl ?_
          refine zv_iload_n dX0_findShortestWays_62 rfl rfl ?_
          refine zv_iload dX0_findShortestWays_63 rfl ?_
          refine zv_iload dX0_findShortestWays_65 rfl ?_
          refine zv_iadd dX0_findShortestWays_67 ?_
          obtain ⟨S9, hc8, hf⟩ := zbind hf
          refine zv_callV dX0_findShortestWays_68 zk_X0_120 zm_X0_shortenWay (c_X0_shortenWay hL d (by omega) S a2 a3 (x3 + x5) S9 hc8) (hL.1 S) rfl rfl rfl (Nat.le_of_ble_eq_true rfl) ?_
          exact zV_sub ([(0, .ref r), (1, .int a1), (2, .int a2), (3, .int a3)]) ⟨rfl, rfl, rfl, rfl, trivial⟩ (v_X0_findShortestWays_71 hL d (by omega) k2 hk2 k12 hk12 (f_X0_findShortestWays_22 k2 k12 r n) ih S9 a1 a2 a3 _ hf)
def f_X0_findShortestWays_12 (k2 : zS → Int32 → Option zS) (r : Nat) : Nat → zS → Int32 → Int32 → Option zS
  | 0, _, _, _ => none
  | n + 1, S, a1, a2 => (if (S.1 r 6) ≤ a2 then k2 S (a1 + (1 : Int32)) else f_X0_findShortestWays_22 k2 (f_X0_findShortestWays_12 k2 r n) r zN S a1 a2 (0 : Int32))
set_option maxRecDepth 100000 in
set_option maxHeartbeats 4000000 in
theorem v_X0_findShortestWays_12 {W : zS → List va_E} {r : Nat} (hL : zLand W r) (d : Nat) (hd : 1 ≤ d) (k2 : zS → Int32 → Option zS) (hk2 : ∀ (S : zS) (a1 : Int32) S', k2 S a1 = (some S') → zV none (d + 1) yX0_findShortestWays cX0_findShortestWays 6 none 2 [(0, .ref r), (1, .int a1)] [] (W S) (zq none (W S'))) : ∀ (n : Nat) (S : zS) (a1 : Int32) (a2 : Int32) (S' : zS), f_X0_findShortestWays_12 k2 r n S a1 a2 = (some S') → zV none (d + 1) yX0_findShortestWays cX0_findShortestWays 6 none 12 [(0, .ref r), (1, .int a1), (2, .int a2)] [] (W S) (zq none (W S')) := by
  intro n
  induction n with
  | zero =>
    intro S a1 a2 S' hf
    cases hf
  | succ n ih =>
    intro S a1 a2 S' hf
    rw [f_X0_findShortestWays_12] at hf
    refine zv_iload_n dX0_findShortestWays_12 rfl rfl ?_
    refine zv_aload_n dX0_findShortestWays_13 rfl rfl ?_
    refine zv_get zf_X0_33 (hL.1 S) rfl dX0_findShortestWays_14 ?_
    refine zv_icmp_ge (tgt := 83) dX0_findShortestWays_17 (by decide) (fun c1 => ?_) (fun c1 => ?_)
    · replace hf := (if_pos c1).symm.trans hf
      refine zv_iinc (v := 1) dX0_findShortestWays_83 rfl (by decide) (by decide) ?_
      refine zv_goto (tgt := 2) dX0_findShortestWays_86 (by decide) ?_
      exact zV_sub ([(0, .ref r), (1, .int (a1 + (1 : Int32)))]) ⟨rfl, rfl, trivial⟩ (hk2 S (a1 + (1 : Int32)) _ hf)
    · replace hf := (if_neg c1).symm.trans hf
      refine zv_iconst (v := 0) dX0_findShortestWays_20 (by decide) ?_
      refine zv_istore_n dX0_findShortestWays_21 rfl (by decide) ?_
      exact zV_sub ([(0, .ref r), (1, .int a1), (2, .int a2), (3, .int (0 : Int32))]) ⟨rfl, rfl, rfl, rfl, trivial⟩ (v_X0_findShortestWays_22 hL d (by omega) k2 hk2 (f_X0_findShortestWays_12 k2 r n) ih zN S a1 a2 (0 : Int32) _ hf)
def f_X0_findShortestWays_2 (r : Nat) : Nat → zS → Int32 → Option zS
  | 0, _, _ => none
  | n + 1, S, a1 => (if (S.1 r 6) ≤ a1 then some S else f_X0_findShortestWays_12 (f_X0_findShortestWays_2 r n) r zN S a1 (0 : Int32))
set_option maxRecDepth 100000 in
set_option maxHeartbeats 4000000 in
theorem v_X0_findShortestWays_2 {W : zS → List va_E} {r : Nat} (hL : zLand W r) (d : Nat) (hd : 1 ≤ d) : ∀ (n : Nat) (S : zS) (a1 : Int32) (S' : zS), f_X0_findShortestWays_2 r n S a1 = (some S') → zV none (d + 1) yX0_findShortestWays cX0_findShortestWays 6 none 2 [(0, .ref r), (1, .int a1)] [] (W S) (zq none (W S')) := by
  intro n
  induction n with
  | zero =>
    intro S a1 S' hf
    cases hf
  | succ n ih =>
    intro S a1 S' hf
    rw [f_X0_findShortestWays_2] at hf
    refine zv_iload_n dX0_findShortestWays_2 rfl rfl ?_
    refine zv_aload_n dX0_findShortestWays_3 rfl rfl ?_
    refine zv_get zf_X0_33 (hL.1 S) rfl dX0_findShortestWays_4 ?_
    refine zv_icmp_ge (tgt := 89) dX0_findShortestWays_7 (by decide) (fun c1 => ?_) (fun c1 => ?_)
    · replace hf := (if_pos c1).symm.trans hf
      exact zv_vret dX0_findShortestWays_89 rfl (zret0 W hf)
    · replace hf := (if_neg c1).symm.trans hf
      refine zv_iconst (v := 0) dX0_findShortestWays_10 (by decide) ?_
      refine zv_istore_n dX0_findShortestWays_11 rfl (by decide) ?_
      exact zV_sub ([(0, .ref r), (1, .int a1), (2, .int (0 : Int32))]) ⟨rfl, rfl, rfl, trivial⟩ (v_X0_findShortestWays_12 hL d (by omega) (f_X0_findShortestWays_2 r n) ih zN S a1 (0 : Int32) _ hf)
def f_X0_findShortestWays (S : zS) (r : Nat) : Option zS :=
  f_X0_findShortestWays_2 r zN S (0 : Int32)
set_option maxRecDepth 100000 in
set_option maxHeartbeats 4000000 in
theorem c_X0_findShortestWays {W : zS → List va_E} {r : Nat} (hL : zLand W r) (d : Nat) (hd : 2 ≤ d) (S : zS) (S' : zS) (hf : f_X0_findShortestWays S r = (some S')) : zC d yX0_findShortestWays cX0_findShortestWays 6 none [.ref r] (W S) (zq none (W S')) := by
  obtain ⟨d, rfl⟩ : ∃ e, d = e + 1 := ⟨d - 1, by omega⟩
  refine zC_intro (by decide) rfl (Nat.le_of_ble_eq_true rfl) ?_
  unfold f_X0_findShortestWays at hf
  refine zv_iconst (v := 0) dX0_findShortestWays_0 (by decide) ?_
  refine zv_istore_n dX0_findShortestWays_1 rfl (by decide) ?_
  exact zV_sub ([(0, .ref r), (1, .int (0 : Int32))]) ⟨rfl, rfl, trivial⟩ (v_X0_findShortestWays_2 hL d (by omega) zN S (0 : Int32) _ hf)
-- KingPrices$Land.isToldOnce(I)Z height 0 reads
def f_X0_isToldOnce (a0 : Int32) : Option Int32 :=
  (if a0 = (109 : Int32) then some ((1 : Int32)) else (if a0 = (119 : Int32) then some ((1 : Int32)) else (if a0 = (98 : Int32) then some ((1 : Int32)) else some ((0 : Int32)))))
set_option maxRecDepth 100000 in
set_option maxHeartbeats 4000000 in
theorem c_X0_isToldOnce {h : List va_E} (d : Nat) (a0 : Int32) (v : Int32) (hf : f_X0_isToldOnce a0 = (some v)) : zC d yX0_isToldOnce cX0_isToldOnce 1 (some .boolean) [.int a0] h (zq (some (.int v)) h) := by
  refine zC_intro (by decide) rfl (Nat.le_of_ble_eq_true rfl) ?_
  unfold f_X0_isToldOnce at hf
  refine zv_iload_n dX0_isToldOnce_0 rfl rfl ?_
  refine zv_bipush (v := 109) dX0_isToldOnce_1 (by decide) ?_
  refine zv_icmp_eq (tgt := 18) dX0_isToldOnce_3 (by decide) (fun c1 => ?_) (fun c1 => ?_)
  · replace hf := (if_pos c1).symm.trans hf
    refine zv_iconst (v := 1) dX0_isToldOnce_18 (by decide) ?_
    refine zv_goto (tgt := 23) dX0_isToldOnce_19 (by decide) ?_
    exact zv_iret (ty := .boolean) dX0_isToldOnce_23 rfl rfl (zret1 hf)
  · replace hf := (if_neg c1).symm.trans hf
    refine zv_iload_n dX0_isToldOnce_6 rfl rfl ?_
    refine zv_bipush (v := 119) dX0_isToldOnce_7 (by decide) ?_
    refine zv_icmp_eq (tgt := 18) dX0_isToldOnce_9 (by decide) (fun c2 => ?_) (fun c2 => ?_)
    · replace hf := (if_pos c2).symm.trans hf
      refine zv_iconst (v := 1) dX0_isToldOnce_18 (by decide) ?_
      refine zv_goto (tgt := 23) dX0_isToldOnce_19 (by decide) ?_
      exact zv_iret (ty := .boolean) dX0_isToldOnce_23 rfl rfl (zret1 hf)
    · replace hf := (if_neg c2).symm.trans hf
      refine zv_iload_n dX0_isToldOnce_12 rfl rfl ?_
      refine zv_bipush (v := 98) dX0_isToldOnce_13 (by decide) ?_
      refine zv_icmp_ne (tgt := 22) dX0_isToldOnce_15 (by decide) (fun c3 => ?_) (fun c3 => ?_)
      · replace hf := (if_neg c3).symm.trans hf
        refine zv_iconst (v := 0) dX0_isToldOnce_22 (by decide) ?_
        exact zv_iret (ty := .boolean) dX0_isToldOnce_23 rfl rfl (zret1 hf)
      · replace hf := (if_pos c3).symm.trans hf
        refine zv_iconst (v := 1) dX0_isToldOnce_18 (by decide) ?_
        refine zv_goto (tgt := 23) dX0_isToldOnce_19 (by decide) ?_
        exact zv_iret (ty := .boolean) dX0_isToldOnce_23 rfl rfl (zret1 hf)
-- KingPrices$Land.mayBeEnd(II)Z height 1 reads
def f_X0_mayBeEnd (S : zS) (r : Nat) (a1 : Int32) (a2 : Int32) : Option Int32 :=
  ((f_X0_knows S r a2).bind (fun x2 => (if x2 = 0 then some ((0 : Int32)) else (if a1 = 0 then some ((1 : Int32)) else (if a2 = (S.1 (r + 6) 0) then some ((0 : Int32)) else some ((1 : Int32)))))))
set_option maxRecDepth 100000 in
set_option maxHeartbeats 4000000 in
theorem c_X0_mayBeEnd {W : zS → List va_E} {r : Nat} (hL : zLand W r) (d : Nat) (hd : 1 ≤ d) (S : zS) (a1 : Int32) (a2 : Int32) (v : Int32) (hf : f_X0_mayBeEnd S r a1 a2 = (some v)) : zC d yX0_mayBeEnd cX0_mayBeEnd 3 (some .boolean) [.ref r, .int a1, .int a2] (W S) (zq (some (.int v)) (W S)) := by
  obtain ⟨d, rfl⟩ : ∃ e, d = e + 1 := ⟨d - 1, by omega⟩
  refine zC_intro (by decide) rfl (Nat.le_of_ble_eq_true rfl) ?_
  unfold f_X0_mayBeEnd at hf
  refine zv_aload_n dX0_mayBeEnd_0 rfl rfl ?_
  refine zv_iload_n dX0_mayBeEnd_1 rfl rfl ?_
  obtain ⟨x2, hc1, hf⟩ := zbind hf
  refine zv_callV dX0_mayBeEnd_2 zk_X0_58 zm_X0_knows (c_X0_knows hL d S a2 x2 hc1) (hL.1 S) rfl rfl rfl (Nat.le_of_ble_eq_true rfl) ?_
  refine zv_if_eq (tgt := 26) dX0_mayBeEnd_5 (by decide) (fun c3 => ?_) (fun c3 => ?_)
  · replace hf := (if_pos c3).symm.trans hf
    refine zv_iconst (v := 0) dX0_mayBeEnd_26 (by decide) ?_
    exact zv_iret (ty := .boolean) dX0_mayBeEnd_27 rfl rfl (zret1 hf)
  · replace hf := (if_neg c3).symm.trans hf
    refine zv_iload_n dX0_mayBeEnd_8 rfl rfl ?_
    refine zv_if_eq (tgt := 22) dX0_mayBeEnd_9 (by decide) (fun c4 => ?_) (fun c4 => ?_)
    · replace hf := (if_pos c4).symm.trans hf
      refine zv_iconst (v := 1) dX0_mayBeEnd_22 (by decide) ?_
      refine zv_goto (tgt := 27) dX0_mayBeEnd_23 (by decide) ?_
      exact zv_iret (ty := .boolean) dX0_mayBeEnd_27 rfl rfl (zret1 hf)
    · replace hf := (if_neg c4).symm.trans hf
      refine zv_iload_n dX0_mayBeEnd_12 rfl rfl ?_
      refine zv_aload_n dX0_mayBeEnd_13 rfl rfl ?_
      refine zv_get zf_X0_27 (hL.1 S) rfl dX0_mayBeEnd_14 ?_
      refine zv_iconst (v := 0) dX0_mayBeEnd_17 (by decide) ?_
      refine zv_ialdK (k := 0) (by decide) (by decide) (hL.a6 S) dX0_mayBeEnd_18 ?_
      refine zv_icmp_eq (tgt := 26) dX0_mayBeEnd_19 (by decide) (fun c5 => ?_) (fun c5 => ?_)
      · replace hf := (if_pos c5).symm.trans hf
        refine zv_iconst (v := 0) dX0_mayBeEnd_26 (by decide) ?_
        exact zv_iret (ty := .boolean) dX0_mayBeEnd_27 rfl rfl (zret1 hf)
      · replace hf := (if_neg c5).symm.trans hf
        refine zv_iconst (v := 1) dX0_mayBeEnd_22 (by decide) ?_
        refine zv_goto (tgt := 27) dX0_mayBeEnd_23 (by decide) ?_
        exact zv_iret (ty := .boolean) dX0_mayBeEnd_27 rfl rfl (zret1 hf)
-- KingPrices$Land.mayBeTold(III)Z height 2 reads
def f_X0_mayBeTold (S : zS) (r : Nat) (a1 : Int32) (a2 : Int32) (a3 : Int32) : Option Int32 :=
  (if a1 = 100 then (if (2 : Int32) ≤ a2 then ((f_X5_isWithin a3 (1 : Int32) (99 : Int32)).bind (fun x4 => (if zbl x4 then some x4 else none))) else ((f_X0_mayBeEnd S r a2 a3).bind (fun x7 => (if zbl x7 then some x7 else none)))) else (if a1 = 109 then ((f_X5_isWithin a3 (1 : Int32) (9 : Int32)).bind (fun x11 => (if zbl x11 then some x11 else none))) else (if a1 = 114 then (if (2 : Int32) ≤ a2 then ((f_X5_isWithin a3 (1 : Int32) (9 : Int32)).bind (fun x16 => (if zbl x16 then some x16 else none))) else ((f_X0_mayBeEnd S r a2 a3).bind (fun x19 => (if zbl x19 then some x19 else none)))) else (if a1 = 118 then (if (2 : Int32) ≤ a2 then (if (1 : Int32) < a3 then some ((0 : Int32)) else some ((1 : Int32))) else (if (60 : Int32) < a3 then some ((0 : Int32)) else some ((1 : Int32)))) else (if a1 = 119 then (if (10 : Int32) < a3 then some ((0 : Int32)) else some ((1 : Int32))) else (if (99 : Int32) < a3 then some ((0 : Int32)) else some ((1 : Int32))))))))
set_option maxRecDepth 100000 in
set_option maxHeartbeats 4000000 in
theorem c_X0_mayBeTold {W : zS → List va_E} {r : Nat} (hL : zLand W r) (d : Nat) (hd : 2 ≤ d) (S : zS) (a1 : Int32) (a2 : Int32) (a3 : Int32) (v : Int32) (hf : f_X0_mayBeTold S r a1 a2 a3 = (some v)) : zC d yX0_mayBeTold cX0_mayBeTold 4 (some .boolean) [.ref r, .int a1, .int a2, .int a3] (W S) (zq (some (.int v)) (W S)) := by
  obtain ⟨d, rfl⟩ : ∃ e, d = e + 1 := ⟨d - 1, by omega⟩
  refine zC_intro (by decide) rfl (Nat.le_of_ble_eq_true rfl) ?_
  unfold f_X0_mayBeTold at hf
  refine zv_iload_n dX0_mayBeTold_0 rfl rfl ?_
  by_cases c1 : a1 = 100
  · replace hf := (if_pos c1).symm.trans hf
    refine zv_lookup (off := 94) (tgt := 95) dX0_mayBeTold_1 (by decide) (by rw [c1]; decide) (by decide) ?_
    refine zv_iload_n dX0_mayBeTold_95 rfl rfl ?_
    refine zv_iconst (v := 2) dX0_mayBeTold_96 (by decide) ?_
    refine zv_icmp_ge (tgt := 109) dX0_mayBeTold_97 (by decide) (fun c2 => ?_) (fun c2 => ?_)
    · replace hf := (if_pos c2).symm.trans hf
      refine zv_iload_n dX0_mayBeTold_109 rfl rfl ?_
      refine zv_iconst (v := 1) dX0_mayBeTold_110 (by decide) ?_
      refine zv_bipush (v := 99) dX0_mayBeTold_111 (by decide) ?_
      obtain ⟨x4, hc3, hf⟩ := zbind hf
      refine zv_callSN dX0_mayBeTold_113 zk_X0_108 zm_X5_isWithin (c_X5_isWithin  d a3 (1 : Int32) (99 : Int32) x4 hc3) rfl rfl (Nat.le_of_ble_eq_true rfl) ?_
      obtain ⟨hb5, hf⟩ := zifb hf
      exact zv_iret (ty := .boolean) dX0_mayBeTold_116 rfl (zbl_n hb5) (zret1 hf)
    · replace hf := (if_neg c2).symm.trans hf
      refine zv_aload_n dX0_mayBeTold_100 rfl rfl ?_
      refine zv_iload_n dX0_mayBeTold_101 rfl rfl ?_
      refine zv_iload_n dX0_mayBeTold_102 rfl rfl ?_
      obtain ⟨x7, hc6, hf⟩ := zbind hf
      refine zv_callV dX0_mayBeTold_103 zk_X0_104 zm_X0_mayBeEnd (c_X0_mayBeEnd hL d (by omega) S a2 a3 x7 hc6) (hL.1 S) rfl rfl rfl (Nat.le_of_ble_eq_true rfl) ?_
      refine zv_goto (tgt := 116) dX0_mayBeTold_106 (by decide) ?_
      obtain ⟨hb8, hf⟩ := zifb hf
      exact zv_iret (ty := .boolean) dX0_mayBeTold_116 rfl (zbl_n hb8) (zret1 hf)
  replace hf := (if_neg c1).symm.trans hf
  by_cases c9 : a1 = 109
  · replace hf := (if_pos c9).symm.trans hf
    refine zv_lookup (off := 116) (tgt := 117) dX0_mayBeTold_1 (by decide) (by rw [c9]; decide) (by decide) ?_
    refine zv_iload_n dX0_mayBeTold_117 rfl rfl ?_
    refine zv_iconst (v := 1) dX0_mayBeTold_118 (by decide) ?_
    refine zv_bipush (v := 9) dX0_mayBeTold_119 (by decide) ?_
    obtain ⟨x11, hc10, hf⟩ := zbind hf
    refine zv_callSN dX0_mayBeTold_121 zk_X0_108 zm_X5_isWithin (c_X5_isWithin  d a3 (1 : Int32) (9 : Int32) x11 hc10) rfl rfl (Nat.le_of_ble_eq_true rfl) ?_
    obtain ⟨hb12, hf⟩ := zifb hf
    exact zv_iret (ty := .boolean) dX0_mayBeTold_124 rfl (zbl_n hb12) (zret1 hf)
  replace hf := (if_neg c9).symm.trans hf
  by_cases c13 : a1 = 114
  · replace hf := (if_pos c13).symm.trans hf
    refine zv_lookup (off := 72) (tgt := 73) dX0_mayBeTold_1 (by decide) (by rw [c13]; decide) (by decide) ?_
    refine zv_iload_n dX0_mayBeTold_73 rfl rfl ?_
    refine zv_iconst (v := 2) dX0_mayBeTold_74 (by decide) ?_
    refine zv_icmp_ge (tgt := 87) dX0_mayBeTold_75 (by decide) (fun c14 => ?_) (fun c14 => ?_)
    · replace hf := (if_pos c14).symm.trans hf
      refine zv_iload_n dX0_mayBeTold_87 rfl rfl ?_
      refine zv_iconst (v := 1) dX0_mayBeTold_88 (by decide) ?_
      refine zv_bipush (v := 9) dX0_mayBeTold_89 (by decide) ?_
      obtain ⟨x16, hc15, hf⟩ := zbind hf
      refine zv_callSN dX0_mayBeTold_91 zk_X0_108 zm_X5_isWithin (c_X5_isWithin  d a3 (1 : Int32) (9 : Int32) x16 hc15) rfl rfl (Nat.le_of_ble_eq_true rfl) ?_
      obtain ⟨hb17, hf⟩ := zifb hf
      exact zv_iret (ty := .boolean) dX0_mayBeTold_94 rfl (zbl_n hb17) (zret1 hf)
    · replace hf := (if_neg c14).symm.trans hf
      refine zv_aload_n dX0_mayBeTold_78 rfl rfl ?_
      refine zv_iload_n dX0_mayBeTold_79 rfl rfl ?_
      refine zv_iload_n dX0_mayBeTold_80 rfl rfl ?_
      obtain ⟨x19, hc18, hf⟩ := zbind hf
      refine zv_callV dX0_mayBeTold_81 zk_X0_104 zm_X0_mayBeEnd (c_X0_mayBeEnd hL d (by omega) S a2 a3 x19 hc18) (hL.1 S) rfl rfl rfl (Nat.le_of_ble_eq_true rfl) ?_
      refine zv_goto (tgt := 94) dX0_mayBeTold_84 (by decide) ?_
      obtain ⟨hb20, hf⟩ := zifb hf
      exact zv_iret (ty := .boolean) dX0_mayBeTold_94 rfl (zbl_n hb20) (zret1 hf)
  replace hf := (if_neg c13).symm.trans hf
  by_cases c21 : a1 = 118
  · replace hf := (if_pos c21).symm.trans hf
    refine zv_lookup (off := 51) (tgt := 52) dX0_mayBeTold_1 (by decide) (by rw [c21]; decide) (by decide) ?_
    refine zv_iload_n dX0_mayBeTold_52 rfl rfl ?_
    refine zv_iload_n dX0_mayBeTold_53 rfl rfl ?_
    refine zv_iconst (v := 2) dX0_mayBeTold_54 (by decide) ?_
    refine zv_icmp_ge (tgt := 63) dX0_mayBeTold_55 (by decide) (fun c22 => ?_) (fun c22 => ?_)
    · replace hf := (if_pos c22).symm.trans hf
      refine zv_iconst (v := 1) dX0_mayBeTold_63 (by decide) ?_
      refine zv_icmp_gt (tgt := 71) dX0_mayBeTold_64 (by decide) (fun c23 => ?_) (fun c23 => ?_)
      · replace hf := (if_pos c23).symm.trans hf
        refine zv_iconst (v := 0) dX0_mayBeTold_71 (by decide) ?_
        exact zv_iret (ty := .boolean) dX0_mayBeTold_72 rfl rfl (zret1 hf)
      · replace hf := (if_neg c23).symm.trans hf
        refine zv_iconst (v := 1) dX0_mayBeTold_67 (by decide) ?_
        refine zv_goto (tgt := 72) dX0_mayBeTold_68 (by decide) ?_
        exact zv_iret (ty := .boolean) dX0_mayBeTold_72 rfl rfl (zret1 hf)
    · replace hf := (if_neg c22).symm.trans hf
      refine zv_bipush (v := 60) dX0_mayBeTold_58 (by decide) ?_
      refine zv_goto (tgt := 64) dX0_mayBeTold_60 (by decide) ?_
      refine zv_icmp_gt (tgt := 71) dX0_mayBeTold_64 (by decide) (fun c24 => ?_) (fun c24 => ?_)
      · replace hf := (if_pos c24).symm.trans hf
        refine zv_iconst (v := 0) dX0_mayBeTold_71 (by decide) ?_
        exact zv_iret (ty := .boolean) dX0_mayBeTold_72 rfl rfl (zret1 hf)
      · replace hf := (if_neg c24).symm.trans hf
        refine zv_iconst (v := 1) dX0_mayBeTold_67 (by decide) ?_
        refine zv_goto (tgt := 72) dX0_mayBeTold_68 (by decide) ?_
        exact zv_iret (ty := .boolean) dX0_mayBeTold_72 rfl rfl (zret1 hf)
  replace hf := (if_neg c21).symm.trans hf
  by_cases c25 : a1 = 119
  · replace hf := (if_pos c25).symm.trans hf
    refine zv_lookup (off := 124) (tgt := 125) dX0_mayBeTold_1 (by decide) (by rw [c25]; decide) (by decide) ?_
    refine zv_iload_n dX0_mayBeTold_125 rfl rfl ?_
    refine zv_bipush (v := 10) dX0_mayBeTold_126 (by decide) ?_
    refine zv_icmp_gt (tgt := 135) dX0_mayBeTold_128 (by decide) (fun c26 => ?_) (fun c26 => ?_)
    · replace hf := (if_pos c26).symm.trans hf
      refine zv_iconst (v := 0) dX0_mayBeTold_135 (by decide) ?_
      exact zv_iret (ty := .boolean) dX0_mayBeTold_136 rfl rfl (zret1 hf)
    · replace hf := (if_neg c26).symm.trans hf
      refine zv_iconst (v := 1) dX0_mayBeTold_131 (by decide) ?_
      refine zv_goto (tgt := 136) dX0_mayBeTold_132 (by decide) ?_
      exact zv_iret (ty := .boolean) dX0_mayBeTold_136 rfl rfl (zret1 hf)
  replace hf := (if_neg c25).symm.trans hf
  refine zv_lookup (off := 136) (tgt := 137) dX0_mayBeTold_1 (by decide) ((lv_osw c1 (by decide)).trans ((lv_osw c9 (by decide)).trans ((lv_osw c13 (by decide)).trans ((lv_osw c21 (by decide)).trans ((lv_osw c25 (by decide)).trans rfl))))) (by decide) ?_
  refine zv_iload_n dX0_mayBeTold_137 rfl rfl ?_
  refine zv_bipush (v := 99) dX0_mayBeTold_138 (by decide) ?_
  refine zv_icmp_gt (tgt := 147) dX0_mayBeTold_140 (by decide) (fun c27 => ?_) (fun c27 => ?_)
  · replace hf := (if_pos c27).symm.trans hf
    refine zv_iconst (v := 0) dX0_mayBeTold_147 (by decide) ?_
    exact zv_iret (ty := .boolean) dX0_mayBeTold_148 rfl rfl (zret1 hf)
  · replace hf := (if_neg c27).symm.trans hf
    refine zv_iconst (v := 1) dX0_mayBeTold_143 (by decide) ?_
    refine zv_goto (tgt := 148) dX0_mayBeTold_144 (by decide) ?_
    exact zv_iret (ty := .boolean) dX0_mayBeTold_148 rfl rfl (zret1 hf)
-- KingPrices$Land.bitOf(I)I height 0 reads
def f_X0_bitOf (a0 : Int32) : Option Int32 :=
  some (((1 : Int32) <<< ((a0 - (97 : Int32)) &&& 31)))
set_option maxRecDepth 100000 in
set_option maxHeartbeats 4000000 in
theorem c_X0_bitOf {h : List va_E} (d : Nat) (a0 : Int32) (v : Int32) (hf : f_X0_bitOf a0 = (some v)) : zC d yX0_bitOf cX0_bitOf 1 (some .int) [.int a0] h (zq (some (.int v)) h) := by
  refine zC_intro (by decide) rfl (Nat.le_of_ble_eq_true rfl) ?_
  unfold f_X0_bitOf at hf
  refine zv_iconst (v := 1) dX0_bitOf_0 (by decide) ?_
  refine zv_iload_n dX0_bitOf_1 rfl rfl ?_
  refine zv_bipush (v := 97) dX0_bitOf_2 (by decide) ?_
  refine zv_isub dX0_bitOf_4 ?_
  refine zv_ishl dX0_bitOf_5 ?_
  exact zv_iret (ty := .int) dX0_bitOf_6 rfl rfl (zret1 hf)
-- KingPrices$Land.mayBegin(I)Z height 1 reads
def f_X0_mayBegin (S : zS) (r : Nat) (a1 : Int32) : Option Int32 :=
  (if a1 = 100 then some ((1 : Int32)) else (if a1 = 114 then (if (10 : Int32) ≤ (S.1 r 7) then some ((0 : Int32)) else some ((1 : Int32))) else (if a1 = 118 then (if (6 : Int32) ≤ (S.1 r 6) then some ((0 : Int32)) else some ((1 : Int32))) else ((f_X0_isToldOnce a1).bind (fun x7 => (if x7 = 0 then some ((0 : Int32)) else ((f_X0_bitOf a1).bind (fun x10 => (if ((S.1 r 11) &&& x10) = 0 then some ((1 : Int32)) else some ((0 : Int32)))))))))))
set_option maxRecDepth 100000 in
set_option maxHeartbeats 4000000 in
theorem c_X0_mayBegin {W : zS → List va_E} {r : Nat} (hL : zLand W r) (d : Nat) (hd : 1 ≤ d) (S : zS) (a1 : Int32) (v : Int32) (hf : f_X0_mayBegin S r a1 = (some v)) : zC d yX0_mayBegin cX0_mayBegin 2 (some .boolean) [.ref r, .int a1] (W S) (zq (some (.int v)) (W S)) := by
  obtain ⟨d, rfl⟩ : ∃ e, d = e + 1 := ⟨d - 1, by omega⟩
  refine zC_intro (by decide) rfl (Nat.le_of_ble_eq_true rfl) ?_
  unfold f_X0_mayBegin at hf
  refine zv_iload_n dX0_mayBegin_0 rfl rfl ?_
  by_cases c1 : a1 = 100
  · replace hf := (if_pos c1).symm.trans hf
    refine zv_lookup (off := 65) (tgt := 66) dX0_mayBegin_1 (by decide) (by rw [c1]; decide) (by decide) ?_
    refine zv_iconst (v := 1) dX0_mayBegin_66 (by decide) ?_
    exact zv_iret (ty := .boolean) dX0_mayBegin_67 rfl rfl (zret1 hf)
  replace hf := (if_neg c1).symm.trans hf
  by_cases c2 : a1 = 114
  · replace hf := (if_pos c2).symm.trans hf
    refine zv_lookup (off := 50) (tgt := 51) dX0_mayBegin_1 (by decide) (by rw [c2]; decide) (by decide) ?_
    refine zv_aload_n dX0_mayBegin_51 rfl rfl ?_
    refine zv_get zf_X0_37 (hL.1 S) rfl dX0_mayBegin_52 ?_
    refine zv_bipush (v := 10) dX0_mayBegin_55 (by decide) ?_
    refine zv_icmp_ge (tgt := 64) dX0_mayBegin_57 (by decide) (fun c3 => ?_) (fun c3 => ?_)
    · replace hf := (if_pos c3).symm.trans hf
      refine zv_iconst (v := 0) dX0_mayBegin_64 (by decide) ?_
      exact zv_iret (ty := .boolean) dX0_mayBegin_65 rfl rfl (zret1 hf)
    · replace hf := (if_neg c3).symm.trans hf
      refine zv_iconst (v := 1) dX0_mayBegin_60 (by decide) ?_
      refine zv_goto (tgt := 65) dX0_mayBegin_61 (by decide) ?_
      exact zv_iret (ty := .boolean) dX0_mayBegin_65 rfl rfl (zret1 hf)
  replace hf := (if_neg c2).symm.trans hf
  by_cases c4 : a1 = 118
  · replace hf := (if_pos c4).symm.trans hf
    refine zv_lookup (off := 35) (tgt := 36) dX0_mayBegin_1 (by decide) (by rw [c4]; decide) (by decide) ?_
    refine zv_aload_n dX0_mayBegin_36 rfl rfl ?_
    refine zv_get zf_X0_33 (hL.1 S) rfl dX0_mayBegin_37 ?_
    refine zv_bipush (v := 6) dX0_mayBegin_40 (by decide) ?_
    refine zv_icmp_ge (tgt := 49) dX0_mayBegin_42 (by decide) (fun c5 => ?_) (fun c5 => ?_)
    · replace hf := (if_pos c5).symm.trans hf
      refine zv_iconst (v := 0) dX0_mayBegin_49 (by decide) ?_
      exact zv_iret (ty := .boolean) dX0_mayBegin_50 rfl rfl (zret1 hf)
    · replace hf := (if_neg c5).symm.trans hf
      refine zv_iconst (v := 1) dX0_mayBegin_45 (by decide) ?_
      refine zv_goto (tgt := 50) dX0_mayBegin_46 (by decide) ?_
      exact zv_iret (ty := .boolean) dX0_mayBegin_50 rfl rfl (zret1 hf)
  replace hf := (if_neg c4).symm.trans hf
  refine zv_lookup (off := 67) (tgt := 68) dX0_mayBegin_1 (by decide) ((lv_osw c1 (by decide)).trans ((lv_osw c2 (by decide)).trans ((lv_osw c4 (by decide)).trans rfl))) (by decide) ?_
  refine zv_iload_n dX0_mayBegin_68 rfl rfl ?_
  obtain ⟨x7, hc6, hf⟩ := zbind hf
  refine zv_callS dX0_mayBegin_69 zk_X0_89 zm_X0_isToldOnce (c_X0_isToldOnce  d a1 x7 hc6) rfl rfl (Nat.le_of_ble_eq_true rfl) ?_
  refine zv_if_eq (tgt := 91) dX0_mayBegin_72 (by decide) (fun c8 => ?_) (fun c8 => ?_)
  · replace hf := (if_pos c8).symm.trans hf
    refine zv_iconst (v := 0) dX0_mayBegin_91 (by decide) ?_
    exact zv_iret (ty := .boolean) dX0_mayBegin_92 rfl rfl (zret1 hf)
  · replace hf := (if_neg c8).symm.trans hf
    refine zv_aload_n dX0_mayBegin_75 rfl rfl ?_
    refine zv_get zf_X0_49 (hL.1 S) rfl dX0_mayBegin_76 ?_
    refine zv_iload_n dX0_mayBegin_79 rfl rfl ?_
    obtain ⟨x10, hc9, hf⟩ := zbind hf
    refine zv_callS dX0_mayBegin_80 zk_X0_100 zm_X0_bitOf (c_X0_bitOf  d a1 x10 hc9) rfl rfl (Nat.le_of_ble_eq_true rfl) ?_
    refine zv_iand dX0_mayBegin_83 ?_
    refine zv_if_ne (tgt := 91) dX0_mayBegin_84 (by decide) (fun c11 => ?_) (fun c11 => ?_)
    · replace hf := (if_neg c11).symm.trans hf
      refine zv_iconst (v := 0) dX0_mayBegin_91 (by decide) ?_
      exact zv_iret (ty := .boolean) dX0_mayBegin_92 rfl rfl (zret1 hf)
    · replace hf := (if_pos c11).symm.trans hf
      refine zv_iconst (v := 1) dX0_mayBegin_87 (by decide) ?_
      refine zv_goto (tgt := 92) dX0_mayBegin_88 (by decide) ?_
      exact zv_iret (ty := .boolean) dX0_mayBegin_92 rfl rfl (zret1 hf)
-- KingPrices$Land.debt(II)I height 1 reads
def f_X0_debt (S : zS) (r : Nat) (a1 : Int32) (a2 : Int32) : Option Int32 :=
  ((f_X0_knows S r a1).bind (fun x2 => (if x2 = 0 then some ((0 : Int32)) else ((f_X0_knows S r a2).bind (fun x5 => (if x5 = 0 then some ((0 : Int32)) else (if zin ((a1 * (6 : Int32)) + a2) 36 then some ((S.1 (r + 5) (((a1 * (6 : Int32)) + a2)).toNatClampNeg)) else none)))))))
set_option maxRecDepth 100000 in
set_option maxHeartbeats 4000000 in
theorem c_X0_debt {W : zS → List va_E} {r : Nat} (hL : zLand W r) (d : Nat) (hd : 1 ≤ d) (S : zS) (a1 : Int32) (a2 : Int32) (v : Int32) (hf : f_X0_debt S r a1 a2 = (some v)) : zC d yX0_debt cX0_debt 3 (some .int) [.ref r, .int a1, .int a2] (W S) (zq (some (.int v)) (W S)) := by
  obtain ⟨d, rfl⟩ : ∃ e, d = e + 1 := ⟨d - 1, by omega⟩
  refine zC_intro (by decide) rfl (Nat.le_of_ble_eq_true rfl) ?_
  unfold f_X0_debt at hf
  refine zv_aload_n dX0_debt_0 rfl rfl ?_
  refine zv_iload_n dX0_debt_1 rfl rfl ?_
  obtain ⟨x2, hc1, hf⟩ := zbind hf
  refine zv_callV dX0_debt_2 zk_X0_58 zm_X0_knows (c_X0_knows hL d S a1 x2 hc1) (hL.1 S) rfl rfl rfl (Nat.le_of_ble_eq_true rfl) ?_
  refine zv_if_eq (tgt := 30) dX0_debt_5 (by decide) (fun c3 => ?_) (fun c3 => ?_)
  · replace hf := (if_pos c3).symm.trans hf
    refine zv_iconst (v := 0) dX0_debt_30 (by decide) ?_
    exact zv_iret (ty := .int) dX0_debt_31 rfl rfl (zret1 hf)
  · replace hf := (if_neg c3).symm.trans hf
    refine zv_aload_n dX0_debt_8 rfl rfl ?_
    refine zv_iload_n dX0_debt_9 rfl rfl ?_
    obtain ⟨x5, hc4, hf⟩ := zbind hf
    refine zv_callV dX0_debt_10 zk_X0_58 zm_X0_knows (c_X0_knows hL d S a2 x5 hc4) (hL.1 S) rfl rfl rfl (Nat.le_of_ble_eq_true rfl) ?_
    refine zv_if_eq (tgt := 30) dX0_debt_13 (by decide) (fun c6 => ?_) (fun c6 => ?_)
    · replace hf := (if_pos c6).symm.trans hf
      refine zv_iconst (v := 0) dX0_debt_30 (by decide) ?_
      exact zv_iret (ty := .int) dX0_debt_31 rfl rfl (zret1 hf)
    · replace hf := (if_neg c6).symm.trans hf
      refine zv_aload_n dX0_debt_16 rfl rfl ?_
      refine zv_get zf_X0_24 (hL.1 S) rfl dX0_debt_17 ?_
      refine zv_iload_n dX0_debt_20 rfl rfl ?_
      refine zv_bipush (v := 6) dX0_debt_21 (by decide) ?_
      refine zv_imul dX0_debt_23 ?_
      refine zv_iload_n dX0_debt_24 rfl rfl ?_
      refine zv_iadd dX0_debt_25 ?_
      obtain ⟨hb7, hf⟩ := zifb hf
      refine zv_iald hb7 (hL.a5 S) dX0_debt_26 ?_
      refine zv_goto (tgt := 31) dX0_debt_27 (by decide) ?_
      exact zv_iret (ty := .int) dX0_debt_31 rfl rfl (zret1 hf)
-- KingPrices$Land.takeDebt()V height 2 writes
def f_X0_takeDebt (S : zS) (r : Nat) : Option zS :=
  ((f_X0_knows S r (S.1 (r + 6) 0)).bind (fun x2 => (if x2 = 0 then some S else ((f_X0_knows S r (S.1 (r + 6) 1)).bind (fun x5 => (if x5 = 0 then some S else ((f_X0_debt S r (S.1 (r + 6) 0) (S.1 (r + 6) 1)).bind (fun x8 => (if zin (((S.1 (r + 6) 0) * (6 : Int32)) + (S.1 (r + 6) 1)) 36 then some (zr S (r + 5) (upd (S.1 (r + 5)) ((((S.1 (r + 6) 0) * (6 : Int32)) + (S.1 (r + 6) 1))).toNatClampNeg (if (x8 + (S.1 (r + 6) 2)) < (999 : Int32) then (x8 + (S.1 (r + 6) 2)) else (999 : Int32)))) else none)))))))))
set_option maxRecDepth 100000 in
set_option maxHeartbeats 4000000 in
theorem c_X0_takeDebt {W : zS → List va_E} {r : Nat} (hL : zLand W r) (d : Nat) (hd : 2 ≤ d) (S : zS) (S' : zS) (hf : f_X0_takeDebt S r = (some S')) : zC d yX0_takeDebt cX0_takeDebt 3 none [.ref r] (W S) (zq none (W S')) := by
  obtain ⟨d, rfl⟩ : ∃ e, d = e + 1 := ⟨d - 1, by omega⟩
  refine zC_intro (by decide) rfl (Nat.le_of_ble_eq_true rfl) ?_
  unfold f_X0_takeDebt at hf
  refine zv_aload_n dX0_takeDebt_0 rfl rfl ?_
  refine zv_get zf_X0_27 (hL.1 S) rfl dX0_takeDebt_1 ?_
  refine zv_iconst (v := 0) dX0_takeDebt_4 (by decide) ?_
  refine zv_ialdK (k := 0) (by decide) (by decide) (hL.a6 S) dX0_takeDebt_5 ?_
  refine zv_istore_n dX0_takeDebt_6 rfl (by decide) ?_
  refine zv_aload_n dX0_takeDebt_7 rfl rfl ?_
  refine zv_get zf_X0_27 (hL.1 S) rfl dX0_takeDebt_8 ?_
  refine zv_iconst (v := 1) dX0_takeDebt_11 (by decide) ?_
  refine zv_ialdK (k := 1) (by decide) (by decide) (hL.a6 S) dX0_takeDebt_12 ?_
  refine zv_istore_n dX0_takeDebt_13 rfl (by decide) ?_
  refine zv_aload_n dX0_takeDebt_14 rfl rfl ?_
  refine zv_iload_n dX0_takeDebt_15 rfl rfl ?_
  obtain ⟨x2, hc1, hf⟩ := zbind hf
  refine zv_callV dX0_takeDebt_16 zk_X0_58 zm_X0_knows (c_X0_knows hL d S (S.1 (r + 6) 0) x2 hc1) (hL.1 S) rfl rfl rfl (Nat.le_of_ble_eq_true rfl) ?_
  refine zv_if_eq (tgt := 60) dX0_takeDebt_19 (by decide) (fun c3 => ?_) (fun c3 => ?_)
  · replace hf := (if_pos c3).symm.trans hf
    exact zv_vret dX0_takeDebt_60 rfl (zret0 W hf)
  · replace hf := (if_neg c3).symm.trans hf
    refine zv_aload_n dX0_takeDebt_22 rfl rfl ?_
    refine zv_iload_n dX0_takeDebt_23 rfl rfl ?_
    obtain ⟨x5, hc4, hf⟩ := zbind hf
    refine zv_callV dX0_takeDebt_24 zk_X0_58 zm_X0_knows (c_X0_knows hL d S (S.1 (r + 6) 1) x5 hc4) (hL.1 S) rfl rfl rfl (Nat.le_of_ble_eq_true rfl) ?_
    refine zv_if_eq (tgt := 60) dX0_takeDebt_27 (by decide) (fun c6 => ?_) (fun c6 => ?_)
    · replace hf := (if_pos c6).symm.trans hf
      exact zv_vret dX0_takeDebt_60 rfl (zret0 W hf)
    · replace hf := (if_neg c6).symm.trans hf
      refine zv_aload_n dX0_takeDebt_30 rfl rfl ?_
      refine zv_get zf_X0_24 (hL.1 S) rfl dX0_takeDebt_31 ?_
      refine zv_iload_n dX0_takeDebt_34 rfl rfl ?_
      refine zv_bipush (v := 6) dX0_takeDebt_35 (by decide) ?_
      refine zv_imul dX0_takeDebt_37 ?_
      refine zv_iload_n dX0_takeDebt_38 rfl rfl ?_
      refine zv_iadd dX0_takeDebt_39 ?_
      refine zv_sipush (v := 999) dX0_takeDebt_40 (by decide) ?_
      refine zv_aload_n dX0_takeDebt_43 rfl rfl ?_
      refine zv_iload_n dX0_takeDebt_44 rfl rfl ?_
      refine zv_iload_n dX0_takeDebt_45 rfl rfl ?_
      obtain ⟨x8, hc7, hf⟩ := zbind hf
      refine zv_callV dX0_takeDebt_46 zk_X0_124 zm_X0_debt (c_X0_debt hL d (by omega) S (S.1 (r + 6) 0) (S.1 (r + 6) 1) x8 hc7) (hL.1 S) rfl rfl rfl (Nat.le_of_ble_eq_true rfl) ?_
      refine zv_aload_n dX0_takeDebt_49 rfl rfl ?_
      refine zv_get zf_X0_27 (hL.1 S) rfl dX0_takeDebt_50 ?_
      refine zv_iconst (v := 2) dX0_takeDebt_53 (by decide) ?_
      refine zv_ialdK (k := 2) (by decide) (by decide) (hL.a6 S) dX0_takeDebt_54 ?_
      refine zv_iadd dX0_takeDebt_55 ?_
      refine zv_min zk_X0_128 (Nat.le_of_ble_eq_true rfl) dX0_takeDebt_56 ?_
      obtain ⟨hb9, hf⟩ := zifb hf
      refine zv_iast hb9 (hL.a5 S) (hL.s5 S (upd (S.1 (r + 5)) ((((S.1 (r + 6) 0) * (6 : Int32)) + (S.1 (r + 6) 1))).toNatClampNeg (if (x8 + (S.1 (r + 6) 2)) < (999 : Int32) then (x8 + (S.1 (r + 6) 2)) else (999 : Int32)))) dX0_takeDebt_59 ?_
      exact zv_vret dX0_takeDebt_60 rfl (zret0 W hf)
-- KingPrices$Land.takeRoad()V height 2 writes
def f_X0_takeRoad (S : zS) (r : Nat) : Option zS :=
  ((f_X0_knows S r (S.1 (r + 6) 0)).bind (fun x2 => (if x2 = 0 then some S else ((f_X0_knows S r (S.1 (r + 6) 1)).bind (fun x5 => (if x5 = 0 then some S else ((f_X0_shortenWay S r (S.1 (r + 6) 0) (S.1 (r + 6) 1) (S.1 (r + 6) 2)).bind (fun S8 => ((f_X0_shortenWay S8 r (S.1 (r + 6) 1) (S.1 (r + 6) 0) (S8.1 (r + 6) 2)).bind (fun S10 => some (zu S10 r 7 ((S10.1 r 7) + (1 : Int32)))))))))))))
set_option maxRecDepth 100000 in
set_option maxHeartbeats 4000000 in
theorem c_X0_takeRoad {W : zS → List va_E} {r : Nat} (hL : zLand W r) (d : Nat) (hd : 2 ≤ d) (S : zS) (S' : zS) (hf : f_X0_takeRoad S r = (some S')) : zC d yX0_takeRoad cX0_takeRoad 3 none [.ref r] (W S) (zq none (W S')) := by
  obtain ⟨d, rfl⟩ : ∃ e, d = e + 1 := ⟨d - 1, by omega⟩
  refine zC_intro (by decide) rfl (Nat.le_of_ble_eq_true rfl) ?_
  unfold f_X0_takeRoad at hf
  refine zv_aload_n dX0_takeRoad_0 rfl rfl ?_
  refine zv_get zf_X0_27 (hL.1 S) rfl dX0_takeRoad_1 ?_
  refine zv_iconst (v := 0) dX0_takeRoad_4 (by decide) ?_
  refine zv_ialdK (k := 0) (by decide) (by decide) (hL.a6 S) dX0_takeRoad_5 ?_
  refine zv_istore_n dX0_takeRoad_6 rfl (by decide) ?_
  refine zv_aload_n dX0_takeRoad_7 rfl rfl ?_
  refine zv_get zf_X0_27 (hL.1 S) rfl dX0_takeRoad_8 ?_
  refine zv_iconst (v := 1) dX0_takeRoad_11 (by decide) ?_
  refine zv_ialdK (k := 1) (by decide) (by decide) (hL.a6 S) dX0_takeRoad_12 ?_
  refine zv_istore_n dX0_takeRoad_13 rfl (by decide) ?_
  refine zv_aload_n dX0_takeRoad_14 rfl rfl ?_
  refine zv_iload_n dX0_takeRoad_15 rfl rfl ?_
  obtain ⟨x2, hc1, hf⟩ := zbind hf
  refine zv_callV dX0_takeRoad_16 zk_X0_58 zm_X0_knows (c_X0_knows hL d S (S.1 (r + 6) 0) x2 hc1) (hL.1 S) rfl rfl rfl (Nat.le_of_ble_eq_true rfl) ?_
  refine zv_if_eq (tgt := 64) dX0_takeRoad_19 (by decide) (fun c3 => ?_) (fun c3 => ?_)
  · replace hf := (if_pos c3).symm.trans hf
    exact zv_vret dX0_takeRoad_64 rfl (zret0 W hf)
  · replace hf := (if_neg c3).symm.trans hf
    refine zv_aload_n dX0_takeRoad_22 rfl rfl ?_
    refine zv_iload_n dX0_takeRoad_23 rfl rfl ?_
    obtain ⟨x5, hc4, hf⟩ := zbind hf
    refine zv_callV dX0_takeRoad_24 zk_X0_58 zm_X0_knows (c_X0_knows hL d S (S.1 (r + 6) 1) x5 hc4) (hL.1 S) rfl rfl rfl (Nat.le_of_ble_eq_true rfl) ?_
    refine zv_if_eq (tgt := 64) dX0_takeRoad_27 (by decide) (fun c6 => ?_) (fun c6 => ?_)
    · replace hf := (if_pos c6).symm.trans hf
      exact zv_vret dX0_takeRoad_64 rfl (zret0 W hf)
    · replace hf := (if_neg c6).symm.trans hf
      refine zv_aload_n dX0_takeRoad_30 rfl rfl ?_
      refine zv_iload_n dX0_takeRoad_31 rfl rfl ?_
      refine zv_iload_n dX0_takeRoad_32 rfl rfl ?_
      refine zv_aload_n dX0_takeRoad_33 rfl rfl ?_
      refine zv_get zf_X0_27 (hL.1 S) rfl dX0_takeRoad_34 ?_
      refine zv_iconst (v := 2) dX0_takeRoad_37 (by decide) ?_
      refine zv_ialdK (k := 2) (by decide) (by decide) (hL.a6 S) dX0_takeRoad_38 ?_
      obtain ⟨S8, hc7, hf⟩ := zbind hf
      refine zv_callV dX0_takeRoad_39 zk_X0_120 zm_X0_shortenWay (c_X0_shortenWay hL d (by omega) S (S.1 (r + 6) 0) (S.1 (r + 6) 1) (S.1 (r + 6) 2) S8 hc7) (hL.1 S) rfl rfl rfl (Nat.le_of_ble_eq_true rfl) ?_
      refine zv_aload_n dX0_takeRoad_42 rfl rfl ?_
      refine zv_iload_n dX0_takeRoad_43 rfl rfl ?_
      refine zv_iload_n dX0_takeRoad_44 rfl rfl ?_
      refine zv_aload_n dX0_takeRoad_45 rfl rfl ?_
      refine zv_get zf_X0_27 (hL.1 S8) rfl dX0_takeRoad_46 ?_
      refine zv_iconst (v := 2) dX0_takeRoad_49 (by decide) ?_
      refine zv_ialdK (k := 2) (by decide) (by decide) (hL.a6 S8) dX0_takeRoad_50 ?_
      obtain ⟨S10, hc9, hf⟩ := zbind hf
      refine zv_callV dX0_takeRoad_51 zk_X0_120 zm_X0_shortenWay (c_X0_shortenWay hL d (by omega) S8 (S.1 (r + 6) 1) (S.1 (r + 6) 0) (S8.1 (r + 6) 2) S10 hc9) (hL.1 S8) rfl rfl rfl (Nat.le_of_ble_eq_true rfl) ?_
      refine zv_aload_n dX0_takeRoad_54 rfl rfl ?_
      refine zv_dup dX0_takeRoad_55 rfl ?_
      refine zv_get zf_X0_37 (hL.1 S10) rfl dX0_takeRoad_56 ?_
      refine zv_iconst (v := 1) dX0_takeRoad_59 (by decide) ?_
      refine zv_iadd dX0_takeRoad_60 ?_
      refine zv_put zp_X0_37 (hL.1 S10) rfl (fun _ => ⟨rfl, rfl⟩) (Nat.le_of_ble_eq_true rfl) (hL.p7 S10 ((S10.1 r 7) + (1 : Int32))) dX0_takeRoad_61 ?_
      exact zv_vret dX0_takeRoad_64 rfl (zret0 W hf)
-- KingPrices$Land.takeVillage()V height 0 writes
def f_X0_takeVillage (S : zS) (r : Nat) : Option zS :=
  (if (S.1 r 6) < (0 : Int32) then some S else (if (6 : Int32) ≤ (S.1 r 6) then some S else (if zin (S.1 r 6) 6 then (if zin (S.1 r 6) 6 then (if zin (S.1 r 6) 6 then some (zu (zr (zr (zr S (r + 1) (upd (S.1 (r + 1)) ((S.1 r 6)).toNatClampNeg (S.1 (r + 6) 0))) (r + 2) (upd ((zr S (r + 1) (upd (S.1 (r + 1)) ((S.1 r 6)).toNatClampNeg (S.1 (r + 6) 0))).1 (r + 2)) ((S.1 r 6)).toNatClampNeg ((zr S (r + 1) (upd (S.1 (r + 1)) ((S.1 r 6)).toNatClampNeg (S.1 (r + 6) 0))).1 (r + 6) 1))) (r + 3) (upd ((zr (zr S (r + 1) (upd (S.1 (r + 1)) ((S.1 r 6)).toNatClampNeg (S.1 (r + 6) 0))) (r + 2) (upd ((zr S (r + 1) (upd (S.1 (r + 1)) ((S.1 r 6)).toNatClampNeg (S.1 (r + 6) 0))).1 (r + 2)) ((S.1 r 6)).toNatClampNeg ((zr S (r + 1) (upd (S.1 (r + 1)) ((S.1 r 6)).toNatClampNeg (S.1 (r + 6) 0))).1 (r + 6) 1))).1 (r + 3)) ((S.1 r 6)).toNatClampNeg ((zr (zr S (r + 1) (upd (S.1 (r + 1)) ((S.1 r 6)).toNatClampNeg (S.1 (r + 6) 0))) (r + 2) (upd ((zr S (r + 1) (upd (S.1 (r + 1)) ((S.1 r 6)).toNatClampNeg (S.1 (r + 6) 0))).1 (r + 2)) ((S.1 r 6)).toNatClampNeg ((zr S (r + 1) (upd (S.1 (r + 1)) ((S.1 r 6)).toNatClampNeg (S.1 (r + 6) 0))).1 (r + 6) 1))).1 (r + 6) 2))) r 6 (((zr (zr (zr S (r + 1) (upd (S.1 (r + 1)) ((S.1 r 6)).toNatClampNeg (S.1 (r + 6) 0))) (r + 2) (upd ((zr S (r + 1) (upd (S.1 (r + 1)) ((S.1 r 6)).toNatClampNeg (S.1 (r + 6) 0))).1 (r + 2)) ((S.1 r 6)).toNatClampNeg ((zr S (r + 1) (upd (S.1 (r + 1)) ((S.1 r 6)).toNatClampNeg (S.1 (r + 6) 0))).1 (r + 6) 1))) (r + 3) (upd ((zr (zr S (r + 1) (upd (S.1 (r + 1)) ((S.1 r 6)).toNatClampNeg (S.1 (r + 6) 0))) (r + 2) (upd ((zr S (r + 1) (upd (S.1 (r + 1)) ((S.1 r 6)).toNatClampNeg (S.1 (r + 6) 0))).1 (r + 2)) ((S.1 r 6)).toNatClampNeg ((zr S (r + 1) (upd (S.1 (r + 1)) ((S.1 r 6)).toNatClampNeg (S.1 (r + 6) 0))).1 (r + 6) 1))).1 (r + 3)) ((S.1 r 6)).toNatClampNeg ((zr (zr S (r + 1) (upd (S.1 (r + 1)) ((S.1 r 6)).toNatClampNeg (S.1 (r + 6) 0))) (r + 2) (upd ((zr S (r + 1) (upd (S.1 (r + 1)) ((S.1 r 6)).toNatClampNeg (S.1 (r + 6) 0))).1 (r + 2)) ((S.1 r 6)).toNatClampNeg ((zr S (r + 1) (upd (S.1 (r + 1)) ((S.1 r 6)).toNatClampNeg (S.1 (r + 6) 0))).1 (r + 6) 1))).1 (r + 6) 2))).1 r 6) + (1 : Int32))) else none) else none) else none)))
set_option maxRecDepth 100000 in
set_option maxHeartbeats 4000000 in
theorem c_X0_takeVillage {W : zS → List va_E} {r : Nat} (hL : zLand W r) (d : Nat) (S : zS) (S' : zS) (hf : f_X0_takeVillage S r = (some S')) : zC d yX0_takeVillage cX0_takeVillage 2 none [.ref r] (W S) (zq none (W S')) := by
  refine zC_intro (by decide) rfl (Nat.le_of_ble_eq_true rfl) ?_
  unfold f_X0_takeVillage at hf
  refine zv_aload_n dX0_takeVillage_0 rfl rfl ?_
  refine zv_get zf_X0_33 (hL.1 S) rfl dX0_takeVillage_1 ?_
  refine zv_istore_n dX0_takeVillage_4 rfl (by decide) ?_
  refine zv_iconst (v := 0) dX0_takeVillage_5 (by decide) ?_
  refine zv_iload_n dX0_takeVillage_6 rfl rfl ?_
  refine zv_icmp_gt (tgt := 62) dX0_takeVillage_7 (by decide) (fun c1 => ?_) (fun c1 => ?_)
  · replace hf := (if_pos c1).symm.trans hf
    exact zv_vret dX0_takeVillage_62 rfl (zret0 W hf)
  · replace hf := (if_neg c1).symm.trans hf
    refine zv_iload_n dX0_takeVillage_10 rfl rfl ?_
    refine zv_bipush (v := 6) dX0_takeVillage_11 (by decide) ?_
    refine zv_icmp_ge (tgt := 62) dX0_takeVillage_13 (by decide) (fun c2 => ?_) (fun c2 => ?_)
    · replace hf := (if_pos c2).symm.trans hf
      exact zv_vret dX0_takeVillage_62 rfl (zret0 W hf)
    · replace hf := (if_neg c2).symm.trans hf
      refine zv_aload_n dX0_takeVillage_16 rfl rfl ?_
      refine zv_get zf_X0_9 (hL.1 S) rfl dX0_takeVillage_17 ?_
      refine zv_iload_n dX0_takeVillage_20 rfl rfl ?_
      refine zv_aload_n dX0_takeVillage_21 rfl rfl ?_
      refine zv_get zf_X0_27 (hL.1 S) rfl dX0_takeVillage_22 ?_
      refine zv_iconst (v := 0) dX0_takeVillage_25 (by decide) ?_
      refine zv_ialdK (k := 0) (by decide) (by decide) (hL.a6 S) dX0_takeVillage_26 ?_
      obtain ⟨hb3, hf⟩ := zifb hf
      refine zv_iast hb3 (hL.a1 S) (hL.s1 S (upd (S.1 (r + 1)) ((S.1 r 6)).toNatClampNeg (S.1 (r + 6) 0))) dX0_takeVillage_27 ?_
      refine zv_aload_n dX0_takeVillage_28 rfl rfl ?_
      refine zv_get zf_X0_15 (hL.1 (zr S (r + 1) (upd (S.1 (r + 1)) ((S.1 r 6)).toNatClampNeg (S.1 (r + 6) 0)))) rfl dX0_takeVillage_29 ?_
      refine zv_iload_n dX0_takeVillage_32 rfl rfl ?_
      refine zv_aload_n dX0_takeVillage_33 rfl rfl ?_
      refine zv_get zf_X0_27 (hL.1 (zr S (r + 1) (upd (S.1 (r + 1)) ((S.1 r 6)).toNatClampNeg (S.1 (r + 6) 0)))) rfl dX0_takeVillage_34 ?_
      refine zv_iconst (v := 1) dX0_takeVillage_37 (by decide) ?_
      refine zv_ialdK (k := 1) (by decide) (by decide) (hL.a6 (zr S (r + 1) (upd (S.1 (r + 1)) ((S.1 r 6)).toNatClampNeg (S.1 (r + 6) 0)))) dX0_takeVillage_38 ?_
      obtain ⟨hb4, hf⟩ := zifb hf
      refine zv_iast hb4 (hL.a2 (zr S (r + 1) (upd (S.1 (r + 1)) ((S.1 r 6)).toNatClampNeg (S.1 (r + 6) 0)))) (hL.s2 (zr S (r + 1) (upd (S.1 (r + 1)) ((S.1 r 6)).toNatClampNeg (S.1 (r + 6) 0))) (upd ((zr S (r + 1) (upd (S.1 (r + 1)) ((S.1 r 6)).toNatClampNeg (S.1 (r + 6) 0))).1 (r + 2)) ((S.1 r 6)).toNatClampNeg ((zr S (r + 1) (upd (S.1 (r + 1)) ((S.1 r 6)).toNatClampNeg (S.1 (r + 6) 0))).1 (r + 6) 1))) dX0_takeVillage_39 ?_
      refine zv_aload_n dX0_takeVillage_40 rfl rfl ?_
      refine zv_get zf_X0_18 (hL.1 (zr (zr S (r + 1) (upd (S.1 (r + 1)) ((S.1 r 6)).toNatClampNeg (S.1 (r + 6) 0))) (r + 2) (upd ((zr S (r + 1) (upd (S.1 (r + 1)) ((S.1 r 6)).toNatClampNeg (S.1 (r + 6) 0))).1 (r + 2)) ((S.1 r 6)).toNatClampNeg ((zr S (r + 1) (upd (S.1 (r + 1)) ((S.1 r 6)).toNatClampNeg (S.1 (r + 6) 0))).1 (r + 6) 1)))) rfl dX0_takeVillage_41 ?_
      refine zv_iload_n dX0_takeVillage_44 rfl rfl ?_
      refine zv_aload_n dX0_takeVillage_45 rfl rfl ?_
      refine zv_get zf_X0_27 (hL.1 (zr (zr S (r + 1) (upd (S.1 (r + 1)) ((S.1 r 6)).toNatClampNeg (S.1 (r + 6) 0))) (r + 2) (upd ((zr S (r + 1) (upd (S.1 (r + 1)) ((S.1 r 6)).toNatClampNeg (S.1 (r + 6) 0))).1 (r + 2)) ((S.1 r 6)).toNatClampNeg ((zr S (r + 1) (upd (S.1 (r + 1)) ((S.1 r 6)).toNatClampNeg (S.1 (r + 6) 0))).1 (r + 6) 1)))) rfl dX0_takeVillage_46 ?_
      refine zv_iconst (v := 2) dX0_takeVillage_49 (by decide) ?_
      refine zv_ialdK (k := 2) (by decide) (by decide) (hL.a6 (zr (zr S (r + 1) (upd (S.1 (r + 1)) ((S.1 r 6)).toNatClampNeg (S.1 (r + 6) 0))) (r + 2) (upd ((zr S (r + 1) (upd (S.1 (r + 1)) ((S.1 r 6)).toNatClampNeg (S.1 (r + 6) 0))).1 (r + 2)) ((S.1 r 6)).toNatClampNeg ((zr S (r + 1) (upd (S.1 (r + 1)) ((S.1 r 6)).toNatClampNeg (S.1 (r + 6) 0))).1 (r + 6) 1)))) dX0_takeVillage_50 ?_
      obtain ⟨hb5, hf⟩ := zifb hf
      refine zv_iast hb5 (hL.a3 (zr (zr S (r + 1) (upd (S.1 (r + 1)) ((S.1 r 6)).toNatClampNeg (S.1 (r + 6) 0))) (r + 2) (upd ((zr S (r + 1) (upd (S.1 (r + 1)) ((S.1 r 6)).toNatClampNeg (S.1 (r + 6) 0))).1 (r + 2)) ((S.1 r 6)).toNatClampNeg ((zr S (r + 1) (upd (S.1 (r + 1)) ((S.1 r 6)).toNatClampNeg (S.1 (r + 6) 0))).1 (r + 6) 1)))) (hL.s3 (zr (zr S (r + 1) (upd (S.1 (r + 1)) ((S.1 r 6)).toNatClampNeg (S.1 (r + 6) 0))) (r + 2) (upd ((zr S (r + 1) (upd (S.1 (r + 1)) ((S.1 r 6)).toNatClampNeg (S.1 (r + 6) 0))).1 (r + 2)) ((S.1 r 6)).toNatClampNeg ((zr S (r + 1) (upd (S.1 (r + 1)) ((S.1 r 6)).toNatClampNeg (S.1 (r + 6) 0))).1 (r + 6) 1))) (upd ((zr (zr S (r + 1) (upd (S.1 (r + 1)) ((S.1 r 6)).toNatClampNeg (S.1 (r + 6) 0))) (r + 2) (upd ((zr S (r + 1) (upd (S.1 (r + 1)) ((S.1 r 6)).toNatClampNeg (S.1 (r + 6) 0))).1 (r + 2)) ((S.1 r 6)).toNatClampNeg ((zr S (r + 1) (upd (S.1 (r + 1)) ((S.1 r 6)).toNatClampNeg (S.1 (r + 6) 0))).1 (r + 6) 1))).1 (r + 3)) ((S.1 r 6)).toNatClampNeg ((zr (zr S (r + 1) (upd (S.1 (r + 1)) ((S.1 r 6)).toNatClampNeg (S.1 (r + 6) 0))) (r + 2) (upd ((zr S (r + 1) (upd (S.1 (r + 1)) ((S.1 r 6)).toNatClampNeg (S.1 (r + 6) 0))).1 (r + 2)) ((S.1 r 6)).toNatClampNeg ((zr S (r + 1) (upd (S.1 (r + 1)) ((S.1 r 6)).toNatClampNeg (S.1 (r + 6) 0))).1 (r + 6) 1))).1 (r + 6) 2))) dX0_takeVillage_51 ?_
      refine zv_aload_n dX0_takeVillage_52 rfl rfl ?_
      refine zv_dup dX0_takeVillage_53 rfl ?_
      refine zv_get zf_X0_33 (hL.1 (zr (zr (zr S (r + 1) (upd (S.1 (r + 1)) ((S.1 r 6)).toNatClampNeg (S.1 (r + 6) 0))) (r + 2) (upd ((zr S (r + 1) (upd (S.1 (r + 1)) ((S.1 r 6)).toNatClampNeg (S.1 (r + 6) 0))).1 (r + 2)) ((S.1 r 6)).toNatClampNeg ((zr S (r + 1) (upd (S.1 (r + 1)) ((S.1 r 6)).toNatClampNeg (S.1 (r + 6) 0))).1 (r + 6) 1))) (r + 3) (upd ((zr (zr S (r + 1) (upd (S.1 (r + 1)) ((S.1 r 6)).toNatClampNeg (S.1 (r + 6) 0))) (r + 2) (upd ((zr S (r + 1) (upd (S.1 (r + 1)) ((S.1 r 6)).toNatClampNeg (S.1 (r + 6) 0))).1 (r + 2)) ((S.1 r 6)).toNatClampNeg ((zr S (r + 1) (upd (S.1 (r + 1)) ((S.1 r 6)).toNatClampNeg (S.1 (r + 6) 0))).1 (r + 6) 1))).1 (r + 3)) ((S.1 r 6)).toNatClampNeg ((zr (zr S (r + 1) (upd (S.1 (r + 1)) ((S.1 r 6)).toNatClampNeg (S.1 (r + 6) 0))) (r + 2) (upd ((zr S (r + 1) (upd (S.1 (r + 1)) ((S.1 r 6)).toNatClampNeg (S.1 (r + 6) 0))).1 (r + 2)) ((S.1 r 6)).toNatClampNeg ((zr S (r + 1) (upd (S.1 (r + 1)) ((S.1 r 6)).toNatClampNeg (S.1 (r + 6) 0))).1 (r + 6) 1))).1 (r + 6) 2)))) rfl dX0_takeVillage_54 ?_
      refine zv_iconst (v := 1) dX0_takeVillage_57 (by decide) ?_
      refine zv_iadd dX0_takeVillage_58 ?_
      refine zv_put zp_X0_33 (hL.1 (zr (zr (zr S (r + 1) (upd (S.1 (r + 1)) ((S.1 r 6)).toNatClampNeg (S.1 (r + 6) 0))) (r + 2) (upd ((zr S (r + 1) (upd (S.1 (r + 1)) ((S.1 r 6)).toNatClampNeg (S.1 (r + 6) 0))).1 (r + 2)) ((S.1 r 6)).toNatClampNeg ((zr S (r + 1) (upd (S.1 (r + 1)) ((S.1 r 6)).toNatClampNeg (S.1 (r + 6) 0))).1 (r + 6) 1))) (r + 3) (upd ((zr (zr S (r + 1) (upd (S.1 (r + 1)) ((S.1 r 6)).toNatClampNeg (S.1 (r + 6) 0))) (r + 2) (upd ((zr S (r + 1) (upd (S.1 (r + 1)) ((S.1 r 6)).toNatClampNeg (S.1 (r + 6) 0))).1 (r + 2)) ((S.1 r 6)).toNatClampNeg ((zr S (r + 1) (upd (S.1 (r + 1)) ((S.1 r 6)).toNatClampNeg (S.1 (r + 6) 0))).1 (r + 6) 1))).1 (r + 3)) ((S.1 r 6)).toNatClampNeg ((zr (zr S (r + 1) (upd (S.1 (r + 1)) ((S.1 r 6)).toNatClampNeg (S.1 (r + 6) 0))) (r + 2) (upd ((zr S (r + 1) (upd (S.1 (r + 1)) ((S.1 r 6)).toNatClampNeg (S.1 (r + 6) 0))).1 (r + 2)) ((S.1 r 6)).toNatClampNeg ((zr S (r + 1) (upd (S.1 (r + 1)) ((S.1 r 6)).toNatClampNeg (S.1 (r + 6) 0))).1 (r + 6) 1))).1 (r + 6) 2)))) rfl (fun _ => ⟨rfl, rfl⟩) (Nat.le_of_ble_eq_true rfl) (hL.p6 (zr (zr (zr S (r + 1) (upd (S.1 (r + 1)) ((S.1 r 6)).toNatClampNeg (S.1 (r + 6) 0))) (r + 2) (upd ((zr S (r + 1) (upd (S.1 (r + 1)) ((S.1 r 6)).toNatClampNeg (S.1 (r + 6) 0))).1 (r + 2)) ((S.1 r 6)).toNatClampNeg ((zr S (r + 1) (upd (S.1 (r + 1)) ((S.1 r 6)).toNatClampNeg (S.1 (r + 6) 0))).1 (r + 6) 1))) (r + 3) (upd ((zr (zr S (r + 1) (upd (S.1 (r + 1)) ((S.1 r 6)).toNatClampNeg (S.1 (r + 6) 0))) (r + 2) (upd ((zr S (r + 1) (upd (S.1 (r + 1)) ((S.1 r 6)).toNatClampNeg (S.1 (r + 6) 0))).1 (r + 2)) ((S.1 r 6)).toNatClampNeg ((zr S (r + 1) (upd (S.1 (r + 1)) ((S.1 r 6)).toNatClampNeg (S.1 (r + 6) 0))).1 (r + 6) 1))).1 (r + 3)) ((S.1 r 6)).toNatClampNeg ((zr (zr S (r + 1) (upd (S.1 (r + 1)) ((S.1 r 6)).toNatClampNeg (S.1 (r + 6) 0))) (r + 2) (upd ((zr S (r + 1) (upd (S.1 (r + 1)) ((S.1 r 6)).toNatClampNeg (S.1 (r + 6) 0))).1 (r + 2)) ((S.1 r 6)).toNatClampNeg ((zr S (r + 1) (upd (S.1 (r + 1)) ((S.1 r 6)).toNatClampNeg (S.1 (r + 6) 0))).1 (r + 6) 1))).1 (r + 6) 2))) (((zr (zr (zr S (r + 1) (upd (S.1 (r + 1)) ((S.1 r 6)).toNatClampNeg (S.1 (r + 6) 0))) (r + 2) (upd ((zr S (r + 1) (upd (S.1 (r + 1)) ((S.1 r 6)).toNatClampNeg (S.1 (r + 6) 0))).1 (r + 2)) ((S.1 r 6)).toNatClampNeg ((zr S (r + 1) (upd (S.1 (r + 1)) ((S.1 r 6)).toNatClampNeg (S.1 (r + 6) 0))).1 (r + 6) 1))) (r + 3) (upd ((zr (zr S (r + 1) (upd (S.1 (r + 1)) ((S.1 r 6)).toNatClampNeg (S.1 (r + 6) 0))) (r + 2) (upd ((zr S (r + 1) (upd (S.1 (r + 1)) ((S.1 r 6)).toNatClampNeg (S.1 (r + 6) 0))).1 (r + 2)) ((S.1 r 6)).toNatClampNeg ((zr S (r + 1) (upd (S.1 (r + 1)) ((S.1 r 6)).toNatClampNeg (S.1 (r + 6) 0))).1 (r + 6) 1))).1 (r + 3)) ((S.1 r 6)).toNatClampNeg ((zr (zr S (r + 1) (upd (S.1 (r + 1)) ((S.1 r 6)).toNatClampNeg (S.1 (r + 6) 0))) (r + 2) (upd ((zr S (r + 1) (upd (S.1 (r + 1)) ((S.1 r 6)).toNatClampNeg (S.1 (r + 6) 0))).1 (r + 2)) ((S.1 r 6)).toNatClampNeg ((zr S (r + 1) (upd (S.1 (r + 1)) ((S.1 r 6)).toNatClampNeg (S.1 (r + 6) 0))).1 (r + 6) 1))).1 (r + 6) 2))).1 r 6) + (1 : Int32))) dX0_takeVillage_59 ?_
      exact zv_vret dX0_takeVillage_62 rfl (zret0 W hf)
-- KingPrices$Land.takeItem(I)V height 3 writes
def f_X0_takeItem_109 (r : Nat) (S : zS) (a1 : Int32) : Option zS :=
  ((f_X0_isToldOnce a1).bind (fun x2 => (if x2 = 0 then some S else ((f_X0_bitOf a1).bind (fun x5 => some (zu S r 11 ((S.1 r 11) ||| x5)))))))
set_option maxRecDepth 100000 in
set_option maxHeartbeats 4000000 in
theorem v_X0_takeItem_109 {W : zS → List va_E} {r : Nat} (hL : zLand W r) (d : Nat) (hd : 2 ≤ d) (S : zS) (a1 : Int32) (S' : zS) (hf : f_X0_takeItem_109 r S a1 = (some S')) : zV none (d + 1) yX0_takeItem cX0_takeItem 2 none 109 [(0, .ref r), (1, .int a1)] [] (W S) (zq none (W S')) := by
  unfold f_X0_takeItem_109 at hf
  refine zv_iload_n dX0_takeItem_109 rfl rfl ?_
  obtain ⟨x2, hc1, hf⟩ := zbind hf
  refine zv_callS dX0_takeItem_110 zk_X0_89 zm_X0_isToldOnce (c_X0_isToldOnce  d a1 x2 hc1) rfl rfl (Nat.le_of_ble_eq_true rfl) ?_
  refine zv_if_eq (tgt := 129) dX0_takeItem_113 (by decide) (fun c3 => ?_) (fun c3 => ?_)
  · replace hf := (if_pos c3).symm.trans hf
    exact zv_vret dX0_takeItem_129 rfl (zret0 W hf)
  · replace hf := (if_neg c3).symm.trans hf
    refine zv_aload_n dX0_takeItem_116 rfl rfl ?_
    refine zv_dup dX0_takeItem_117 rfl ?_
    refine zv_get zf_X0_49 (hL.1 S) rfl dX0_takeItem_118 ?_
    refine zv_iload_n dX0_takeItem_121 rfl rfl ?_
    obtain ⟨x5, hc4, hf⟩ := zbind hf
    refine zv_callS dX0_takeItem_122 zk_X0_100 zm_X0_bitOf (c_X0_bitOf  d a1 x5 hc4) rfl rfl (Nat.le_of_ble_eq_true rfl) ?_
    refine zv_ior dX0_takeItem_125 ?_
    refine zv_put zp_X0_49 (hL.1 S) rfl (fun _ => ⟨rfl, rfl⟩) (Nat.le_of_ble_eq_true rfl) (hL.p11 S ((S.1 r 11) ||| x5)) dX0_takeItem_126 ?_
    exact zv_vret dX0_takeItem_129 rfl (zret0 W hf)
def f_X0_takeItem (S : zS) (r : Nat) (a1 : Int32) : Option zS :=
  (if a1 = 100 then ((f_X0_takeDebt S r).bind (fun S3 => f_X0_takeItem_109 r S3 a1)) else (if a1 = 109 then f_X0_takeItem_109 r (zu S r 8 (S.1 (r + 6) 0)) a1 else (if a1 = 114 then ((f_X0_takeRoad S r).bind (fun S7 => f_X0_takeItem_109 r S7 a1)) else (if a1 = 118 then ((f_X0_takeVillage S r).bind (fun S10 => f_X0_takeItem_109 r S10 a1)) else (if a1 = 119 then f_X0_takeItem_109 r (zu S r 9 (S.1 (r + 6) 0)) a1 else f_X0_takeItem_109 r (zu S r 10 (S.1 (r + 6) 0)) a1)))))
set_option maxRecDepth 100000 in
set_option maxHeartbeats 4000000 in
theorem c_X0_takeItem {W : zS → List va_E} {r : Nat} (hL : zLand W r) (d : Nat) (hd : 3 ≤ d) (S : zS) (a1 : Int32) (S' : zS) (hf : f_X0_takeItem S r a1 = (some S')) : zC d yX0_takeItem cX0_takeItem 2 none [.ref r, .int a1] (W S) (zq none (W S')) := by
  obtain ⟨d, rfl⟩ : ∃ e, d = e + 1 := ⟨d - 1, by omega⟩
  refine zC_intro (by decide) rfl (Nat.le_of_ble_eq_true rfl) ?_
  unfold f_X0_takeItem at hf
  refine zv_iload_n dX0_takeItem_0 rfl rfl ?_
  by_cases c1 : a1 = 100
  · replace hf := (if_pos c1).symm.trans hf
    refine zv_lookup (off := 65) (tgt := 66) dX0_takeItem_1 (by decide) (by rw [c1]; decide) (by decide) ?_
    refine zv_aload_n dX0_takeItem_66 rfl rfl ?_
    obtain ⟨S3, hc2, hf⟩ := zbind hf
    refine zv_callV dX0_takeItem_67 zk_X0_117 zm_X0_takeDebt (c_X0_takeDebt hL d (by omega) S S3 hc2) (hL.1 S) rfl rfl rfl (Nat.le_of_ble_eq_true rfl) ?_
    refine zv_goto (tgt := 109) dX0_takeItem_70 (by decide) ?_
    exact zV_sub ([(0, .ref r), (1, .int a1)]) ⟨rfl, rfl, trivial⟩ (v_X0_takeItem_109 hL d (by omega) S3 a1 _ hf)
  replace hf := (if_neg c1).symm.trans hf
  by_cases c4 : a1 = 109
  · replace hf := (if_pos c4).symm.trans hf
    refine zv_lookup (off := 72) (tgt := 73) dX0_takeItem_1 (by decide) (by rw [c4]; decide) (by decide) ?_
    refine zv_aload_n dX0_takeItem_73 rfl rfl ?_
    refine zv_aload_n dX0_takeItem_74 rfl rfl ?_
    refine zv_get zf_X0_27 (hL.1 S) rfl dX0_takeItem_75 ?_
    refine zv_iconst (v := 0) dX0_takeItem_78 (by decide) ?_
    refine zv_ialdK (k := 0) (by decide) (by decide) (hL.a6 S) dX0_takeItem_79 ?_
    refine zv_put zp_X0_40 (hL.1 S) rfl (fun _ => ⟨rfl, rfl⟩) (Nat.le_of_ble_eq_true rfl) (hL.p8 S (S.1 (r + 6) 0)) dX0_takeItem_80 ?_
    refine zv_goto (tgt := 109) dX0_takeItem_83 (by decide) ?_
    exact zV_sub ([(0, .ref r), (1, .int a1)]) ⟨rfl, rfl, trivial⟩ (v_X0_takeItem_109 hL d (by omega) (zu S r 8 (S.1 (r + 6) 0)) a1 _ hf)
  replace hf := (if_neg c4).symm.trans hf
  by_cases c5 : a1 = 114
  · replace hf := (if_pos c5).symm.trans hf
    refine zv_lookup (off := 58) (tgt := 59) dX0_takeItem_1 (by decide) (by rw [c5]; decide) (by decide) ?_
    refine zv_aload_n dX0_takeItem_59 rfl rfl ?_
    obtain ⟨S7, hc6, hf⟩ := zbind hf
    refine zv_callV dX0_takeItem_60 zk_X0_114 zm_X0_takeRoad (c_X0_takeRoad hL d (by omega) S S7 hc6) (hL.1 S) rfl rfl rfl (Nat.le_of_ble_eq_true rfl) ?_
    refine zv_goto (tgt := 109) dX0_takeItem_63 (by decide) ?_
    exact zV_sub ([(0, .ref r), (1, .int a1)]) ⟨rfl, rfl, trivial⟩ (v_X0_takeItem_109 hL d (by omega) S7 a1 _ hf)
  replace hf := (if_neg c5).symm.trans hf
  by_cases c8 : a1 = 118
  · replace hf := (if_pos c8).symm.trans hf
    refine zv_lookup (off := 51) (tgt := 52) dX0_takeItem_1 (by decide) (by rw [c8]; decide) (by decide) ?_
    refine zv_aload_n dX0_takeItem_52 rfl rfl ?_
    obtain ⟨S10, hc9, hf⟩ := zbind hf
    refine zv_callV dX0_takeItem_53 zk_X0_111 zm_X0_takeVillage (c_X0_takeVillage hL d S S10 hc9) (hL.1 S) rfl rfl rfl (Nat.le_of_ble_eq_true rfl) ?_
    refine zv_goto (tgt := 109) dX0_takeItem_56 (by decide) ?_
    exact zV_sub ([(0, .ref r), (1, .int a1)]) ⟨rfl, rfl, trivial⟩ (v_X0_takeItem_109 hL d (by omega) S10 a1 _ hf)
  replace hf := (if_neg c8).symm.trans hf
  by_cases c11 : a1 = 119
  · replace hf := (if_pos c11).symm.trans hf
    refine zv_lookup (off := 85) (tgt := 86) dX0_takeItem_1 (by decide) (by rw [c11]; decide) (by decide) ?_
    refine zv_aload_n dX0_takeItem_86 rfl rfl ?_
    refine zv_aload_n dX0_takeItem_87 rfl rfl ?_
    refine zv_get zf_X0_27 (hL.1 S) rfl dX0_takeItem_88 ?_
    refine zv_iconst (v := 0) dX0_takeItem_91 (by decide) ?_
    refine zv_ialdK (k := 0) (by decide) (by decide) (hL.a6 S) dX0_takeItem_92 ?_
    refine zv_put zp_X0_43 (hL.1 S) rfl (fun _ => ⟨rfl, rfl⟩) (Nat.le_of_ble_eq_true rfl) (hL.p9 S (S.1 (r + 6) 0)) dX0_takeItem_93 ?_
    refine zv_goto (tgt := 109) dX0_takeItem_96 (by decide) ?_
    exact zV_sub ([(0, .ref r), (1, .int a1)]) ⟨rfl, rfl, trivial⟩ (v_X0_takeItem_109 hL d (by omega) (zu S r 9 (S.1 (r + 6) 0)) a1 _ hf)
  replace hf := (if_neg c11).symm.trans hf
  refine zv_lookup (off := 98) (tgt := 99) dX0_takeItem_1 (by decide) ((lv_osw c1 (by decide)).trans ((lv_osw c4 (by decide)).trans ((lv_osw c5 (by decide)).trans ((lv_osw c8 (by decide)).trans ((lv_osw c11 (by decide)).trans rfl))))) (by decide) ?_
  refine zv_aload_n dX0_takeItem_99 rfl rfl ?_
  refine zv_aload_n dX0_takeItem_100 rfl rfl ?_
  refine zv_get zf_X0_27 (hL.1 S) rfl dX0_takeItem_101 ?_
  refine zv_iconst (v := 0) dX0_takeItem_104 (by decide) ?_
  refine zv_ialdK (k := 0) (by decide) (by decide) (hL.a6 S) dX0_takeItem_105 ?_
  refine zv_put zp_X0_46 (hL.1 S) rfl (fun _ => ⟨rfl, rfl⟩) (Nat.le_of_ble_eq_true rfl) (hL.p10 S (S.1 (r + 6) 0)) dX0_takeItem_106 ?_
  exact zV_sub ([(0, .ref r), (1, .int a1)]) ⟨rfl, rfl, trivial⟩ (v_X0_takeItem_109 hL d (by omega) (zu S r 10 (S.1 (r + 6) 0)) a1 _ hf)
-- KingPrices$Text.byteAt(I)I height 0 reads
def f_X3_byteAt (S : zS) (a1 : Int32) : Option Int32 :=
  (if a1 < (0 : Int32) then some ((0 : Int32)) else (if (180 : Int32) ≤ a1 then some ((0 : Int32)) else (if zin a1 180 then some ((S.1 2 (a1).toNatClampNeg)) else none)))
set_option maxRecDepth 100000 in
set_option maxHeartbeats 4000000 in
theorem c_X3_byteAt  (d : Nat) (S : zS) (a1 : Int32) (v : Int32) (hf : f_X3_byteAt S a1 = (some v)) : zC d yX3_byteAt cX3_byteAt 2 (some .int) [.ref 1, .int a1] (wd S) (zq (some (.int v)) (wd S)) := by
  refine zC_intro (by decide) rfl (Nat.le_of_ble_eq_true rfl) ?_
  unfold f_X3_byteAt at hf
  refine zv_iconst (v := 0) dX3_byteAt_0 (by decide) ?_
  refine zv_iload_n dX3_byteAt_1 rfl rfl ?_
  refine zv_icmp_gt (tgt := 23) dX3_byteAt_2 (by decide) (fun c1 => ?_) (fun c1 => ?_)
  · replace hf := (if_pos c1).symm.trans hf
    refine zv_iconst (v := 0) dX3_byteAt_23 (by decide) ?_
    exact zv_iret (ty := .int) dX3_byteAt_24 rfl rfl (zret1 hf)
  · replace hf := (if_neg c1).symm.trans hf
    refine zv_iload_n dX3_byteAt_5 rfl rfl ?_
    refine zv_aload_n dX3_byteAt_6 rfl rfl ?_
    refine zv_get zf_X3_9 (wo_1 S) rfl dX3_byteAt_7 ?_
    refine zv_alen (v := 180) (t := 0) (by decide) (by decide) (wo_2 S) dX3_byteAt_10 ?_
    refine zv_icmp_ge (tgt := 23) dX3_byteAt_11 (by decide) (fun c2 => ?_) (fun c2 => ?_)
    · replace hf := (if_pos c2).symm.trans hf
      refine zv_iconst (v := 0) dX3_byteAt_23 (by decide) ?_
      exact zv_iret (ty := .int) dX3_byteAt_24 rfl rfl (zret1 hf)
    · replace hf := (if_neg c2).symm.trans hf
      refine zv_aload_n dX3_byteAt_14 rfl rfl ?_
      refine zv_get zf_X3_9 (wo_1 S) rfl dX3_byteAt_15 ?_
      refine zv_iload_n dX3_byteAt_18 rfl rfl ?_
      obtain ⟨hb3, hf⟩ := zifb hf
      refine zv_iald hb3 (wo_2 S) dX3_byteAt_19 ?_
      refine zv_goto (tgt := 24) dX3_byteAt_20 (by decide) ?_
      exact zv_iret (ty := .int) dX3_byteAt_24 rfl rfl (zret1 hf)
-- KingPrices$Text.readLetters()V height 1 writes
def f_X3_readLetters_42 (S : zS) : Option zS :=
  (if (((zu S 1 4 (1 : Int32)).1 1 2) - ((zu S 1 4 (1 : Int32)).1 1 3)) = (1 : Int32) then ((f_X3_byteAt (zu S 1 4 (1 : Int32)) ((zu S 1 4 (1 : Int32)).1 1 3)).bind (fun x3 => some (zu (zu S 1 4 (1 : Int32)) 1 5 x3))) else some (zu (zu S 1 4 (1 : Int32)) 1 5 (0 : Int32)))
set_option maxRecDepth 100000 in
set_option maxHeartbeats 4000000 in
theorem v_X3_readLetters_42 (d : Nat) (hd : 0 ≤ d) (S : zS) (S' : zS) (hf : f_X3_readLetters_42 S = (some S')) : zV none (d + 1) yX3_readLetters cX3_readLetters 1 none 42 [(0, .ref 1)] [] (wd S) (zq none (wd S')) := by
  unfold f_X3_readLetters_42 at hf
  refine zv_aload_n dX3_readLetters_42 rfl rfl ?_
  refine zv_iconst (v := 1) dX3_readLetters_43 (by decide) ?_
  refine zv_put zp_X3_35 (wo_1 S) rfl (fun _ => ⟨rfl, rfl⟩) (Nat.le_of_ble_eq_true rfl) (wp_1_4 S (1 : Int32)) dX3_readLetters_44 ?_
  refine zv_aload_n dX3_readLetters_47 rfl rfl ?_
  refine zv_aload_n dX3_readLetters_48 rfl rfl ?_
  refine zv_get zf_X3_19 (wo_1 (zu S 1 4 (1 : Int32))) rfl dX3_readLetters_49 ?_
  refine zv_aload_n dX3_readLetters_52 rfl rfl ?_
  refine zv_get zf_X3_29 (wo_1 (zu S 1 4 (1 : Int32))) rfl dX3_readLetters_53 ?_
  refine zv_isub dX3_readLetters_56 ?_
  refine zv_iconst (v := 1) dX3_readLetters_57 (by decide) ?_
  refine zv_icmp_ne (tgt := 72) dX3_readLetters_58 (by decide) (fun c1 => ?_) (fun c1 => ?_)
  · replace hf := (if_neg c1).symm.trans hf
    refine zv_iconst (v := 0) dX3_readLetters_72 (by decide) ?_
    refine zv_put zp_X3_32 (wo_1 (zu S 1 4 (1 : Int32))) rfl (fun _ => ⟨rfl, rfl⟩) (Nat.le_of_ble_eq_true rfl) (wp_1_5 (zu S 1 4 (1 : Int32)) (0 : Int32)) dX3_readLetters_73 ?_
    exact zv_vret dX3_readLetters_76 rfl (zret0 wd hf)
  · replace hf := (if_pos c1).symm.trans hf
    refine zv_aload_n dX3_readLetters_61 rfl rfl ?_
    refine zv_aload_n dX3_readLetters_62 rfl rfl ?_
    refine zv_get zf_X3_29 (wo_1 (zu S 1 4 (1 : Int32))) rfl dX3_readLetters_63 ?_
    obtain ⟨x3, hc2, hf⟩ := zbind hf
    refine zv_callV dX3_readLetters_66 zk_X3_25 zm_X3_byteAt (c_X3_byteAt  d (zu S 1 4 (1 : Int32)) ((zu S 1 4 (1 : Int32)).1 1 3) x3 hc2) (wo_1 (zu S 1 4 (1 : Int32))) rfl rfl rfl (Nat.le_of_ble_eq_true rfl) ?_
    refine zv_goto (tgt := 73) dX3_readLetters_69 (by decide) ?_
    refine zv_put zp_X3_32 (wo_1 (zu S 1 4 (1 : Int32))) rfl (fun _ => ⟨rfl, rfl⟩) (Nat.le_of_ble_eq_true rfl) (wp_1_5 (zu S 1 4 (1 : Int32)) x3) dX3_readLetters_73 ?_
    exact zv_vret dX3_readLetters_76 rfl (zret0 wd hf)
def f_X3_readLetters_0  : Nat → zS → Option zS
  | 0, _ => none
  | n + 1, S => (if (S.1 1 1) ≤ (S.1 1 2) then f_X3_readLetters_42 S else ((f_X3_byteAt S (S.1 1 2)).bind (fun x3 => ((f_X5_isWithin x3 (97 : Int32) (122 : Int32)).bind (fun x5 => (if x5 = 0 then f_X3_readLetters_42 S else f_X3_readLetters_0  n (zu S 1 2 ((S.1 1 2) + (1 : Int32)))))))))
set_option maxRecDepth 100000 in
set_option maxHeartbeats 4000000 in
theorem v_X3_readLetters_0 (d : Nat) (hd : 0 ≤ d) : ∀ (n : Nat) (S : zS) (S' : zS), f_X3_readLetters_0  n S = (some S') → zV none (d + 1) yX3_readLetters cX3_readLetters 1 none 0 [(0, .ref 1)] [] (wd S) (zq none (wd S')) := by
  intro n
  induction n with
  | zero =>
    intro S S' hf
    cases hf
  | succ n ih =>
    intro S S' hf
    rw [f_X3_readLetters_0] at hf
    refine zv_aload_n dX3_readLetters_0 rfl rfl ?_
    refine zv_get zf_X3_19 (wo_1 S) rfl dX3_readLetters_1 ?_
    refine zv_aload_n dX3_readLetters_4 rfl rfl ?_
    refine zv_get zf_X3_15 (wo_1 S) rfl dX3_readLetters_5 ?_
    refine zv_icmp_ge (tgt := 42) dX3_readLetters_8 (by decide) (fun c1 => ?_) (fun c1 => ?_)
    · replace hf := (if_pos c1).symm.trans hf
      exact zV_sub ([(0, .ref 1)]) ⟨rfl, trivial⟩ (v_X3_readLetters_42 d (by omega) S _ hf)
    · replace hf := (if_neg c1).symm.trans hf
      refine zv_aload_n dX3_readLetters_11 rfl rfl ?_
      refine zv_aload_n dX3_readLetters_12 rfl rfl ?_
      refine zv_get zf_X3_19 (wo_1 S) rfl dX3_readLetters_13 ?_
      obtain ⟨x3, hc2, hf⟩ := zbind hf
      refine zv_callV dX3_readLetters_16 zk_X3_25 zm_X3_byteAt (c_X3_byteAt  d S (S.1 1 2) x3 hc2) (wo_1 S) rfl rfl rfl (Nat.le_of_ble_eq_true rfl) ?_
      refine zv_bipush (v := 97) dX3_readLetters_19 (by decide) ?_
      refine zv_bipush (v := 122) dX3_readLetters_21 (by decide) ?_
      obtain ⟨x5, hc4, hf⟩ := zbind hf
      refine zv_callSN dX3_readLetters_23 zk_X3_38 zm_X5_isWithin (c_X5_isWithin  d x3 (97 : Int32) (122 : Int32) x5 hc4) rfl rfl (Nat.le_of_ble_eq_true rfl) ?_
      refine zv_if_eq (tgt := 42) dX3_readLetters_26 (by decide) (fun c6 => ?_) (fun c6 => ?_)
      · replace hf := (if_pos c6).symm.trans hf
        exact zV_sub ([(0, .ref 1)]) ⟨rfl, trivial⟩ (v_X3_readLetters_42 d (by omega) S _ hf)
      · replace hf := (if_neg c6).symm.trans hf
        refine zv_aload_n dX3_readLetters_29 rfl rfl ?_
        refine zv_dup dX3_readLetters_30 rfl ?_
        refine zv_get zf_X3_19 (wo_1 S) rfl dX3_readLetters_31 ?_
        refine zv_iconst (v := 1) dX3_readLetters_34 (by decide) ?_
        refine zv_iadd dX3_readLetters_35 ?_
        refine zv_put zp_X3_19 (wo_1 S) rfl (fun _ => ⟨rfl, rfl⟩) (Nat.le_of_ble_eq_true rfl) (wp_1_2 S ((S.1 1 2) + (1 : Int32))) dX3_readLetters_36 ?_
        refine zv_goto (tgt := 0) dX3_readLetters_39 (by decide) ?_
        exact zV_sub ([(0, .ref 1)]) ⟨rfl, trivial⟩ (ih (zu S 1 2 ((S.1 1 2) + (1 : Int32))) _ hf)
def f_X3_readLetters (S : zS) : Option zS :=
  f_X3_readLetters_0 zN S
set_option maxRecDepth 100000 in
set_option maxHeartbeats 4000000 in
theorem c_X3_readLetters  (d : Nat) (hd : 1 ≤ d) (S : zS) (S' : zS) (hf : f_X3_readLetters S = (some S')) : zC d yX3_readLetters cX3_readLetters 1 none [.ref 1] (wd S) (zq none (wd S')) := by
  obtain ⟨d, rfl⟩ : ∃ e, d = e + 1 := ⟨d - 1, by omega⟩
  refine zC_intro (by decide) rfl (Nat.le_of_ble_eq_true rfl) ?_
  unfold f_X3_readLetters at hf
  exact zV_sub ([(0, .ref 1)]) ⟨rfl, trivial⟩ (v_X3_readLetters_0 d (by omega) zN S _ hf)
-- KingPrices$Text.readNumber()V height 1 writes
def f_X3_readNumber_102 (S : zS) (a1 : Int32) : Option zS :=
  (if (99 : Int32) < (S.1 1 5) then some (zu S 1 4 (4 : Int32)) else (if a1 = 0 then some (zu S 1 4 (2 : Int32)) else some (zu S 1 4 (4 : Int32))))
set_option maxRecDepth 100000 in
set_option maxHeartbeats 4000000 in
theorem v_X3_readNumber_102 (d : Nat) (hd : 0 ≤ d) (S : zS) (a1 : Int32) (S' : zS) (hf : f_X3_readNumber_102 S a1 = (some S')) : zV none (d + 1) yX3_readNumber cX3_readNumber 2 none 102 [(0, .ref 1), (1, .int a1)] [] (wd S) (zq none (wd S')) := by
  unfold f_X3_readNumber_102 at hf
  refine zv_aload_n dX3_readNumber_102 rfl rfl ?_
  refine zv_aload_n dX3_readNumber_103 rfl rfl ?_
  refine zv_get zf_X3_32 (wo_1 S) rfl dX3_readNumber_104 ?_
  refine zv_bipush (v := 99) dX3_readNumber_107 (by decide) ?_
  refine zv_icmp_gt (tgt := 116) dX3_readNumber_109 (by decide) (fun c1 => ?_) (fun c1 => ?_)
  · replace hf := (if_pos c1).symm.trans hf
    refine zv_iconst (v := 4) dX3_readNumber_116 (by decide) ?_
    refine zv_goto (tgt := 121) dX3_readNumber_117 (by decide) ?_
    refine zv_put zp_X3_35 (wo_1 S) rfl (fun _ => ⟨rfl, rfl⟩) (Nat.le_of_ble_eq_true rfl) (wp_1_4 S (4 : Int32)) dX3_readNumber_121 ?_
    exact zv_vret dX3_readNumber_124 rfl (zret0 wd hf)
  · replace hf := (if_neg c1).symm.trans hf
    refine zv_iload_n dX3_readNumber_112 rfl rfl ?_
    refine zv_if_eq (tgt := 120) dX3_readNumber_113 (by decide) (fun c2 => ?_) (fun c2 => ?_)
    · replace hf := (if_pos c2).symm.trans hf
      refine zv_iconst (v := 2) dX3_readNumber_120 (by decide) ?_
      refine zv_put zp_X3_35 (wo_1 S) rfl (fun _ => ⟨rfl, rfl⟩) (Nat.le_of_ble_eq_true rfl) (wp_1_4 S (2 : Int32)) dX3_readNumber_121 ?_
      exact zv_vret dX3_readNumber_124 rfl (zret0 wd hf)
    · replace hf := (if_neg c2).symm.trans hf
      refine zv_iconst (v := 4) dX3_readNumber_116 (by decide) ?_
      refine zv_goto (tgt := 121) dX3_readNumber_117 (by decide) ?_
      refine zv_put zp_X3_35 (wo_1 S) rfl (fun _ => ⟨rfl, rfl⟩) (Nat.le_of_ble_eq_true rfl) (wp_1_4 S (4 : Int32)) dX3_readNumber_121 ?_
      exact zv_vret dX3_readNumber_124 rfl (zret0 wd hf)
def f_X3_readNumber_100 (S : zS) : Option zS :=
  f_X3_readNumber_102 S (0 : Int32)
set_option maxRecDepth 100000 in
set_option maxHeartbeats 4000000 in
theorem v_X3_readNumber_100 (d : Nat) (hd : 0 ≤ d) (S : zS) (S' : zS) (hf : f_X3_readNumber_100 S = (some S')) : zV none (d + 1) yX3_readNumber cX3_readNumber 2 none 100 [(0, .ref 1)] [] (wd S) (zq none (wd S')) := by
  unfold f_X3_readNumber_100 at hf
  refine zv_iconst (v := 0) dX3_readNumber_100 (by decide) ?_
  refine zv_istore_n dX3_readNumber_101 rfl (by decide) ?_
  exact zV_sub ([(0, .ref 1), (1, .int (0 : Int32))]) ⟨rfl, rfl, trivial⟩ (v_X3_readNumber_102 d (by omega) S (0 : Int32) _ hf)
def f_X3_readNumber_70 (S : zS) : Option zS :=
  (if ((S.1 1 2) - (S.1 1 3)) ≤ (1 : Int32) then f_X3_readNumber_100 S else ((f_X3_byteAt S (S.1 1 3)).bind (fun x3 => (if x3 = (48 : Int32) then f_X3_readNumber_102 S (1 : Int32) else f_X3_readNumber_100 S))))
set_option maxRecDepth 100000 in
set_option maxHeartbeats 4000000 in
theorem v_X3_readNumber_70 (d : Nat) (hd : 0 ≤ d) (S : zS) (S' : zS) (hf : f_X3_readNumber_70 S = (some S')) : zV none (d + 1) yX3_readNumber cX3_readNumber 2 none 70 [(0, .ref 1)] [] (wd S) (zq none (wd S')) := by
  unfold f_X3_readNumber_70 at hf
  refine zv_aload_n dX3_readNumber_70 rfl rfl ?_
  refine zv_get zf_X3_19 (wo_1 S) rfl dX3_readNumber_71 ?_
  refine zv_aload_n dX3_readNumber_74 rfl rfl ?_
  refine zv_get zf_X3_29 (wo_1 S) rfl dX3_readNumber_75 ?_
  refine zv_isub dX3_readNumber_78 ?_
  refine zv_iconst (v := 1) dX3_readNumber_79 (by decide) ?_
  refine zv_icmp_le (tgt := 100) dX3_readNumber_80 (by decide) (fun c1 => ?_) (fun c1 => ?_)
  · replace hf := (if_pos c1).symm.trans hf
    exact zV_sub ([(0, .ref 1)]) ⟨rfl, trivial⟩ (v_X3_readNumber_100 d (by omega) S _ hf)
  · replace hf := (if_neg c1).symm.trans hf
    refine zv_aload_n dX3_readNumber_83 rfl rfl ?_
    refine zv_aload_n dX3_readNumber_84 rfl rfl ?_
    refine zv_get zf_X3_29 (wo_1 S) rfl dX3_readNumber_85 ?_
    obtain ⟨x3, hc2, hf⟩ := zbind hf
    refine zv_callV dX3_readNumber_88 zk_X3_25 zm_X3_byteAt (c_X3_byteAt  d S (S.1 1 3) x3 hc2) (wo_1 S) rfl rfl rfl (Nat.le_of_ble_eq_true rfl) ?_
    refine zv_bipush (v := 48) dX3_readNumber_91 (by decide) ?_
    refine zv_icmp_ne (tgt := 100) dX3_readNumber_93 (by decide) (fun c4 => ?_) (fun c4 => ?_)
    · replace hf := (if_neg c4).symm.trans hf
      exact zV_sub ([(0, .ref 1)]) ⟨rfl, trivial⟩ (v_X3_readNumber_100 d (by omega) S _ hf)
    · replace hf := (if_pos c4).symm.trans hf
      refine zv_iconst (v := 1) dX3_readNumber_96 (by decide) ?_
      refine zv_goto (tgt := 101) dX3_readNumber_97 (by decide) ?_
      refine zv_istore_n dX3_readNumber_101 rfl (by decide) ?_
      exact zV_sub ([(0, .ref 1), (1, .int (1 : Int32))]) ⟨rfl, rfl, trivial⟩ (v_X3_readNumber_102 d (by omega) S (1 : Int32) _ hf)
def f_X3_readNumber_0  : Nat → zS → Option zS
  | 0, _ => none
  | n + 1, S => (if (S.1 1 1) ≤ (S.1 1 2) then f_X3_readNumber_70 S else ((f_X3_byteAt S (S.1 1 2)).bind (fun x3 => ((f_X5_isWithin x3 (48 : Int32) (57 : Int32)).bind (fun x5 => (if x5 = 0 then f_X3_readNumber_70 S else ((f_X3_byteAt S (S.1 1 2)).bind (fun x8 => f_X3_readNumber_0  n (zu (zu S 1 5 (if ((((S.1 1 5) * (10 : Int32)) + x8) - (48 : Int32)) < (100 : Int32) then ((((S.1 1 5) * (10 : Int32)) + x8) - (48 : Int32)) else (100 : Int32))) 1 2 (((zu S 1 5 (if ((((S.1 1 5) * (10 : Int32)) + x8) - (48 : Int32)) < (100 : Int32) then ((((S.1 1 5) * (10 : Int32)) + x8) - (48 : Int32)) else (100 : Int32))).1 1 2) + (1 : Int32)))))))))))
set_option maxRecDepth 100000 in
set_option maxHeartbeats 4000000 in
theorem v_X3_readNumber_0 (d : Nat) (hd : 0 ≤ d) : ∀ (n : Nat) (S : zS) (S' : zS), f_X3_readNumber_0  n S = (some S') → zV none (d + 1) yX3_readNumber cX3_readNumber 2 none 0 [(0, .ref 1)] [] (wd S) (zq none (wd S')) := by
  intro n
  induction n with
  | zero =>
    intro S S' hf
    cases hf
  | succ n ih =>
    intro S S' hf
    rw [f_X3_readNumber_0] at hf
    refine zv_aload_n dX3_readNumber_0 rfl rfl ?_
    refine zv_get zf_X3_19 (wo_1 S) rfl dX3_readNumber_1 ?_
    refine zv_aload_n dX3_readNumber_4 rfl rfl ?_
    refine zv_get zf_X3_15 (wo_1 S) rfl dX3_readNumber_5 ?_
    refine zv_icmp_ge (tgt := 70) dX3_readNumber_8 (by decide) (fun c1 => ?_) (fun c1 => ?_)
    · replace hf := (if_pos c1).symm.trans hf
      exact zV_sub ([(0, .ref 1)]) ⟨rfl, trivial⟩ (v_X3_readNumber_70 d (by omega) S _ hf)
    · replace hf := (if_neg c1).symm.trans hf
      refine zv_aload_n dX3_readNumber_11 rfl rfl ?_
      refine zv_aload_n dX3_readNumber_12 rfl rfl ?_
      refine zv_get zf_X3_19 (wo_1 S) rfl dX3_readNumber_13 ?_
      obtain ⟨x3, hc2, hf⟩ := zbind hf
      refine zv_callV dX3_readNumber_16 zk_X3_25 zm_X3_byteAt (c_X3_byteAt  d S (S.1 1 2) x3 hc2) (wo_1 S) rfl rfl rfl (Nat.le_of_ble_eq_true rfl) ?_
      refine zv_bipush (v := 48) dX3_readNumber_19 (by decide) ?_
      refine zv_bipush (v := 57) dX3_readNumber_21 (by decide) ?_
      obtain ⟨x5, hc4, hf⟩ := zbind hf
      refine zv_callSN dX3_readNumber_23 zk_X3_38 zm_X5_isWithin (c_X5_isWithin  d x3 (48 : Int32) (57 : Int32) x5 hc4) rfl rfl (Nat.le_of_ble_eq_true rfl) ?_
      refine zv_if_eq (tgt := 70) dX3_readNumber_26 (by decide) (fun c6 => ?_) (fun c6 => ?_)
      · replace hf := (if_pos c6).symm.trans hf
        exact zV_sub ([(0, .ref 1)]) ⟨rfl, trivial⟩ (v_X3_readNumber_70 d (by omega) S _ hf)
      · replace hf := (if_neg c6).symm.trans hf
        refine zv_aload_n dX3_readNumber_29 rfl rfl ?_
        refine zv_bipush (v := 100) dX3_readNumber_30 (by decide) ?_
        refine zv_aload_n dX3_readNumber_32 rfl rfl ?_
        refine zv_get zf_X3_32 (wo_1 S) rfl dX3_readNumber_33 ?_
        refine zv_bipush (v := 10) dX3_readNumber_36 (by decide) ?_
        refine zv_imul dX3_readNumber_38 ?_
        refine zv_aload_n dX3_readNumber_39 rfl rfl ?_
        refine zv_aload_n dX3_readNumber_40 rfl rfl ?_
        refine zv_get zf_X3_19 (wo_1 S) rfl dX3_readNumber_41 ?_
        obtain ⟨x8, hc7, hf⟩ := zbind hf
        refine zv_callV dX3_readNumber_44 zk_X3_25 zm_X3_byteAt (c_X3_byteAt  d S (S.1 1 2) x8 hc7) (wo_1 S) rfl rfl rfl (Nat.le_of_ble_eq_true rfl) ?_
        refine zv_iadd dX3_readNumber_47 ?_
        refine zv_bipush (v := 48) dX3_readNumber_48 (by decide) ?_
        refine zv_isub dX3_readNumber_50 ?_
        refine zv_min zk_X3_48 (Nat.le_of_ble_eq_true rfl) dX3_readNumber_51 ?_
        refine zv_put zp_X3_32 (wo_1 S) rfl (fun _ => ⟨rfl, rfl⟩) (Nat.le_of_ble_eq_true rfl) (wp_1_5 S (if ((((S.1 1 5) * (10 : Int32)) + x8) - (48 : Int32)) < (100 : Int32) then ((((S.1 1 5) * (10 : Int32)) + x8) - (48 : Int32)) else (100 : Int32))) dX3_readNumber_54 ?_
        refine zv_aload_n dX3_readNumber_57 rfl rfl ?_
        refine zv_dup dX3_readNumber_58 rfl ?_
        refine zv_get zf_X3_19 (wo_1 (zu S 1 5 (if ((((S.1 1 5) * (10 : Int32)) + x8) - (48 : Int32)) < (100 : Int32) then ((((S.1 1 5) * (10 : Int32)) + x8) - (48 : Int32)) else (100 : Int32)))) rfl dX3_readNumber_59 ?_
        refine zv_iconst (v := 1) dX3_readNumber_62 (by decide) ?_
        refine zv_iadd dX3_readNumber_63 ?_
        refine zv_put zp_X3_19 (wo_1 (zu S 1 5 (if ((((S.1 1 5) * (10 : Int32)) + x8) - (48 : Int32)) < (100 : Int32) then ((((S.1 1 5) * (10 : Int32)) + x8) - (48 : Int32)) else (100 : Int32)))) rfl (fun _ => ⟨rfl, rfl⟩) (Nat.le_of_ble_eq_true rfl) (wp_1_2 (zu S 1 5 (if ((((S.1 1 5) * (10 : Int32)) + x8) - (48 : Int32)) < (100 : Int32) then ((((S.1 1 5) * (10 : Int32)) + x8) - (48 : Int32)) else (100 : Int32))) (((zu S 1 5 (if ((((S.1 1 5) * (10 : Int32)) + x8) - (48 : Int32)) < (100 : Int32) then ((((S.1 1 5) * (10 : Int32)) + x8) - (48 : Int32)) else (100 : Int32))).1 1 2) + (1 : Int32))) dX3_readNumber_64 ?_
        refine zv_goto (tgt := 0) dX3_readNumber_67 (by decide) ?_
        exact zV_sub ([(0, .ref 1)]) ⟨rfl, trivial⟩ (ih (zu (zu S 1 5 (if ((((S.1 1 5) * (10 : Int32)) + x8) - (48 : Int32)) < (100 : Int32) then ((((S.1 1 5) * (10 : Int32)) + x8) - (48 : Int32)) else (100 : Int32))) 1 2 (((zu S 1 5 (if ((((S.1 1 5) * (10 : Int32)) + x8) - (48 : Int32)) < (100 : Int32) then ((((S.1 1 5) * (10 : Int32)) + x8) - (48 : Int32)) else (100 : Int32))).1 1 2) + (1 : Int32))) _ hf)
def f_X3_readNumber (S : zS) : Option zS :=
  f_X3_readNumber_0 zN S
set_option maxRecDepth 100000 in
set_option maxHeartbeats 4000000 in
theorem c_X3_readNumber  (d : Nat) (hd : 1 ≤ d) (S : zS) (S' : zS) (hf : f_X3_readNumber S = (some S')) : zC d yX3_readNumber cX3_readNumber 2 none [.ref 1] (wd S) (zq none (wd S')) := by
  obtain ⟨d, rfl⟩ : ∃ e, d = e + 1 := ⟨d - 1, by omega⟩
  refine zC_intro (by decide) rfl (Nat.le_of_ble_eq_true rfl) ?_
  unfold f_X3_readNumber at hf
  exact zV_sub ([(0, .ref 1)]) ⟨rfl, trivial⟩ (v_X3_readNumber_0 d (by omega) zN S _ hf)
-- KingPrices$Text.toNextToken()V height 2 writes
def f_X3_toNextToken_129 (S : zS) : Option zS :=
  some (zu S 1 2 ((S.1 1 2) + (1 : Int32)))
set_option maxRecDepth 100000 in
set_option maxHeartbeats 4000000 in
theorem v_X3_toNextToken_129 (d : Nat) (hd : 1 ≤ d) (S : zS) (S' : zS) (hf : f_X3_toNextToken_129 S = (some S')) : zV none (d + 1) yX3_toNextToken cX3_toNextToken 2 none 129 [(0, .ref 1)] [] (wd S) (zq none (wd S')) := by
  unfold f_X3_toNextToken_129 at hf
  refine zv_aload_n dX3_toNextToken_129 rfl rfl ?_
  refine zv_dup dX3_toNextToken_130 rfl ?_
  refine zv_get zf_X3_19 (wo_1 S) rfl dX3_toNextToken_131 ?_
  refine zv_iconst (v := 1) dX3_toNextToken_134 (by decide) ?_
  refine zv_iadd dX3_toNextToken_135 ?_
  refine zv_put zp_X3_19 (wo_1 S) rfl (fun _ => ⟨rfl, rfl⟩) (Nat.le_of_ble_eq_true rfl) (wp_1_2 S ((S.1 1 2) + (1 : Int32))) dX3_toNextToken_136 ?_
  exact zv_vret dX3_toNextToken_139 rfl (zret0 wd hf)
def f_X3_toNextToken_37 (S : zS) : Option zS :=
  ((f_X3_byteAt (zu (zu S 1 3 (S.1 1 2)) 1 5 (0 : Int32)) ((zu (zu S 1 3 (S.1 1 2)) 1 5 (0 : Int32)).1 1 2)).bind (fun x2 => (if ((zu (zu S 1 3 (S.1 1 2)) 1 5 (0 : Int32)).1 1 2) < ((zu (zu S 1 3 (S.1 1 2)) 1 5 (0 : Int32)).1 1 1) then ((f_X5_isWithin x2 (97 : Int32) (122 : Int32)).bind (fun x5 => (if x5 = 0 then ((f_X5_isWithin x2 (48 : Int32) (57 : Int32)).bind (fun x8 => (if x8 = 0 then (if x2 = (59 : Int32) then f_X3_toNextToken_129 (zu (zu (zu S 1 3 (S.1 1 2)) 1 5 (0 : Int32)) 1 4 (3 : Int32)) else f_X3_toNextToken_129 (zu (zu (zu S 1 3 (S.1 1 2)) 1 5 (0 : Int32)) 1 4 (4 : Int32))) else ((f_X3_readNumber (zu (zu S 1 3 (S.1 1 2)) 1 5 (0 : Int32))).bind (fun S12 => some S12))))) else ((f_X3_readLetters (zu (zu S 1 3 (S.1 1 2)) 1 5 (0 : Int32))).bind (fun S14 => some S14))))) else some (zu (zu (zu S 1 3 (S.1 1 2)) 1 5 (0 : Int32)) 1 4 (0 : Int32)))))
set_option maxRecDepth 100000 in
set_option maxHeartbeats 4000000 in
theorem v_X3_toNextToken_37 (d : Nat) (hd : 1 ≤ d) (S : zS) (S' : zS) (hf : f_X3_toNextToken_37 S = (some S')) : zV none (d + 1) yX3_toNextToken cX3_toNextToken 2 none 37 [(0, .ref 1)] [] (wd S) (zq none (wd S')) := by
  unfold f_X3_toNextToken_37 at hf
  refine zv_aload_n dX3_toNextToken_37 rfl rfl ?_
  refine zv_aload_n dX3_toNextToken_38 rfl rfl ?_
  refine zv_get zf_X3_19 (wo_1 S) rfl dX3_toNextToken_39 ?_
  refine zv_put zp_X3_29 (wo_1 S) rfl (fun _ => ⟨rfl, rfl⟩) (Nat.le_of_ble_eq_true rfl) (wp_1_3 S (S.1 1 2)) dX3_toNextToken_42 ?_
  refine zv_aload_n dX3_toNextToken_45 rfl rfl ?_
  refine zv_iconst (v := 0) dX3_toNextToken_46 (by decide) ?_
  refine zv_put zp_X3_32 (wo_1 (zu S 1 3 (S.1 1 2))) rfl (fun _ => ⟨rfl, rfl⟩) (Nat.le_of_ble_eq_true rfl) (wp_1_5 (zu S 1 3 (S.1 1 2)) (0 : Int32)) dX3_toNextToken_47 ?_
  refine zv_aload_n dX3_toNextToken_50 rfl rfl ?_
  refine zv_aload_n dX3_toNextToken_51 rfl rfl ?_
  refine zv_get zf_X3_19 (wo_1 (zu (zu S 1 3 (S.1 1 2)) 1 5 (0 : Int32))) rfl dX3_toNextToken_52 ?_
  obtain ⟨x2, hc1, hf⟩ := zbind hf
  refine zv_callV dX3_toNextToken_55 zk_X3_25 zm_X3_byteAt (c_X3_byteAt  d (zu (zu S 1 3 (S.1 1 2)) 1 5 (0 : Int32)) ((zu (zu S 1 3 (S.1 1 2)) 1 5 (0 : Int32)).1 1 2) x2 hc1) (wo_1 (zu (zu S 1 3 (S.1 1 2)) 1 5 (0 : Int32))) rfl rfl rfl (Nat.le_of_ble_eq_true rfl) ?_
  refine zv_istore_n dX3_toNextToken_58 rfl (by decide) ?_
  refine zv_aload_n dX3_toNextToken_59 rfl rfl ?_
  refine zv_get zf_X3_19 (wo_1 (zu (zu S 1 3 (S.1 1 2)) 1 5 (0 : Int32))) rfl dX3_toNextToken_60 ?_
  refine zv_aload_n dX3_toNextToken_63 rfl rfl ?_
  refine zv_get zf_X3_15 (wo_1 (zu (zu S 1 3 (S.1 1 2)) 1 5 (0 : Int32))) rfl dX3_toNextToken_64 ?_
  refine zv_icmp_lt (tgt := 78) dX3_toNextToken_67 (by decide) (fun c3 => ?_) (fun c3 => ?_)
  · replace hf := (if_pos c3).symm.trans hf
    refine zv_iload_n dX3_toNextToken_78 rfl rfl ?_
    refine zv_bipush (v := 97) dX3_toNextToken_79 (by decide) ?_
    refine zv_bipush (v := 122) dX3_toNextToken_81 (by decide) ?_
    obtain ⟨x5, hc4, hf⟩ := zbind hf
    refine zv_callSN dX3_toNextToken_83 zk_X3_38 zm_X5_isWithin (c_X5_isWithin  d x2 (97 : Int32) (122 : Int32) x5 hc4) rfl rfl (Nat.le_of_ble_eq_true rfl) ?_
    refine zv_if_eq (tgt := 96) dX3_toNextToken_86 (by decide) (fun c6 => ?_) (fun c6 => ?_)
    · replace hf := (if_pos c6).symm.trans hf
      refine zv_iload_n dX3_toNextToken_96 rfl rfl ?_
      refine zv_bipush (v := 48) dX3_toNextToken_97 (by decide) ?_
      refine zv_bipush (v := 57) dX3_toNextToken_99 (by decide) ?_
      obtain ⟨x8, hc7, hf⟩ := zbind hf
      refine zv_callSN dX3_toNextToken_101 zk_X3_38 zm_X5_isWithin (c_X5_isWithin  d x2 (48 : Int32) (57 : Int32) x8 hc7) rfl rfl (Nat.le_of_ble_eq_true rfl) ?_
      refine zv_if_eq (tgt := 114) dX3_toNextToken_104 (by decide) (fun c9 => ?_) (fun c9 => ?_)
      · replace hf := (if_pos c9).symm.trans hf
        refine zv_aload_n dX3_toNextToken_114 rfl rfl ?_
        refine zv_iload_n dX3_toNextToken_115 rfl rfl ?_
        refine zv_bipush (v := 59) dX3_toNextToken_116 (by decide) ?_
        refine zv_icmp_ne (tgt := 125) dX3_toNextToken_118 (by decide) (fun c10 => ?_) (fun c10 => ?_)
        · replace hf := (if_neg c10).symm.trans hf
          refine zv_iconst (v := 4) dX3_toNextToken_125 (by decide) ?_
          refine zv_put zp_X3_35 (wo_1 (zu (zu S 1 3 (S.1 1 2)) 1 5 (0 : Int32))) rfl (fun _ => ⟨rfl, rfl⟩) (Nat.le_of_ble_eq_true rfl) (wp_1_4 (zu (zu S 1 3 (S.1 1 2)) 1 5 (0 : Int32)) (4 : Int32)) dX3_toNextToken_126 ?_
          exact zV_sub ([(0, .ref 1)]) ⟨rfl, trivial⟩ (v_X3_toNextToken_129 d (by omega) (zu (zu (zu S 1 3 (S.1 1 2)) 1 5 (0 : Int32)) 1 4 (4 : Int32)) _ hf)
        · replace hf := (if_pos c10).symm.trans hf
          refine zv_iconst (v := 3) dX3_toNextToken_121 (by decide) ?_
          refine zv_goto (tgt := 126) dX3_toNextToken_122 (by decide) ?_
          refine zv_put zp_X3_35 (wo_1 (zu (zu S 1 3 (S.1 1 2)) 1 5 (0 : Int32))) rfl (fun _ => ⟨rfl, rfl⟩) (Nat.le_of_ble_eq_true rfl) (wp_1_4 (zu (zu S 1 3 (S.1 1 2)) 1 5 (0 : Int32)) (3 : Int32)) dX3_toNextToken_126 ?_
          exact zV_sub ([(0, .ref 1)]) ⟨rfl, trivial⟩ (v_X3_toNextToken_129 d (by omega) (zu (zu (zu S 1 3 (S.1 1 2)) 1 5 (0 : Int32)) 1 4 (3 : Int32)) _ hf)
      · replace hf := (if_neg c9).symm.trans hf
        refine zv_aload_n dX3_toNextToken_107 rfl rfl ?_
        obtain ⟨S12, hc11, hf⟩ := zbind hf
        refine zv_callV dX3_toNextToken_108 zk_X3_45 zm_X3_readNumber (c_X3_readNumber  d (by omega) (zu (zu S 1 3 (S.1 1 2)) 1 5 (0 : Int32)) S12 hc11) (wo_1 (zu (zu S 1 3 (S.1 1 2)) 1 5 (0 : Int32))) rfl rfl rfl (Nat.le_of_ble_eq_true rfl) ?_
        refine zv_goto (tgt := 139) dX3_toNextToken_111 (by decide) ?_
        exact zv_vret dX3_toNextToken_139 rfl (zret0 wd hf)
    · replace hf := (if_neg c6).symm.trans hf
      refine zv_aload_n dX3_toNextToken_89 rfl rfl ?_
      obtain ⟨S14, hc13, hf⟩ := zbind hf
      refine zv_callV dX3_toNextToken_90 zk_X3_42 zm_X3_readLetters (c_X3_readLetters  d (by omega) (zu (zu S 1 3 (S.1 1 2)) 1 5 (0 : Int32)) S14 hc13) (wo_1 (zu (zu S 1 3 (S.1 1 2)) 1 5 (0 : Int32))) rfl rfl rfl (Nat.le_of_ble_eq_true rfl) ?_
      refine zv_goto (tgt := 139) dX3_toNextToken_93 (by decide) ?_
      exact zv_vret dX3_toNextToken_139 rfl (zret0 wd hf)
  · replace hf := (if_neg c3).symm.trans hf
    refine zv_aload_n dX3_toNextToken_70 rfl rfl ?_
    refine zv_iconst (v := 0) dX3_toNextToken_71 (by decide) ?_
    refine zv_put zp_X3_35 (wo_1 (zu (zu S 1 3 (S.1 1 2)) 1 5 (0 : Int32))) rfl (fun _ => ⟨rfl, rfl⟩) (Nat.le_of_ble_eq_true rfl) (wp_1_4 (zu (zu S 1 3 (S.1 1 2)) 1 5 (0 : Int32)) (0 : Int32)) dX3_toNextToken_72 ?_
    refine zv_goto (tgt := 139) dX3_toNextToken_75 (by decide) ?_
    exact zv_vret dX3_toNextToken_139 rfl (zret0 wd hf)
def f_X3_toNextToken_0  : Nat → zS → Option zS
  | 0, _ => none
  | n + 1, S => (if (S.1 1 1) ≤ (S.1 1 2) then f_X3_toNextToken_37 S else ((f_X3_byteAt S (S.1 1 2)).bind (fun x3 => (if x3 = (32 : Int32) then f_X3_toNextToken_0  n (zu S 1 2 ((S.1 1 2) + (1 : Int32))) else f_X3_toNextToken_37 S))))
set_option maxRecDepth 100000 in
set_option maxHeartbeats 4000000 in
theorem v_X3_toNextToken_0 (d : Nat) (hd : 1 ≤ d) : ∀ (n : Nat) (S : zS) (S' : zS), f_X3_toNextToken_0  n S = (some S') → zV none (d + 1) yX3_toNextToken cX3_toNextToken 2 none 0 [(0, .ref 1)] [] (wd S) (zq none (wd S')) := by
  intro n
  induction n with
  | zero =>
    intro S S' hf
    cases hf
  | succ n ih =>
    intro S S' hf
    rw [f_X3_toNextToken_0] at hf
    refine zv_aload_n dX3_toNextToken_0 rfl rfl ?_
    refine zv_get zf_X3_19 (wo_1 S) rfl dX3_toNextToken_1 ?_
    refine zv_aload_n dX3_toNextToken_4 rfl rfl ?_
    refine zv_get zf_X3_15 (wo_1 S) rfl dX3_toNextToken_5 ?_
    refine zv_icmp_ge (tgt := 37) dX3_toNextToken_8 (by decide) (fun c1 => ?_) (fun c1 => ?_)
    · replace hf := (if_pos c1).symm.trans hf
      exact zV_sub ([(0, .ref 1)]) ⟨rfl, trivial⟩ (v_X3_toNextToken_37 d (by omega) S _ hf)
    · replace hf := (if_neg c1).symm.trans hf
      refine zv_aload_n dX3_toNextToken_11 rfl rfl ?_
      refine zv_aload_n dX3_toNextToken_12 rfl rfl ?_
      refine zv_get zf_X3_19 (wo_1 S) rfl dX3_toNextToken_13 ?_
      obtain ⟨x3, hc2, hf⟩ := zbind hf
      refine zv_callV dX3_toNextToken_16 zk_X3_25 zm_X3_byteAt (c_X3_byteAt  d S (S.1 1 2) x3 hc2) (wo_1 S) rfl rfl rfl (Nat.le_of_ble_eq_true rfl) ?_
      refine zv_bipush (v := 32) dX3_toNextToken_19 (by decide) ?_
      refine zv_icmp_ne (tgt := 37) dX3_toNextToken_21 (by decide) (fun c4 => ?_) (fun c4 => ?_)
      · replace hf := (if_neg c4).symm.trans hf
        exact zV_sub ([(0, .ref 1)]) ⟨rfl, trivial⟩ (v_X3_toNextToken_37 d (by omega) S _ hf)
      · replace hf := (if_pos c4).symm.trans hf
        refine zv_aload_n dX3_toNextToken_24 rfl rfl ?_
        refine zv_dup dX3_toNextToken_25 rfl ?_
        refine zv_get zf_X3_19 (wo_1 S) rfl dX3_toNextToken_26 ?_
        refine zv_iconst (v := 1) dX3_toNextToken_29 (by decide) ?_
        refine zv_iadd dX3_toNextToken_30 ?_
        refine zv_put zp_X3_19 (wo_1 S) rfl (fun _ => ⟨rfl, rfl⟩) (Nat.le_of_ble_eq_true rfl) (wp_1_2 S ((S.1 1 2) + (1 : Int32))) dX3_toNextToken_31 ?_
        refine zv_goto (tgt := 0) dX3_toNextToken_34 (by decide) ?_
        exact zV_sub ([(0, .ref 1)]) ⟨rfl, trivial⟩ (ih (zu S 1 2 ((S.1 1 2) + (1 : Int32))) _ hf)
def f_X3_toNextToken (S : zS) : Option zS :=
  f_X3_toNextToken_0 zN S
set_option maxRecDepth 100000 in
set_option maxHeartbeats 4000000 in
theorem c_X3_toNextToken  (d : Nat) (hd : 2 ≤ d) (S : zS) (S' : zS) (hf : f_X3_toNextToken S = (some S')) : zC d yX3_toNextToken cX3_toNextToken 2 none [.ref 1] (wd S) (zq none (wd S')) := by
  obtain ⟨d, rfl⟩ : ∃ e, d = e + 1 := ⟨d - 1, by omega⟩
  refine zC_intro (by decide) rfl (Nat.le_of_ble_eq_true rfl) ?_
  unfold f_X3_toNextToken at hf
  exact zV_sub ([(0, .ref 1)]) ⟨rfl, trivial⟩ (v_X3_toNextToken_0 d (by omega) zN S _ hf)
-- KingPrices$Land.readItem(LKingPrices$Text;)Z height 4 writes
def f_X0_readItem_104 (r : Nat) (S : zS) (a2 : Int32) : Option (Int32 × zS) :=
  (if (S.1 1 4) = (3 : Int32) then ((f_X3_toNextToken S).bind (fun S3 => ((f_X0_takeItem S3 r a2).bind (fun S5 => some ((1 : Int32), S5))))) else some ((0 : Int32), S))
set_option maxRecDepth 100000 in
set_option maxHeartbeats 4000000 in
theorem v_X0_readItem_104 {r : Nat} (hL : zLand wd r) (d : Nat) (hd : 3 ≤ d) (S : zS) (a2 : Int32) (v : Int32) (S' : zS) (hf : f_X0_readItem_104 r S a2 = (some (v, S'))) : zV none (d + 1) yX0_readItem cX0_readItem 5 (some .boolean) 104 [(0, .ref r), (1, .ref 1), (2, .int a2)] [] (wd S) (zq (some (.int v)) (wd S')) := by
  unfold f_X0_readItem_104 at hf
  refine zv_aload_n dX0_readItem_104 rfl rfl ?_
  refine zv_get zf_X0_67 (wo_1 S) rfl dX0_readItem_105 ?_
  refine zv_iconst (v := 3) dX0_readItem_108 (by decide) ?_
  refine zv_icmp_eq (tgt := 114) dX0_readItem_109 (by decide) (fun c1 => ?_) (fun c1 => ?_)
  · replace hf := (if_pos c1).symm.trans hf
    refine zv_aload_n dX0_readItem_114 rfl rfl ?_
    obtain ⟨S3, hc2, hf⟩ := zbind hf
    refine zv_callV dX0_readItem_115 zk_X0_86 zm_X3_toNextToken (c_X3_toNextToken  d (by omega) S S3 hc2) (wo_1 S) rfl rfl rfl (Nat.le_of_ble_eq_true rfl) ?_
    refine zv_aload_n dX0_readItem_118 rfl rfl ?_
    refine zv_iload_n dX0_readItem_119 rfl rfl ?_
    obtain ⟨S5, hc4, hf⟩ := zbind hf
    refine zv_callV dX0_readItem_120 zk_X0_96 zm_X0_takeItem (c_X0_takeItem hL d (by omega) S3 a2 S5 hc4) (hL.1 S3) rfl rfl rfl (Nat.le_of_ble_eq_true rfl) ?_
    refine zv_iconst (v := 1) dX0_readItem_123 (by decide) ?_
    exact zv_iret (ty := .boolean) dX0_readItem_124 rfl rfl (zret2 wd hf)
  · replace hf := (if_neg c1).symm.trans hf
    refine zv_iconst (v := 0) dX0_readItem_112 (by decide) ?_
    exact zv_iret (ty := .boolean) dX0_readItem_113 rfl rfl (zret2 wd hf)
def f_X0_readItem_43 (r : Nat) : Nat → zS → Int32 → Int32 → Int32 → Option (Int32 × zS)
  | 0, _, _, _, _ => none
  | n + 1, S, a2, a3, a4 => (if a3 ≤ a4 then f_X0_readItem_104 r S a2 else (if (3 : Int32) ≤ a4 then f_X0_readItem_104 r S a2 else (if (S.1 1 4) = (2 : Int32) then ((f_X0_mayBeTold S r a2 a4 (S.1 1 5)).bind (fun x5 => (if x5 = 0 then some ((0 : Int32), S) else (if zin a4 3 then ((f_X3_toNextToken (zr S (r + 6) (upd (S.1 (r + 6)) (a4).toNatClampNeg (S.1 1 5)))).bind (fun S9 => f_X0_readItem_43 r n S9 a2 a3 (a4 + (1 : Int32)))) else none)))) else some ((0 : Int32), S))))
set_option maxRecDepth 100000 in
set_option maxHeartbeats 4000000 in
theorem v_X0_readItem_43 {r : Nat} (hL : zLand wd r) (d : Nat) (hd : 3 ≤ d) : ∀ (n : Nat) (S : zS) (a2 : Int32) (a3 : Int32) (a4 : Int32) (v : Int32) (S' : zS), f_X0_readItem_43 r n S a2 a3 a4 = (some (v, S')) → zV none (d + 1) yX0_readItem cX0_readItem 5 (some .boolean) 43 [(0, .ref r), (1, .ref 1), (2, .int a2), (3, .int a3), (4, .int a4)] [] (wd S) (zq (some (.int v)) (wd S')) := by
  intro n
  induction n with
  | zero =>
    intro S a2 a3 a4 v S' hf
    cases hf
  | succ n ih =>
    intro S a2 a3 a4 v S' hf
    rw [f_X0_readItem_43] at hf
    refine zv_iload dX0_readItem_43 rfl ?_
    refine zv_iload_n dX0_readItem_45 rfl rfl ?_
    refine zv_icmp_ge (tgt := 104) dX0_readItem_46 (by decide) (fun c1 => ?_) (fun c1 => ?_)
    · replace hf := (if_pos c1).symm.trans hf
      exact zV_sub ([(0, .ref r), (1, .ref 1), (2, .int a2)]) ⟨rfl, rfl, rfl, trivial⟩ (v_X0_readItem_104 hL d (by omega) S a2 _ _ hf)
    · replace hf := (if_neg c1).symm.trans hf
      refine zv_iload dX0_readItem_49 rfl ?_
      refine zv_aload_n dX0_readItem_51 rfl rfl ?_
      refine zv_get zf_X0_27 (hL.1 S) rfl dX0_readItem_52 ?_
      refine zv_alen (v := 3) (t := 0) (by decide) (by decide) (hL.a6 S) dX0_readItem_55 ?_
      refine zv_icmp_ge (tgt := 104) dX0_readItem_56 (by decide) (fun c2 => ?_) (fun c2 => ?_)
      · replace hf := (if_pos c2).symm.trans hf
        exact zV_sub ([(0, .ref r), (1, .ref 1), (2, .int a2)]) ⟨rfl, rfl, rfl, trivial⟩ (v_X0_readItem_104 hL d (by omega) S a2 _ _ hf)
      · replace hf := (if_neg c2).symm.trans hf
        refine zv_aload_n dX0_readItem_59 rfl rfl ?_
        refine zv_get zf_X0_67 (wo_1 S) rfl dX0_readItem_60 ?_
        refine zv_iconst (v := 2) dX0_readItem_63 (by decide) ?_
        refine zv_icmp_ne (tgt := 81) dX0_readItem_64 (by decide) (fun c3 => ?_) (fun c3 => ?_)
        · replace hf := (if_neg c3).symm.trans hf
          refine zv_iconst (v := 0) dX0_readItem_81 (by decide) ?_
          exact zv_iret (ty := .boolean) dX0_readItem_82 rfl rfl (zret2 wd hf)
        · replace hf := (if_pos c3).symm.trans hf
          refine zv_aload_n dX0_readItem_67 rfl rfl ?_
          refine zv_iload_n dX0_readItem_68 rfl rfl ?_
          refine zv_iload dX0_readItem_69 rfl ?_
          refine zv_aload_n dX0_readItem_71 rfl rfl ?_
          refine zv_get zf_X0_80 (wo_1 S) rfl dX0_readItem_72 ?_
          obtain ⟨x5, hc4, hf⟩ := zbind hf
          refine zv_callV dX0_readItem_75 zk_X0_92 zm_X0_mayBeTold (c_X0_mayBeTold hL d (by omega) S a2 a4 (S.1 1 5) x5 hc4) (hL.1 S) rfl rfl rfl (Nat.le_of_ble_eq_true rfl) ?_
          refine zv_if_ne (tgt := 83) dX0_readItem_78 (by decide) (fun c6 => ?_) (fun c6 => ?_)
          · replace hf := (if_neg c6).symm.trans hf
            refine zv_aload_n dX0_readItem_83 rfl rfl ?_
            refine zv_get zf_X0_27 (hL.1 S) rfl dX0_readItem_84 ?_
            refine zv_iload dX0_readItem_87 rfl ?_
            refine zv_aload_n dX0_readItem_89 rfl rfl ?_
            refine zv_get zf_X0_80 (wo_1 S) rfl dX0_readItem_90 ?_
            obtain ⟨hb7, hf⟩ := zifb hf
            refine zv_iast hb7 (hL.a6 S) (hL.s6 S (upd (S.1 (r + 6)) (a4).toNatClampNeg (S.1 1 5))) dX0_readItem_93 ?_
            refine zv_aload_n dX0_readItem_94 rfl rfl ?_
            obtain ⟨S9, hc8, hf⟩ := zbind hf
            refine zv_callV dX0_readItem_95 zk_X0_86 zm_X3_toNextToken (c_X3_toNextToken  d (by omega) (zr S (r + 6) (upd (S.1 (r + 6)) (a4).toNatClampNeg (S.1 1 5))) S9 hc8) (wo_1 (zr S (r + 6) (upd (S.1 (r + 6)) (a4).toNatClampNeg (S.1 1 5)))) rfl rfl rfl (Nat.le_of_ble_eq_true rfl) ?_
            refine zv_iinc (v := 1) dX0_readItem_98 rfl (by decide) (by decide) ?_
            refine zv_goto (tgt := 43) dX0_readItem_101 (by decide) ?_
            exact zV_sub ([(0, .ref r), (1, .ref 1), (2, .int a2), (3, .int a3), (4, .int (a4 + (1 : Int32)))]) ⟨rfl, rfl, rfl, rfl, rfl, trivial⟩ (ih S9 a2 a3 (a4 + (1 : Int32)) _ _ hf)
          · replace hf := (if_pos c6).symm.trans hf
            refine zv_iconst (v := 0) dX0_readItem_81 (by decide) ?_
            exact zv_iret (ty := .boolean) dX0_readItem_82 rfl rfl (zret2 wd hf)
def f_X0_readItem_40 (r : Nat) (S : zS) (a2 : Int32) (a3 : Int32) : Option (Int32 × zS) :=
  f_X0_readItem_43 r zN S a2 a3 (0 : Int32)
set_option maxRecDepth 100000 in
set_option maxHeartbeats 4000000 in
theorem v_X0_readItem_40 {r : Nat} (hL : zLand wd r) (d : Nat) (hd : 3 ≤ d) (S : zS) (a2 : Int32) (a3 : Int32) (v : Int32) (S' : zS) (hf : f_X0_readItem_40 r S a2 a3 = (some (v, S'))) : zV none (d + 1) yX0_readItem cX0_readItem 5 (some .boolean) 40 [(0, .ref r), (1, .ref 1), (2, .int a2), (3, .int a3)] [] (wd S) (zq (some (.int v)) (wd S')) := by
  unfold f_X0_readItem_40 at hf
  refine zv_iconst (v := 0) dX0_readItem_40 (by decide) ?_
  refine zv_istore dX0_readItem_41 (by decide) ?_
  exact zV_sub ([(0, .ref r), (1, .ref 1), (2, .int a2), (3, .int a3), (4, .int (0 : Int32))]) ⟨rfl, rfl, rfl, rfl, rfl, trivial⟩ (v_X0_readItem_43 hL d (by omega) zN S a2 a3 (0 : Int32) _ _ hf)
def f_X0_readItem (S : zS) (r : Nat) : Option (Int32 × zS) :=
  (if (S.1 1 4) = (1 : Int32) then ((f_X0_mayBegin S r (S.1 1 5)).bind (fun x3 => (if x3 = 0 then some ((0 : Int32), S) else ((f_X3_toNextToken S).bind (fun S6 => ((f_X0_isToldOnce (S.1 1 5)).bind (fun x8 => (if x8 = 0 then f_X0_readItem_40 r S6 (S.1 1 5) (3 : Int32) else f_X0_readItem_40 r S6 (S.1 1 5) (1 : Int32))))))))) else some ((0 : Int32), S))
set_option maxRecDepth 100000 in
set_option maxHeartbeats 4000000 in
theorem c_X0_readItem {r : Nat} (hL : zLand wd r) (d : Nat) (hd : 4 ≤ d) (S : zS) (v : Int32) (S' : zS) (hf : f_X0_readItem S r = (some (v, S'))) : zC d yX0_readItem cX0_readItem 5 (some .boolean) [.ref r, .ref 1] (wd S) (zq (some (.int v)) (wd S')) := by
  obtain ⟨d, rfl⟩ : ∃ e, d = e + 1 := ⟨d - 1, by omega⟩
  refine zC_intro (by decide) rfl (Nat.le_of_ble_eq_true rfl) ?_
  unfold f_X0_readItem at hf
  refine zv_aload_n dX0_readItem_0 rfl rfl ?_
  refine zv_get zf_X0_80 (wo_1 S) rfl dX0_readItem_1 ?_
  refine zv_istore_n dX0_readItem_4 rfl (by decide) ?_
  refine zv_aload_n dX0_readItem_5 rfl rfl ?_
  refine zv_get zf_X0_67 (wo_1 S) rfl dX0_readItem_6 ?_
  refine zv_iconst (v := 1) dX0_readItem_9 (by decide) ?_
  refine zv_icmp_ne (tgt := 21) dX0_readItem_10 (by decide) (fun c1 => ?_) (fun c1 => ?_)
  · replace hf := (if_neg c1).symm.trans hf
    refine zv_iconst (v := 0) dX0_readItem_21 (by decide) ?_
    exact zv_iret (ty := .boolean) dX0_readItem_22 rfl rfl (zret2 wd hf)
  · replace hf := (if_pos c1).symm.trans hf
    refine zv_aload_n dX0_readItem_13 rfl rfl ?_
    refine zv_iload_n dX0_readItem_14 rfl rfl ?_
    obtain ⟨x3, hc2, hf⟩ := zbind hf
    refine zv_callV dX0_readItem_15 zk_X0_83 zm_X0_mayBegin (c_X0_mayBegin hL d (by omega) S (S.1 1 5) x3 hc2) (hL.1 S) rfl rfl rfl (Nat.le_of_ble_eq_true rfl) ?_
    refine zv_if_ne (tgt := 23) dX0_readItem_18 (by decide) (fun c4 => ?_) (fun c4 => ?_)
    · replace hf := (if_neg c4).symm.trans hf
      refine zv_aload_n dX0_readItem_23 rfl rfl ?_
      obtain ⟨S6, hc5, hf⟩ := zbind hf
      refine zv_callV dX0_readItem_24 zk_X0_86 zm_X3_toNextToken (c_X3_toNextToken  d (by omega) S S6 hc5) (wo_1 S) rfl rfl rfl (Nat.le_of_ble_eq_true rfl) ?_
      refine zv_iload_n dX0_readItem_27 rfl rfl ?_
      obtain ⟨x8, hc7, hf⟩ := zbind hf
      refine zv_callS dX0_readItem_28 zk_X0_89 zm_X0_isToldOnce (c_X0_isToldOnce  d (S.1 1 5) x8 hc7) rfl rfl (Nat.le_of_ble_eq_true rfl) ?_
      refine zv_if_eq (tgt := 38) dX0_readItem_31 (by decide) (fun c9 => ?_) (fun c9 => ?_)
      · replace hf := (if_pos c9).symm.trans hf
        refine zv_iconst (v := 3) dX0_readItem_38 (by decide) ?_
        refine zv_istore_n dX0_readItem_39 rfl (by decide) ?_
        exact zV_sub ([(0, .ref r), (1, .ref 1), (2, .int (S.1 1 5)), (3, .int (3 : Int32))]) ⟨rfl, rfl, rfl, rfl, trivial⟩ (v_X0_readItem_40 hL d (by omega) S6 (S.1 1 5) (3 : Int32) _ _ hf)
      · replace hf := (if_neg c9).symm.trans hf
        refine zv_iconst (v := 1) dX0_readItem_34 (by decide) ?_
        refine zv_goto (tgt := 39) dX0_readItem_35 (by decide) ?_
        refine zv_istore_n dX0_readItem_39 rfl (by decide) ?_
        exact zV_sub ([(0, .ref r), (1, .ref 1), (2, .int (S.1 1 5)), (3, .int (1 : Int32))]) ⟨rfl, rfl, rfl, rfl, trivial⟩ (v_X0_readItem_40 hL d (by omega) S6 (S.1 1 5) (1 : Int32) _ _ hf)
    · replace hf := (if_pos c4).symm.trans hf
      refine zv_iconst (v := 0) dX0_readItem_21 (by decide) ?_
      exact zv_iret (ty := .boolean) dX0_readItem_22 rfl rfl (zret2 wd hf)
-- KingPrices$Text.toFirstToken()V height 3 writes
def f_X3_toFirstToken (S : zS) : Option zS :=
  ((f_X3_toNextToken (zu S 1 2 (0 : Int32))).bind (fun S2 => some S2))
set_option maxRecDepth 100000 in
set_option maxHeartbeats 4000000 in
theorem c_X3_toFirstToken  (d : Nat) (hd : 3 ≤ d) (S : zS) (S' : zS) (hf : f_X3_toFirstToken S = (some S')) : zC d yX3_toFirstToken cX3_toFirstToken 1 none [.ref 1] (wd S) (zq none (wd S')) := by
  obtain ⟨d, rfl⟩ : ∃ e, d = e + 1 := ⟨d - 1, by omega⟩
  refine zC_intro (by decide) rfl (Nat.le_of_ble_eq_true rfl) ?_
  unfold f_X3_toFirstToken at hf
  refine zv_aload_n dX3_toFirstToken_0 rfl rfl ?_
  refine zv_iconst (v := 0) dX3_toFirstToken_1 (by decide) ?_
  refine zv_put zp_X3_19 (wo_1 S) rfl (fun _ => ⟨rfl, rfl⟩) (Nat.le_of_ble_eq_true rfl) (wp_1_2 S (0 : Int32)) dX3_toFirstToken_2 ?_
  refine zv_aload_n dX3_toFirstToken_5 rfl rfl ?_
  obtain ⟨S2, hc1, hf⟩ := zbind hf
  refine zv_callV dX3_toFirstToken_6 zk_X3_22 zm_X3_toNextToken (c_X3_toNextToken  d (by omega) (zu S 1 2 (0 : Int32)) S2 hc1) (wo_1 (zu S 1 2 (0 : Int32))) rfl rfl rfl (Nat.le_of_ble_eq_true rfl) ?_
  exact zv_vret dX3_toFirstToken_9 rfl (zret0 wd hf)
-- KingPrices$Land.readAll(LKingPrices$Text;)I height 5 writes
def f_X0_readAll_46 (r : Nat) (S : zS) (a2 : Int32) : Option (Int32 × zS) :=
  ((f_X0_findShortestWays S r).bind (fun S2 => some (a2, S2)))
set_option maxRecDepth 100000 in
set_option maxHeartbeats 4000000 in
theorem v_X0_readAll_46 {r : Nat} (hL : zLand wd r) (d : Nat) (hd : 4 ≤ d) (S : zS) (a2 : Int32) (v : Int32) (S' : zS) (hf : f_X0_readAll_46 r S a2 = (some (v, S'))) : zV none (d + 1) yX0_readAll cX0_readAll 3 (some .int) 46 [(0, .ref r), (2, .int a2)] [] (wd S) (zq (some (.int v)) (wd S')) := by
  unfold f_X0_readAll_46 at hf
  refine zv_aload_n dX0_readAll_46 rfl rfl ?_
  obtain ⟨S2, hc1, hf⟩ := zbind hf
  refine zv_callV dX0_readAll_47 zk_X0_77 zm_X0_findShortestWays (c_X0_findShortestWays hL d (by omega) S S2 hc1) (hL.1 S) rfl rfl rfl (Nat.le_of_ble_eq_true rfl) ?_
  refine zv_iload_n dX0_readAll_50 rfl rfl ?_
  exact zv_iret (ty := .int) dX0_readAll_51 rfl rfl (zret2 wd hf)
def f_X0_readAll_10 (r : Nat) : Nat → zS → Int32 → Option (Int32 × zS)
  | 0, _, _ => none
  | n + 1, S, a2 => (if (180 : Int32) ≤ a2 then f_X0_readAll_46 r S a2 else (if (S.1 1 4) = 0 then f_X0_readAll_46 r S a2 else (zb2 (f_X0_readItem S r) (fun x4 S5 => (if x4 = 0 then some (((-10 : Int32) - (S5.1 1 3)), S5) else f_X0_readAll_10 r n S5 (a2 + (1 : Int32)))))))
set_option maxRecDepth 100000 in
set_option maxHeartbeats 4000000 in
theorem v_X0_readAll_10 {r : Nat} (hL : zLand wd r) (d : Nat) (hd : 4 ≤ d) : ∀ (n : Nat) (S : zS) (a2 : Int32) (v : Int32) (S' : zS), f_X0_readAll_10 r n S a2 = (some (v, S')) → zV none (d + 1) yX0_readAll cX0_readAll 3 (some .int) 10 [(0, .ref r), (1, .ref 1), (2, .int a2)] [] (wd S) (zq (some (.int v)) (wd S')) := by
  intro n
  induction n with
  | zero =>
    intro S a2 v S' hf
    cases hf
  | succ n ih =>
    intro S a2 v S' hf
    rw [f_X0_readAll_10] at hf
    refine zv_iload_n dX0_readAll_10 rfl rfl ?_
    refine zv_sipush (v := 180) dX0_readAll_11 (by decide) ?_
    refine zv_icmp_ge (tgt := 46) dX0_readAll_14 (by decide) (fun c1 => ?_) (fun c1 => ?_)
    · replace hf := (if_pos c1).symm.trans hf
      exact zV_sub ([(0, .ref r), (2, .int a2)]) ⟨rfl, rfl, trivial⟩ (v_X0_readAll_46 hL d (by omega) S a2 _ _ hf)
    · replace hf := (if_neg c1).symm.trans hf
      refine zv_aload_n dX0_readAll_17 rfl rfl ?_
      refine zv_get zf_X0_67 (wo_1 S) rfl dX0_readAll_18 ?_
      refine zv_if_eq (tgt := 46) dX0_readAll_21 (by decide) (fun c2 => ?_) (fun c2 => ?_)
      · replace hf := (if_pos c2).symm.trans hf
        exact zV_sub ([(0, .ref r), (2, .int a2)]) ⟨rfl, rfl, trivial⟩ (v_X0_readAll_46 hL d (by omega) S a2 _ _ hf)
      · replace hf := (if_neg c2).symm.trans hf
        refine zv_aload_n dX0_readAll_24 rfl rfl ?_
        refine zv_aload_n dX0_readAll_25 rfl rfl ?_
        obtain ⟨x4, S5, hc3, hf⟩ := zbind2 hf
        refine zv_callV dX0_readAll_26 zk_X0_70 zm_X0_readItem (c_X0_readItem hL d (by omega) S x4 S5 hc3) (hL.1 S) rfl rfl rfl (Nat.le_of_ble_eq_true rfl) ?_
        refine zv_if_ne (tgt := 40) dX0_readAll_29 (by decide) (fun c6 => ?_) (fun c6 => ?_)
        · replace hf := (if_neg c6).symm.trans hf
          refine zv_iinc (v := 1) dX0_readAll_40 rfl (by decide) (by decide) ?_
          refine zv_goto (tgt := 10) dX0_readAll_43 (by decide) ?_
          exact zV_sub ([(0, .ref r), (1, .ref 1), (2, .int (a2 + (1 : Int32)))]) ⟨rfl, rfl, rfl, trivial⟩ (ih S5 (a2 + (1 : Int32)) _ _ hf)
        · replace hf := (if_pos c6).symm.trans hf
          refine zv_bipush (v := -10) dX0_readAll_32 (by decide) ?_
          refine zv_aload_n dX0_readAll_34 rfl rfl ?_
          refine zv_get zf_X0_74 (wo_1 S5) rfl dX0_readAll_35 ?_
          refine zv_isub dX0_readAll_38 ?_
          exact zv_iret (ty := .int) dX0_readAll_39 rfl rfl (zret2 wd hf)
def f_X0_readAll (S : zS) (r : Nat) : Option (Int32 × zS) :=
  ((f_X0_empty S r).bind (fun S2 => ((f_X3_toFirstToken S2).bind (fun S4 => f_X0_readAll_10 r zN S4 (0 : Int32)))))
set_option maxRecDepth 100000 in
set_option maxHeartbeats 4000000 in
theorem c_X0_readAll {r : Nat} (hL : zLand wd r) (d : Nat) (hd : 5 ≤ d) (S : zS) (v : Int32) (S' : zS) (hf : f_X0_readAll S r = (some (v, S'))) : zC d yX0_readAll cX0_readAll 3 (some .int) [.ref r, .ref 1] (wd S) (zq (some (.int v)) (wd S')) := by
  obtain ⟨d, rfl⟩ : ∃ e, d = e + 1 := ⟨d - 1, by omega⟩
  refine zC_intro (by decide) rfl (Nat.le_of_ble_eq_true rfl) ?_
  unfold f_X0_readAll at hf
  refine zv_aload_n dX0_readAll_0 rfl rfl ?_
  obtain ⟨S2, hc1, hf⟩ := zbind hf
  refine zv_callV dX0_readAll_1 zk_X0_30 zm_X0_empty (c_X0_empty hL d (by omega) S S2 hc1) (hL.1 S) rfl rfl rfl (Nat.le_of_ble_eq_true rfl) ?_
  refine zv_aload_n dX0_readAll_4 rfl rfl ?_
  obtain ⟨S4, hc3, hf⟩ := zbind hf
  refine zv_callV dX0_readAll_5 zk_X0_62 zm_X3_toFirstToken (c_X3_toFirstToken  d (by omega) S2 S4 hc3) (wo_1 S2) rfl rfl rfl (Nat.le_of_ble_eq_true rfl) ?_
  refine zv_iconst (v := 0) dX0_readAll_8 (by decide) ?_
  refine zv_istore_n dX0_readAll_9 rfl (by decide) ?_
  exact zV_sub ([(0, .ref r), (1, .ref 1), (2, .int (0 : Int32))]) ⟨rfl, rfl, rfl, trivial⟩ (v_X0_readAll_10 hL d (by omega) zN S4 (0 : Int32) _ _ hf)
-- KingPrices$Land.hensOf(I)I height 1 reads
def f_X0_hensOf (S : zS) (r : Nat) (a1 : Int32) : Option Int32 :=
  ((f_X0_knows S r a1).bind (fun x2 => (if x2 = 0 then some ((0 : Int32)) else (if zin a1 6 then some ((S.1 (r + 1) (a1).toNatClampNeg)) else none))))
set_option maxRecDepth 100000 in
set_option maxHeartbeats 4000000 in
theorem c_X0_hensOf {W : zS → List va_E} {r : Nat} (hL : zLand W r) (d : Nat) (hd : 1 ≤ d) (S : zS) (a1 : Int32) (v : Int32) (hf : f_X0_hensOf S r a1 = (some v)) : zC d yX0_hensOf cX0_hensOf 2 (some .int) [.ref r, .int a1] (W S) (zq (some (.int v)) (W S)) := by
  obtain ⟨d, rfl⟩ : ∃ e, d = e + 1 := ⟨d - 1, by omega⟩
  refine zC_intro (by decide) rfl (Nat.le_of_ble_eq_true rfl) ?_
  unfold f_X0_hensOf at hf
  refine zv_aload_n dX0_hensOf_0 rfl rfl ?_
  refine zv_iload_n dX0_hensOf_1 rfl rfl ?_
  obtain ⟨x2, hc1, hf⟩ := zbind hf
  refine zv_callV dX0_hensOf_2 zk_X0_58 zm_X0_knows (c_X0_knows hL d S a1 x2 hc1) (hL.1 S) rfl rfl rfl (Nat.le_of_ble_eq_true rfl) ?_
  refine zv_if_eq (tgt := 17) dX0_hensOf_5 (by decide) (fun c3 => ?_) (fun c3 => ?_)
  · replace hf := (if_pos c3).symm.trans hf
    refine zv_iconst (v := 0) dX0_hensOf_17 (by decide) ?_
    exact zv_iret (ty := .int) dX0_hensOf_18 rfl rfl (zret1 hf)
  · replace hf := (if_neg c3).symm.trans hf
    refine zv_aload_n dX0_hensOf_8 rfl rfl ?_
    refine zv_get zf_X0_9 (hL.1 S) rfl dX0_hensOf_9 ?_
    refine zv_iload_n dX0_hensOf_12 rfl rfl ?_
    obtain ⟨hb4, hf⟩ := zifb hf
    refine zv_iald hb4 (hL.a1 S) dX0_hensOf_13 ?_
    refine zv_goto (tgt := 18) dX0_hensOf_14 (by decide) ?_
    exact zv_iret (ty := .int) dX0_hensOf_18 rfl rfl (zret1 hf)
-- KingPrices$Story.begin(LKingPrices$Land;)V height 2 writes
def f_X2_begin_42 (r : Nat) (q : Nat) : Nat → zS → Int32 → Option zS
  | 0, _, _ => none
  | n + 1, S, a2 => (if (S.1 q 6) ≤ a2 then some S else ((f_X0_hensOf S q a2).bind (fun x3 => ((f_X2_put S r ((4 : Int32) + a2) x3).bind (fun S5 => f_X2_begin_42 r q n S5 (a2 + (1 : Int32)))))))
set_option maxRecDepth 100000 in
set_option maxHeartbeats 4000000 in
theorem v_X2_begin_42 {W : zS → List va_E} {r : Nat} {q : Nat} (hT : zStory W r) (hL : zLand W q) (d : Nat) (hd : 1 ≤ d) : ∀ (n : Nat) (S : zS) (a2 : Int32) (S' : zS), f_X2_begin_42 r q n S a2 = (some S') → zV none (d + 1) yX2_begin cX2_begin 3 none 42 [(0, .ref r), (1, .ref q), (2, .int a2)] [] (W S) (zq none (W S')) := by
  intro n
  induction n with
  | zero =>
    intro S a2 S' hf
    cases hf
  | succ n ih =>
    intro S a2 S' hf
    rw [f_X2_begin_42] at hf
    refine zv_iload_n dX2_begin_42 rfl rfl ?_
    refine zv_aload_n dX2_begin_43 rfl rfl ?_
    refine zv_get zf_X2_25 (hL.1 S) rfl dX2_begin_44 ?_
    refine zv_icmp_ge (tgt := 68) dX2_begin_47 (by decide) (fun c1 => ?_) (fun c1 => ?_)
    · replace hf := (if_pos c1).symm.trans hf
      exact zv_vret dX2_begin_68 rfl (zret0 W hf)
    · replace hf := (if_neg c1).symm.trans hf
      refine zv_aload_n dX2_begin_50 rfl rfl ?_
      refine zv_iconst (v := 4) dX2_begin_51 (by decide) ?_
      refine zv_iload_n dX2_begin_52 rfl rfl ?_
      refine zv_iadd dX2_begin_53 ?_
      refine zv_aload_n dX2_begin_54 rfl rfl ?_
      refine zv_iload_n dX2_begin_55 rfl rfl ?_
      obtain ⟨x3, hc2, hf⟩ := zbind hf
      refine zv_callV dX2_begin_56 zk_X2_37 zm_X0_hensOf (c_X0_hensOf hL d (by omega) S a2 x3 hc2) (hL.1 S) rfl rfl rfl (Nat.le_of_ble_eq_true rfl) ?_
      obtain ⟨S5, hc4, hf⟩ := zbind hf
      refine zv_callV dX2_begin_59 zk_X2_30 zm_X2_put (c_X2_put hT d S ((4 : Int32) + a2) x3 S5 hc4) (hT.1 S) rfl rfl rfl (Nat.le_of_ble_eq_true rfl) ?_
      refine zv_iinc (v := 1) dX2_begin_62 rfl (by decide) (by decide) ?_
      refine zv_goto (tgt := 42) dX2_begin_65 (by decide) ?_
      exact zV_sub ([(0, .ref r), (1, .ref q), (2, .int (a2 + (1 : Int32)))]) ⟨rfl, rfl, rfl, trivial⟩ (ih S5 (a2 + (1 : Int32)) _ hf)
def f_X2_begin_31 (r : Nat) (q : Nat) (S : zS) : Option zS :=
  ((f_X2_put S r (2 : Int32) (S.1 q 10)).bind (fun S2 => f_X2_begin_42 r q zN S2 (0 : Int32)))
set_option maxRecDepth 100000 in
set_option maxHeartbeats 4000000 in
theorem v_X2_begin_31 {W : zS → List va_E} {r : Nat} {q : Nat} (hT : zStory W r) (hL : zLand W q) (d : Nat) (hd : 1 ≤ d) (S : zS) (S' : zS) (hf : f_X2_begin_31 r q S = (some S')) : zV none (d + 1) yX2_begin cX2_begin 3 none 31 [(0, .ref r), (1, .ref q)] [] (W S) (zq none (W S')) := by
  unfold f_X2_begin_31 at hf
  refine zv_aload_n dX2_begin_31 rfl rfl ?_
  refine zv_iconst (v := 2) dX2_begin_32 (by decide) ?_
  refine zv_aload_n dX2_begin_33 rfl rfl ?_
  refine zv_get zf_X2_34 (hL.1 S) rfl dX2_begin_34 ?_
  obtain ⟨S2, hc1, hf⟩ := zbind hf
  refine zv_callV dX2_begin_37 zk_X2_30 zm_X2_put (c_X2_put hT d S (2 : Int32) (S.1 q 10) S2 hc1) (hT.1 S) rfl rfl rfl (Nat.le_of_ble_eq_true rfl) ?_
  refine zv_iconst (v := 0) dX2_begin_40 (by decide) ?_
  refine zv_istore_n dX2_begin_41 rfl (by decide) ?_
  exact zV_sub ([(0, .ref r), (1, .ref q), (2, .int (0 : Int32))]) ⟨rfl, rfl, rfl, trivial⟩ (v_X2_begin_42 hT hL d (by omega) zN S2 (0 : Int32) _ hf)
def f_X2_begin (S : zS) (r : Nat) (q : Nat) : Option zS :=
  ((f_J7_fill_53178 S (r + 1) 308 (0 : Int32)).bind (fun S2 => (if ((zu S2 r 1 (0 : Int32)).1 q 6) ≤ 0 then ((f_X2_put (zu S2 r 1 (0 : Int32)) r (0 : Int32) (-9 : Int32)).bind (fun S5 => f_X2_begin_31 r q S5)) else ((f_X2_put (zu S2 r 1 (0 : Int32)) r (0 : Int32) (0 : Int32)).bind (fun S7 => f_X2_begin_31 r q S7)))))
set_option maxRecDepth 100000 in
set_option maxHeartbeats 4000000 in
theorem c_X2_begin {W : zS → List va_E} {r : Nat} {q : Nat} (hT : zStory W r) (hL : zLand W q) (d : Nat) (hd : 2 ≤ d) (S : zS) (S' : zS) (hf : f_X2_begin S r q = (some S')) : zC d yX2_begin cX2_begin 3 none [.ref r, .ref q] (W S) (zq none (W S')) := by
  obtain ⟨d, rfl⟩ : ∃ e, d = e + 1 := ⟨d - 1, by omega⟩
  refine zC_intro (by decide) rfl (Nat.le_of_ble_eq_true rfl) ?_
  unfold f_X2_begin at hf
  refine zv_aload_n dX2_begin_0 rfl rfl ?_
  refine zv_get zf_X2_9 (hT.1 S) rfl dX2_begin_1 ?_
  refine zv_iconst (v := 0) dX2_begin_4 (by decide) ?_
  obtain ⟨S2, hc1, hf⟩ := zbind hf
  refine zv_callS dX2_begin_5 zk_X2_15 zm_J7_fill_53178 (c_J7_fill_53178 (by decide) hT.2.2.1 hT.2.2.2 d S (0 : Int32) S2 hc1) rfl rfl (Nat.le_of_ble_eq_true rfl) ?_
  refine zv_aload_n dX2_begin_8 rfl rfl ?_
  refine zv_iconst (v := 0) dX2_begin_9 (by decide) ?_
  refine zv_put zp_X2_21 (hT.1 S2) rfl (fun _ => ⟨rfl, rfl⟩) (Nat.le_of_ble_eq_true rfl) (hT.2.1 S2 (0 : Int32)) dX2_begin_10 ?_
  refine zv_aload_n dX2_begin_13 rfl rfl ?_
  refine zv_iconst (v := 0) dX2_begin_14 (by decide) ?_
  refine zv_aload_n dX2_begin_15 rfl rfl ?_
  refine zv_get zf_X2_25 (hL.1 (zu S2 r 1 (0 : Int32))) rfl dX2_begin_16 ?_
  refine zv_if_le (tgt := 26) dX2_begin_19 (by decide) (fun c3 => ?_) (fun c3 => ?_)
  · replace hf := (if_pos c3).symm.trans hf
    refine zv_bipush (v := -9) dX2_begin_26 (by decide) ?_
    obtain ⟨S5, hc4, hf⟩ := zbind hf
    refine zv_callV dX2_begin_28 zk_X2_30 zm_X2_put (c_X2_put hT d (zu S2 r 1 (0 : Int32)) (0 : Int32) (-9 : Int32) S5 hc4) (hT.1 (zu S2 r 1 (0 : Int32))) rfl rfl rfl (Nat.le_of_ble_eq_true rfl) ?_
    exact zV_sub ([(0, .ref r), (1, .ref q)]) ⟨rfl, rfl, trivial⟩ (v_X2_begin_31 hT hL d (by omega) S5 _ hf)
  · replace hf := (if_neg c3).symm.trans hf
    refine zv_iconst (v := 0) dX2_begin_22 (by decide) ?_
    refine zv_goto (tgt := 28) dX2_begin_23 (by decide) ?_
    obtain ⟨S7, hc6, hf⟩ := zbind hf
    refine zv_callV dX2_begin_28 zk_X2_30 zm_X2_put (c_X2_put hT d (zu S2 r 1 (0 : Int32)) (0 : Int32) (0 : Int32) S7 hc6) (hT.1 (zu S2 r 1 (0 : Int32))) rfl rfl rfl (Nat.le_of_ble_eq_true rfl) ?_
    exact zV_sub ([(0, .ref r), (1, .ref q)]) ⟨rfl, rfl, trivial⟩ (v_X2_begin_31 hT hL d (by omega) S7 _ hf)
-- KingPrices.greatestDivisor(II)I height 0 reads
def f_X5_greatestDivisor_7  : Nat → Int32 → Int32 → Int32 → Option Int32
  | 0, _, _, _ => none
  | n + 1, a2, a3, a4 => (if (64 : Int32) ≤ a4 then some a2 else (if a3 = 0 then some a2 else (if a3 = 0 then none else f_X5_greatestDivisor_7  n a3 (a2 - a2 / a3 * a3) (a4 + (1 : Int32)))))
set_option maxRecDepth 100000 in
set_option maxHeartbeats 4000000 in
theorem v_X5_greatestDivisor_7 {h : List va_E} (d : Nat) : ∀ (n : Nat) (a2 : Int32) (a3 : Int32) (a4 : Int32) (v : Int32), f_X5_greatestDivisor_7  n a2 a3 a4 = (some v) → zV none d yX5_greatestDivisor cX5_greatestDivisor 6 (some .int) 7 [(2, .int a2), (3, .int a3), (4, .int a4)] [] h (zq (some (.int v)) h) := by
  intro n
  induction n with
  | zero =>
    intro a2 a3 a4 v hf
    cases hf
  | succ n ih =>
    intro a2 a3 a4 v hf
    rw [f_X5_greatestDivisor_7] at hf
    refine zv_iload dX5_greatestDivisor_7 rfl ?_
    refine zv_bipush (v := 64) dX5_greatestDivisor_9 (by decide) ?_
    refine zv_icmp_ge (tgt := 34) dX5_greatestDivisor_11 (by decide) (fun c1 => ?_) (fun c1 => ?_)
    · replace hf := (if_pos c1).symm.trans hf
      refine zv_iload_n dX5_greatestDivisor_34 rfl rfl ?_
      exact zv_iret (ty := .int) dX5_greatestDivisor_35 rfl rfl (zret1 hf)
    · replace hf := (if_neg c1).symm.trans hf
      refine zv_iload_n dX5_greatestDivisor_14 rfl rfl ?_
      refine zv_if_eq (tgt := 34) dX5_greatestDivisor_15 (by decide) (fun c2 => ?_) (fun c2 => ?_)
      · replace hf := (if_pos c2).symm.trans hf
        refine zv_iload_n dX5_greatestDivisor_34 rfl rfl ?_
        exact zv_iret (ty := .int) dX5_greatestDivisor_35 rfl rfl (zret1 hf)
      · replace hf := (if_neg c2).symm.trans hf
        refine zv_iload_n dX5_greatestDivisor_18 rfl rfl ?_
        refine zv_iload_n dX5_greatestDivisor_19 rfl rfl ?_
        obtain ⟨hz3, hf⟩ := zifn hf
        refine zv_irem hz3 dX5_greatestDivisor_20 ?_
        refine zv_istore dX5_greatestDivisor_21 (by decide) ?_
        refine zv_iload_n dX5_greatestDivisor_23 rfl rfl ?_
        refine zv_istore_n dX5_greatestDivisor_24 rfl (by decide) ?_
        refine zv_iload dX5_greatestDivisor_25 rfl ?_
        refine zv_istore_n dX5_greatestDivisor_27 rfl (by decide) ?_
        refine zv_iinc (v := 1) dX5_greatestDivisor_28 rfl (by decide) (by decide) ?_
        refine zv_goto (tgt := 7) dX5_greatestDivisor_31 (by decide) ?_
        exact zV_sub ([(2, .int a3), (3, .int (a2 - a2 / a3 * a3)), (4, .int (a4 + (1 : Int32)))]) ⟨rfl, rfl, rfl, trivial⟩ (ih a3 (a2 - a2 / a3 * a3) (a4 + (1 : Int32)) _ hf)
def f_X5_greatestDivisor (a0 : Int32) (a1 : Int32) : Option Int32 :=
  f_X5_greatestDivisor_7 zN a0 a1 (0 : Int32)
set_option maxRecDepth 100000 in
set_option maxHeartbeats 4000000 in
theorem c_X5_greatestDivisor {h : List va_E} (d : Nat) (a0 : Int32) (a1 : Int32) (v : Int32) (hf : f_X5_greatestDivisor a0 a1 = (some v)) : zC d yX5_greatestDivisor cX5_greatestDivisor 6 (some .int) [.int a0, .int a1] h (zq (some (.int v)) h) := by
  refine zC_intro (by decide) rfl (Nat.le_of_ble_eq_true rfl) ?_
  unfold f_X5_greatestDivisor at hf
  refine zv_iload_n dX5_greatestDivisor_0 rfl rfl ?_
  refine zv_istore_n dX5_greatestDivisor_1 rfl (by decide) ?_
  refine zv_iload_n dX5_greatestDivisor_2 rfl rfl ?_
  refine zv_istore_n dX5_greatestDivisor_3 rfl (by decide) ?_
  refine zv_iconst (v := 0) dX5_greatestDivisor_4 (by decide) ?_
  refine zv_istore dX5_greatestDivisor_5 (by decide) ?_
  exact zV_sub ([(2, .int a0), (3, .int a1), (4, .int (0 : Int32))]) ⟨rfl, rfl, rfl, trivial⟩ (v_X5_greatestDivisor_7 d zN a0 a1 (0 : Int32) _ hf)
-- KingPrices.partOfFraction(III)I height 1 reads
def f_X5_partOfFraction (a0 : Int32) (a1 : Int32) (a2 : Int32) : Option Int32 :=
  ((f_X5_greatestDivisor a0 a1).bind (fun x2 => (if (1 : Int32) ≤ x2 then (if a2 = 0 then (if x2 = 0 then none else some ((a0 / x2))) else (if x2 = 0 then none else some ((a1 / x2)))) else some ((0 : Int32)))))
set_option maxRecDepth 100000 in
set_option maxHeartbeats 4000000 in
theorem c_X5_partOfFraction {h : List va_E} (d : Nat) (hd : 1 ≤ d) (a0 : Int32) (a1 : Int32) (a2 : Int32) (v : Int32) (hf : f_X5_partOfFraction a0 a1 a2 = (some v)) : zC d yX5_partOfFraction cX5_partOfFraction 4 (some .int) [.int a0, .int a1, .int a2] h (zq (some (.int v)) h) := by
  obtain ⟨d, rfl⟩ : ∃ e, d = e + 1 := ⟨d - 1, by omega⟩
  refine zC_intro (by decide) rfl (Nat.le_of_ble_eq_true rfl) ?_
  unfold f_X5_partOfFraction at hf
  refine zv_iload_n dX5_partOfFraction_0 rfl rfl ?_
  refine zv_iload_n dX5_partOfFraction_1 rfl rfl ?_
  obtain ⟨x2, hc1, hf⟩ := zbind hf
  refine zv_callS dX5_partOfFraction_2 zk_X5_217 zm_X5_greatestDivisor (c_X5_greatestDivisor  d a0 a1 x2 hc1) rfl rfl (Nat.le_of_ble_eq_true rfl) ?_
  refine zv_istore_n dX5_partOfFraction_5 rfl (by decide) ?_
  refine zv_iload_n dX5_partOfFraction_6 rfl rfl ?_
  refine zv_iconst (v := 1) dX5_partOfFraction_7 (by decide) ?_
  refine zv_icmp_ge (tgt := 13) dX5_partOfFraction_8 (by decide) (fun c3 => ?_) (fun c3 => ?_)
  · replace hf := (if_pos c3).symm.trans hf
    refine zv_iload_n dX5_partOfFraction_13 rfl rfl ?_
    refine zv_if_ne (tgt := 21) dX5_partOfFraction_14 (by decide) (fun c4 => ?_) (fun c4 => ?_)
    · replace hf := (if_neg c4).symm.trans hf
      refine zv_iload_n dX5_partOfFraction_21 rfl rfl ?_
      refine zv_iload_n dX5_partOfFraction_22 rfl rfl ?_
      obtain ⟨hz5, hf⟩ := zifn hf
      refine zv_idiv hz5 dX5_partOfFraction_23 ?_
      exact zv_iret (ty := .int) dX5_partOfFraction_24 rfl rfl (zret1 hf)
    · replace hf := (if_pos c4).symm.trans hf
      refine zv_iload_n dX5_partOfFraction_17 rfl rfl ?_
      refine zv_goto (tgt := 22) dX5_partOfFraction_18 (by decide) ?_
      refine zv_iload_n dX5_partOfFraction_22 rfl rfl ?_
      obtain ⟨hz6, hf⟩ := zifn hf
      refine zv_idiv hz6 dX5_partOfFraction_23 ?_
      exact zv_iret (ty := .int) dX5_partOfFraction_24 rfl rfl (zret1 hf)
  · replace hf := (if_neg c3).symm.trans hf
    refine zv_iconst (v := 0) dX5_partOfFraction_11 (by decide) ?_
    exact zv_iret (ty := .int) dX5_partOfFraction_12 rfl rfl (zret1 hf)
-- KingPrices.buyerHas(ZZII)I height 0 reads
def f_X5_buyerHas_15 (a1 : Int32) (a3 : Int32) (a4 : Int32) : Option Int32 :=
  (if a1 = 0 then some a4 else some ((a4 - a3)))
set_option maxRecDepth 100000 in
set_option maxHeartbeats 4000000 in
theorem v_X5_buyerHas_15 {h : List va_E} (d : Nat) (a1 : Int32) (a3 : Int32) (a4 : Int32) (v : Int32) (hf : f_X5_buyerHas_15 a1 a3 a4 = (some v)) : zV none d yX5_buyerHas cX5_buyerHas 5 (some .int) 15 [(1, .int a1), (3, .int a3), (4, .int a4)] [] h (zq (some (.int v)) h) := by
  unfold f_X5_buyerHas_15 at hf
  refine zv_iload_n dX5_buyerHas_15 rfl rfl ?_
  refine zv_if_eq (tgt := 26) dX5_buyerHas_16 (by decide) (fun c1 => ?_) (fun c1 => ?_)
  · replace hf := (if_pos c1).symm.trans hf
    refine zv_iload dX5_buyerHas_26 rfl ?_
    exact zv_iret (ty := .int) dX5_buyerHas_28 rfl rfl (zret1 hf)
  · replace hf := (if_neg c1).symm.trans hf
    refine zv_iload dX5_buyerHas_19 rfl ?_
    refine zv_iload_n dX5_buyerHas_21 rfl rfl ?_
    refine zv_isub dX5_buyerHas_22 ?_
    refine zv_goto (tgt := 28) dX5_buyerHas_23 (by decide) ?_
    exact zv_iret (ty := .int) dX5_buyerHas_28 rfl rfl (zret1 hf)
def f_X5_buyerHas_12 (a1 : Int32) (a2 : Int32) (a3 : Int32) : Option Int32 :=
  f_X5_buyerHas_15 a1 a3 a2
set_option maxRecDepth 100000 in
set_option maxHeartbeats 4000000 in
theorem v_X5_buyerHas_12 {h : List va_E} (d : Nat) (a1 : Int32) (a2 : Int32) (a3 : Int32) (v : Int32) (hf : f_X5_buyerHas_12 a1 a2 a3 = (some v)) : zV none d yX5_buyerHas cX5_buyerHas 5 (some .int) 12 [(1, .int a1), (2, .int a2), (3, .int a3)] [] h (zq (some (.int v)) h) := by
  unfold f_X5_buyerHas_12 at hf
  refine zv_iload_n dX5_buyerHas_12 rfl rfl ?_
  refine zv_istore dX5_buyerHas_13 (by decide) ?_
  exact zV_sub ([(1, .int a1), (3, .int a3), (4, .int a2)]) ⟨rfl, rfl, rfl, trivial⟩ (v_X5_buyerHas_15 d a1 a3 a2 _ hf)
def f_X5_buyerHas (a0 : Int32) (a1 : Int32) (a2 : Int32) (a3 : Int32) : Option Int32 :=
  (if a0 = 0 then f_X5_buyerHas_12 a1 a2 a3 else (if a1 = 0 then f_X5_buyerHas_15 a1 a3 (0 : Int32) else f_X5_buyerHas_12 a1 a2 a3))
set_option maxRecDepth 100000 in
set_option maxHeartbeats 4000000 in
theorem c_X5_buyerHas {h : List va_E} (d : Nat) (a0 : Int32) (a1 : Int32) (a2 : Int32) (a3 : Int32) (v : Int32) (hf : f_X5_buyerHas a0 a1 a2 a3 = (some v)) : zC d yX5_buyerHas cX5_buyerHas 5 (some .int) [.int a0, .int a1, .int a2, .int a3] h (zq (some (.int v)) h) := by
  refine zC_intro (by decide) rfl (Nat.le_of_ble_eq_true rfl) ?_
  unfold f_X5_buyerHas at hf
  refine zv_iload_n dX5_buyerHas_0 rfl rfl ?_
  refine zv_if_eq (tgt := 12) dX5_buyerHas_1 (by decide) (fun c1 => ?_) (fun c1 => ?_)
  · replace hf := (if_pos c1).symm.trans hf
    exact zV_sub ([(1, .int a1), (2, .int a2), (3, .int a3)]) ⟨rfl, rfl, rfl, trivial⟩ (v_X5_buyerHas_12 d a1 a2 a3 _ hf)
  · replace hf := (if_neg c1).symm.trans hf
    refine zv_iload_n dX5_buyerHas_4 rfl rfl ?_
    refine zv_if_ne (tgt := 12) dX5_buyerHas_5 (by decide) (fun c2 => ?_) (fun c2 => ?_)
    · replace hf := (if_neg c2).symm.trans hf
      exact zV_sub ([(1, .int a1), (2, .int a2), (3, .int a3)]) ⟨rfl, rfl, rfl, trivial⟩ (v_X5_buyerHas_12 d a1 a2 a3 _ hf)
    · replace hf := (if_pos c2).symm.trans hf
      refine zv_iconst (v := 0) dX5_buyerHas_8 (by decide) ?_
      refine zv_goto (tgt := 13) dX5_buyerHas_9 (by decide) ?_
      refine zv_istore dX5_buyerHas_13 (by decide) ?_
      exact zV_sub ([(1, .int a1), (3, .int a3), (4, .int (0 : Int32))]) ⟨rfl, rfl, rfl, trivial⟩ (v_X5_buyerHas_15 d a1 a3 (0 : Int32) _ hf)
-- KingPrices.villageHas(ZZII)I height 0 reads
def f_X5_villageHas (a0 : Int32) (a1 : Int32) (a2 : Int32) (a3 : Int32) : Option Int32 :=
  (if a0 = 0 then some (-a2) else (if a1 = 0 then some ((0 : Int32)) else some ((-(a2 + a3)))))
set_option maxRecDepth 100000 in
set_option maxHeartbeats 4000000 in
theorem c_X5_villageHas {h : List va_E} (d : Nat) (a0 : Int32) (a1 : Int32) (a2 : Int32) (a3 : Int32) (v : Int32) (hf : f_X5_villageHas a0 a1 a2 a3 = (some v)) : zC d yX5_villageHas cX5_villageHas 4 (some .int) [.int a0, .int a1, .int a2, .int a3] h (zq (some (.int v)) h) := by
  refine zC_intro (by decide) rfl (Nat.le_of_ble_eq_true rfl) ?_
  unfold f_X5_villageHas at hf
  refine zv_iload_n dX5_villageHas_0 rfl rfl ?_
  refine zv_if_ne (tgt := 7) dX5_villageHas_1 (by decide) (fun c1 => ?_) (fun c1 => ?_)
  · replace hf := (if_neg c1).symm.trans hf
    refine zv_iload_n dX5_villageHas_7 rfl rfl ?_
    refine zv_if_eq (tgt := 18) dX5_villageHas_8 (by decide) (fun c2 => ?_) (fun c2 => ?_)
    · replace hf := (if_pos c2).symm.trans hf
      refine zv_iconst (v := 0) dX5_villageHas_18 (by decide) ?_
      exact zv_iret (ty := .int) dX5_villageHas_19 rfl rfl (zret1 hf)
    · replace hf := (if_neg c2).symm.trans hf
      refine zv_iload_n dX5_villageHas_11 rfl rfl ?_
      refine zv_iload_n dX5_villageHas_12 rfl rfl ?_
      refine zv_iadd dX5_villageHas_13 ?_
      refine zv_ineg dX5_villageHas_14 ?_
      refine zv_goto (tgt := 19) dX5_villageHas_15 (by decide) ?_
      exact zv_iret (ty := .int) dX5_villageHas_19 rfl rfl (zret1 hf)
  · replace hf := (if_pos c1).symm.trans hf
    refine zv_iload_n dX5_villageHas_4 rfl rfl ?_
    refine zv_ineg dX5_villageHas_5 ?_
    exact zv_iret (ty := .int) dX5_villageHas_6 rfl rfl (zret1 hf)
-- KingPrices$Text.append(I)Z height 0 writes
def f_X3_append (S : zS) (a1 : Int32) : Option (Int32 × zS) :=
  (if (S.1 1 1) < 0 then some ((0 : Int32), S) else (if (S.1 1 1) < (180 : Int32) then (if zin (S.1 1 1) 180 then some ((1 : Int32), (zu (zr S 2 (upd (S.1 2) ((S.1 1 1)).toNatClampNeg a1)) 1 1 (((zr S 2 (upd (S.1 2) ((S.1 1 1)).toNatClampNeg a1)).1 1 1) + (1 : Int32)))) else none) else some ((0 : Int32), S)))
set_option maxRecDepth 100000 in
set_option maxHeartbeats 4000000 in
theorem c_X3_append  (d : Nat) (S : zS) (a1 : Int32) (v : Int32) (S' : zS) (hf : f_X3_append S a1 = (some (v, S'))) : zC d yX3_append cX3_append 2 (some .boolean) [.ref 1, .int a1] (wd S) (zq (some (.int v)) (wd S')) := by
  refine zC_intro (by decide) rfl (Nat.le_of_ble_eq_true rfl) ?_
  unfold f_X3_append at hf
  refine zv_aload_n dX3_append_0 rfl rfl ?_
  refine zv_get zf_X3_15 (wo_1 S) rfl dX3_append_1 ?_
  refine zv_if_lt (tgt := 19) dX3_append_4 (by decide) (fun c1 => ?_) (fun c1 => ?_)
  · replace hf := (if_pos c1).symm.trans hf
    refine zv_iconst (v := 0) dX3_append_19 (by decide) ?_
    exact zv_iret (ty := .boolean) dX3_append_20 rfl rfl (zret2 wd hf)
  · replace hf := (if_neg c1).symm.trans hf
    refine zv_aload_n dX3_append_7 rfl rfl ?_
    refine zv_get zf_X3_15 (wo_1 S) rfl dX3_append_8 ?_
    refine zv_aload_n dX3_append_11 rfl rfl ?_
    refine zv_get zf_X3_9 (wo_1 S) rfl dX3_append_12 ?_
    refine zv_alen (v := 180) (t := 0) (by decide) (by decide) (wo_2 S) dX3_append_15 ?_
    refine zv_icmp_lt (tgt := 21) dX3_append_16 (by decide) (fun c2 => ?_) (fun c2 => ?_)
    · replace hf := (if_pos c2).symm.trans hf
      refine zv_aload_n dX3_append_21 rfl rfl ?_
      refine zv_get zf_X3_9 (wo_1 S) rfl dX3_append_22 ?_
      refine zv_aload_n dX3_append_25 rfl rfl ?_
      refine zv_get zf_X3_15 (wo_1 S) rfl dX3_append_26 ?_
      refine zv_iload_n dX3_append_29 rfl rfl ?_
      obtain ⟨hb3, hf⟩ := zifb hf
      refine zv_iast hb3 (wo_2 S) (ws_2 S (upd (S.1 2) ((S.1 1 1)).toNatClampNeg a1)) dX3_append_30 ?_
      refine zv_aload_n dX3_append_31 rfl rfl ?_
      refine zv_dup dX3_append_32 rfl ?_
      refine zv_get zf_X3_15 (wo_1 (zr S 2 (upd (S.1 2) ((S.1 1 1)).toNatClampNeg a1))) rfl dX3_append_33 ?_
      refine zv_iconst (v := 1) dX3_append_36 (by decide) ?_
      refine zv_iadd dX3_append_37 ?_
      refine zv_put zp_X3_15 (wo_1 (zr S 2 (upd (S.1 2) ((S.1 1 1)).toNatClampNeg a1))) rfl (fun _ => ⟨rfl, rfl⟩) (Nat.le_of_ble_eq_true rfl) (wp_1_1 (zr S 2 (upd (S.1 2) ((S.1 1 1)).toNatClampNeg a1)) (((zr S 2 (upd (S.1 2) ((S.1 1 1)).toNatClampNeg a1)).1 1 1) + (1 : Int32))) dX3_append_38 ?_
      refine zv_iconst (v := 1) dX3_append_41 (by decide) ?_
      exact zv_iret (ty := .boolean) dX3_append_42 rfl rfl (zret2 wd hf)
    · replace hf := (if_neg c2).symm.trans hf
      refine zv_iconst (v := 0) dX3_append_19 (by decide) ?_
      exact zv_iret (ty := .boolean) dX3_append_20 rfl rfl (zret2 wd hf)
-- KingPrices$Story.goBack()Z height 1 writes
def f_X2_goBack (S : zS) (r : Nat) : Option (Int32 × zS) :=
  (if (1 : Int32) ≤ (S.1 r 1) then some ((1 : Int32), (zu (zr S (r + 1) (va_cpy (S.1 (r + 1)) (S.1 (r + 1)) 28 0 280)) r 1 (((zr S (r + 1) (va_cpy (S.1 (r + 1)) (S.1 (r + 1)) 28 0 280)).1 r 1) - (1 : Int32)))) else some ((0 : Int32), S))
set_option maxRecDepth 100000 in
set_option maxHeartbeats 4000000 in
theorem c_X2_goBack {W : zS → List va_E} {r : Nat} (hT : zStory W r) (d : Nat) (hd : 1 ≤ d) (S : zS) (v : Int32) (S' : zS) (hf : f_X2_goBack S r = (some (v, S'))) : zC d yX2_goBack cX2_goBack 1 (some .boolean) [.ref r] (W S) (zq (some (.int v)) (W S')) := by
  obtain ⟨d, rfl⟩ : ∃ e, d = e + 1 := ⟨d - 1, by omega⟩
  refine zC_intro (by decide) rfl (Nat.le_of_ble_eq_true rfl) ?_
  unfold f_X2_goBack at hf
  refine zv_aload_n dX2_goBack_0 rfl rfl ?_
  refine zv_get zf_X2_21 (hT.1 S) rfl dX2_goBack_1 ?_
  refine zv_iconst (v := 1) dX2_goBack_4 (by decide) ?_
  refine zv_icmp_ge (tgt := 10) dX2_goBack_5 (by decide) (fun c1 => ?_) (fun c1 => ?_)
  · replace hf := (if_pos c1).symm.trans hf
    refine zv_aload_n dX2_goBack_10 rfl rfl ?_
    refine zv_get zf_X2_9 (hT.1 S) rfl dX2_goBack_11 ?_
    refine zv_bipush (v := 28) dX2_goBack_14 (by decide) ?_
    refine zv_aload_n dX2_goBack_16 rfl rfl ?_
    refine zv_get zf_X2_9 (hT.1 S) rfl dX2_goBack_17 ?_
    refine zv_iconst (v := 0) dX2_goBack_20 (by decide) ?_
    refine zv_sipush (v := 280) dX2_goBack_21 (by decide) ?_
    refine zv_copyK (k0 := 28) (k1 := 0) (k2 := 280) (by decide) (by decide) (by decide) (by unfold zcpy; decide) zk_X2_53 (hT.2.2.1 S) (hT.2.2.1 S) (hT.2.2.2 S (va_cpy (S.1 (r + 1)) (S.1 (r + 1)) 28 0 280)) (Nat.le_of_ble_eq_true rfl) dX2_goBack_24 ?_
    refine zv_aload_n dX2_goBack_27 rfl rfl ?_
    refine zv_dup dX2_goBack_28 rfl ?_
    refine zv_get zf_X2_21 (hT.1 (zr S (r + 1) (va_cpy (S.1 (r + 1)) (S.1 (r + 1)) 28 0 280))) rfl dX2_goBack_29 ?_
    refine zv_iconst (v := 1) dX2_goBack_32 (by decide) ?_
    refine zv_isub dX2_goBack_33 ?_
    refine zv_put zp_X2_21 (hT.1 (zr S (r + 1) (va_cpy (S.1 (r + 1)) (S.1 (r + 1)) 28 0 280))) rfl (fun _ => ⟨rfl, rfl⟩) (Nat.le_of_ble_eq_true rfl) (hT.2.1 (zr S (r + 1) (va_cpy (S.1 (r + 1)) (S.1 (r + 1)) 28 0 280)) (((zr S (r + 1) (va_cpy (S.1 (r + 1)) (S.1 (r + 1)) 28 0 280)).1 r 1) - (1 : Int32))) dX2_goBack_34 ?_
    refine zv_iconst (v := 1) dX2_goBack_37 (by decide) ?_
    exact zv_iret (ty := .boolean) dX2_goBack_38 rfl rfl (zret2 W hf)
  · replace hf := (if_neg c1).symm.trans hf
    refine zv_iconst (v := 0) dX2_goBack_8 (by decide) ?_
    exact zv_iret (ty := .boolean) dX2_goBack_9 rfl rfl (zret2 W hf)
