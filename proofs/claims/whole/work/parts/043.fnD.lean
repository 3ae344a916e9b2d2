-- KingPricesModel.in(III)Z height 0 reads
def f_X6_in (a0 : Int32) (a1 : Int32) (a2 : Int32) : Option Int32 :=
  (if a0 < a1 then some ((0 : Int32)) else (if a2 < a0 then some ((0 : Int32)) else some ((1 : Int32))))
set_option maxRecDepth 100000 in
set_option maxHeartbeats 4000000 in
theorem c_X6_in {h : List va_E} (d : Nat) (a0 : Int32) (a1 : Int32) (a2 : Int32) (v : Int32) (hf : f_X6_in a0 a1 a2 = (some v)) : zC d yX6_in cX6_in 3 (some .boolean) [.int a0, .int a1, .int a2] h (zq (some (.int v)) h) := by
  refine zC_intro (by decide) rfl (Nat.le_of_ble_eq_true rfl) ?_
  unfold f_X6_in at hf
  refine zv_iload_n dX6_in_0 rfl rfl ?_
  refine zv_iload_n dX6_in_1 rfl rfl ?_
  refine zv_icmp_lt (tgt := 14) dX6_in_2 (by decide) (fun c1 => ?_) (fun c1 => ?_)
  · replace hf := (if_pos c1).symm.trans hf
    refine zv_iconst (v := 0) dX6_in_14 (by decide) ?_
    exact zv_iret (ty := .boolean) dX6_in_15 rfl rfl (zret1 hf)
  · replace hf := (if_neg c1).symm.trans hf
    refine zv_iload_n dX6_in_5 rfl rfl ?_
    refine zv_iload_n dX6_in_6 rfl rfl ?_
    refine zv_icmp_gt (tgt := 14) dX6_in_7 (by decide) (fun c2 => ?_) (fun c2 => ?_)
    · replace hf := (if_pos c2).symm.trans hf
      refine zv_iconst (v := 0) dX6_in_14 (by decide) ?_
      exact zv_iret (ty := .boolean) dX6_in_15 rfl rfl (zret1 hf)
    · replace hf := (if_neg c2).symm.trans hf
      refine zv_iconst (v := 1) dX6_in_10 (by decide) ?_
      refine zv_goto (tgt := 15) dX6_in_11 (by decide) ?_
      exact zv_iret (ty := .boolean) dX6_in_15 rfl rfl (zret1 hf)
-- KingPricesModel.back(I)I height 1 writes
def f_X6_back_25  : Nat → zS → Int32 → Int32 → Option (Int32 × zS)
  | 0, _, _, _ => none
  | n + 1, S, a1, a2 => (if (309 : Int32) ≤ a2 then some ((S.1 41 1), S) else (if zin (((309 : Int32) * ((1 : Int32) + a1)) + a2) 927 then (if zin a2 927 then f_X6_back_25  n (zr S 41 (upd (S.1 41) (a2).toNatClampNeg (S.1 41 ((((309 : Int32) * ((1 : Int32) + a1)) + a2)).toNatClampNeg))) a1 (a2 + (1 : Int32)) else none) else none))
set_option maxRecDepth 100000 in
set_option maxHeartbeats 4000000 in
theorem v_X6_back_25 (d : Nat) (hd : 0 ≤ d) : ∀ (n : Nat) (S : zS) (a1 : Int32) (a2 : Int32) (v : Int32) (S' : zS), f_X6_back_25  n S a1 a2 = (some (v, S')) → zV none (d + 1) yX6_back cX6_back 3 (some .int) 25 [(0, .ref 31), (1, .int a1), (2, .int a2)] [] (wd S) (zq (some (.int v)) (wd S')) := by
  intro n
  induction n with
  | zero =>
    intro S a1 a2 v S' hf
    cases hf
  | succ n ih =>
    intro S a1 a2 v S' hf
    rw [f_X6_back_25] at hf
    refine zv_iload_n dX6_back_25 rfl rfl ?_
    refine zv_sipush (v := 309) dX6_back_26 (by decide) ?_
    refine zv_icmp_ge (tgt := 58) dX6_back_29 (by decide) (fun c1 => ?_) (fun c1 => ?_)
    · replace hf := (if_pos c1).symm.trans hf
      refine zv_aload_n dX6_back_58 rfl rfl ?_
      refine zv_get zf_X6_38 (wo_31 S) rfl dX6_back_59 ?_
      refine zv_iconst (v := 1) dX6_back_62 (by decide) ?_
      refine zv_ialdK (k := 1) (by decide) (by decide) (wo_41 S) dX6_back_63 ?_
      exact zv_iret (ty := .int) dX6_back_64 rfl rfl (zret2 wd hf)
    · replace hf := (if_neg c1).symm.trans hf
      refine zv_aload_n dX6_back_32 rfl rfl ?_
      refine zv_get zf_X6_38 (wo_31 S) rfl dX6_back_33 ?_
      refine zv_iload_n dX6_back_36 rfl rfl ?_
      refine zv_aload_n dX6_back_37 rfl rfl ?_
      refine zv_get zf_X6_38 (wo_31 S) rfl dX6_back_38 ?_
      refine zv_sipush (v := 309) dX6_back_41 (by decide) ?_
      refine zv_iconst (v := 1) dX6_back_44 (by decide) ?_
      refine zv_iload_n dX6_back_45 rfl rfl ?_
      refine zv_iadd dX6_back_46 ?_
      refine zv_imul dX6_back_47 ?_
      refine zv_iload_n dX6_back_48 rfl rfl ?_
      refine zv_iadd dX6_back_49 ?_
      obtain ⟨hb2, hf⟩ := zifb hf
      refine zv_iald hb2 (wo_41 S) dX6_back_50 ?_
      obtain ⟨hb3, hf⟩ := zifb hf
      refine zv_iast hb3 (wo_41 S) (ws_41 S (upd (S.1 41) (a2).toNatClampNeg (S.1 41 ((((309 : Int32) * ((1 : Int32) + a1)) + a2)).toNatClampNeg))) dX6_back_51 ?_
      refine zv_iinc (v := 1) dX6_back_52 rfl (by decide) (by decide) ?_
      refine zv_goto (tgt := 25) dX6_back_55 (by decide) ?_
      exact zV_sub ([(0, .ref 31), (1, .int a1), (2, .int (a2 + (1 : Int32)))]) ⟨rfl, rfl, rfl, trivial⟩ (ih (zr S 41 (upd (S.1 41) (a2).toNatClampNeg (S.1 41 ((((309 : Int32) * ((1 : Int32) + a1)) + a2)).toNatClampNeg))) a1 (a2 + (1 : Int32)) _ _ hf)
def f_X6_back (S : zS) (a1 : Int32) : Option (Int32 × zS) :=
  ((f_X6_in a1 (0 : Int32) (1 : Int32)).bind (fun x2 => (if x2 = 0 then some ((-1 : Int32), S) else (if zin a1 2 then (if (S.1 42 (a1).toNatClampNeg) = 0 then some ((-2 : Int32), S) else f_X6_back_25 zN S a1 (0 : Int32)) else none))))
set_option maxRecDepth 100000 in
set_option maxHeartbeats 4000000 in
theorem c_X6_back  (d : Nat) (hd : 1 ≤ d) (S : zS) (a1 : Int32) (v : Int32) (S' : zS) (hf : f_X6_back S a1 = (some (v, S'))) : zC d yX6_back cX6_back 3 (some .int) [.ref 31, .int a1] (wd S) (zq (some (.int v)) (wd S')) := by
  obtain ⟨d, rfl⟩ : ∃ e, d = e + 1 := ⟨d - 1, by omega⟩
  refine zC_intro (by decide) rfl (Nat.le_of_ble_eq_true rfl) ?_
  unfold f_X6_back at hf
  refine zv_iload_n dX6_back_0 rfl rfl ?_
  refine zv_iconst (v := 0) dX6_back_1 (by decide) ?_
  refine zv_iconst (v := 1) dX6_back_2 (by decide) ?_
  obtain ⟨x2, hc1, hf⟩ := zbind hf
  refine zv_callS dX6_back_3 zk_X6_54 zm_X6_in (c_X6_in  d a1 (0 : Int32) (1 : Int32) x2 hc1) rfl rfl (Nat.le_of_ble_eq_true rfl) ?_
  refine zv_if_ne (tgt := 11) dX6_back_6 (by decide) (fun c3 => ?_) (fun c3 => ?_)
  · replace hf := (if_neg c3).symm.trans hf
    refine zv_aload_n dX6_back_11 rfl rfl ?_
    refine zv_get zf_X6_41 (wo_31 S) rfl dX6_back_12 ?_
    refine zv_iload_n dX6_back_15 rfl rfl ?_
    obtain ⟨hb4, hf⟩ := zifb hf
    refine zv_zald hb4 (wo_42 S) dX6_back_16 ?_
    refine zv_if_ne (tgt := 23) dX6_back_17 (by decide) (fun c5 => ?_) (fun c5 => ?_)
    · replace hf := (if_neg c5).symm.trans hf
      refine zv_iconst (v := 0) dX6_back_23 (by decide) ?_
      refine zv_istore_n dX6_back_24 rfl (by decide) ?_
      exact zV_sub ([(0, .ref 31), (1, .int a1), (2, .int (0 : Int32))]) ⟨rfl, rfl, rfl, trivial⟩ (v_X6_back_25 d (by omega) zN S a1 (0 : Int32) _ _ hf)
    · replace hf := (if_pos c5).symm.trans hf
      refine zv_bipush (v := -2) dX6_back_20 (by decide) ?_
      exact zv_iret (ty := .int) dX6_back_22 rfl rfl (zret2 wd hf)
  · replace hf := (if_pos c3).symm.trans hf
    refine zv_iconst (v := -1) dX6_back_9 (by decide) ?_
    exact zv_iret (ty := .int) dX6_back_10 rfl rfl (zret2 wd hf)
-- KingPricesModel.clear()I height 0 writes
def f_X6_clear (S : zS) : Option (Int32 × zS) :=
  some ((S.1 31 2), (zu S 31 2 (0 : Int32)))
set_option maxRecDepth 100000 in
set_option maxHeartbeats 4000000 in
theorem c_X6_clear  (d : Nat) (S : zS) (v : Int32) (S' : zS) (hf : f_X6_clear S = (some (v, S'))) : zC d yX6_clear cX6_clear 2 (some .int) [.ref 31] (wd S) (zq (some (.int v)) (wd S')) := by
  refine zC_intro (by decide) rfl (Nat.le_of_ble_eq_true rfl) ?_
  unfold f_X6_clear at hf
  refine zv_aload_n dX6_clear_0 rfl rfl ?_
  refine zv_get zf_X6_58 (wo_31 S) rfl dX6_clear_1 ?_
  refine zv_istore_n dX6_clear_4 rfl (by decide) ?_
  refine zv_aload_n dX6_clear_5 rfl rfl ?_
  refine zv_iconst (v := 0) dX6_clear_6 (by decide) ?_
  refine zv_put zp_X6_58 (wo_31 S) rfl (fun _ => ⟨rfl, rfl⟩) (Nat.le_of_ble_eq_true rfl) (wp_31_2 S (0 : Int32)) dX6_clear_7 ?_
  refine zv_iload_n dX6_clear_10 rfl rfl ?_
  exact zv_iret (ty := .int) dX6_clear_11 rfl rfl (zret2 wd hf)
-- KingPricesModel.count(I)I height 0 reads
def f_X6_count (S : zS) (a1 : Int32) : Option Int32 :=
  (if a1 = 0 then some ((S.1 33 0)) else (if a1 = 1 then some ((S.1 37 0)) else (if a1 = 2 then (if zin (a1 - (2 : Int32)) 6 then some ((S.1 40 ((a1 - (2 : Int32))).toNatClampNeg)) else none) else (if a1 = 3 then (if zin (a1 - (2 : Int32)) 6 then some ((S.1 40 ((a1 - (2 : Int32))).toNatClampNeg)) else none) else (if a1 = 4 then some ((S.1 41 28)) else (if a1 = 5 then some ((S.1 31 2)) else some ((-1 : Int32))))))))
set_option maxRecDepth 100000 in
set_option maxHeartbeats 4000000 in
theorem c_X6_count  (d : Nat) (S : zS) (a1 : Int32) (v : Int32) (hf : f_X6_count S a1 = (some v)) : zC d yX6_count cX6_count 2 (some .int) [.ref 31, .int a1] (wd S) (zq (some (.int v)) (wd S)) := by
  refine zC_intro (by decide) rfl (Nat.le_of_ble_eq_true rfl) ?_
  unfold f_X6_count at hf
  refine zv_iload_n dX6_count_0 rfl rfl ?_
  by_cases c1 : a1 = 0
  · replace hf := (if_pos c1).symm.trans hf
    refine zv_tableIn (v := 0) (off := 39) (tgt := 40) dX6_count_1 c1 (by decide) (by decide) (by decide) (by decide) ?_
    refine zv_aload_n dX6_count_40 rfl rfl ?_
    refine zv_get zf_X6_13 (wo_31 S) rfl dX6_count_41 ?_
    refine zv_iconst (v := 0) dX6_count_44 (by decide) ?_
    refine zv_ialdK (k := 0) (by decide) (by decide) (wo_33 S) dX6_count_45 ?_
    exact zv_iret (ty := .int) dX6_count_46 rfl rfl (zret1 hf)
  replace hf := (if_neg c1).symm.trans hf
  by_cases c2 : a1 = 1
  · replace hf := (if_pos c2).symm.trans hf
    refine zv_tableIn (v := 1) (off := 46) (tgt := 47) dX6_count_1 c2 (by decide) (by decide) (by decide) (by decide) ?_
    refine zv_aload_n dX6_count_47 rfl rfl ?_
    refine zv_get zf_X6_26 (wo_31 S) rfl dX6_count_48 ?_
    refine zv_iconst (v := 0) dX6_count_51 (by decide) ?_
    refine zv_ialdK (k := 0) (by decide) (by decide) (wo_37 S) dX6_count_52 ?_
    exact zv_iret (ty := .int) dX6_count_53 rfl rfl (zret1 hf)
  replace hf := (if_neg c2).symm.trans hf
  by_cases c3 : a1 = 2
  · replace hf := (if_pos c3).symm.trans hf
    refine zv_tableIn (v := 2) (off := 53) (tgt := 54) dX6_count_1 c3 (by decide) (by decide) (by decide) (by decide) ?_
    refine zv_aload_n dX6_count_54 rfl rfl ?_
    refine zv_get zf_X6_35 (wo_31 S) rfl dX6_count_55 ?_
    refine zv_iload_n dX6_count_58 rfl rfl ?_
    refine zv_iconst (v := 2) dX6_count_59 (by decide) ?_
    refine zv_isub dX6_count_60 ?_
    obtain ⟨hb4, hf⟩ := zifb hf
    refine zv_iald hb4 (wo_40 S) dX6_count_61 ?_
    exact zv_iret (ty := .int) dX6_count_62 rfl rfl (zret1 hf)
  replace hf := (if_neg c3).symm.trans hf
  by_cases c5 : a1 = 3
  · replace hf := (if_pos c5).symm.trans hf
    refine zv_tableIn (v := 3) (off := 53) (tgt := 54) dX6_count_1 c5 (by decide) (by decide) (by decide) (by decide) ?_
    refine zv_aload_n dX6_count_54 rfl rfl ?_
    refine zv_get zf_X6_35 (wo_31 S) rfl dX6_count_55 ?_
    refine zv_iload_n dX6_count_58 rfl rfl ?_
    refine zv_iconst (v := 2) dX6_count_59 (by decide) ?_
    refine zv_isub dX6_count_60 ?_
    obtain ⟨hb6, hf⟩ := zifb hf
    refine zv_iald hb6 (wo_40 S) dX6_count_61 ?_
    exact zv_iret (ty := .int) dX6_count_62 rfl rfl (zret1 hf)
  replace hf := (if_neg c5).symm.trans hf
  by_cases c7 : a1 = 4
  · replace hf := (if_pos c7).symm.trans hf
    refine zv_tableIn (v := 4) (off := 62) (tgt := 63) dX6_count_1 c7 (by decide) (by decide) (by decide) (by decide) ?_
    refine zv_aload_n dX6_count_63 rfl rfl ?_
    refine zv_get zf_X6_38 (wo_31 S) rfl dX6_count_64 ?_
    refine zv_bipush (v := 28) dX6_count_67 (by decide) ?_
    refine zv_ialdK (k := 28) (by decide) (by decide) (wo_41 S) dX6_count_69 ?_
    exact zv_iret (ty := .int) dX6_count_70 rfl rfl (zret1 hf)
  replace hf := (if_neg c7).symm.trans hf
  by_cases c8 : a1 = 5
  · replace hf := (if_pos c8).symm.trans hf
    refine zv_tableIn (v := 5) (off := 70) (tgt := 71) dX6_count_1 c8 (by decide) (by decide) (by decide) (by decide) ?_
    refine zv_aload_n dX6_count_71 rfl rfl ?_
    refine zv_get zf_X6_58 (wo_31 S) rfl dX6_count_72 ?_
    exact zv_iret (ty := .int) dX6_count_75 rfl rfl (zret1 hf)
  replace hf := (if_neg c8).symm.trans hf
  refine zv_tableOut (tgt := 76) dX6_count_1 (by have q0 := lv_neT (a := 0) c1 (by decide); have q1 := lv_neT (a := 1) c2 (by decide); have q2 := lv_neT (a := 2) c3 (by decide); have q3 := lv_neT (a := 3) c5 (by decide); have q4 := lv_neT (a := 4) c7 (by decide); have q5 := lv_neT (a := 5) c8 (by decide); omega) (by decide) ?_
  refine zv_iconst (v := -1) dX6_count_76 (by decide) ?_
  exact zv_iret (ty := .int) dX6_count_77 rfl rfl (zret1 hf)
-- KingPricesModel.isVillage(I)Z height 1 reads
def f_X6_isVillage (S : zS) (a1 : Int32) : Option Int32 :=
  ((f_X6_in a1 (0 : Int32) ((S.1 33 0) - (1 : Int32))).bind (fun x2 => (if zbl x2 then some x2 else none)))
set_option maxRecDepth 100000 in
set_option maxHeartbeats 4000000 in
theorem c_X6_isVillage  (d : Nat) (hd : 1 ≤ d) (S : zS) (a1 : Int32) (v : Int32) (hf : f_X6_isVillage S a1 = (some v)) : zC d yX6_isVillage cX6_isVillage 2 (some .boolean) [.ref 31, .int a1] (wd S) (zq (some (.int v)) (wd S)) := by
  obtain ⟨d, rfl⟩ : ∃ e, d = e + 1 := ⟨d - 1, by omega⟩
  refine zC_intro (by decide) rfl (Nat.le_of_ble_eq_true rfl) ?_
  unfold f_X6_isVillage at hf
  refine zv_iload_n dX6_isVillage_0 rfl rfl ?_
  refine zv_iconst (v := 0) dX6_isVillage_1 (by decide) ?_
  refine zv_aload_n dX6_isVillage_2 rfl rfl ?_
  refine zv_get zf_X6_13 (wo_31 S) rfl dX6_isVillage_3 ?_
  refine zv_iconst (v := 0) dX6_isVillage_6 (by decide) ?_
  refine zv_ialdK (k := 0) (by decide) (by decide) (wo_33 S) dX6_isVillage_7 ?_
  refine zv_iconst (v := 1) dX6_isVillage_8 (by decide) ?_
  refine zv_isub dX6_isVillage_9 ?_
  obtain ⟨x2, hc1, hf⟩ := zbind hf
  refine zv_callS dX6_isVillage_10 zk_X6_54 zm_X6_in (c_X6_in  d a1 (0 : Int32) ((S.1 33 0) - (1 : Int32)) x2 hc1) rfl rfl (Nat.le_of_ble_eq_true rfl) ?_
  obtain ⟨hb3, hf⟩ := zifb hf
  exact zv_iret (ty := .boolean) dX6_isVillage_13 rfl (zbl_n hb3) (zret1 hf)
-- KingPricesModel.far(II)I height 2 reads
def f_X6_far (S : zS) (a1 : Int32) (a2 : Int32) : Option Int32 :=
  ((f_X6_isVillage S a1).bind (fun x2 => (if x2 = 0 then some ((-1 : Int32)) else ((f_X6_isVillage S a2).bind (fun x5 => (if x5 = 0 then some ((-1 : Int32)) else (if zin (((6 : Int32) * a1) + a2) 72 then (if (S.1 38 ((((6 : Int32) * a1) + a2)).toNatClampNeg) < (1000 : Int32) then (if zin (((6 : Int32) * a1) + a2) 72 then some ((S.1 38 ((((6 : Int32) * a1) + a2)).toNatClampNeg)) else none) else some ((-9 : Int32))) else none)))))))
set_option maxRecDepth 100000 in
set_option maxHeartbeats 4000000 in
theorem c_X6_far  (d : Nat) (hd : 2 ≤ d) (S : zS) (a1 : Int32) (a2 : Int32) (v : Int32) (hf : f_X6_far S a1 a2 = (some v)) : zC d yX6_far cX6_far 3 (some .int) [.ref 31, .int a1, .int a2] (wd S) (zq (some (.int v)) (wd S)) := by
  obtain ⟨d, rfl⟩ : ∃ e, d = e + 1 := ⟨d - 1, by omega⟩
  refine zC_intro (by decide) rfl (Nat.le_of_ble_eq_true rfl) ?_
  unfold f_X6_far at hf
  refine zv_aload_n dX6_far_0 rfl rfl ?_
  refine zv_iload_n dX6_far_1 rfl rfl ?_
  obtain ⟨x2, hc1, hf⟩ := zbind hf
  refine zv_callV dX6_far_2 zk_X6_107 zm_X6_isVillage (c_X6_isVillage  d (by omega) S a1 x2 hc1) (wo_31 S) rfl rfl rfl (Nat.le_of_ble_eq_true rfl) ?_
  refine zv_if_eq (tgt := 16) dX6_far_5 (by decide) (fun c3 => ?_) (fun c3 => ?_)
  · replace hf := (if_pos c3).symm.trans hf
    refine zv_iconst (v := -1) dX6_far_16 (by decide) ?_
    exact zv_iret (ty := .int) dX6_far_17 rfl rfl (zret1 hf)
  · replace hf := (if_neg c3).symm.trans hf
    refine zv_aload_n dX6_far_8 rfl rfl ?_
    refine zv_iload_n dX6_far_9 rfl rfl ?_
    obtain ⟨x5, hc4, hf⟩ := zbind hf
    refine zv_callV dX6_far_10 zk_X6_107 zm_X6_isVillage (c_X6_isVillage  d (by omega) S a2 x5 hc4) (wo_31 S) rfl rfl rfl (Nat.le_of_ble_eq_true rfl) ?_
    refine zv_if_ne (tgt := 18) dX6_far_13 (by decide) (fun c6 => ?_) (fun c6 => ?_)
    · replace hf := (if_neg c6).symm.trans hf
      refine zv_aload_n dX6_far_18 rfl rfl ?_
      refine zv_get zf_X6_29 (wo_31 S) rfl dX6_far_19 ?_
      refine zv_bipush (v := 6) dX6_far_22 (by decide) ?_
      refine zv_iload_n dX6_far_24 rfl rfl ?_
      refine zv_imul dX6_far_25 ?_
      refine zv_iload_n dX6_far_26 rfl rfl ?_
      refine zv_iadd dX6_far_27 ?_
      obtain ⟨hb7, hf⟩ := zifb hf
      refine zv_iald hb7 (wo_38 S) dX6_far_28 ?_
      refine zv_sipush (v := 1000) dX6_far_29 (by decide) ?_
      refine zv_icmp_lt (tgt := 40) dX6_far_32 (by decide) (fun c8 => ?_) (fun c8 => ?_)
      · replace hf := (if_pos c8).symm.trans hf
        refine zv_aload_n dX6_far_40 rfl rfl ?_
        refine zv_get zf_X6_29 (wo_31 S) rfl dX6_far_41 ?_
        refine zv_bipush (v := 6) dX6_far_44 (by decide) ?_
        refine zv_iload_n dX6_far_46 rfl rfl ?_
        refine zv_imul dX6_far_47 ?_
        refine zv_iload_n dX6_far_48 rfl rfl ?_
        refine zv_iadd dX6_far_49 ?_
        obtain ⟨hb9, hf⟩ := zifb hf
        refine zv_iald hb9 (wo_38 S) dX6_far_50 ?_
        exact zv_iret (ty := .int) dX6_far_51 rfl rfl (zret1 hf)
      · replace hf := (if_neg c8).symm.trans hf
        refine zv_bipush (v := -9) dX6_far_35 (by decide) ?_
        refine zv_goto (tgt := 51) dX6_far_37 (by decide) ?_
        exact zv_iret (ty := .int) dX6_far_51 rfl rfl (zret1 hf)
    · replace hf := (if_pos c6).symm.trans hf
      refine zv_iconst (v := -1) dX6_far_16 (by decide) ?_
      exact zv_iret (ty := .int) dX6_far_17 rfl rfl (zret1 hf)
-- KingPricesModel.manyOf(I)I height 0 reads
def f_X6_manyOf_4  : Nat → Int32 → Int32 → Int32 → Option Int32
  | 0, _, _, _ => none
  | n + 1, a0, a1, a2 => (if (6 : Int32) ≤ a2 then some a1 else f_X6_manyOf_4  n a0 (a1 + ((a0 >>> (a2 &&& 31)) &&& (1 : Int32))) (a2 + (1 : Int32)))
set_option maxRecDepth 100000 in
set_option maxHeartbeats 4000000 in
theorem v_X6_manyOf_4 {h : List va_E} (d : Nat) : ∀ (n : Nat) (a0 : Int32) (a1 : Int32) (a2 : Int32) (v : Int32), f_X6_manyOf_4  n a0 a1 a2 = (some v) → zV none d yX6_manyOf cX6_manyOf 3 (some .int) 4 [(0, .int a0), (1, .int a1), (2, .int a2)] [] h (zq (some (.int v)) h) := by
  intro n
  induction n with
  | zero =>
    intro a0 a1 a2 v hf
    cases hf
  | succ n ih =>
    intro a0 a1 a2 v hf
    rw [f_X6_manyOf_4] at hf
    refine zv_iload_n dX6_manyOf_4 rfl rfl ?_
    refine zv_bipush (v := 6) dX6_manyOf_5 (by decide) ?_
    refine zv_icmp_ge (tgt := 24) dX6_manyOf_7 (by decide) (fun c1 => ?_) (fun c1 => ?_)
    · replace hf := (if_pos c1).symm.trans hf
      refine zv_iload_n dX6_manyOf_24 rfl rfl ?_
      exact zv_iret (ty := .int) dX6_manyOf_25 rfl rfl (zret1 hf)
    · replace hf := (if_neg c1).symm.trans hf
      refine zv_iload_n dX6_manyOf_10 rfl rfl ?_
      refine zv_iload_n dX6_manyOf_11 rfl rfl ?_
      refine zv_iload_n dX6_manyOf_12 rfl rfl ?_
      refine zv_ishr dX6_manyOf_13 ?_
      refine zv_iconst (v := 1) dX6_manyOf_14 (by decide) ?_
      refine zv_iand dX6_manyOf_15 ?_
      refine zv_iadd dX6_manyOf_16 ?_
      refine zv_istore_n dX6_manyOf_17 rfl (by decide) ?_
      refine zv_iinc (v := 1) dX6_manyOf_18 rfl (by decide) (by decide) ?_
      refine zv_goto (tgt := 4) dX6_manyOf_21 (by decide) ?_
      exact zV_sub ([(0, .int a0), (1, .int (a1 + ((a0 >>> (a2 &&& 31)) &&& (1 : Int32)))), (2, .int (a2 + (1 : Int32)))]) ⟨rfl, rfl, rfl, trivial⟩ (ih a0 (a1 + ((a0 >>> (a2 &&& 31)) &&& (1 : Int32))) (a2 + (1 : Int32)) _ hf)
def f_X6_manyOf (a0 : Int32) : Option Int32 :=
  f_X6_manyOf_4 zN a0 (0 : Int32) (0 : Int32)
set_option maxRecDepth 100000 in
set_option maxHeartbeats 4000000 in
theorem c_X6_manyOf {h : List va_E} (d : Nat) (a0 : Int32) (v : Int32) (hf : f_X6_manyOf a0 = (some v)) : zC d yX6_manyOf cX6_manyOf 3 (some .int) [.int a0] h (zq (some (.int v)) h) := by
  refine zC_intro (by decide) rfl (Nat.le_of_ble_eq_true rfl) ?_
  unfold f_X6_manyOf at hf
  refine zv_iconst (v := 0) dX6_manyOf_0 (by decide) ?_
  refine zv_istore_n dX6_manyOf_1 rfl (by decide) ?_
  refine zv_iconst (v := 0) dX6_manyOf_2 (by decide) ?_
  refine zv_istore_n dX6_manyOf_3 rfl (by decide) ?_
  exact zV_sub ([(0, .int a0), (1, .int (0 : Int32)), (2, .int (0 : Int32))]) ⟨rfl, rfl, rfl, trivial⟩ (v_X6_manyOf_4 d zN a0 (0 : Int32) (0 : Int32) _ hf)
-- KingPricesModel.spare(I)I height 0 reads
def f_X6_spare_51 (S : zS) (a1 : Int32) (a3 : Int32) : Option Int32 :=
  (if zin a1 12 then (if (S.1 36 (a1).toNatClampNeg) = (1 : Int32) then some ((0 : Int32)) else (if 0 ≤ a3 then some a3 else some ((0 : Int32)))) else none)
set_option maxRecDepth 100000 in
set_option maxHeartbeats 4000000 in
theorem v_X6_spare_51 (d : Nat) (S : zS) (a1 : Int32) (a3 : Int32) (v : Int32) (hf : f_X6_spare_51 S a1 a3 = (some v)) : zV none d yX6_spare cX6_spare 4 (some .int) 51 [(0, .ref 31), (1, .int a1), (3, .int a3)] [] (wd S) (zq (some (.int v)) (wd S)) := by
  unfold f_X6_spare_51 at hf
  refine zv_aload_n dX6_spare_51 rfl rfl ?_
  refine zv_get zf_X6_23 (wo_31 S) rfl dX6_spare_52 ?_
  refine zv_iload_n dX6_spare_55 rfl rfl ?_
  obtain ⟨hb1, hf⟩ := zifb hf
  refine zv_iald hb1 (wo_36 S) dX6_spare_56 ?_
  refine zv_iconst (v := 1) dX6_spare_57 (by decide) ?_
  refine zv_icmp_eq (tgt := 65) dX6_spare_58 (by decide) (fun c2 => ?_) (fun c2 => ?_)
  · replace hf := (if_pos c2).symm.trans hf
    refine zv_iconst (v := 0) dX6_spare_65 (by decide) ?_
    refine zv_goto (tgt := 70) dX6_spare_66 (by decide) ?_
    exact zv_iret (ty := .int) dX6_spare_70 rfl rfl (zret1 hf)
  · replace hf := (if_neg c2).symm.trans hf
    refine zv_iload_n dX6_spare_61 rfl rfl ?_
    refine zv_if_ge (tgt := 69) dX6_spare_62 (by decide) (fun c3 => ?_) (fun c3 => ?_)
    · replace hf := (if_pos c3).symm.trans hf
      refine zv_iload_n dX6_spare_69 rfl rfl ?_
      exact zv_iret (ty := .int) dX6_spare_70 rfl rfl (zret1 hf)
    · replace hf := (if_neg c3).symm.trans hf
      refine zv_iconst (v := 0) dX6_spare_65 (by decide) ?_
      refine zv_goto (tgt := 70) dX6_spare_66 (by decide) ?_
      exact zv_iret (ty := .int) dX6_spare_70 rfl rfl (zret1 hf)
def f_X6_spare (S : zS) (a1 : Int32) : Option Int32 :=
  (if zin ((4 : Int32) + a1) 927 then (if zin ((10 : Int32) + a1) 927 then (if zin a1 12 then (if zin ((4 : Int32) + a1) 927 then (if (S.1 41 (((4 : Int32) + a1)).toNatClampNeg) ≤ (((S.1 41 (((4 : Int32) + a1)).toNatClampNeg) + (S.1 41 (((10 : Int32) + a1)).toNatClampNeg)) - (S.1 35 (a1).toNatClampNeg)) then (if zin ((4 : Int32) + a1) 927 then f_X6_spare_51 S a1 (S.1 41 (((4 : Int32) + a1)).toNatClampNeg) else none) else f_X6_spare_51 S a1 (((S.1 41 (((4 : Int32) + a1)).toNatClampNeg) + (S.1 41 (((10 : Int32) + a1)).toNatClampNeg)) - (S.1 35 (a1).toNatClampNeg))) else none) else none) else none) else none)
set_option maxRecDepth 100000 in
set_option maxHeartbeats 4000000 in
theorem c_X6_spare  (d : Nat) (S : zS) (a1 : Int32) (v : Int32) (hf : f_X6_spare S a1 = (some v)) : zC d yX6_spare cX6_spare 4 (some .int) [.ref 31, .int a1] (wd S) (zq (some (.int v)) (wd S)) := by
  refine zC_intro (by decide) rfl (Nat.le_of_ble_eq_true rfl) ?_
  unfold f_X6_spare at hf
  refine zv_aload_n dX6_spare_0 rfl rfl ?_
  refine zv_get zf_X6_38 (wo_31 S) rfl dX6_spare_1 ?_
  refine zv_iconst (v := 4) dX6_spare_4 (by decide) ?_
  refine zv_iload_n dX6_spare_5 rfl rfl ?_
  refine zv_iadd dX6_spare_6 ?_
  obtain ⟨hb1, hf⟩ := zifb hf
  refine zv_iald hb1 (wo_41 S) dX6_spare_7 ?_
  refine zv_aload_n dX6_spare_8 rfl rfl ?_
  refine zv_get zf_X6_38 (wo_31 S) rfl dX6_spare_9 ?_
  refine zv_bipush (v := 10) dX6_spare_12 (by decide) ?_
  refine zv_iload_n dX6_spare_14 rfl rfl ?_
  refine zv_iadd dX6_spare_15 ?_
  obtain ⟨hb2, hf⟩ := zifb hf
  refine zv_iald hb2 (wo_41 S) dX6_spare_16 ?_
  refine zv_iadd dX6_spare_17 ?_
  refine zv_aload_n dX6_spare_18 rfl rfl ?_
  refine zv_get zf_X6_20 (wo_31 S) rfl dX6_spare_19 ?_
  refine zv_iload_n dX6_spare_22 rfl rfl ?_
  obtain ⟨hb3, hf⟩ := zifb hf
  refine zv_iald hb3 (wo_35 S) dX6_spare_23 ?_
  refine zv_isub dX6_spare_24 ?_
  refine zv_istore_n dX6_spare_25 rfl (by decide) ?_
  refine zv_iload_n dX6_spare_26 rfl rfl ?_
  refine zv_aload_n dX6_spare_27 rfl rfl ?_
  refine zv_get zf_X6_38 (wo_31 S) rfl dX6_spare_28 ?_
  refine zv_iconst (v := 4) dX6_spare_31 (by decide) ?_
  refine zv_iload_n dX6_spare_32 rfl rfl ?_
  refine zv_iadd dX6_spare_33 ?_
  obtain ⟨hb4, hf⟩ := zifb hf
  refine zv_iald hb4 (wo_41 S) dX6_spare_34 ?_
  refine zv_icmp_ge (tgt := 42) dX6_spare_35 (by decide) (fun c5 => ?_) (fun c5 => ?_)
  · replace hf := (if_pos c5).symm.trans hf
    refine zv_aload_n dX6_spare_42 rfl rfl ?_
    refine zv_get zf_X6_38 (wo_31 S) rfl dX6_spare_43 ?_
    refine zv_iconst (v := 4) dX6_spare_46 (by decide) ?_
    refine zv_iload_n dX6_spare_47 rfl rfl ?_
    refine zv_iadd dX6_spare_48 ?_
    obtain ⟨hb6, hf⟩ := zifb hf
    refine zv_iald hb6 (wo_41 S) dX6_spare_49 ?_
    refine zv_istore_n dX6_spare_50 rfl (by decide) ?_
    exact zV_sub ([(0, .ref 31), (1, .int a1), (3, .int (S.1 41 (((4 : Int32) + a1)).toNatClampNeg))]) ⟨rfl, rfl, rfl, trivial⟩ (v_X6_spare_51 d S a1 (S.1 41 (((4 : Int32) + a1)).toNatClampNeg) _ hf)
  · replace hf := (if_neg c5).symm.trans hf
    refine zv_iload_n dX6_spare_38 rfl rfl ?_
    refine zv_goto (tgt := 50) dX6_spare_39 (by decide) ?_
    refine zv_istore_n dX6_spare_50 rfl (by decide) ?_
    exact zV_sub ([(0, .ref 31), (1, .int a1), (3, .int (((S.1 41 (((4 : Int32) + a1)).toNatClampNeg) + (S.1 41 (((10 : Int32) + a1)).toNatClampNeg)) - (S.1 35 (a1).toNatClampNeg)))]) ⟨rfl, rfl, rfl, trivial⟩ (v_X6_spare_51 d S a1 (((S.1 41 (((4 : Int32) + a1)).toNatClampNeg) + (S.1 41 (((10 : Int32) + a1)).toNatClampNeg)) - (S.1 35 (a1).toNatClampNeg)) _ hf)
-- KingPricesModel.spareOf(I)I height 1 reads
def f_X6_spareOf_35 (k4 : zS → Int32 → Int32 → Int32 → Option Int32) (S : zS) (a1 : Int32) (a2 : Int32) (a3 : Int32) : Option Int32 :=
  k4 S a1 a2 (a3 + (1 : Int32))
set_option maxRecDepth 100000 in
set_option maxHeartbeats 4000000 in
theorem v_X6_spareOf_35 (d : Nat) (hd : 0 ≤ d) (k4 : zS → Int32 → Int32 → Int32 → Option Int32) (hk4 : ∀ (S : zS) (a1 a2 a3 : Int32) v, k4 S a1 a2 a3 = (some v) → zV none (d + 1) yX6_spareOf cX6_spareOf 4 (some .int) 4 [(0, .ref 31), (1, .int a1), (2, .int a2), (3, .int a3)] [] (wd S) (zq (some (.int v)) (wd S))) (S : zS) (a1 : Int32) (a2 : Int32) (a3 : Int32) (v : Int32) (hf : f_X6_spareOf_35 k4 S a1 a2 a3 = (some v)) : zV none (d + 1) yX6_spareOf cX6_spareOf 4 (some .int) 35 [(0, .ref 31), (1, .int a1), (2, .int a2), (3, .int a3)] [] (wd S) (zq (some (.int v)) (wd S)) := by
  unfold f_X6_spareOf_35 at hf
  refine zv_iinc (v := 1) dX6_spareOf_35 rfl (by decide) (by decide) ?_
  refine zv_goto (tgt := 4) dX6_spareOf_38 (by decide) ?_
  exact zV_sub ([(0, .ref 31), (1, .int a1), (2, .int a2), (3, .int (a3 + (1 : Int32)))]) ⟨rfl, rfl, rfl, rfl, trivial⟩ (hk4 S a1 a2 (a3 + (1 : Int32)) _ hf)
def f_X6_spareOf_4  : Nat → zS → Int32 → Int32 → Int32 → Option Int32
  | 0, _, _, _, _ => none
  | n + 1, S, a1, a2, a3 => (if (S.1 33 0) ≤ a3 then some a2 else (if ((a1 >>> (a3 &&& 31)) &&& (1 : Int32)) = (1 : Int32) then ((f_X6_spare S a3).bind (fun x4 => f_X6_spareOf_35 (f_X6_spareOf_4  n) S a1 (a2 + x4) a3)) else f_X6_spareOf_35 (f_X6_spareOf_4  n) S a1 (a2 + (0 : Int32)) a3))
set_option maxRecDepth 100000 in
set_option maxHeartbeats 4000000 in
theorem v_X6_spareOf_4 (d : Nat) (hd : 0 ≤ d) : ∀ (n : Nat) (S : zS) (a1 : Int32) (a2 : Int32) (a3 : Int32) (v : Int32), f_X6_spareOf_4  n S a1 a2 a3 = (some v) → zV none (d + 1) yX6_spareOf cX6_spareOf 4 (some .int) 4 [(0, .ref 31), (1, .int a1), (2, .int a2), (3, .int a3)] [] (wd S) (zq (some (.int v)) (wd S)) := by
  intro n
  induction n with
  | zero =>
    intro S a1 a2 a3 v hf
    cases hf
  | succ n ih =>
    intro S a1 a2 a3 v hf
    rw [f_X6_spareOf_4] at hf
    refine zv_iload_n dX6_spareOf_4 rfl rfl ?_
    refine zv_aload_n dX6_spareOf_5 rfl rfl ?_
    refine zv_get zf_X6_13 (wo_31 S) rfl dX6_spareOf_6 ?_
    refine zv_iconst (v := 0) dX6_spareOf_9 (by decide) ?_
    refine zv_ialdK (k := 0) (by decide) (by decide) (wo_33 S) dX6_spareOf_10 ?_
    refine zv_icmp_ge (tgt := 41) dX6_spareOf_11 (by decide) (fun c1 => ?_) (fun c1 => ?_)
    · replace hf := (if_pos c1).symm.trans hf
      refine zv_iload_n dX6_spareOf_41 rfl rfl ?_
      exact zv_iret (ty := .int) dX6_spareOf_42 rfl rfl (zret1 hf)
    · replace hf := (if_neg c1).symm.trans hf
      refine zv_iload_n dX6_spareOf_14 rfl rfl ?_
      refine zv_iload_n dX6_spareOf_15 rfl rfl ?_
      refine zv_iload_n dX6_spareOf_16 rfl rfl ?_
      refine zv_ishr dX6_spareOf_17 ?_
      refine zv_iconst (v := 1) dX6_spareOf_18 (by decide) ?_
      refine zv_iand dX6_spareOf_19 ?_
      refine zv_iconst (v := 1) dX6_spareOf_20 (by decide) ?_
      refine zv_icmp_ne (tgt := 32) dX6_spareOf_21 (by decide) (fun c2 => ?_) (fun c2 => ?_)
      · replace hf := (if_neg c2).symm.trans hf
        refine zv_iconst (v := 0) dX6_spareOf_32 (by decide) ?_
        refine zv_iadd dX6_spareOf_33 ?_
        refine zv_istore_n dX6_spareOf_34 rfl (by decide) ?_
        exact zV_sub ([(0, .ref 31), (1, .int a1), (2, .int (a2 + (0 : Int32))), (3, .int a3)]) ⟨rfl, rfl, rfl, rfl, trivial⟩ (v_X6_spareOf_35 d (by omega) (f_X6_spareOf_4  n) ih S a1 (a2 + (0 : Int32)) a3 _ hf)
      · replace hf := (if_pos c2).symm.trans hf
        refine zv_aload_n dX6_spareOf_24 rfl rfl ?_
        refine zv_iload_n dX6_spareOf_25 rfl rfl ?_
        obtain ⟨x4, hc3, hf⟩ := zbind hf
        refine zv_callV dX6_spareOf_26 zk_X6_110 zm_X6_spare (c_X6_spare  d S a3 x4 hc3) (wo_31 S) rfl rfl rfl (Nat.le_of_ble_eq_true rfl) ?_
        refine zv_goto (tgt := 33) dX6_spareOf_29 (by decide) ?_
        refine zv_iadd dX6_spareOf_33 ?_
        refine zv_istore_n dX6_spareOf_34 rfl (by decide) ?_
        exact zV_sub ([(0, .ref 31), (1, .int a1), (2, .int (a2 + x4)), (3, .int a3)]) ⟨rfl, rfl, rfl, rfl, trivial⟩ (v_X6_spareOf_35 d (by omega) (f_X6_spareOf_4  n) ih S a1 (a2 + x4) a3 _ hf)
def f_X6_spareOf (S : zS) (a1 : Int32) : Option Int32 :=
  f_X6_spareOf_4 zN S a1 (0 : Int32) (0 : Int32)
set_option maxRecDepth 100000 in
set_option maxHeartbeats 4000000 in
theorem c_X6_spareOf  (d : Nat) (hd : 1 ≤ d) (S : zS) (a1 : Int32) (v : Int32) (hf : f_X6_spareOf S a1 = (some v)) : zC d yX6_spareOf cX6_spareOf 4 (some .int) [.ref 31, .int a1] (wd S) (zq (some (.int v)) (wd S)) := by
  obtain ⟨d, rfl⟩ : ∃ e, d = e + 1 := ⟨d - 1, by omega⟩
  refine zC_intro (by decide) rfl (Nat.le_of_ble_eq_true rfl) ?_
  unfold f_X6_spareOf at hf
  refine zv_iconst (v := 0) dX6_spareOf_0 (by decide) ?_
  refine zv_istore_n dX6_spareOf_1 rfl (by decide) ?_
  refine zv_iconst (v := 0) dX6_spareOf_2 (by decide) ?_
  refine zv_istore_n dX6_spareOf_3 rfl (by decide) ?_
  exact zV_sub ([(0, .ref 31), (1, .int a1), (2, .int (0 : Int32)), (3, .int (0 : Int32))]) ⟨rfl, rfl, rfl, rfl, trivial⟩ (v_X6_spareOf_4 d (by omega) zN S a1 (0 : Int32) (0 : Int32) _ hf)
-- KingPricesModel.from(I)I height 2 reads
def f_X6_from_74 (k18 : zS → Int32 → Int32 → Int32 → Option Int32) (S : zS) (a1 : Int32) (a2 : Int32) (a3 : Int32) : Option Int32 :=
  k18 S a1 a2 (a3 + (1 : Int32))
set_option maxRecDepth 100000 in
set_option maxHeartbeats 4000000 in
theorem v_X6_from_74 (d : Nat) (hd : 1 ≤ d) (k18 : zS → Int32 → Int32 → Int32 → Option Int32) (hk18 : ∀ (S : zS) (a1 a2 a3 : Int32) v, k18 S a1 a2 a3 = (some v) → zV none (d + 1) yX6_from cX6_from 5 (some .int) 18 [(0, .ref 31), (1, .int a1), (2, .int a2), (3, .int a3)] [] (wd S) (zq (some (.int v)) (wd S))) (S : zS) (a1 : Int32) (a2 : Int32) (a3 : Int32) (v : Int32) (hf : f_X6_from_74 k18 S a1 a2 a3 = (some v)) : zV none (d + 1) yX6_from cX6_from 5 (some .int) 74 [(0, .ref 31), (1, .int a1), (2, .int a2), (3, .int a3)] [] (wd S) (zq (some (.int v)) (wd S)) := by
  unfold f_X6_from_74 at hf
  refine zv_iinc (v := 1) dX6_from_74 rfl (by decide) (by decide) ?_
  refine zv_goto (tgt := 18) dX6_from_77 (by decide) ?_
  exact zV_sub ([(0, .ref 31), (1, .int a1), (2, .int a2), (3, .int (a3 + (1 : Int32)))]) ⟨rfl, rfl, rfl, rfl, trivial⟩ (hk18 S a1 a2 (a3 + (1 : Int32)) _ hf)
def f_X6_from_72 (k18 : zS → Int32 → Int32 → Int32 → Option Int32) (S : zS) (a1 : Int32) (a2 : Int32) (a3 : Int32) : Option Int32 :=
  f_X6_from_74 k18 S a1 a2 a3
set_option maxRecDepth 100000 in
set_option maxHeartbeats 4000000 in
theorem v_X6_from_72 (d : Nat) (hd : 1 ≤ d) (k18 : zS → Int32 → Int32 → Int32 → Option Int32) (hk18 : ∀ (S : zS) (a1 a2 a3 : Int32) v, k18 S a1 a2 a3 = (some v) → zV none (d + 1) yX6_from cX6_from 5 (some .int) 18 [(0, .ref 31), (1, .int a1), (2, .int a2), (3, .int a3)] [] (wd S) (zq (some (.int v)) (wd S))) (S : zS) (a1 : Int32) (a2 : Int32) (a3 : Int32) (v : Int32) (hf : f_X6_from_72 k18 S a1 a2 a3 = (some v)) : zV none (d + 1) yX6_from cX6_from 5 (some .int) 72 [(0, .ref 31), (1, .int a1), (2, .int a2), (3, .int a3)] [] (wd S) (zq (some (.int v)) (wd S)) := by
  unfold f_X6_from_72 at hf
  refine zv_iload_n dX6_from_72 rfl rfl ?_
  refine zv_istore_n dX6_from_73 rfl (by decide) ?_
  exact zV_sub ([(0, .ref 31), (1, .int a1), (2, .int a2), (3, .int a3)]) ⟨rfl, rfl, rfl, rfl, trivial⟩ (v_X6_from_74 d (by omega) k18 hk18 S a1 a2 a3 _ hf)
def f_X6_from_54 (k18 : zS → Int32 → Int32 → Int32 → Option Int32) (S : zS) (a1 : Int32) (a2 : Int32) (a3 : Int32) (a4 : Int32) : Option Int32 :=
  (if a4 = 0 then f_X6_from_72 k18 S a1 a2 a3 else ((f_X6_spareOf S a3).bind (fun x3 => (if x3 < a1 then f_X6_from_72 k18 S a1 a2 a3 else f_X6_from_74 k18 S a1 a3 a3))))
set_option maxRecDepth 100000 in
set_option maxHeartbeats 4000000 in
theorem v_X6_from_54 (d : Nat) (hd : 1 ≤ d) (k18 : zS → Int32 → Int32 → Int32 → Option Int32) (hk18 : ∀ (S : zS) (a1 a2 a3 : Int32) v, k18 S a1 a2 a3 = (some v) → zV none (d + 1) yX6_from cX6_from 5 (some .int) 18 [(0, .ref 31), (1, .int a1), (2, .int a2), (3, .int a3)] [] (wd S) (zq (some (.int v)) (wd S))) (S : zS) (a1 : Int32) (a2 : Int32) (a3 : Int32) (a4 : Int32) (v : Int32) (hf : f_X6_from_54 k18 S a1 a2 a3 a4 = (some v)) : zV none (d + 1) yX6_from cX6_from 5 (some .int) 54 [(0, .ref 31), (1, .int a1), (2, .int a2), (3, .int a3), (4, .int a4)] [] (wd S) (zq (some (.int v)) (wd S)) := by
  unfold f_X6_from_54 at hf
  refine zv_iload dX6_from_54 rfl ?_
  refine zv_if_eq (tgt := 72) dX6_from_56 (by decide) (fun c1 => ?_) (fun c1 => ?_)
  · replace hf := (if_pos c1).symm.trans hf
    exact zV_sub ([(0, .ref 31), (1, .int a1), (2, .int a2), (3, .int a3)]) ⟨rfl, rfl, rfl, rfl, trivial⟩ (v_X6_from_72 d (by omega) k18 hk18 S a1 a2 a3 _ hf)
  · replace hf := (if_neg c1).symm.trans hf
    refine zv_aload_n dX6_from_59 rfl rfl ?_
    refine zv_iload_n dX6_from_60 rfl rfl ?_
    obtain ⟨x3, hc2, hf⟩ := zbind hf
    refine zv_callV dX6_from_61 zk_X6_145 zm_X6_spareOf (c_X6_spareOf  d (by omega) S a3 x3 hc2) (wo_31 S) rfl rfl rfl (Nat.le_of_ble_eq_true rfl) ?_
    refine zv_iload_n dX6_from_64 rfl rfl ?_
    refine zv_icmp_lt (tgt := 72) dX6_from_65 (by decide) (fun c4 => ?_) (fun c4 => ?_)
    · replace hf := (if_pos c4).symm.trans hf
      exact zV_sub ([(0, .ref 31), (1, .int a1), (2, .int a2), (3, .int a3)]) ⟨rfl, rfl, rfl, rfl, trivial⟩ (v_X6_from_72 d (by omega) k18 hk18 S a1 a2 a3 _ hf)
    · replace hf := (if_neg c4).symm.trans hf
      refine zv_iload_n dX6_from_68 rfl rfl ?_
      refine zv_goto (tgt := 73) dX6_from_69 (by decide) ?_
      refine zv_istore_n dX6_from_73 rfl (by decide) ?_
      exact zV_sub ([(0, .ref 31), (1, .int a1), (2, .int a3), (3, .int a3)]) ⟨rfl, rfl, rfl, rfl, trivial⟩ (v_X6_from_74 d (by omega) k18 hk18 S a1 a3 a3 _ hf)
def f_X6_from_47 (k18 : zS → Int32 → Int32 → Int32 → Option Int32) (S : zS) (a1 : Int32) (a2 : Int32) (a3 : Int32) : Option Int32 :=
  f_X6_from_54 k18 S a1 a2 a3 (1 : Int32)
set_option maxRecDepth 100000 in
set_option maxHeartbeats 4000000 in
theorem v_X6_from_47 (d : Nat) (hd : 1 ≤ d) (k18 : zS → Int32 → Int32 → Int32 → Option Int32) (hk18 : ∀ (S : zS) (a1 a2 a3 : Int32) v, k18 S a1 a2 a3 = (some v) → zV none (d + 1) yX6_from cX6_from 5 (some .int) 18 [(0, .ref 31), (1, .int a1), (2, .int a2), (3, .int a3)] [] (wd S) (zq (some (.int v)) (wd S))) (S : zS) (a1 : Int32) (a2 : Int32) (a3 : Int32) (v : Int32) (hf : f_X6_from_47 k18 S a1 a2 a3 = (some v)) : zV none (d + 1) yX6_from cX6_from 5 (some .int) 47 [(0, .ref 31), (1, .int a1), (2, .int a2), (3, .int a3)] [] (wd S) (zq (some (.int v)) (wd S)) := by
  unfold f_X6_from_47 at hf
  refine zv_iconst (v := 1) dX6_from_47 (by decide) ?_
  refine zv_goto (tgt := 52) dX6_from_48 (by decide) ?_
  refine zv_istore dX6_from_52 (by decide) ?_
  exact zV_sub ([(0, .ref 31), (1, .int a1), (2, .int a2), (3, .int a3), (4, .int (1 : Int32))]) ⟨rfl, rfl, rfl, rfl, rfl, trivial⟩ (v_X6_from_54 d (by omega) k18 hk18 S a1 a2 a3 (1 : Int32) _ hf)
def f_X6_from_18  : Nat → zS → Int32 → Int32 → Int32 → Option Int32
  | 0, _, _, _, _ => none
  | n + 1, S, a1, a2, a3 => (if ((1 : Int32) <<< ((S.1 33 0) &&& 31)) ≤ a3 then some a2 else (if a2 = (-9 : Int32) then f_X6_from_47 (f_X6_from_18  n) S a1 a2 a3 else ((f_X6_manyOf a3).bind (fun x4 => ((f_X6_manyOf a2).bind (fun x6 => (if x6 ≤ x4 then f_X6_from_54 (f_X6_from_18  n) S a1 a2 a3 (0 : Int32) else f_X6_from_47 (f_X6_from_18  n) S a1 a2 a3)))))))
set_option maxRecDepth 100000 in
set_option maxHeartbeats 4000000 in
theorem v_X6_from_18 (d : Nat) (hd : 1 ≤ d) : ∀ (n : Nat) (S : zS) (a1 : Int32) (a2 : Int32) (a3 : Int32) (v : Int32), f_X6_from_18  n S a1 a2 a3 = (some v) → zV none (d + 1) yX6_from cX6_from 5 (some .int) 18 [(0, .ref 31), (1, .int a1), (2, .int a2), (3, .int a3)] [] (wd S) (zq (some (.int v)) (wd S)) := by
  intro n
  induction n with
  | zero =>
    intro S a1 a2 a3 v hf
    cases hf
  | succ n ih =>
    intro S a1 a2 a3 v hf
    rw [f_X6_from_18] at hf
    refine zv_iload_n dX6_from_18 rfl rfl ?_
    refine zv_iconst (v := 1) dX6_from_19 (by decide) ?_
    refine zv_aload_n dX6_from_20 rfl rfl ?_
    refine zv_get zf_X6_13 (wo_31 S) rfl dX6_from_21 ?_
    refine zv_iconst (v := 0) dX6_from_24 (by decide) ?_
    refine zv_ialdK (k := 0) (by decide) (by decide) (wo_33 S) dX6_from_25 ?_
    refine zv_ishl dX6_from_26 ?_
    refine zv_icmp_ge (tgt := 80) dX6_from_27 (by decide) (fun c1 => ?_) (fun c1 => ?_)
    · replace hf := (if_pos c1).symm.trans hf
      refine zv_iload_n dX6_from_80 rfl rfl ?_
      exact zv_iret (ty := .int) dX6_from_81 rfl rfl (zret1 hf)
    · replace hf := (if_neg c1).symm.trans hf
      refine zv_iload_n dX6_from_30 rfl rfl ?_
      refine zv_bipush (v := -9) dX6_from_31 (by decide) ?_
      refine zv_icmp_eq (tgt := 47) dX6_from_33 (by decide) (fun c2 => ?_) (fun c2 => ?_)
      · replace hf := (if_pos c2).symm.trans hf
        exact zV_sub ([(0, .ref 31), (1, .int a1), (2, .int a2), (3, .int a3)]) ⟨rfl, rfl, rfl, rfl, trivial⟩ (v_X6_from_47 d (by omega) (f_X6_from_18  n) ih S a1 a2 a3 _ hf)
      · replace hf := (if_neg c2).symm.trans hf
        refine zv_iload_n dX6_from_36 rfl rfl ?_
        obtain ⟨x4, hc3, hf⟩ := zbind hf
        refine zv_callS dX6_from_37 zk_X6_142 zm_X6_manyOf (c_X6_manyOf  d a3 x4 hc3) rfl rfl (Nat.le_of_ble_eq_true rfl) ?_
        refine zv_iload_n dX6_from_40 rfl rfl ?_
        obtain ⟨x6, hc5, hf⟩ := zbind hf
        refine zv_callS dX6_from_41 zk_X6_142 zm_X6_manyOf (c_X6_manyOf  d a2 x6 hc5) rfl rfl (Nat.le_of_ble_eq_true rfl) ?_
        refine zv_icmp_ge (tgt := 51) dX6_from_44 (by decide) (fun c7 => ?_) (fun c7 => ?_)
        · replace hf := (if_pos c7).symm.trans hf
          refine zv_iconst (v := 0) dX6_from_51 (by decide) ?_
          refine zv_istore dX6_from_52 (by decide) ?_
          exact zV_sub ([(0, .ref 31), (1, .int a1), (2, .int a2), (3, .int a3), (4, .int (0 : Int32))]) ⟨rfl, rfl, rfl, rfl, rfl, trivial⟩ (v_X6_from_54 d (by omega) (f_X6_from_18  n) ih S a1 a2 a3 (0 : Int32) _ hf)
        · replace hf := (if_neg c7).symm.trans hf
          exact zV_sub ([(0, .ref 31), (1, .int a1), (2, .int a2), (3, .int a3)]) ⟨rfl, rfl, rfl, rfl, trivial⟩ (v_X6_from_47 d (by omega) (f_X6_from_18  n) ih S a1 a2 a3 _ hf)
def f_X6_from (S : zS) (a1 : Int32) : Option Int32 :=
  ((f_X6_in a1 (0 : Int32) (360 : Int32)).bind (fun x2 => (if x2 = 0 then some ((-1 : Int32)) else f_X6_from_18 zN S a1 (-9 : Int32) (0 : Int32))))
set_option maxRecDepth 100000 in
set_option maxHeartbeats 4000000 in
theorem c_X6_from  (d : Nat) (hd : 2 ≤ d) (S : zS) (a1 : Int32) (v : Int32) (hf : f_X6_from S a1 = (some v)) : zC d yX6_from cX6_from 5 (some .int) [.ref 31, .int a1] (wd S) (zq (some (.int v)) (wd S)) := by
  obtain ⟨d, rfl⟩ : ∃ e, d = e + 1 := ⟨d - 1, by omega⟩
  refine zC_intro (by decide) rfl (Nat.le_of_ble_eq_true rfl) ?_
  unfold f_X6_from at hf
  refine zv_iload_n dX6_from_0 rfl rfl ?_
  refine zv_iconst (v := 0) dX6_from_1 (by decide) ?_
  refine zv_sipush (v := 360) dX6_from_2 (by decide) ?_
  obtain ⟨x2, hc1, hf⟩ := zbind hf
  refine zv_callS dX6_from_5 zk_X6_54 zm_X6_in (c_X6_in  d a1 (0 : Int32) (360 : Int32) x2 hc1) rfl rfl (Nat.le_of_ble_eq_true rfl) ?_
  refine zv_if_ne (tgt := 13) dX6_from_8 (by decide) (fun c3 => ?_) (fun c3 => ?_)
  · replace hf := (if_neg c3).symm.trans hf
    refine zv_bipush (v := -9) dX6_from_13 (by decide) ?_
    refine zv_istore_n dX6_from_15 rfl (by decide) ?_
    refine zv_iconst (v := 0) dX6_from_16 (by decide) ?_
    refine zv_istore_n dX6_from_17 rfl (by decide) ?_
    exact zV_sub ([(0, .ref 31), (1, .int a1), (2, .int (-9 : Int32)), (3, .int (0 : Int32))]) ⟨rfl, rfl, rfl, rfl, trivial⟩ (v_X6_from_18 d (by omega) zN S a1 (-9 : Int32) (0 : Int32) _ hf)
  · replace hf := (if_pos c3).symm.trans hf
    refine zv_iconst (v := -1) dX6_from_11 (by decide) ?_
    exact zv_iret (ty := .int) dX6_from_12 rfl rfl (zret1 hf)
-- KingPricesModel.know()V height 0 writes
def f_X6_know_58  : Nat → zS → Int32 → Option zS
  | 0, _, _ => none
  | n + 1, S, a1 => (if (28 : Int32) ≤ a1 then some (zr S 41 (upd (S.1 41) 28 ((S.1 41 28) + (1 : Int32)))) else (if zin a1 927 then (if zin (((29 : Int32) + ((28 : Int32) * (S.1 41 28))) + a1) 927 then f_X6_know_58  n (zr S 41 (upd (S.1 41) ((((29 : Int32) + ((28 : Int32) * (S.1 41 28))) + a1)).toNatClampNeg (S.1 41 (a1).toNatClampNeg))) (a1 + (1 : Int32)) else none) else none))
set_option maxRecDepth 100000 in
set_option maxHeartbeats 4000000 in
theorem v_X6_know_58 (d : Nat) : ∀ (n : Nat) (S : zS) (a1 : Int32) (S' : zS), f_X6_know_58  n S a1 = (some S') → zV none d yX6_know cX6_know 2 none 58 [(0, .ref 31), (1, .int a1)] [] (wd S) (zq none (wd S')) := by
  intro n
  induction n with
  | zero =>
    intro S a1 S' hf
    cases hf
  | succ n ih =>
    intro S a1 S' hf
    rw [f_X6_know_58] at hf
    refine zv_iload_n dX6_know_58 rfl rfl ?_
    refine zv_bipush (v := 28) dX6_know_59 (by decide) ?_
    refine zv_icmp_ge (tgt := 96) dX6_know_61 (by decide) (fun c1 => ?_) (fun c1 => ?_)
    · replace hf := (if_pos c1).symm.trans hf
      refine zv_aload_n dX6_know_96 rfl rfl ?_
      refine zv_get zf_X6_38 (wo_31 S) rfl dX6_know_97 ?_
      refine zv_bipush (v := 28) dX6_know_100 (by decide) ?_
      refine zv_dup2 dX6_know_102 rfl rfl ?_
      refine zv_ialdK (k := 28) (by decide) (by decide) (wo_41 S) dX6_know_103 ?_
      refine zv_iconst (v := 1) dX6_know_104 (by decide) ?_
      refine zv_iadd dX6_know_105 ?_
      refine zv_iastK (k := 28) (by decide) (by decide) (wo_41 S) (ws_41 S (upd (S.1 41) 28 ((S.1 41 28) + (1 : Int32)))) dX6_know_106 ?_
      exact zv_vret dX6_know_107 rfl (zret0 wd hf)
    · replace hf := (if_neg c1).symm.trans hf
      refine zv_aload_n dX6_know_64 rfl rfl ?_
      refine zv_get zf_X6_38 (wo_31 S) rfl dX6_know_65 ?_
      refine zv_bipush (v := 29) dX6_know_68 (by decide) ?_
      refine zv_bipush (v := 28) dX6_know_70 (by decide) ?_
      refine zv_aload_n dX6_know_72 rfl rfl ?_
      refine zv_get zf_X6_38 (wo_31 S) rfl dX6_know_73 ?_
      refine zv_bipush (v := 28) dX6_know_76 (by decide) ?_
      refine zv_ialdK (k := 28) (by decide) (by decide) (wo_41 S) dX6_know_78 ?_
      refine zv_imul dX6_know_79 ?_
      refine zv_iadd dX6_know_80 ?_
      refine zv_iload_n dX6_know_81 rfl rfl ?_
      refine zv_iadd dX6_know_82 ?_
      refine zv_aload_n dX6_know_83 rfl rfl ?_
      refine zv_get zf_X6_38 (wo_31 S) rfl dX6_know_84 ?_
      refine zv_iload_n dX6_know_87 rfl rfl ?_
      obtain ⟨hb2, hf⟩ := zifb hf
      refine zv_iald hb2 (wo_41 S) dX6_know_88 ?_
      obtain ⟨hb3, hf⟩ := zifb hf
      refine zv_iast hb3 (wo_41 S) (ws_41 S (upd (S.1 41) ((((29 : Int32) + ((28 : Int32) * (S.1 41 28))) + a1)).toNatClampNeg (S.1 41 (a1).toNatClampNeg))) dX6_know_89 ?_
      refine zv_iinc (v := 1) dX6_know_90 rfl (by decide) (by decide) ?_
      refine zv_goto (tgt := 58) dX6_know_93 (by decide) ?_
      exact zV_sub ([(0, .ref 31), (1, .int (a1 + (1 : Int32)))]) ⟨rfl, rfl, trivial⟩ (ih (zr S 41 (upd (S.1 41) ((((29 : Int32) + ((28 : Int32) * (S.1 41 28))) + a1)).toNatClampNeg (S.1 41 (a1).toNatClampNeg))) (a1 + (1 : Int32)) _ hf)
def f_X6_know_56 (S : zS) : Option zS :=
  f_X6_know_58 zN S (0 : Int32)
set_option maxRecDepth 100000 in
set_option maxHeartbeats 4000000 in
theorem v_X6_know_56 (d : Nat) (S : zS) (S' : zS) (hf : f_X6_know_56 S = (some S')) : zV none d yX6_know cX6_know 2 none 56 [(0, .ref 31)] [] (wd S) (zq none (wd S')) := by
  unfold f_X6_know_56 at hf
  refine zv_iconst (v := 0) dX6_know_56 (by decide) ?_
  refine zv_istore_n dX6_know_57 rfl (by decide) ?_
  exact zV_sub ([(0, .ref 31), (1, .int (0 : Int32))]) ⟨rfl, rfl, trivial⟩ (v_X6_know_58 d zN S (0 : Int32) _ hf)
def f_X6_know_14  : Nat → zS → Int32 → Option zS
  | 0, _, _ => none
  | n + 1, S, a1 => (if (252 : Int32) ≤ a1 then f_X6_know_56 (zr S 41 (upd (S.1 41) 28 ((S.1 41 28) - (1 : Int32)))) else (if zin ((57 : Int32) + a1) 927 then (if zin ((29 : Int32) + a1) 927 then f_X6_know_14  n (zr S 41 (upd (S.1 41) (((29 : Int32) + a1)).toNatClampNeg (S.1 41 (((57 : Int32) + a1)).toNatClampNeg))) (a1 + (1 : Int32)) else none) else none))
set_option maxRecDepth 100000 in
set_option maxHeartbeats 4000000 in
theorem v_X6_know_14 (d : Nat) : ∀ (n : Nat) (S : zS) (a1 : Int32) (S' : zS), f_X6_know_14  n S a1 = (some S') → zV none d yX6_know cX6_know 2 none 14 [(0, .ref 31), (1, .int a1)] [] (wd S) (zq none (wd S')) := by
  intro n
  induction n with
  | zero =>
    intro S a1 S' hf
    cases hf
  | succ n ih =>
    intro S a1 S' hf
    rw [f_X6_know_14] at hf
    refine zv_iload_n dX6_know_14 rfl rfl ?_
    refine zv_sipush (v := 252) dX6_know_15 (by decide) ?_
    refine zv_icmp_ge (tgt := 45) dX6_know_18 (by decide) (fun c1 => ?_) (fun c1 => ?_)
    · replace hf := (if_pos c1).symm.trans hf
      refine zv_aload_n dX6_know_45 rfl rfl ?_
      refine zv_get zf_X6_38 (wo_31 S) rfl dX6_know_46 ?_
      refine zv_bipush (v := 28) dX6_know_49 (by decide) ?_
      refine zv_dup2 dX6_know_51 rfl rfl ?_
      refine zv_ialdK (k := 28) (by decide) (by decide) (wo_41 S) dX6_know_52 ?_
      refine zv_iconst (v := 1) dX6_know_53 (by decide) ?_
      refine zv_isub dX6_know_54 ?_
      refine zv_iastK (k := 28) (by decide) (by decide) (wo_41 S) (ws_41 S (upd (S.1 41) 28 ((S.1 41 28) - (1 : Int32)))) dX6_know_55 ?_
      exact zV_sub ([(0, .ref 31)]) ⟨rfl, trivial⟩ (v_X6_know_56 d (zr S 41 (upd (S.1 41) 28 ((S.1 41 28) - (1 : Int32)))) _ hf)
    · replace hf := (if_neg c1).symm.trans hf
      refine zv_aload_n dX6_know_21 rfl rfl ?_
      refine zv_get zf_X6_38 (wo_31 S) rfl dX6_know_22 ?_
      refine zv_bipush (v := 29) dX6_know_25 (by decide) ?_
      refine zv_iload_n dX6_know_27 rfl rfl ?_
      refine zv_iadd dX6_know_28 ?_
      refine zv_aload_n dX6_know_29 rfl rfl ?_
      refine zv_get zf_X6_38 (wo_31 S) rfl dX6_know_30 ?_
      refine zv_bipush (v := 57) dX6_know_33 (by decide) ?_
      refine zv_iload_n dX6_know_35 rfl rfl ?_
      refine zv_iadd dX6_know_36 ?_
      obtain ⟨hb2, hf⟩ := zifb hf
      refine zv_iald hb2 (wo_41 S) dX6_know_37 ?_
      obtain ⟨hb3, hf⟩ := zifb hf
      refine zv_iast hb3 (wo_41 S) (ws_41 S (upd (S.1 41) (((29 : Int32) + a1)).toNatClampNeg (S.1 41 (((57 : Int32) + a1)).toNatClampNeg))) dX6_know_38 ?_
      refine zv_iinc (v := 1) dX6_know_39 rfl (by decide) (by decide) ?_
      refine zv_goto (tgt := 14) dX6_know_42 (by decide) ?_
      exact zV_sub ([(0, .ref 31), (1, .int (a1 + (1 : Int32)))]) ⟨rfl, rfl, trivial⟩ (ih (zr S 41 (upd (S.1 41) (((29 : Int32) + a1)).toNatClampNeg (S.1 41 (((57 : Int32) + a1)).toNatClampNeg))) (a1 + (1 : Int32)) _ hf)
def f_X6_know (S : zS) : Option zS :=
  (if (S.1 41 28) = (10 : Int32) then f_X6_know_14 zN S (0 : Int32) else f_X6_know_56 S)
set_option maxRecDepth 100000 in
set_option maxHeartbeats 4000000 in
theorem c_X6_know  (d : Nat) (S : zS) (S' : zS) (hf : f_X6_know S = (some S')) : zC d yX6_know cX6_know 2 none [.ref 31] (wd S) (zq none (wd S')) := by
  refine zC_intro (by decide) rfl (Nat.le_of_ble_eq_true rfl) ?_
  unfold f_X6_know at hf
  refine zv_aload_n dX6_know_0 rfl rfl ?_
  refine zv_get zf_X6_38 (wo_31 S) rfl dX6_know_1 ?_
  refine zv_bipush (v := 28) dX6_know_4 (by decide) ?_
  refine zv_ialdK (k := 28) (by decide) (by decide) (wo_41 S) dX6_know_6 ?_
  refine zv_bipush (v := 10) dX6_know_7 (by decide) ?_
  refine zv_icmp_ne (tgt := 56) dX6_know_9 (by decide) (fun c1 => ?_) (fun c1 => ?_)
  · replace hf := (if_neg c1).symm.trans hf
    exact zV_sub ([(0, .ref 31)]) ⟨rfl, trivial⟩ (v_X6_know_56 d S _ hf)
  · replace hf := (if_pos c1).symm.trans hf
    refine zv_iconst (v := 0) dX6_know_12 (by decide) ?_
    refine zv_istore_n dX6_know_13 rfl (by decide) ?_
    exact zV_sub ([(0, .ref 31), (1, .int (0 : Int32))]) ⟨rfl, rfl, trivial⟩ (v_X6_know_14 d zN S (0 : Int32) _ hf)
-- KingPricesModel.pass(I)V height 0 writes
def f_X6_pass_95 (k2 : zS → Int32 → Int32 → Option zS) (S : zS) (a1 : Int32) (a2 : Int32) : Option zS :=
  k2 (zr S 41 (upd (S.1 41) 1 ((S.1 41 1) + (1 : Int32)))) a1 (a2 + (1 : Int32))
set_option maxRecDepth 100000 in
set_option maxHeartbeats 4000000 in
theorem v_X6_pass_95 (d : Nat) (k2 : zS → Int32 → Int32 → Option zS) (hk2 : ∀ (S : zS) (a1 a2 : Int32) S', k2 S a1 a2 = (some S') → zV none d yX6_pass cX6_pass 4 none 2 [(0, .ref 31), (1, .int a1), (2, .int a2)] [] (wd S) (zq none (wd S'))) (S : zS) (a1 : Int32) (a2 : Int32) (S' : zS) (hf : f_X6_pass_95 k2 S a1 a2 = (some S')) : zV none d yX6_pass cX6_pass 4 none 95 [(0, .ref 31), (1, .int a1), (2, .int a2)] [] (wd S) (zq none (wd S')) := by
  unfold f_X6_pass_95 at hf
  refine zv_aload_n dX6_pass_95 rfl rfl ?_
  refine zv_get zf_X6_38 (wo_31 S) rfl dX6_pass_96 ?_
  refine zv_iconst (v := 1) dX6_pass_99 (by decide) ?_
  refine zv_dup2 dX6_pass_100 rfl rfl ?_
  refine zv_ialdK (k := 1) (by decide) (by decide) (wo_41 S) dX6_pass_101 ?_
  refine zv_iconst (v := 1) dX6_pass_102 (by decide) ?_
  refine zv_iadd dX6_pass_103 ?_
  refine zv_iastK (k := 1) (by decide) (by decide) (wo_41 S) (ws_41 S (upd (S.1 41) 1 ((S.1 41 1) + (1 : Int32)))) dX6_pass_104 ?_
  refine zv_iinc (v := 1) dX6_pass_105 rfl (by decide) (by decide) ?_
  refine zv_goto (tgt := 2) dX6_pass_108 (by decide) ?_
  exact zV_sub ([(0, .ref 31), (1, .int a1), (2, .int (a2 + (1 : Int32)))]) ⟨rfl, rfl, rfl, trivial⟩ (hk2 (zr S 41 (upd (S.1 41) 1 ((S.1 41 1) + (1 : Int32)))) a1 (a2 + (1 : Int32)) _ hf)
def f_X6_pass_38 (k2 : zS → Int32 → Int32 → Option zS) (S : zS) (a1 : Int32) (a2 : Int32) (a3 : Int32) : Option zS :=
  (if ((zr (zr S 41 (upd (S.1 41) 2 ((S.1 41 2) - a3))) 41 (upd ((zr S 41 (upd (S.1 41) 2 ((S.1 41 2) - a3))).1 41) 3 (((zr S 41 (upd (S.1 41) 2 ((S.1 41 2) - a3))).1 41 3) + (((zr S 41 (upd (S.1 41) 2 ((S.1 41 2) - a3))).1 40 0) - a3)))).1 41 3) ≤ (9999 : Int32) then f_X6_pass_95 k2 (zr (zr (zr S 41 (upd (S.1 41) 2 ((S.1 41 2) - a3))) 41 (upd ((zr S 41 (upd (S.1 41) 2 ((S.1 41 2) - a3))).1 41) 3 (((zr S 41 (upd (S.1 41) 2 ((S.1 41 2) - a3))).1 41 3) + (((zr S 41 (upd (S.1 41) 2 ((S.1 41 2) - a3))).1 40 0) - a3)))) 41 (upd ((zr (zr S 41 (upd (S.1 41) 2 ((S.1 41 2) - a3))) 41 (upd ((zr S 41 (upd (S.1 41) 2 ((S.1 41 2) - a3))).1 41) 3 (((zr S 41 (upd (S.1 41) 2 ((S.1 41 2) - a3))).1 41 3) + (((zr S 41 (upd (S.1 41) 2 ((S.1 41 2) - a3))).1 40 0) - a3)))).1 41) 3 ((zr (zr S 41 (upd (S.1 41) 2 ((S.1 41 2) - a3))) 41 (upd ((zr S 41 (upd (S.1 41) 2 ((S.1 41 2) - a3))).1 41) 3 (((zr S 41 (upd (S.1 41) 2 ((S.1 41 2) - a3))).1 41 3) + (((zr S 41 (upd (S.1 41) 2 ((S.1 41 2) - a3))).1 40 0) - a3)))).1 41 3))) a1 a2 else f_X6_pass_95 k2 (zr (zr (zr S 41 (upd (S.1 41) 2 ((S.1 41 2) - a3))) 41 (upd ((zr S 41 (upd (S.1 41) 2 ((S.1 41 2) - a3))).1 41) 3 (((zr S 41 (upd (S.1 41) 2 ((S.1 41 2) - a3))).1 41 3) + (((zr S 41 (upd (S.1 41) 2 ((S.1 41 2) - a3))).1 40 0) - a3)))) 41 (upd ((zr (zr S 41 (upd (S.1 41) 2 ((S.1 41 2) - a3))) 41 (upd ((zr S 41 (upd (S.1 41) 2 ((S.1 41 2) - a3))).1 41) 3 (((zr S 41 (upd (S.1 41) 2 ((S.1 41 2) - a3))).1 41 3) + (((zr S 41 (upd (S.1 41) 2 ((S.1 41 2) - a3))).1 40 0) - a3)))).1 41) 3 (9999 : Int32))) a1 a2)
set_option maxRecDepth 100000 in
set_option maxHeartbeats 4000000 in
theorem v_X6_pass_38 (d : Nat) (k2 : zS → Int32 → Int32 → Option zS) (hk2 : ∀ (S : zS) (a1 a2 : Int32) S', k2 S a1 a2 = (some S') → zV none d yX6_pass cX6_pass 4 none 2 [(0, .ref 31), (1, .int a1), (2, .int a2)] [] (wd S) (zq none (wd S'))) (S : zS) (a1 : Int32) (a2 : Int32) (a3 : Int32) (S' : zS) (hf : f_X6_pass_38 k2 S a1 a2 a3 = (some S')) : zV none d yX6_pass cX6_pass 4 none 38 [(0, .ref 31), (1, .int a1), (2, .int a2), (3, .int a3)] [] (wd S) (zq none (wd S')) := by
  unfold f_X6_pass_38 at hf
  refine zv_aload_n dX6_pass_38 rfl rfl ?_
  refine zv_get zf_X6_38 (wo_31 S) rfl dX6_pass_39 ?_
  refine zv_iconst (v := 2) dX6_pass_42 (by decide) ?_
  refine zv_dup2 dX6_pass_43 rfl rfl ?_
  refine zv_ialdK (k := 2) (by decide) (by decide) (wo_41 S) dX6_pass_44 ?_
  refine zv_iload_n dX6_pass_45 rfl rfl ?_
  refine zv_isub dX6_pass_46 ?_
  refine zv_iastK (k := 2) (by decide) (by decide) (wo_41 S) (ws_41 S (upd (S.1 41) 2 ((S.1 41 2) - a3))) dX6_pass_47 ?_
  refine zv_aload_n dX6_pass_48 rfl rfl ?_
  refine zv_get zf_X6_38 (wo_31 (zr S 41 (upd (S.1 41) 2 ((S.1 41 2) - a3)))) rfl dX6_pass_49 ?_
  refine zv_iconst (v := 3) dX6_pass_52 (by decide) ?_
  refine zv_dup2 dX6_pass_53 rfl rfl ?_
  refine zv_ialdK (k := 3) (by decide) (by decide) (wo_41 (zr S 41 (upd (S.1 41) 2 ((S.1 41 2) - a3)))) dX6_pass_54 ?_
  refine zv_aload_n dX6_pass_55 rfl rfl ?_
  refine zv_get zf_X6_35 (wo_31 (zr S 41 (upd (S.1 41) 2 ((S.1 41 2) - a3)))) rfl dX6_pass_56 ?_
  refine zv_iconst (v := 0) dX6_pass_59 (by decide) ?_
  refine zv_ialdK (k := 0) (by decide) (by decide) (wo_40 (zr S 41 (upd (S.1 41) 2 ((S.1 41 2) - a3)))) dX6_pass_60 ?_
  refine zv_iload_n dX6_pass_61 rfl rfl ?_
  refine zv_isub dX6_pass_62 ?_
  refine zv_iadd dX6_pass_63 ?_
  refine zv_iastK (k := 3) (by decide) (by decide) (wo_41 (zr S 41 (upd (S.1 41) 2 ((S.1 41 2) - a3)))) (ws_41 (zr S 41 (upd (S.1 41) 2 ((S.1 41 2) - a3))) (upd ((zr S 41 (upd (S.1 41) 2 ((S.1 41 2) - a3))).1 41) 3 (((zr S 41 (upd (S.1 41) 2 ((S.1 41 2) - a3))).1 41 3) + (((zr S 41 (upd (S.1 41) 2 ((S.1 41 2) - a3))).1 40 0) - a3)))) dX6_pass_64 ?_
  refine zv_aload_n dX6_pass_65 rfl rfl ?_
  refine zv_get zf_X6_38 (wo_31 (zr (zr S 41 (upd (S.1 41) 2 ((S.1 41 2) - a3))) 41 (upd ((zr S 41 (upd (S.1 41) 2 ((S.1 41 2) - a3))).1 41) 3 (((zr S 41 (upd (S.1 41) 2 ((S.1 41 2) - a3))).1 41 3) + (((zr S 41 (upd (S.1 41) 2 ((S.1 41 2) - a3))).1 40 0) - a3))))) rfl dX6_pass_66 ?_
  refine zv_iconst (v := 3) dX6_pass_69 (by decide) ?_
  refine zv_aload_n dX6_pass_70 rfl rfl ?_
  refine zv_get zf_X6_38 (wo_31 (zr (zr S 41 (upd (S.1 41) 2 ((S.1 41 2) - a3))) 41 (upd ((zr S 41 (upd (S.1 41) 2 ((S.1 41 2) - a3))).1 41) 3 (((zr S 41 (upd (S.1 41) 2 ((S.1 41 2) - a3))).1 41 3) + (((zr S 41 (upd (S.1 41) 2 ((S.1 41 2) - a3))).1 40 0) - a3))))) rfl dX6_pass_71 ?_
  refine zv_iconst (v := 3) dX6_pass_74 (by decide) ?_
  refine zv_ialdK (k := 3) (by decide) (by decide) (wo_41 (zr (zr S 41 (upd (S.1 41) 2 ((S.1 41 2) - a3))) 41 (upd ((zr S 41 (upd (S.1 41) 2 ((S.1 41 2) - a3))).1 41) 3 (((zr S 41 (upd (S.1 41) 2 ((S.1 41 2) - a3))).1 41 3) + (((zr S 41 (upd (S.1 41) 2 ((S.1 41 2) - a3))).1 40 0) - a3))))) dX6_pass_75 ?_
  refine zv_sipush (v := 9999) dX6_pass_76 (by decide) ?_
  refine zv_icmp_le (tgt := 88) dX6_pass_79 (by decide) (fun c1 => ?_) (fun c1 => ?_)
  · replace hf := (if_pos c1).symm.trans hf
    refine zv_aload_n dX6_pass_88 rfl rfl ?_
    refine zv_get zf_X6_38 (wo_31 (zr (zr S 41 (upd (S.1 41) 2 ((S.1 41 2) - a3))) 41 (upd ((zr S 41 (upd (S.1 41) 2 ((S.1 41 2) - a3))).1 41) 3 (((zr S 41 (upd (S.1 41) 2 ((S.1 41 2) - a3))).1 41 3) + (((zr S 41 (upd (S.1 41) 2 ((S.1 41 2) - a3))).1 40 0) - a3))))) rfl dX6_pass_89 ?_
    refine zv_iconst (v := 3) dX6_pass_92 (by decide) ?_
    refine zv_ialdK (k := 3) (by decide) (by decide) (wo_41 (zr (zr S 41 (upd (S.1 41) 2 ((S.1 41 2) - a3))) 41 (upd ((zr S 41 (upd (S.1 41) 2 ((S.1 41 2) - a3))).1 41) 3 (((zr S 41 (upd (S.1 41) 2 ((S.1 41 2) - a3))).1 41 3) + (((zr S 41 (upd (S.1 41) 2 ((S.1 41 2) - a3))).1 40 0) - a3))))) dX6_pass_93 ?_
    refine zv_iastK (k := 3) (by decide) (by decide) (wo_41 (zr (zr S 41 (upd (S.1 41) 2 ((S.1 41 2) - a3))) 41 (upd ((zr S 41 (upd (S.1 41) 2 ((S.1 41 2) - a3))).1 41) 3 (((zr S 41 (upd (S.1 41) 2 ((S.1 41 2) - a3))).1 41 3) + (((zr S 41 (upd (S.1 41) 2 ((S.1 41 2) - a3))).1 40 0) - a3))))) (ws_41 (zr (zr S 41 (upd (S.1 41) 2 ((S.1 41 2) - a3))) 41 (upd ((zr S 41 (upd (S.1 41) 2 ((S.1 41 2) - a3))).1 41) 3 (((zr S 41 (upd (S.1 41) 2 ((S.1 41 2) - a3))).1 41 3) + (((zr S 41 (upd (S.1 41) 2 ((S.1 41 2) - a3))).1 40 0) - a3)))) (upd ((zr (zr S 41 (upd (S.1 41) 2 ((S.1 41 2) - a3))) 41 (upd ((zr S 41 (upd (S.1 41) 2 ((S.1 41 2) - a3))).1 41) 3 (((zr S 41 (upd (S.1 41) 2 ((S.1 41 2) - a3))).1 41 3) + (((zr S 41 (upd (S.1 41) 2 ((S.1 41 2) - a3))).1 40 0) - a3)))).1 41) 3 ((zr (zr S 41 (upd (S.1 41) 2 ((S.1 41 2) - a3))) 41 (upd ((zr S 41 (upd (S.1 41) 2 ((S.1 41 2) - a3))).1 41) 3 (((zr S 41 (upd (S.1 41) 2 ((S.1 41 2) - a3))).1 41 3) + (((zr S 41 (upd (S.1 41) 2 ((S.1 41 2) - a3))).1 40 0) - a3)))).1 41 3))) dX6_pass_94 ?_
    exact zV_sub ([(0, .ref 31), (1, .int a1), (2, .int a2)]) ⟨rfl, rfl, rfl, trivial⟩ (v_X6_pass_95 d k2 hk2 (zr (zr (zr S 41 (upd (S.1 41) 2 ((S.1 41 2) - a3))) 41 (upd ((zr S 41 (upd (S.1 41) 2 ((S.1 41 2) - a3))).1 41) 3 (((zr S 41 (upd (S.1 41) 2 ((S.1 41 2) - a3))).1 41 3) + (((zr S 41 (upd (S.1 41) 2 ((S.1 41 2) - a3))).1 40 0) - a3)))) 41 (upd ((zr (zr S 41 (upd (S.1 41) 2 ((S.1 41 2) - a3))) 41 (upd ((zr S 41 (upd (S.1 41) 2 ((S.1 41 2) - a3))).1 41) 3 (((zr S 41 (upd (S.1 41) 2 ((S.1 41 2) - a3))).1 41 3) + (((zr S 41 (upd (S.1 41) 2 ((S.1 41 2) - a3))).1 40 0) - a3)))).1 41) 3 ((zr (zr S 41 (upd (S.1 41) 2 ((S.1 41 2) - a3))) 41 (upd ((zr S 41 (upd (S.1 41) 2 ((S.1 41 2) - a3))).1 41) 3 (((zr S 41 (upd (S.1 41) 2 ((S.1 41 2) - a3))).1 41 3) + (((zr S 41 (upd (S.1 41) 2 ((S.1 41 2) - a3))).1 40 0) - a3)))).1 41 3))) a1 a2 _ hf)
  · replace hf := (if_neg c1).symm.trans hf
    refine zv_sipush (v := 9999) dX6_pass_82 (by decide) ?_
    refine zv_goto (tgt := 94) dX6_pass_85 (by decide) ?_
    refine zv_iastK (k := 3) (by decide) (by decide) (wo_41 (zr (zr S 41 (upd (S.1 41) 2 ((S.1 41 2) - a3))) 41 (upd ((zr S 41 (upd (S.1 41) 2 ((S.1 41 2) - a3))).1 41) 3 (((zr S 41 (upd (S.1 41) 2 ((S.1 41 2) - a3))).1 41 3) + (((zr S 41 (upd (S.1 41) 2 ((S.1 41 2) - a3))).1 40 0) - a3))))) (ws_41 (zr (zr S 41 (upd (S.1 41) 2 ((S.1 41 2) - a3))) 41 (upd ((zr S 41 (upd (S.1 41) 2 ((S.1 41 2) - a3))).1 41) 3 (((zr S 41 (upd (S.1 41) 2 ((S.1 41 2) - a3))).1 41 3) + (((zr S 41 (upd (S.1 41) 2 ((S.1 41 2) - a3))).1 40 0) - a3)))) (upd ((zr (zr S 41 (upd (S.1 41) 2 ((S.1 41 2) - a3))) 41 (upd ((zr S 41 (upd (S.1 41) 2 ((S.1 41 2) - a3))).1 41) 3 (((zr S 41 (upd (S.1 41) 2 ((S.1 41 2) - a3))).1 41 3) + (((zr S 41 (upd (S.1 41) 2 ((S.1 41 2) - a3))).1 40 0) - a3)))).1 41) 3 (9999 : Int32))) dX6_pass_94 ?_
    exact zV_sub ([(0, .ref 31), (1, .int a1), (2, .int a2)]) ⟨rfl, rfl, rfl, trivial⟩ (v_X6_pass_95 d k2 hk2 (zr (zr (zr S 41 (upd (S.1 41) 2 ((S.1 41 2) - a3))) 41 (upd ((zr S 41 (upd (S.1 41) 2 ((S.1 41 2) - a3))).1 41) 3 (((zr S 41 (upd (S.1 41) 2 ((S.1 41 2) - a3))).1 41 3) + (((zr S 41 (upd (S.1 41) 2 ((S.1 41 2) - a3))).1 40 0) - a3)))) 41 (upd ((zr (zr S 41 (upd (S.1 41) 2 ((S.1 41 2) - a3))) 41 (upd ((zr S 41 (upd (S.1 41) 2 ((S.1 41 2) - a3))).1 41) 3 (((zr S 41 (upd (S.1 41) 2 ((S.1 41 2) - a3))).1 41 3) + (((zr S 41 (upd (S.1 41) 2 ((S.1 41 2) - a3))).1 40 0) - a3)))).1 41) 3 (9999 : Int32))) a1 a2 _ hf)
def f_X6_pass_2  : Nat → zS → Int32 → Int32 → Option zS
  | 0, _, _, _ => none
  | n + 1, S, a1, a2 => (if a1 ≤ a2 then some S else (if (S.1 40 0) ≤ (S.1 41 2) then f_X6_pass_38 (f_X6_pass_2  n) S a1 a2 (S.1 40 0) else f_X6_pass_38 (f_X6_pass_2  n) S a1 a2 (S.1 41 2)))
set_option maxRecDepth 100000 in
set_option maxHeartbeats 4000000 in
theorem v_X6_pass_2 (d : Nat) : ∀ (n : Nat) (S : zS) (a1 : Int32) (a2 : Int32) (S' : zS), f_X6_pass_2  n S a1 a2 = (some S') → zV none d yX6_pass cX6_pass 4 none 2 [(0, .ref 31), (1, .int a1), (2, .int a2)] [] (wd S) (zq none (wd S')) := by
  intro n
  induction n with
  | zero =>
    intro S a1 a2 S' hf
    cases hf
  | succ n ih =>
    intro S a1 a2 S' hf
    rw [f_X6_pass_2] at hf
    refine zv_iload_n dX6_pass_2 rfl rfl ?_
    refine zv_iload_n dX6_pass_3 rfl rfl ?_
    refine zv_icmp_ge (tgt := 111) dX6_pass_4 (by decide) (fun c1 => ?_) (fun c1 => ?_)
    · replace hf := (if_pos c1).symm.trans hf
      exact zv_vret dX6_pass_111 rfl (zret0 wd hf)
    · replace hf := (if_neg c1).symm.trans hf
      refine zv_aload_n dX6_pass_7 rfl rfl ?_
      refine zv_get zf_X6_38 (wo_31 S) rfl dX6_pass_8 ?_
      refine zv_iconst (v := 2) dX6_pass_11 (by decide) ?_
      refine zv_ialdK (k := 2) (by decide) (by decide) (wo_41 S) dX6_pass_12 ?_
      refine zv_aload_n dX6_pass_13 rfl rfl ?_
      refine zv_get zf_X6_35 (wo_31 S) rfl dX6_pass_14 ?_
      refine zv_iconst (v := 0) dX6_pass_17 (by decide) ?_
      refine zv_ialdK (k := 0) (by decide) (by decide) (wo_40 S) dX6_pass_18 ?_
      refine zv_icmp_ge (tgt := 31) dX6_pass_19 (by decide) (fun c2 => ?_) (fun c2 => ?_)
      · replace hf := (if_pos c2).symm.trans hf
        refine zv_aload_n dX6_pass_31 rfl rfl ?_
        refine zv_get zf_X6_35 (wo_31 S) rfl dX6_pass_32 ?_
        refine zv_iconst (v := 0) dX6_pass_35 (by decide) ?_
        refine zv_ialdK (k := 0) (by decide) (by decide) (wo_40 S) dX6_pass_36 ?_
        refine zv_istore_n dX6_pass_37 rfl (by decide) ?_
        exact zV_sub ([(0, .ref 31), (1, .int a1), (2, .int a2), (3, .int (S.1 40 0))]) ⟨rfl, rfl, rfl, rfl, trivial⟩ (v_X6_pass_38 d (f_X6_pass_2  n) ih S a1 a2 (S.1 40 0) _ hf)
      · replace hf := (if_neg c2).symm.trans hf
        refine zv_aload_n dX6_pass_22 rfl rfl ?_
        refine zv_get zf_X6_38 (wo_31 S) rfl dX6_pass_23 ?_
        refine zv_iconst (v := 2) dX6_pass_26 (by decide) ?_
        refine zv_ialdK (k := 2) (by decide) (by decide) (wo_41 S) dX6_pass_27 ?_
        refine zv_goto (tgt := 37) dX6_pass_28 (by decide) ?_
        refine zv_istore_n dX6_pass_37 rfl (by decide) ?_
        exact zV_sub ([(0, .ref 31), (1, .int a1), (2, .int a2), (3, .int (S.1 41 2))]) ⟨rfl, rfl, rfl, rfl, trivial⟩ (v_X6_pass_38 d (f_X6_pass_2  n) ih S a1 a2 (S.1 41 2) _ hf)
def f_X6_pass (S : zS) (a1 : Int32) : Option zS :=
  f_X6_pass_2 zN S a1 (0 : Int32)
set_option maxRecDepth 100000 in
set_option maxHeartbeats 4000000 in
theorem c_X6_pass  (d : Nat) (S : zS) (a1 : Int32) (S' : zS) (hf : f_X6_pass S a1 = (some S')) : zC d yX6_pass cX6_pass 4 none [.ref 31, .int a1] (wd S) (zq none (wd S')) := by
  refine zC_intro (by decide) rfl (Nat.le_of_ble_eq_true rfl) ?_
  unfold f_X6_pass at hf
  refine zv_iconst (v := 0) dX6_pass_0 (by decide) ?_
  refine zv_istore_n dX6_pass_1 rfl (by decide) ?_
  exact zV_sub ([(0, .ref 31), (1, .int a1), (2, .int (0 : Int32))]) ⟨rfl, rfl, rfl, trivial⟩ (v_X6_pass_2 d zN S a1 (0 : Int32) _ hf)
-- KingPricesModel.goes(I)I height 2 writes
def f_X6_goes (S : zS) (a1 : Int32) : Option (Int32 × zS) :=
  ((f_X6_isVillage S a1).bind (fun x2 => (if x2 = 0 then some ((-1 : Int32), S) else (if zin (((6 : Int32) * (S.1 41 0)) + a1) 72 then (if a1 = (S.1 41 0) then some ((-2 : Int32), S) else (if (1000 : Int32) ≤ (S.1 38 ((((6 : Int32) * (S.1 41 0)) + a1)).toNatClampNeg) then some ((-2 : Int32), S) else (if ((S.1 41 1) + (S.1 38 ((((6 : Int32) * (S.1 41 0)) + a1)).toNatClampNeg)) ≤ (999 : Int32) then ((f_X6_know S).bind (fun S9 => ((f_X6_pass S9 (S.1 38 ((((6 : Int32) * (S.1 41 0)) + a1)).toNatClampNeg)).bind (fun S11 => some (((zr S11 41 (upd (S11.1 41) 0 a1)).1 41 1), (zr S11 41 (upd (S11.1 41) 0 a1))))))) else some ((-2 : Int32), S)))) else none))))
set_option maxRecDepth 100000 in
set_option maxHeartbeats 4000000 in
theorem c_X6_goes  (d : Nat) (hd : 2 ≤ d) (S : zS) (a1 : Int32) (v : Int32) (S' : zS) (hf : f_X6_goes S a1 = (some (v, S'))) : zC d yX6_goes cX6_goes 3 (some .int) [.ref 31, .int a1] (wd S) (zq (some (.int v)) (wd S')) := by
  obtain ⟨d, rfl⟩ : ∃ e, d = e + 1 := ⟨d - 1, by omega⟩
  refine zC_intro (by decide) rfl (Nat.le_of_ble_eq_true rfl) ?_
  unfold f_X6_goes at hf
  refine zv_aload_n dX6_goes_0 rfl rfl ?_
  refine zv_iload_n dX6_goes_1 rfl rfl ?_
  obtain ⟨x2, hc1, hf⟩ := zbind hf
  refine zv_callV dX6_goes_2 zk_X6_107 zm_X6_isVillage (c_X6_isVillage  d (by omega) S a1 x2 hc1) (wo_31 S) rfl rfl rfl (Nat.le_of_ble_eq_true rfl) ?_
  refine zv_if_ne (tgt := 10) dX6_goes_5 (by decide) (fun c3 => ?_) (fun c3 => ?_)
  · replace hf := (if_neg c3).symm.trans hf
    refine zv_aload_n dX6_goes_10 rfl rfl ?_
    refine zv_get zf_X6_29 (wo_31 S) rfl dX6_goes_11 ?_
    refine zv_bipush (v := 6) dX6_goes_14 (by decide) ?_
    refine zv_aload_n dX6_goes_16 rfl rfl ?_
    refine zv_get zf_X6_38 (wo_31 S) rfl dX6_goes_17 ?_
    refine zv_iconst (v := 0) dX6_goes_20 (by decide) ?_
    refine zv_ialdK (k := 0) (by decide) (by decide) (wo_41 S) dX6_goes_21 ?_
    refine zv_imul dX6_goes_22 ?_
    refine zv_iload_n dX6_goes_23 rfl rfl ?_
    refine zv_iadd dX6_goes_24 ?_
    obtain ⟨hb4, hf⟩ := zifb hf
    refine zv_iald hb4 (wo_38 S) dX6_goes_25 ?_
    refine zv_istore_n dX6_goes_26 rfl (by decide) ?_
    refine zv_iload_n dX6_goes_27 rfl rfl ?_
    refine zv_aload_n dX6_goes_28 rfl rfl ?_
    refine zv_get zf_X6_38 (wo_31 S) rfl dX6_goes_29 ?_
    refine zv_iconst (v := 0) dX6_goes_32 (by decide) ?_
    refine zv_ialdK (k := 0) (by decide) (by decide) (wo_41 S) dX6_goes_33 ?_
    refine zv_icmp_eq (tgt := 58) dX6_goes_34 (by decide) (fun c5 => ?_) (fun c5 => ?_)
    · replace hf := (if_pos c5).symm.trans hf
      refine zv_bipush (v := -2) dX6_goes_58 (by decide) ?_
      exact zv_iret (ty := .int) dX6_goes_60 rfl rfl (zret2 wd hf)
    · replace hf := (if_neg c5).symm.trans hf
      refine zv_iload_n dX6_goes_37 rfl rfl ?_
      refine zv_sipush (v := 1000) dX6_goes_38 (by decide) ?_
      refine zv_icmp_ge (tgt := 58) dX6_goes_41 (by decide) (fun c6 => ?_) (fun c6 => ?_)
      · replace hf := (if_pos c6).symm.trans hf
        refine zv_bipush (v := -2) dX6_goes_58 (by decide) ?_
        exact zv_iret (ty := .int) dX6_goes_60 rfl rfl (zret2 wd hf)
      · replace hf := (if_neg c6).symm.trans hf
        refine zv_aload_n dX6_goes_44 rfl rfl ?_
        refine zv_get zf_X6_38 (wo_31 S) rfl dX6_goes_45 ?_
        refine zv_iconst (v := 1) dX6_goes_48 (by decide) ?_
        refine zv_ialdK (k := 1) (by decide) (by decide) (wo_41 S) dX6_goes_49 ?_
        refine zv_iload_n dX6_goes_50 rfl rfl ?_
        refine zv_iadd dX6_goes_51 ?_
        refine zv_sipush (v := 999) dX6_goes_52 (by decide) ?_
        refine zv_icmp_le (tgt := 61) dX6_goes_55 (by decide) (fun c7 => ?_) (fun c7 => ?_)
        · replace hf := (if_pos c7).symm.trans hf
          refine zv_aload_n dX6_goes_61 rfl rfl ?_
          obtain ⟨S9, hc8, hf⟩ := zbind hf
          refine zv_callV dX6_goes_62 zk_X6_113 zm_X6_know (c_X6_know  d S S9 hc8) (wo_31 S) rfl rfl rfl (Nat.le_of_ble_eq_true rfl) ?_
          refine zv_aload_n dX6_goes_65 rfl rfl ?_
          refine zv_iload_n dX6_goes_66 rfl rfl ?_
          obtain ⟨S11, hc10, hf⟩ := zbind hf
          refine zv_callV dX6_goes_67 zk_X6_116 zm_X6_pass (c_X6_pass  d S9 (S.1 38 ((((6 : Int32) * (S.1 41 0)) + a1)).toNatClampNeg) S11 hc10) (wo_31 S9) rfl rfl rfl (Nat.le_of_ble_eq_true rfl) ?_
          refine zv_aload_n dX6_goes_70 rfl rfl ?_
          refine zv_get zf_X6_38 (wo_31 S11) rfl dX6_goes_71 ?_
          refine zv_iconst (v := 0) dX6_goes_74 (by decide) ?_
          refine zv_iload_n dX6_goes_75 rfl rfl ?_
          refine zv_iastK (k := 0) (by decide) (by decide) (wo_41 S11) (ws_41 S11 (upd (S11.1 41) 0 a1)) dX6_goes_76 ?_
          refine zv_aload_n dX6_goes_77 rfl rfl ?_
          refine zv_get zf_X6_38 (wo_31 (zr S11 41 (upd (S11.1 41) 0 a1))) rfl dX6_goes_78 ?_
          refine zv_iconst (v := 1) dX6_goes_81 (by decide) ?_
          refine zv_ialdK (k := 1) (by decide) (by decide) (wo_41 (zr S11 41 (upd (S11.1 41) 0 a1))) dX6_goes_82 ?_
          exact zv_iret (ty := .int) dX6_goes_83 rfl rfl (zret2 wd hf)
        · replace hf := (if_neg c7).symm.trans hf
          refine zv_bipush (v := -2) dX6_goes_58 (by decide) ?_
          exact zv_iret (ty := .int) dX6_goes_60 rfl rfl (zret2 wd hf)
  · replace hf := (if_pos c3).symm.trans hf
    refine zv_iconst (v := -1) dX6_goes_8 (by decide) ?_
    exact zv_iret (ty := .int) dX6_goes_9 rfl rfl (zret2 wd hf)
-- KingPricesModel.had(II)I height 1 reads
def f_X6_had_71 (k31 : zS → Int32 → Int32 → Int32 → Int32 → Int32 → Option Int32) (S : zS) (a1 : Int32) (a2 : Int32) (a3 : Int32) (a4 : Int32) (a5 : Int32) : Option Int32 :=
  k31 S a1 a2 a3 a4 (a5 + (1 : Int32))
set_option maxRecDepth 100000 in
set_option maxHeartbeats 4000000 in
theorem v_X6_had_71 (d : Nat) (hd : 0 ≤ d) (k31 : zS → Int32 → Int32 → Int32 → Int32 → Int32 → Option Int32) (hk31 : ∀ (S : zS) (a1 a2 a3 a4 a5 : Int32) v, k31 S a1 a2 a3 a4 a5 = (some v) → zV none (d + 1) yX6_had cX6_had 6 (some .int) 31 [(0, .ref 31), (1, .int a1), (2, .int a2), (3, .int a3), (4, .int a4), (5, .int a5)] [] (wd S) (zq (some (.int v)) (wd S))) (S : zS) (a1 : Int32) (a2 : Int32) (a3 : Int32) (a4 : Int32) (a5 : Int32) (v : Int32) (hf : f_X6_had_71 k31 S a1 a2 a3 a4 a5 = (some v)) : zV none (d + 1) yX6_had cX6_had 6 (some .int) 71 [(0, .ref 31), (1, .int a1), (2, .int a2), (3, .int a3), (4, .int a4), (5, .int a5)] [] (wd S) (zq (some (.int v)) (wd S)) := by
  unfold f_X6_had_71 at hf
  refine zv_iinc (v := 1) dX6_had_71 rfl (by decide) (by decide) ?_
  refine zv_goto (tgt := 31) dX6_had_74 (by decide) ?_
  exact zV_sub ([(0, .ref 31), (1, .int a1), (2, .int a2), (3, .int a3), (4, .int a4), (5, .int (a5 + (1 : Int32)))]) ⟨rfl, rfl, rfl, rfl, rfl, rfl, trivial⟩ (hk31 S a1 a2 a3 a4 (a5 + (1 : Int32)) _ hf)
def f_X6_had_67 (k31 : zS → Int32 → Int32 → Int32 → Int32 → Int32 → Option Int32) (S : zS) (a1 : Int32) (a2 : Int32) (a3 : Int32) (a5 : Int32) : Option Int32 :=
  f_X6_had_71 k31 S a1 a2 a3 a5 a5
set_option maxRecDepth 100000 in
set_option maxHeartbeats 4000000 in
theorem v_X6_had_67 (d : Nat) (hd : 0 ≤ d) (k31 : zS → Int32 → Int32 → Int32 → Int32 → Int32 → Option Int32) (hk31 : ∀ (S : zS) (a1 a2 a3 a4 a5 : Int32) v, k31 S a1 a2 a3 a4 a5 = (some v) → zV none (d + 1) yX6_had cX6_had 6 (some .int) 31 [(0, .ref 31), (1, .int a1), (2, .int a2), (3, .int a3), (4, .int a4), (5, .int a5)] [] (wd S) (zq (some (.int v)) (wd S))) (S : zS) (a1 : Int32) (a2 : Int32) (a3 : Int32) (a5 : Int32) (v : Int32) (hf : f_X6_had_67 k31 S a1 a2 a3 a5 = (some v)) : zV none (d + 1) yX6_had cX6_had 6 (some .int) 67 [(0, .ref 31), (1, .int a1), (2, .int a2), (3, .int a3), (5, .int a5)] [] (wd S) (zq (some (.int v)) (wd S)) := by
  unfold f_X6_had_67 at hf
  refine zv_iload dX6_had_67 rfl ?_
  refine zv_istore dX6_had_69 (by decide) ?_
  exact zV_sub ([(0, .ref 31), (1, .int a1), (2, .int a2), (3, .int a3), (4, .int a5), (5, .int a5)]) ⟨rfl, rfl, rfl, rfl, rfl, rfl, trivial⟩ (v_X6_had_71 d (by omega) k31 hk31 S a1 a2 a3 a5 a5 _ hf)
def f_X6_had_31  : Nat → zS → Int32 → Int32 → Int32 → Int32 → Int32 → Option Int32
  | 0, _, _, _, _, _, _ => none
  | n + 1, S, a1, a2, a3, a4, a5 => (if (60 : Int32) < a5 then (if a2 = 0 then some a3 else some a4) else (if (((S.1 40 1) * a5) / (10 : Int32)) = a1 then (if a3 = (-9 : Int32) then f_X6_had_67 (f_X6_had_31  n) S a1 a2 a5 a5 else f_X6_had_67 (f_X6_had_31  n) S a1 a2 a3 a5) else f_X6_had_71 (f_X6_had_31  n) S a1 a2 a3 a4 a5))
set_option maxRecDepth 100000 in
set_option maxHeartbeats 4000000 in
theorem v_X6_had_31 (d : Nat) (hd : 0 ≤ d) : ∀ (n : Nat) (S : zS) (a1 : Int32) (a2 : Int32) (a3 : Int32) (a4 : Int32) (a5 : Int32) (v : Int32), f_X6_had_31  n S a1 a2 a3 a4 a5 = (some v) → zV none (d + 1) yX6_had cX6_had 6 (some .int) 31 [(0, .ref 31), (1, .int a1), (2, .int a2), (3, .int a3), (4, .int a4), (5, .int a5)] [] (wd S) (zq (some (.int v)) (wd S)) := by
  intro n
  induction n with
  | zero =>
    intro S a1 a2 a3 a4 a5 v hf
    cases hf
  | succ n ih =>
    intro S a1 a2 a3 a4 a5 v hf
    rw [f_X6_had_31] at hf
    refine zv_iload dX6_had_31 rfl ?_
    refine zv_bipush (v := 60) dX6_had_33 (by decide) ?_
    refine zv_icmp_gt (tgt := 77) dX6_had_35 (by decide) (fun c1 => ?_) (fun c1 => ?_)
    · replace hf := (if_pos c1).symm.trans hf
      refine zv_iload_n dX6_had_77 rfl rfl ?_
      refine zv_if_ne (tgt := 85) dX6_had_78 (by decide) (fun c2 => ?_) (fun c2 => ?_)
      · replace hf := (if_neg c2).symm.trans hf
        refine zv_iload dX6_had_85 rfl ?_
        exact zv_iret (ty := .int) dX6_had_87 rfl rfl (zret1 hf)
      · replace hf := (if_pos c2).symm.trans hf
        refine zv_iload_n dX6_had_81 rfl rfl ?_
        refine zv_goto (tgt := 87) dX6_had_82 (by decide) ?_
        exact zv_iret (ty := .int) dX6_had_87 rfl rfl (zret1 hf)
    · replace hf := (if_neg c1).symm.trans hf
      refine zv_aload_n dX6_had_38 rfl rfl ?_
      refine zv_get zf_X6_35 (wo_31 S) rfl dX6_had_39 ?_
      refine zv_iconst (v := 1) dX6_had_42 (by decide) ?_
      refine zv_ialdK (k := 1) (by decide) (by decide) (wo_40 S) dX6_had_43 ?_
      refine zv_iload dX6_had_44 rfl ?_
      refine zv_imul dX6_had_46 ?_
      refine zv_bipush (v := 10) dX6_had_47 (by decide) ?_
      refine zv_idiv (by decide) dX6_had_49 ?_
      refine zv_iload_n dX6_had_50 rfl rfl ?_
      refine zv_icmp_ne (tgt := 71) dX6_had_51 (by decide) (fun c3 => ?_) (fun c3 => ?_)
      · replace hf := (if_neg c3).symm.trans hf
        exact zV_sub ([(0, .ref 31), (1, .int a1), (2, .int a2), (3, .int a3), (4, .int a4), (5, .int a5)]) ⟨rfl, rfl, rfl, rfl, rfl, rfl, trivial⟩ (v_X6_had_71 d (by omega) (f_X6_had_31  n) ih S a1 a2 a3 a4 a5 _ hf)
      · replace hf := (if_pos c3).symm.trans hf
        refine zv_iload_n dX6_had_54 rfl rfl ?_
        refine zv_bipush (v := -9) dX6_had_55 (by decide) ?_
        refine zv_icmp_ne (tgt := 65) dX6_had_57 (by decide) (fun c4 => ?_) (fun c4 => ?_)
        · replace hf := (if_neg c4).symm.trans hf
          refine zv_iload_n dX6_had_65 rfl rfl ?_
          refine zv_istore_n dX6_had_66 rfl (by decide) ?_
          exact zV_sub ([(0, .ref 31), (1, .int a1), (2, .int a2), (3, .int a3), (5, .int a5)]) ⟨rfl, rfl, rfl, rfl, rfl, trivial⟩ (v_X6_had_67 d (by omega) (f_X6_had_31  n) ih S a1 a2 a3 a5 _ hf)
        · replace hf := (if_pos c4).symm.trans hf
          refine zv_iload dX6_had_60 rfl ?_
          refine zv_goto (tgt := 66) dX6_had_62 (by decide) ?_
          refine zv_istore_n dX6_had_66 rfl (by decide) ?_
          exact zV_sub ([(0, .ref 31), (1, .int a1), (2, .int a2), (3, .int a5), (5, .int a5)]) ⟨rfl, rfl, rfl, rfl, rfl, trivial⟩ (v_X6_had_67 d (by omega) (f_X6_had_31  n) ih S a1 a2 a5 a5 _ hf)
def f_X6_had (S : zS) (a1 : Int32) (a2 : Int32) : Option Int32 :=
  ((f_X6_in a1 (0 : Int32) (60 : Int32)).bind (fun x2 => (if x2 = 0 then some ((-1 : Int32)) else ((f_X6_in a2 (0 : Int32) (1 : Int32)).bind (fun x5 => (if x5 = 0 then some ((-1 : Int32)) else f_X6_had_31 zN S a1 a2 (-9 : Int32) (-9 : Int32) (1 : Int32)))))))
set_option maxRecDepth 100000 in
set_option maxHeartbeats 4000000 in
theorem c_X6_had  (d : Nat) (hd : 1 ≤ d) (S : zS) (a1 : Int32) (a2 : Int32) (v : Int32) (hf : f_X6_had S a1 a2 = (some v)) : zC d yX6_had cX6_had 6 (some .int) [.ref 31, .int a1, .int a2] (wd S) (zq (some (.int v)) (wd S)) := by
  obtain ⟨d, rfl⟩ : ∃ e, d = e + 1 := ⟨d - 1, by omega⟩
  refine zC_intro (by decide) rfl (Nat.le_of_ble_eq_true rfl) ?_
  unfold f_X6_had at hf
  refine zv_iload_n dX6_had_0 rfl rfl ?_
  refine zv_iconst (v := 0) dX6_had_1 (by decide) ?_
  refine zv_bipush (v := 60) dX6_had_2 (by decide) ?_
  obtain ⟨x2, hc1, hf⟩ := zbind hf
  refine zv_callS dX6_had_4 zk_X6_54 zm_X6_in (c_X6_in  d a1 (0 : Int32) (60 : Int32) x2 hc1) rfl rfl (Nat.le_of_ble_eq_true rfl) ?_
  refine zv_if_eq (tgt := 19) dX6_had_7 (by decide) (fun c3 => ?_) (fun c3 => ?_)
  · replace hf := (if_pos c3).symm.trans hf
    refine zv_iconst (v := -1) dX6_had_19 (by decide) ?_
    exact zv_iret (ty := .int) dX6_had_20 rfl rfl (zret1 hf)
  · replace hf := (if_neg c3).symm.trans hf
    refine zv_iload_n dX6_had_10 rfl rfl ?_
    refine zv_iconst (v := 0) dX6_had_11 (by decide) ?_
    refine zv_iconst (v := 1) dX6_had_12 (by decide) ?_
    obtain ⟨x5, hc4, hf⟩ := zbind hf
    refine zv_callS dX6_had_13 zk_X6_54 zm_X6_in (c_X6_in  d a2 (0 : Int32) (1 : Int32) x5 hc4) rfl rfl (Nat.le_of_ble_eq_true rfl) ?_
    refine zv_if_ne (tgt := 21) dX6_had_16 (by decide) (fun c6 => ?_) (fun c6 => ?_)
    · replace hf := (if_neg c6).symm.trans hf
      refine zv_bipush (v := -9) dX6_had_21 (by decide) ?_
      refine zv_istore_n dX6_had_23 rfl (by decide) ?_
      refine zv_bipush (v := -9) dX6_had_24 (by decide) ?_
      refine zv_istore dX6_had_26 (by decide) ?_
      refine zv_iconst (v := 1) dX6_had_28 (by decide) ?_
      refine zv_istore dX6_had_29 (by decide) ?_
      exact zV_sub ([(0, .ref 31), (1, .int a1), (2, .int a2), (3, .int (-9 : Int32)), (4, .int (-9 : Int32)), (5, .int (1 : Int32))]) ⟨rfl, rfl, rfl, rfl, rfl, rfl, trivial⟩ (v_X6_had_31 d (by omega) zN S a1 a2 (-9 : Int32) (-9 : Int32) (1 : Int32) _ hf)
    · replace hf := (if_pos c6).symm.trans hf
      refine zv_iconst (v := -1) dX6_had_19 (by decide) ?_
      exact zv_iret (ty := .int) dX6_had_20 rfl rfl (zret1 hf)
-- KingPricesModel.shift(IIII)I height 2 writes
def f_X6_shift (S : zS) (a1 : Int32) (a2 : Int32) (a3 : Int32) (a4 : Int32) : Option (Int32 × zS) :=
  ((f_X6_isVillage S a1).bind (fun x2 => (if x2 = 0 then some ((-1 : Int32), S) else ((f_X6_in a2 (1 : Int32) (60 : Int32)).bind (fun x5 => (if x5 = 0 then some ((-1 : Int32), S) else (if zin (a3 + a1) 927 then (if a2 ≤ (S.1 41 ((a3 + a1)).toNatClampNeg) then ((f_X6_know S).bind (fun S10 => (if zin (a3 + a1) 927 then (if zin (a3 + a1) 927 then (if zin (a4 + a1) 927 then (if zin (a4 + a1) 927 then (if zin (a4 + a1) 927 then some (((zr (zr S10 41 (upd (S10.1 41) ((a3 + a1)).toNatClampNeg ((S10.1 41 ((a3 + a1)).toNatClampNeg) - a2))) 41 (upd ((zr S10 41 (upd (S10.1 41) ((a3 + a1)).toNatClampNeg ((S10.1 41 ((a3 + a1)).toNatClampNeg) - a2))).1 41) ((a4 + a1)).toNatClampNeg (((zr S10 41 (upd (S10.1 41) ((a3 + a1)).toNatClampNeg ((S10.1 41 ((a3 + a1)).toNatClampNeg) - a2))).1 41 ((a4 + a1)).toNatClampNeg) + a2))).1 41 ((a4 + a1)).toNatClampNeg), (zr (zr S10 41 (upd (S10.1 41) ((a3 + a1)).toNatClampNeg ((S10.1 41 ((a3 + a1)).toNatClampNeg) - a2))) 41 (upd ((zr S10 41 (upd (S10.1 41) ((a3 + a1)).toNatClampNeg ((S10.1 41 ((a3 + a1)).toNatClampNeg) - a2))).1 41) ((a4 + a1)).toNatClampNeg (((zr S10 41 (upd (S10.1 41) ((a3 + a1)).toNatClampNeg ((S10.1 41 ((a3 + a1)).toNatClampNeg) - a2))).1 41 ((a4 + a1)).toNatClampNeg) + a2)))) else none) else none) else none) else none) else none))) else some ((-2 : Int32), S)) else none)))))))
set_option maxRecDepth 100000 in
set_option maxHeartbeats 4000000 in
theorem c_X6_shift  (d : Nat) (hd : 2 ≤ d) (S : zS) (a1 : Int32) (a2 : Int32) (a3 : Int32) (a4 : Int32) (v : Int32) (S' : zS) (hf : f_X6_shift S a1 a2 a3 a4 = (some (v, S'))) : zC d yX6_shift cX6_shift 5 (some .int) [.ref 31, .int a1, .int a2, .int a3, .int a4] (wd S) (zq (some (.int v)) (wd S')) := by
  obtain ⟨d, rfl⟩ : ∃ e, d = e + 1 := ⟨d - 1, by omega⟩
  refine zC_intro (by decide) rfl (Nat.le_of_ble_eq_true rfl) ?_
  unfold f_X6_shift at hf
  refine zv_aload_n dX6_shift_0 rfl rfl ?_
  refine zv_iload_n dX6_shift_1 rfl rfl ?_
  obtain ⟨x2, hc1, hf⟩ := zbind hf
  refine zv_callV dX6_shift_2 zk_X6_107 zm_X6_isVillage (c_X6_isVillage  d (by omega) S a1 x2 hc1) (wo_31 S) rfl rfl rfl (Nat.le_of_ble_eq_true rfl) ?_
  refine zv_if_eq (tgt := 18) dX6_shift_5 (by decide) (fun c3 => ?_) (fun c3 => ?_)
  · replace hf := (if_pos c3).symm.trans hf
    refine zv_iconst (v := -1) dX6_shift_18 (by decide) ?_
    exact zv_iret (ty := .int) dX6_shift_19 rfl rfl (zret2 wd hf)
  · replace hf := (if_neg c3).symm.trans hf
    refine zv_iload_n dX6_shift_8 rfl rfl ?_
    refine zv_iconst (v := 1) dX6_shift_9 (by decide) ?_
    refine zv_bipush (v := 60) dX6_shift_10 (by decide) ?_
    obtain ⟨x5, hc4, hf⟩ := zbind hf
    refine zv_callS dX6_shift_12 zk_X6_54 zm_X6_in (c_X6_in  d a2 (1 : Int32) (60 : Int32) x5 hc4) rfl rfl (Nat.le_of_ble_eq_true rfl) ?_
    refine zv_if_ne (tgt := 20) dX6_shift_15 (by decide) (fun c6 => ?_) (fun c6 => ?_)
    · replace hf := (if_neg c6).symm.trans hf
      refine zv_aload_n dX6_shift_20 rfl rfl ?_
      refine zv_get zf_X6_38 (wo_31 S) rfl dX6_shift_21 ?_
      refine zv_iload_n dX6_shift_24 rfl rfl ?_
      refine zv_iload_n dX6_shift_25 rfl rfl ?_
      refine zv_iadd dX6_shift_26 ?_
      obtain ⟨hb7, hf⟩ := zifb hf
      refine zv_iald hb7 (wo_41 S) dX6_shift_27 ?_
      refine zv_iload_n dX6_shift_28 rfl rfl ?_
      refine zv_icmp_ge (tgt := 35) dX6_shift_29 (by decide) (fun c8 => ?_) (fun c8 => ?_)
      · replace hf := (if_pos c8).symm.trans hf
        refine zv_aload_n dX6_shift_35 rfl rfl ?_
        obtain ⟨S10, hc9, hf⟩ := zbind hf
        refine zv_callV dX6_shift_36 zk_X6_113 zm_X6_know (c_X6_know  d S S10 hc9) (wo_31 S) rfl rfl rfl (Nat.le_of_ble_eq_true rfl) ?_
        refine zv_aload_n dX6_shift_39 rfl rfl ?_
        refine zv_get zf_X6_38 (wo_31 S10) rfl dX6_shift_40 ?_
        refine zv_iload_n dX6_shift_43 rfl rfl ?_
        refine zv_iload_n dX6_shift_44 rfl rfl ?_
        refine zv_iadd dX6_shift_45 ?_
        refine zv_dup2 dX6_shift_46 rfl rfl ?_
        obtain ⟨hb11, hf⟩ := zifb hf
        refine zv_iald hb11 (wo_41 S10) dX6_shift_47 ?_
        refine zv_iload_n dX6_shift_48 rfl rfl ?_
        refine zv_isub dX6_shift_49 ?_
        obtain ⟨hb12, hf⟩ := zifb hf
        refine zv_iast hb12 (wo_41 S10) (ws_41 S10 (upd (S10.1 41) ((a3 + a1)).toNatClampNeg ((S10.1 41 ((a3 + a1)).toNatClampNeg) - a2))) dX6_shift_50 ?_
        refine zv_aload_n dX6_shift_51 rfl rfl ?_
        refine zv_get zf_X6_38 (wo_31 (zr S10 41 (upd (S10.1 41) ((a3 + a1)).toNatClampNeg ((S10.1 41 ((a3 + a1)).toNatClampNeg) - a2)))) rfl dX6_shift_52 ?_
        refine zv_iload dX6_shift_55 rfl ?_
        refine zv_iload_n dX6_shift_57 rfl rfl ?_
        refine zv_iadd dX6_shift_58 ?_
        refine zv_dup2 dX6_shift_59 rfl rfl ?_
        obtain ⟨hb13, hf⟩ := zifb hf
        refine zv_iald hb13 (wo_41 (zr S10 41 (upd (S10.1 41) ((a3 + a1)).toNatClampNeg ((S10.1 41 ((a3 + a1)).toNatClampNeg) - a2)))) dX6_shift_60 ?_
        refine zv_iload_n dX6_shift_61 rfl rfl ?_
        refine zv_iadd dX6_shift_62 ?_
        obtain ⟨hb14, hf⟩ := zifb hf
        refine zv_iast hb14 (wo_41 (zr S10 41 (upd (S10.1 41) ((a3 + a1)).toNatClampNeg ((S10.1 41 ((a3 + a1)).toNatClampNeg) - a2)))) (ws_41 (zr S10 41 (upd (S10.1 41) ((a3 + a1)).toNatClampNeg ((S10.1 41 ((a3 + a1)).toNatClampNeg) - a2))) (upd ((zr S10 41 (upd (S10.1 41) ((a3 + a1)).toNatClampNeg ((S10.1 41 ((a3 + a1)).toNatClampNeg) - a2))).1 41) ((a4 + a1)).toNatClampNeg (((zr S10 41 (upd (S10.1 41) ((a3 + a1)).toNatClampNeg ((S10.1 41 ((a3 + a1)).toNatClampNeg) - a2))).1 41 ((a4 + a1)).toNatClampNeg) + a2))) dX6_shift_63 ?_
        refine zv_aload_n dX6_shift_64 rfl rfl ?_
        refine zv_get zf_X6_38 (wo_31 (zr (zr S10 41 (upd (S10.1 41) ((a3 + a1)).toNatClampNeg ((S10.1 41 ((a3 + a1)).toNatClampNeg) - a2))) 41 (upd ((zr S10 41 (upd (S10.1 41) ((a3 + a1)).toNatClampNeg ((S10.1 41 ((a3 + a1)).toNatClampNeg) - a2))).1 41) ((a4 + a1)).toNatClampNeg (((zr S10 41 (upd (S10.1 41) ((a3 + a1)).toNatClampNeg ((S10.1 41 ((a3 + a1)).toNatClampNeg) - a2))).1 41 ((a4 + a1)).toNatClampNeg) + a2)))) rfl dX6_shift_65 ?_
        refine zv_iload dX6_shift_68 rfl ?_
        refine zv_iload_n dX6_shift_70 rfl rfl ?_
        refine zv_iadd dX6_shift_71 ?_
        obtain ⟨hb15, hf⟩ := zifb hf
        refine zv_iald hb15 (wo_41 (zr (zr S10 41 (upd (S10.1 41) ((a3 + a1)).toNatClampNeg ((S10.1 41 ((a3 + a1)).toNatClampNeg) - a2))) 41 (upd ((zr S10 41 (upd (S10.1 41) ((a3 + a1)).toNatClampNeg ((S10.1 41 ((a3 + a1)).toNatClampNeg) - a2))).1 41) ((a4 + a1)).toNatClampNeg (((zr S10 41 (upd (S10.1 41) ((a3 + a1)).toNatClampNeg ((S10.1 41 ((a3 + a1)).toNatClampNeg) - a2))).1 41 ((a4 + a1)).toNatClampNeg) + a2)))) dX6_shift_72 ?_
        exact zv_iret (ty := .int) dX6_shift_73 rfl rfl (zret2 wd hf)
      · replace hf := (if_neg c8).symm.trans hf
        refine zv_bipush (v := -2) dX6_shift_32 (by decide) ?_
        exact zv_iret (ty := .int) dX6_shift_34 rfl rfl (zret2 wd hf)
    · replace hf := (if_pos c6).symm.trans hf
      refine zv_iconst (v := -1) dX6_shift_18 (by decide) ?_
      exact zv_iret (ty := .int) dX6_shift_19 rfl rfl (zret2 wd hf)
-- KingPricesModel.hides(II)I height 3 writes
def f_X6_hides (S : zS) (a1 : Int32) (a2 : Int32) : Option (Int32 × zS) :=
  (zb2 (f_X6_shift S a1 a2 (4 : Int32) (10 : Int32)) (fun x2 S3 => some (x2, S3)))
set_option maxRecDepth 100000 in
set_option maxHeartbeats 4000000 in
theorem c_X6_hides  (d : Nat) (hd : 3 ≤ d) (S : zS) (a1 : Int32) (a2 : Int32) (v : Int32) (S' : zS) (hf : f_X6_hides S a1 a2 = (some (v, S'))) : zC d yX6_hides cX6_hides 3 (some .int) [.ref 31, .int a1, .int a2] (wd S) (zq (some (.int v)) (wd S')) := by
  obtain ⟨d, rfl⟩ : ∃ e, d = e + 1 := ⟨d - 1, by omega⟩
  refine zC_intro (by decide) rfl (Nat.le_of_ble_eq_true rfl) ?_
  unfold f_X6_hides at hf
  refine zv_aload_n dX6_hides_0 rfl rfl ?_
  refine zv_iload_n dX6_hides_1 rfl rfl ?_
  refine zv_iload_n dX6_hides_2 rfl rfl ?_
  refine zv_iconst (v := 4) dX6_hides_3 (by decide) ?_
  refine zv_bipush (v := 10) dX6_hides_4 (by decide) ?_
  obtain ⟨x2, S3, hc1, hf⟩ := zbind2 hf
  refine zv_callV dX6_hides_6 zk_X6_119 zm_X6_shift (c_X6_shift  d (by omega) S a1 a2 (4 : Int32) (10 : Int32) x2 S3 hc1) (wo_31 S) rfl rfl rfl (Nat.le_of_ble_eq_true rfl) ?_
  exact zv_iret (ty := .int) dX6_hides_9 rfl rfl (zret2 wd hf)
-- KingPricesModel.keep(I)I height 1 writes
def f_X6_keep_13  : Nat → zS → Int32 → Int32 → Option (Int32 × zS)
  | 0, _, _, _ => none
  | n + 1, S, a1, a2 => (if (309 : Int32) ≤ a2 then (if zin a1 2 then some (((zr S 42 (upd (S.1 42) (a1).toNatClampNeg (1 : Int32))).1 41 1), (zr S 42 (upd (S.1 42) (a1).toNatClampNeg (1 : Int32)))) else none) else (if zin a2 927 then (if zin (((309 : Int32) * ((1 : Int32) + a1)) + a2) 927 then f_X6_keep_13  n (zr S 41 (upd (S.1 41) ((((309 : Int32) * ((1 : Int32) + a1)) + a2)).toNatClampNeg (S.1 41 (a2).toNatClampNeg))) a1 (a2 + (1 : Int32)) else none) else none))
set_option maxRecDepth 100000 in
set_option maxHeartbeats 4000000 in
theorem v_X6_keep_13 (d : Nat) (hd : 0 ≤ d) : ∀ (n : Nat) (S : zS) (a1 : Int32) (a2 : Int32) (v : Int32) (S' : zS), f_X6_keep_13  n S a1 a2 = (some (v, S')) → zV none (d + 1) yX6_keep cX6_keep 3 (some .int) 13 [(0, .ref 31), (1, .int a1), (2, .int a2)] [] (wd S) (zq (some (.int v)) (wd S')) := by
  intro n
  induction n with
  | zero =>
    intro S a1 a2 v S' hf
    cases hf
  | succ n ih =>
    intro S a1 a2 v S' hf
    rw [f_X6_keep_13] at hf
    refine zv_iload_n dX6_keep_13 rfl rfl ?_
    refine zv_sipush (v := 309) dX6_keep_14 (by decide) ?_
    refine zv_icmp_ge (tgt := 46) dX6_keep_17 (by decide) (fun c1 => ?_) (fun c1 => ?_)
    · replace hf := (if_pos c1).symm.trans hf
      refine zv_aload_n dX6_keep_46 rfl rfl ?_
      refine zv_get zf_X6_41 (wo_31 S) rfl dX6_keep_47 ?_
      refine zv_iload_n dX6_keep_50 rfl rfl ?_
      refine zv_iconst (v := 1) dX6_keep_51 (by decide) ?_
      obtain ⟨hb2, hf⟩ := zifb hf
      refine zv_zastV (x' := 1) (by decide) hb2 (wo_42 S) (ws_42 S (upd (S.1 42) (a1).toNatClampNeg (1 : Int32))) dX6_keep_52 ?_
      refine zv_aload_n dX6_keep_53 rfl rfl ?_
      refine zv_get zf_X6_38 (wo_31 (zr S 42 (upd (S.1 42) (a1).toNatClampNeg (1 : Int32)))) rfl dX6_keep_54 ?_
      refine zv_iconst (v := 1) dX6_keep_57 (by decide) ?_
      refine zv_ialdK (k := 1) (by decide) (by decide) (wo_41 (zr S 42 (upd (S.1 42) (a1).toNatClampNeg (1 : Int32)))) dX6_keep_58 ?_
      exact zv_iret (ty := .int) dX6_keep_59 rfl rfl (zret2 wd hf)
    · replace hf := (if_neg c1).symm.trans hf
      refine zv_aload_n dX6_keep_20 rfl rfl ?_
      refine zv_get zf_X6_38 (wo_31 S) rfl dX6_keep_21 ?_
      refine zv_sipush (v := 309) dX6_keep_24 (by decide) ?_
      refine zv_iconst (v := 1) dX6_keep_27 (by decide) ?_
      refine zv_iload_n dX6_keep_28 rfl rfl ?_
      refine zv_iadd dX6_keep_29 ?_
      refine zv_imul dX6_keep_30 ?_
      refine zv_iload_n dX6_keep_31 rfl rfl ?_
      refine zv_iadd dX6_keep_32 ?_
      refine zv_aload_n dX6_keep_33 rfl rfl ?_
      refine zv_get zf_X6_38 (wo_31 S) rfl dX6_keep_34 ?_
      refine zv_iload_n dX6_keep_37 rfl rfl ?_
      obtain ⟨hb3, hf⟩ := zifb hf
      refine zv_iald hb3 (wo_41 S) dX6_keep_38 ?_
      obtain ⟨hb4, hf⟩ := zifb hf
      refine zv_iast hb4 (wo_41 S) (ws_41 S (upd (S.1 41) ((((309 : Int32) * ((1 : Int32) + a1)) + a2)).toNatClampNeg (S.1 41 (a2).toNatClampNeg))) dX6_keep_39 ?_
      refine zv_iinc (v := 1) dX6_keep_40 rfl (by decide) (by decide) ?_
      refine zv_goto (tgt := 13) dX6_keep_43 (by decide) ?_
      exact zV_sub ([(0, .ref 31), (1, .int a1), (2, .int (a2 + (1 : Int32)))]) ⟨rfl, rfl, rfl, trivial⟩ (ih (zr S 41 (upd (S.1 41) ((((309 : Int32) * ((1 : Int32) + a1)) + a2)).toNatClampNeg (S.1 41 (a2).toNatClampNeg))) a1 (a2 + (1 : Int32)) _ _ hf)
def f_X6_keep (S : zS) (a1 : Int32) : Option (Int32 × zS) :=
  ((f_X6_in a1 (0 : Int32) (1 : Int32)).bind (fun x2 => (if x2 = 0 then some ((-1 : Int32), S) else f_X6_keep_13 zN S a1 (0 : Int32))))
set_option maxRecDepth 100000 in
set_option maxHeartbeats 4000000 in
theorem c_X6_keep  (d : Nat) (hd : 1 ≤ d) (S : zS) (a1 : Int32) (v : Int32) (S' : zS) (hf : f_X6_keep S a1 = (some (v, S'))) : zC d yX6_keep cX6_keep 3 (some .int) [.ref 31, .int a1] (wd S) (zq (some (.int v)) (wd S')) := by
  obtain ⟨d, rfl⟩ : ∃ e, d = e + 1 := ⟨d - 1, by omega⟩
  refine zC_intro (by decide) rfl (Nat.le_of_ble_eq_true rfl) ?_
  unfold f_X6_keep at hf
  refine zv_iload_n dX6_keep_0 rfl rfl ?_
  refine zv_iconst (v := 0) dX6_keep_1 (by decide) ?_
  refine zv_iconst (v := 1) dX6_keep_2 (by decide) ?_
  obtain ⟨x2, hc1, hf⟩ := zbind hf
  refine zv_callS dX6_keep_3 zk_X6_54 zm_X6_in (c_X6_in  d a1 (0 : Int32) (1 : Int32) x2 hc1) rfl rfl (Nat.le_of_ble_eq_true rfl) ?_
  refine zv_if_ne (tgt := 11) dX6_keep_6 (by decide) (fun c3 => ?_) (fun c3 => ?_)
  · replace hf := (if_neg c3).symm.trans hf
    refine zv_iconst (v := 0) dX6_keep_11 (by decide) ?_
    refine zv_istore_n dX6_keep_12 rfl (by decide) ?_
    exact zV_sub ([(0, .ref 31), (1, .int a1), (2, .int (0 : Int32))]) ⟨rfl, rfl, rfl, trivial⟩ (v_X6_keep_13 d (by omega) zN S a1 (0 : Int32) _ _ hf)
  · replace hf := (if_pos c3).symm.trans hf
    refine zv_iconst (v := -1) dX6_keep_9 (by decide) ?_
    exact zv_iret (ty := .int) dX6_keep_10 rfl rfl (zret2 wd hf)
-- KingPricesModel.here()I height 0 reads
def f_X6_here (S : zS) : Option Int32 :=
  (if (S.1 31 2) ≤ (S.1 31 12) then some ((-1 : Int32)) else (if zin (S.1 31 12) 180 then some (((S.1 32 ((S.1 31 12)).toNatClampNeg) &&& (255 : Int32))) else none))
set_option maxRecDepth 100000 in
set_option maxHeartbeats 4000000 in
theorem c_X6_here  (d : Nat) (S : zS) (v : Int32) (hf : f_X6_here S = (some v)) : zC d yX6_here cX6_here 1 (some .int) [.ref 31] (wd S) (zq (some (.int v)) (wd S)) := by
  refine zC_intro (by decide) rfl (Nat.le_of_ble_eq_true rfl) ?_
  unfold f_X6_here at hf
  refine zv_aload_n dX6_here_0 rfl rfl ?_
  refine zv_get zf_X6_62 (wo_31 S) rfl dX6_here_1 ?_
  refine zv_aload_n dX6_here_4 rfl rfl ?_
  refine zv_get zf_X6_58 (wo_31 S) rfl dX6_here_5 ?_
  refine zv_icmp_ge (tgt := 27) dX6_here_8 (by decide) (fun c1 => ?_) (fun c1 => ?_)
  · replace hf := (if_pos c1).symm.trans hf
    refine zv_iconst (v := -1) dX6_here_27 (by decide) ?_
    exact zv_iret (ty := .int) dX6_here_28 rfl rfl (zret1 hf)
  · replace hf := (if_neg c1).symm.trans hf
    refine zv_aload_n dX6_here_11 rfl rfl ?_
    refine zv_get zf_X6_7 (wo_31 S) rfl dX6_here_12 ?_
    refine zv_aload_n dX6_here_15 rfl rfl ?_
    refine zv_get zf_X6_62 (wo_31 S) rfl dX6_here_16 ?_
    obtain ⟨hb2, hf⟩ := zifb hf
    refine zv_bald hb2 (wo_32 S) dX6_here_19 ?_
    refine zv_sipush (v := 255) dX6_here_20 (by decide) ?_
    refine zv_iand dX6_here_23 ?_
    refine zv_goto (tgt := 28) dX6_here_24 (by decide) ?_
    exact zv_iret (ty := .int) dX6_here_28 rfl rfl (zret1 hf)
-- KingPricesModel.step()V height 1 writes
def f_X6_step_63  : Nat → zS → Int32 → Option zS
  | 0, _, _ => none
  | n + 1, S, a1 => ((f_X6_here S).bind (fun x2 => ((f_X6_in x2 (97 : Int32) (122 : Int32)).bind (fun x4 => (if x4 = 0 then (if ((S.1 31 12) - (S.1 31 13)) = (1 : Int32) then some (zu S 31 14 a1) else some (zu S 31 14 (4 : Int32))) else f_X6_step_63  n (zu S 31 12 ((S.1 31 12) + (1 : Int32))) a1)))))
set_option maxRecDepth 100000 in
set_option maxHeartbeats 4000000 in
theorem v_X6_step_63 (d : Nat) (hd : 0 ≤ d) : ∀ (n : Nat) (S : zS) (a1 : Int32) (S' : zS), f_X6_step_63  n S a1 = (some S') → zV none (d + 1) yX6_step cX6_step 2 none 63 [(0, .ref 31), (1, .int a1)] [] (wd S) (zq none (wd S')) := by
  intro n
  induction n with
  | zero =>
    intro S a1 S' hf
    cases hf
  | succ n ih =>
    intro S a1 S' hf
    rw [f_X6_step_63] at hf
    refine zv_aload_n dX6_step_63 rfl rfl ?_
    obtain ⟨x2, hc1, hf⟩ := zbind hf
    refine zv_callV dX6_step_64 zk_X6_65 zm_X6_here (c_X6_here  d S x2 hc1) (wo_31 S) rfl rfl rfl (Nat.le_of_ble_eq_true rfl) ?_
    refine zv_bipush (v := 97) dX6_step_67 (by decide) ?_
    refine zv_bipush (v := 122) dX6_step_69 (by decide) ?_
    obtain ⟨x4, hc3, hf⟩ := zbind hf
    refine zv_callS dX6_step_71 zk_X6_54 zm_X6_in (c_X6_in  d x2 (97 : Int32) (122 : Int32) x4 hc3) rfl rfl (Nat.le_of_ble_eq_true rfl) ?_
    refine zv_if_eq (tgt := 90) dX6_step_74 (by decide) (fun c5 => ?_) (fun c5 => ?_)
    · replace hf := (if_pos c5).symm.trans hf
      refine zv_aload_n dX6_step_90 rfl rfl ?_
      refine zv_aload_n dX6_step_91 rfl rfl ?_
      refine zv_get zf_X6_62 (wo_31 S) rfl dX6_step_92 ?_
      refine zv_aload_n dX6_step_95 rfl rfl ?_
      refine zv_get zf_X6_69 (wo_31 S) rfl dX6_step_96 ?_
      refine zv_isub dX6_step_99 ?_
      refine zv_iconst (v := 1) dX6_step_100 (by decide) ?_
      refine zv_icmp_ne (tgt := 108) dX6_step_101 (by decide) (fun c6 => ?_) (fun c6 => ?_)
      · replace hf := (if_neg c6).symm.trans hf
        refine zv_iconst (v := 4) dX6_step_108 (by decide) ?_
        refine zv_put zp_X6_75 (wo_31 S) rfl (fun _ => ⟨rfl, rfl⟩) (Nat.le_of_ble_eq_true rfl) (wp_31_14 S (4 : Int32)) dX6_step_109 ?_
        refine zv_goto (tgt := 253) dX6_step_112 (by decide) ?_
        exact zv_vret dX6_step_253 rfl (zret0 wd hf)
      · replace hf := (if_pos c6).symm.trans hf
        refine zv_iload_n dX6_step_104 rfl rfl ?_
        refine zv_goto (tgt := 109) dX6_step_105 (by decide) ?_
        refine zv_put zp_X6_75 (wo_31 S) rfl (fun _ => ⟨rfl, rfl⟩) (Nat.le_of_ble_eq_true rfl) (wp_31_14 S a1) dX6_step_109 ?_
        refine zv_goto (tgt := 253) dX6_step_112 (by decide) ?_
        exact zv_vret dX6_step_253 rfl (zret0 wd hf)
    · replace hf := (if_neg c5).symm.trans hf
      refine zv_aload_n dX6_step_77 rfl rfl ?_
      refine zv_dup dX6_step_78 rfl ?_
      refine zv_get zf_X6_62 (wo_31 S) rfl dX6_step_79 ?_
      refine zv_iconst (v := 1) dX6_step_82 (by decide) ?_
      refine zv_iadd dX6_step_83 ?_
      refine zv_put zp_X6_62 (wo_31 S) rfl (fun _ => ⟨rfl, rfl⟩) (Nat.le_of_ble_eq_true rfl) (wp_31_12 S ((S.1 31 12) + (1 : Int32))) dX6_step_84 ?_
      refine zv_goto (tgt := 63) dX6_step_87 (by decide) ?_
      exact zV_sub ([(0, .ref 31), (1, .int a1)]) ⟨rfl, rfl, trivial⟩ (ih (zu S 31 12 ((S.1 31 12) + (1 : Int32))) a1 _ hf)
def f_X6_step_175 (k126 : zS → Int32 → Option zS) (S : zS) (a1 : Int32) : Option zS :=
  k126 (zu S 31 12 ((S.1 31 12) + (1 : Int32))) a1
set_option maxRecDepth 100000 in
set_option maxHeartbeats 4000000 in
theorem v_X6_step_175 (d : Nat) (hd : 0 ≤ d) (k126 : zS → Int32 → Option zS) (hk126 : ∀ (S : zS) (a1 : Int32) S', k126 S a1 = (some S') → zV none (d + 1) yX6_step cX6_step 2 none 126 [(0, .ref 31), (1, .int a1)] [] (wd S) (zq none (wd S'))) (S : zS) (a1 : Int32) (S' : zS) (hf : f_X6_step_175 k126 S a1 = (some S')) : zV none (d + 1) yX6_step cX6_step 2 none 175 [(0, .ref 31), (1, .int a1)] [] (wd S) (zq none (wd S')) := by
  unfold f_X6_step_175 at hf
  refine zv_aload_n dX6_step_175 rfl rfl ?_
  refine zv_dup dX6_step_176 rfl ?_
  refine zv_get zf_X6_62 (wo_31 S) rfl dX6_step_177 ?_
  refine zv_iconst (v := 1) dX6_step_180 (by decide) ?_
  refine zv_iadd dX6_step_181 ?_
  refine zv_put zp_X6_62 (wo_31 S) rfl (fun _ => ⟨rfl, rfl⟩) (Nat.le_of_ble_eq_true rfl) (wp_31_12 S ((S.1 31 12) + (1 : Int32))) dX6_step_182 ?_
  refine zv_goto (tgt := 126) dX6_step_185 (by decide) ?_
  exact zV_sub ([(0, .ref 31), (1, .int a1)]) ⟨rfl, rfl, trivial⟩ (hk126 (zu S 31 12 ((S.1 31 12) + (1 : Int32))) a1 _ hf)
def f_X6_step_126  : Nat → zS → Int32 → Option zS
  | 0, _, _ => none
  | n + 1, S, a1 => ((f_X6_here S).bind (fun x2 => ((f_X6_in x2 (48 : Int32) (57 : Int32)).bind (fun x4 => (if x4 = 0 then (if (99 : Int32) < (S.1 31 15) then some (zu S 31 14 (4 : Int32)) else (if a1 = (48 : Int32) then (if ((S.1 31 12) - (S.1 31 13)) ≤ (1 : Int32) then some (zu S 31 14 (1 : Int32)) else some (zu S 31 14 (4 : Int32))) else some (zu S 31 14 (1 : Int32)))) else (if (S.1 31 15) ≤ (99 : Int32) then ((f_X6_here S).bind (fun x11 => f_X6_step_175 (f_X6_step_126  n) (zu S 31 15 ((((10 : Int32) * (S.1 31 15)) + x11) - (48 : Int32))) a1)) else f_X6_step_175 (f_X6_step_126  n) (zu S 31 15 (S.1 31 15)) a1))))))
set_option maxRecDepth 100000 in
set_option maxHeartbeats 4000000 in
theorem v_X6_step_126 (d : Nat) (hd : 0 ≤ d) : ∀ (n : Nat) (S : zS) (a1 : Int32) (S' : zS), f_X6_step_126  n S a1 = (some S') → zV none (d + 1) yX6_step cX6_step 2 none 126 [(0, .ref 31), (1, .int a1)] [] (wd S) (zq none (wd S')) := by
  intro n
  induction n with
  | zero =>
    intro S a1 S' hf
    cases hf
  | succ n ih =>
    intro S a1 S' hf
    rw [f_X6_step_126] at hf
    refine zv_aload_n dX6_step_126 rfl rfl ?_
    obtain ⟨x2, hc1, hf⟩ := zbind hf
    refine zv_callV dX6_step_127 zk_X6_65 zm_X6_here (c_X6_here  d S x2 hc1) (wo_31 S) rfl rfl rfl (Nat.le_of_ble_eq_true rfl) ?_
    refine zv_bipush (v := 48) dX6_step_130 (by decide) ?_
    refine zv_bipush (v := 57) dX6_step_132 (by decide) ?_
    obtain ⟨x4, hc3, hf⟩ := zbind hf
    refine zv_callS dX6_step_134 zk_X6_54 zm_X6_in (c_X6_in  d x2 (48 : Int32) (57 : Int32) x4 hc3) rfl rfl (Nat.le_of_ble_eq_true rfl) ?_
    refine zv_if_eq (tgt := 188) dX6_step_137 (by decide) (fun c5 => ?_) (fun c5 => ?_)
    · replace hf := (if_pos c5).symm.trans hf
      refine zv_aload_n dX6_step_188 rfl rfl ?_
      refine zv_aload_n dX6_step_189 rfl rfl ?_
      refine zv_get zf_X6_72 (wo_31 S) rfl dX6_step_190 ?_
      refine zv_bipush (v := 99) dX6_step_193 (by decide) ?_
      refine zv_icmp_gt (tgt := 217) dX6_step_195 (by decide) (fun c6 => ?_) (fun c6 => ?_)
      · replace hf := (if_pos c6).symm.trans hf
        refine zv_iconst (v := 4) dX6_step_217 (by decide) ?_
        refine zv_goto (tgt := 222) dX6_step_218 (by decide) ?_
        refine zv_put zp_X6_75 (wo_31 S) rfl (fun _ => ⟨rfl, rfl⟩) (Nat.le_of_ble_eq_true rfl) (wp_31_14 S (4 : Int32)) dX6_step_222 ?_
        refine zv_goto (tgt := 253) dX6_step_225 (by decide) ?_
        exact zv_vret dX6_step_253 rfl (zret0 wd hf)
      · replace hf := (if_neg c6).symm.trans hf
        refine zv_iload_n dX6_step_198 rfl rfl ?_
        refine zv_bipush (v := 48) dX6_step_199 (by decide) ?_
        refine zv_icmp_ne (tgt := 221) dX6_step_201 (by decide) (fun c7 => ?_) (fun c7 => ?_)
        · replace hf := (if_neg c7).symm.trans hf
          refine zv_iconst (v := 1) dX6_step_221 (by decide) ?_
          refine zv_put zp_X6_75 (wo_31 S) rfl (fun _ => ⟨rfl, rfl⟩) (Nat.le_of_ble_eq_true rfl) (wp_31_14 S (1 : Int32)) dX6_step_222 ?_
          refine zv_goto (tgt := 253) dX6_step_225 (by decide) ?_
          exact zv_vret dX6_step_253 rfl (zret0 wd hf)
        · replace hf := (if_pos c7).symm.trans hf
          refine zv_aload_n dX6_step_204 rfl rfl ?_
          refine zv_get zf_X6_62 (wo_31 S) rfl dX6_step_205 ?_
          refine zv_aload_n dX6_step_208 rfl rfl ?_
          refine zv_get zf_X6_69 (wo_31 S) rfl dX6_step_209 ?_
          refine zv_isub dX6_step_212 ?_
          refine zv_iconst (v := 1) dX6_step_213 (by decide) ?_
          refine zv_icmp_le (tgt := 221) dX6_step_214 (by decide) (fun c8 => ?_) (fun c8 => ?_)
          · replace hf := (if_pos c8).symm.trans hf
            refine zv_iconst (v := 1) dX6_step_221 (by decide) ?_
            refine zv_put zp_X6_75 (wo_31 S) rfl (fun _ => ⟨rfl, rfl⟩) (Nat.le_of_ble_eq_true rfl) (wp_31_14 S (1 : Int32)) dX6_step_222 ?_
            refine zv_goto (tgt := 253) dX6_step_225 (by decide) ?_
            exact zv_vret dX6_step_253 rfl (zret0 wd hf)
          · replace hf := (if_neg c8).symm.trans hf
            refine zv_iconst (v := 4) dX6_step_217 (by decide) ?_
            refine zv_goto (tgt := 222) dX6_step_218 (by decide) ?_
            refine zv_put zp_X6_75 (wo_31 S) rfl (fun _ => ⟨rfl, rfl⟩) (Nat.le_of_ble_eq_true rfl) (wp_31_14 S (4 : Int32)) dX6_step_222 ?_
            refine zv_goto (tgt := 253) dX6_step_225 (by decide) ?_
            exact zv_vret dX6_step_253 rfl (zret0 wd hf)
    · replace hf := (if_neg c5).symm.trans hf
      refine zv_aload_n dX6_step_140 rfl rfl ?_
      refine zv_aload_n dX6_step_141 rfl rfl ?_
      refine zv_get zf_X6_72 (wo_31 S) rfl dX6_step_142 ?_
      refine zv_bipush (v := 99) dX6_step_145 (by decide) ?_
      refine zv_icmp_le (tgt := 157) dX6_step_147 (by decide) (fun c9 => ?_) (fun c9 => ?_)
      · replace hf := (if_pos c9).symm.trans hf
        refine zv_bipush (v := 10) dX6_step_157 (by decide) ?_
        refine zv_aload_n dX6_step_159 rfl rfl ?_
        refine zv_get zf_X6_72 (wo_31 S) rfl dX6_step_160 ?_
        refine zv_imul dX6_step_163 ?_
        refine zv_aload_n dX6_step_164 rfl rfl ?_
        obtain ⟨x11, hc10, hf⟩ := zbind hf
        refine zv_callV dX6_step_165 zk_X6_65 zm_X6_here (c_X6_here  d S x11 hc10) (wo_31 S) rfl rfl rfl (Nat.le_of_ble_eq_true rfl) ?_
        refine zv_iadd dX6_step_168 ?_
        refine zv_bipush (v := 48) dX6_step_169 (by decide) ?_
        refine zv_isub dX6_step_171 ?_
        refine zv_put zp_X6_72 (wo_31 S) rfl (fun _ => ⟨rfl, rfl⟩) (Nat.le_of_ble_eq_true rfl) (wp_31_15 S ((((10 : Int32) * (S.1 31 15)) + x11) - (48 : Int32))) dX6_step_172 ?_
        exact zV_sub ([(0, .ref 31), (1, .int a1)]) ⟨rfl, rfl, trivial⟩ (v_X6_step_175 d (by omega) (f_X6_step_126  n) ih (zu S 31 15 ((((10 : Int32) * (S.1 31 15)) + x11) - (48 : Int32))) a1 _ hf)
      · replace hf := (if_neg c9).symm.trans hf
        refine zv_aload_n dX6_step_150 rfl rfl ?_
        refine zv_get zf_X6_72 (wo_31 S) rfl dX6_step_151 ?_
        refine zv_goto (tgt := 172) dX6_step_154 (by decide) ?_
        refine zv_put zp_X6_72 (wo_31 S) rfl (fun _ => ⟨rfl, rfl⟩) (Nat.le_of_ble_eq_true rfl) (wp_31_15 S (S.1 31 15)) dX6_step_172 ?_
        exact zV_sub ([(0, .ref 31), (1, .int a1)]) ⟨rfl, rfl, trivial⟩ (v_X6_step_175 d (by omega) (f_X6_step_126  n) ih (zu S 31 15 (S.1 31 15)) a1 _ hf)
def f_X6_step_0  : Nat → zS → Option zS
  | 0, _ => none
  | n + 1, S => ((f_X6_here S).bind (fun x2 => (if x2 = (32 : Int32) then f_X6_step_0  n (zu S 31 12 ((S.1 31 12) + (1 : Int32))) else ((f_X6_here (zu (zu S 31 13 (S.1 31 12)) 31 15 (0 : Int32))).bind (fun x5 => (if 0 ≤ x5 then ((f_X6_in x5 (97 : Int32) (122 : Int32)).bind (fun x8 => (if x8 = 0 then ((f_X6_in x5 (48 : Int32) (57 : Int32)).bind (fun x11 => (if x11 = 0 then (if x5 = (59 : Int32) then some (zu (zu (zu (zu S 31 13 (S.1 31 12)) 31 15 (0 : Int32)) 31 12 (((zu (zu S 31 13 (S.1 31 12)) 31 15 (0 : Int32)).1 31 12) + (1 : Int32))) 31 14 (2 : Int32)) else some (zu (zu (zu (zu S 31 13 (S.1 31 12)) 31 15 (0 : Int32)) 31 12 (((zu (zu S 31 13 (S.1 31 12)) 31 15 (0 : Int32)).1 31 12) + (1 : Int32))) 31 14 (4 : Int32))) else f_X6_step_126 zN (zu (zu S 31 13 (S.1 31 12)) 31 15 (0 : Int32)) x5))) else f_X6_step_63 zN (zu (zu S 31 13 (S.1 31 12)) 31 15 (0 : Int32)) x5))) else some (zu (zu (zu S 31 13 (S.1 31 12)) 31 15 (0 : Int32)) 31 14 (3 : Int32))))))))
set_option maxRecDepth 100000 in
set_option maxHeartbeats 4000000 in
theorem v_X6_step_0 (d : Nat) (hd : 0 ≤ d) : ∀ (n : Nat) (S : zS) (S' : zS), f_X6_step_0  n S = (some S') → zV none (d + 1) yX6_step cX6_step 2 none 0 [(0, .ref 31)] [] (wd S) (zq none (wd S')) := by
  intro n
  induction n with
  | zero =>
    intro S S' hf
    cases hf
  | succ n ih =>
    intro S S' hf
    rw [f_X6_step_0] at hf
    refine zv_aload_n dX6_step_0 rfl rfl ?_
    obtain ⟨x2, hc1, hf⟩ := zbind hf
    refine zv_callV dX6_step_1 zk_X6_65 zm_X6_here (c_X6_here  d S x2 hc1) (wo_31 S) rfl rfl rfl (Nat.le_of_ble_eq_true rfl) ?_
    refine zv_bipush (v := 32) dX6_step_4 (by decide) ?_
    refine zv_icmp_ne (tgt := 22) dX6_step_6 (by decide) (fun c3 => ?_) (fun c3 => ?_)
    · replace hf := (if_neg c3).symm.trans hf
      refine zv_aload_n dX6_step_22 rfl rfl ?_
      refine zv_aload_n dX6_step_23 rfl rfl ?_
      refine zv_get zf_X6_62 (wo_31 S) rfl dX6_step_24 ?_
      refine zv_put zp_X6_69 (wo_31 S) rfl (fun _ => ⟨rfl, rfl⟩) (Nat.le_of_ble_eq_true rfl) (wp_31_13 S (S.1 31 12)) dX6_step_27 ?_
      refine zv_aload_n dX6_step_30 rfl rfl ?_
      refine zv_iconst (v := 0) dX6_step_31 (by decide) ?_
      refine zv_put zp_X6_72 (wo_31 (zu S 31 13 (S.1 31 12))) rfl (fun _ => ⟨rfl, rfl⟩) (Nat.le_of_ble_eq_true rfl) (wp_31_15 (zu S 31 13 (S.1 31 12)) (0 : Int32)) dX6_step_32 ?_
      refine zv_aload_n dX6_step_35 rfl rfl ?_
      obtain ⟨x5, hc4, hf⟩ := zbind hf
      refine zv_callV dX6_step_36 zk_X6_65 zm_X6_here (c_X6_here  d (zu (zu S 31 13 (S.1 31 12)) 31 15 (0 : Int32)) x5 hc4) (wo_31 (zu (zu S 31 13 (S.1 31 12)) 31 15 (0 : Int32))) rfl rfl rfl (Nat.le_of_ble_eq_true rfl) ?_
      refine zv_istore_n dX6_step_39 rfl (by decide) ?_
      refine zv_iload_n dX6_step_40 rfl rfl ?_
      refine zv_if_ge (tgt := 52) dX6_step_41 (by decide) (fun c6 => ?_) (fun c6 => ?_)
      · replace hf := (if_pos c6).symm.trans hf
        refine zv_iload_n dX6_step_52 rfl rfl ?_
        refine zv_bipush (v := 97) dX6_step_53 (by decide) ?_
        refine zv_bipush (v := 122) dX6_step_55 (by decide) ?_
        obtain ⟨x8, hc7, hf⟩ := zbind hf
        refine zv_callS dX6_step_57 zk_X6_54 zm_X6_in (c_X6_in  d x5 (97 : Int32) (122 : Int32) x8 hc7) rfl rfl (Nat.le_of_ble_eq_true rfl) ?_
        refine zv_if_eq (tgt := 115) dX6_step_60 (by decide) (fun c9 => ?_) (fun c9 => ?_)
        · replace hf := (if_pos c9).symm.trans hf
          refine zv_iload_n dX6_step_115 rfl rfl ?_
          refine zv_bipush (v := 48) dX6_step_116 (by decide) ?_
          refine zv_bipush (v := 57) dX6_step_118 (by decide) ?_
          obtain ⟨x11, hc10, hf⟩ := zbind hf
          refine zv_callS dX6_step_120 zk_X6_54 zm_X6_in (c_X6_in  d x5 (48 : Int32) (57 : Int32) x11 hc10) rfl rfl (Nat.le_of_ble_eq_true rfl) ?_
          refine zv_if_eq (tgt := 228) dX6_step_123 (by decide) (fun c12 => ?_) (fun c12 => ?_)
          · replace hf := (if_pos c12).symm.trans hf
            refine zv_aload_n dX6_step_228 rfl rfl ?_
            refine zv_dup dX6_step_229 rfl ?_
            refine zv_get zf_X6_62 (wo_31 (zu (zu S 31 13 (S.1 31 12)) 31 15 (0 : Int32))) rfl dX6_step_230 ?_
            refine zv_iconst (v := 1) dX6_step_233 (by decide) ?_
            refine zv_iadd dX6_step_234 ?_
            refine zv_put zp_X6_62 (wo_31 (zu (zu S 31 13 (S.1 31 12)) 31 15 (0 : Int32))) rfl (fun _ => ⟨rfl, rfl⟩) (Nat.le_of_ble_eq_true rfl) (wp_31_12 (zu (zu S 31 13 (S.1 31 12)) 31 15 (0 : Int32)) (((zu (zu S 31 13 (S.1 31 12)) 31 15 (0 : Int32)).1 31 12) + (1 : Int32))) dX6_step_235 ?_
            refine zv_aload_n dX6_step_238 rfl rfl ?_
            refine zv_iload_n dX6_step_239 rfl rfl ?_
            refine zv_bipush (v := 59) dX6_step_240 (by decide) ?_
            refine zv_icmp_ne (tgt := 249) dX6_step_242 (by decide) (fun c13 => ?_) (fun c13 => ?_)
            · replace hf := (if_neg c13).symm.trans hf
              refine zv_iconst (v := 4) dX6_step_249 (by decide) ?_
              refine zv_put zp_X6_75 (wo_31 (zu (zu (zu S 31 13 (S.1 31 12)) 31 15 (0 : Int32)) 31 12 (((zu (zu S 31 13 (S.1 31 12)) 31 15 (0 : Int32)).1 31 12) + (1 : Int32)))) rfl (fun _ => ⟨rfl, rfl⟩) (Nat.le_of_ble_eq_true rfl) (wp_31_14 (zu (zu (zu S 31 13 (S.1 31 12)) 31 15 (0 : Int32)) 31 12 (((zu (zu S 31 13 (S.1 31 12)) 31 15 (0 : Int32)).1 31 12) + (1 : Int32))) (4 : Int32)) dX6_step_250 ?_
              exact zv_vret dX6_step_253 rfl (zret0 wd hf)
            · replace hf := (if_pos c13).symm.trans hf
              refine zv_iconst (v := 2) dX6_step_245 (by decide) ?_
              refine zv_goto (tgt := 250) dX6_step_246 (by decide) ?_
              refine zv_put zp_X6_75 (wo_31 (zu (zu (zu S 31 13 (S.1 31 12)) 31 15 (0 : Int32)) 31 12 (((zu (zu S 31 13 (S.1 31 12)) 31 15 (0 : Int32)).1 31 12) + (1 : Int32)))) rfl (fun _ => ⟨rfl, rfl⟩) (Nat.le_of_ble_eq_true rfl) (wp_31_14 (zu (zu (zu S 31 13 (S.1 31 12)) 31 15 (0 : Int32)) 31 12 (((zu (zu S 31 13 (S.1 31 12)) 31 15 (0 : Int32)).1 31 12) + (1 : Int32))) (2 : Int32)) dX6_step_250 ?_
              exact zv_vret dX6_step_253 rfl (zret0 wd hf)
          · replace hf := (if_neg c12).symm.trans hf
            exact zV_sub ([(0, .ref 31), (1, .int x5)]) ⟨rfl, rfl, trivial⟩ (v_X6_step_126 d (by omega) zN (zu (zu S 31 13 (S.1 31 12)) 31 15 (0 : Int32)) x5 _ hf)
        · replace hf := (if_neg c9).symm.trans hf
          exact zV_sub ([(0, .ref 31), (1, .int x5)]) ⟨rfl, rfl, trivial⟩ (v_X6_step_63 d (by omega) zN (zu (zu S 31 13 (S.1 31 12)) 31 15 (0 : Int32)) x5 _ hf)
      · replace hf := (if_neg c6).symm.trans hf
        refine zv_aload_n dX6_step_44 rfl rfl ?_
        refine zv_iconst (v := 3) dX6_step_45 (by decide) ?_
        refine zv_put zp_X6_75 (wo_31 (zu (zu S 31 13 (S.1 31 12)) 31 15 (0 : Int32))) rfl (fun _ => ⟨rfl, rfl⟩) (Nat.le_of_ble_eq_true rfl) (wp_31_14 (zu (zu S 31 13 (S.1 31 12)) 31 15 (0 : Int32)) (3 : Int32)) dX6_step_46 ?_
        refine zv_goto (tgt := 253) dX6_step_49 (by decide) ?_
        exact zv_vret dX6_step_253 rfl (zret0 wd hf)
    · replace hf := (if_pos c3).symm.trans hf
      refine zv_aload_n dX6_step_9 rfl rfl ?_
      refine zv_dup dX6_step_10 rfl ?_
      refine zv_get zf_X6_62 (wo_31 S) rfl dX6_step_11 ?_
      refine zv_iconst (v := 1) dX6_step_14 (by decide) ?_
      refine zv_iadd dX6_step_15 ?_
      refine zv_put zp_X6_62 (wo_31 S) rfl (fun _ => ⟨rfl, rfl⟩) (Nat.le_of_ble_eq_true rfl) (wp_31_12 S ((S.1 31 12) + (1 : Int32))) dX6_step_16 ?_
      refine zv_goto (tgt := 0) dX6_step_19 (by decide) ?_
      exact zV_sub ([(0, .ref 31)]) ⟨rfl, trivial⟩ (ih (zu S 31 12 ((S.1 31 12) + (1 : Int32))) _ hf)
def f_X6_step (S : zS) : Option zS :=
  f_X6_step_0 zN S
set_option maxRecDepth 100000 in
set_option maxHeartbeats 4000000 in
theorem c_X6_step  (d : Nat) (hd : 1 ≤ d) (S : zS) (S' : zS) (hf : f_X6_step S = (some S')) : zC d yX6_step cX6_step 2 none [.ref 31] (wd S) (zq none (wd S')) := by
  obtain ⟨d, rfl⟩ : ∃ e, d = e + 1 := ⟨d - 1, by omega⟩
  refine zC_intro (by decide) rfl (Nat.le_of_ble_eq_true rfl) ?_
  unfold f_X6_step at hf
  exact zV_sub ([(0, .ref 31)]) ⟨rfl, trivial⟩ (v_X6_step_0 d (by omega) zN S _ hf)
-- KingPricesModel.due(Z)I height 2 writes
def f_X6_due (S : zS) (a1 : Int32) : Option (Int32 × zS) :=
  (if (S.1 31 16) = (-9 : Int32) then (if a1 = 0 then some ((S.1 31 15), (zu S 31 16 (S.1 31 13))) else ((f_X6_step S).bind (fun S4 => some ((S.1 31 15), S4)))) else some ((S.1 31 15), S))
set_option maxRecDepth 100000 in
set_option maxHeartbeats 4000000 in
theorem c_X6_due  (d : Nat) (hd : 2 ≤ d) (S : zS) (a1 : Int32) (v : Int32) (S' : zS) (hf : f_X6_due S a1 = (some (v, S'))) : zC d yX6_due cX6_due 3 (some .int) [.ref 31, .int a1] (wd S) (zq (some (.int v)) (wd S')) := by
  obtain ⟨d, rfl⟩ : ∃ e, d = e + 1 := ⟨d - 1, by omega⟩
  refine zC_intro (by decide) rfl (Nat.le_of_ble_eq_true rfl) ?_
  unfold f_X6_due at hf
  refine zv_aload_n dX6_due_0 rfl rfl ?_
  refine zv_get zf_X6_72 (wo_31 S) rfl dX6_due_1 ?_
  refine zv_istore_n dX6_due_4 rfl (by decide) ?_
  refine zv_aload_n dX6_due_5 rfl rfl ?_
  refine zv_get zf_X6_78 (wo_31 S) rfl dX6_due_6 ?_
  refine zv_bipush (v := -9) dX6_due_9 (by decide) ?_
  refine zv_icmp_ne (tgt := 33) dX6_due_11 (by decide) (fun c1 => ?_) (fun c1 => ?_)
  · replace hf := (if_neg c1).symm.trans hf
    refine zv_iload_n dX6_due_33 rfl rfl ?_
    exact zv_iret (ty := .int) dX6_due_34 rfl rfl (zret2 wd hf)
  · replace hf := (if_pos c1).symm.trans hf
    refine zv_iload_n dX6_due_14 rfl rfl ?_
    refine zv_if_eq (tgt := 25) dX6_due_15 (by decide) (fun c2 => ?_) (fun c2 => ?_)
    · replace hf := (if_pos c2).symm.trans hf
      refine zv_aload_n dX6_due_25 rfl rfl ?_
      refine zv_aload_n dX6_due_26 rfl rfl ?_
      refine zv_get zf_X6_69 (wo_31 S) rfl dX6_due_27 ?_
      refine zv_put zp_X6_78 (wo_31 S) rfl (fun _ => ⟨rfl, rfl⟩) (Nat.le_of_ble_eq_true rfl) (wp_31_16 S (S.1 31 13)) dX6_due_30 ?_
      refine zv_iload_n dX6_due_33 rfl rfl ?_
      exact zv_iret (ty := .int) dX6_due_34 rfl rfl (zret2 wd hf)
    · replace hf := (if_neg c2).symm.trans hf
      refine zv_aload_n dX6_due_18 rfl rfl ?_
      obtain ⟨S4, hc3, hf⟩ := zbind hf
      refine zv_callV dX6_due_19 zk_X6_81 zm_X6_step (c_X6_step  d (by omega) S S4 hc3) (wo_31 S) rfl rfl rfl (Nat.le_of_ble_eq_true rfl) ?_
      refine zv_goto (tgt := 33) dX6_due_22 (by decide) ?_
      refine zv_iload_n dX6_due_33 rfl rfl ?_
      exact zv_iret (ty := .int) dX6_due_34 rfl rfl (zret2 wd hf)
-- KingPricesModel.mayBe(I)Z height 0 reads
def f_X6_mayBe (S : zS) (a1 : Int32) : Option Int32 :=
  (if a1 = 98 then (if ((S.1 31 11) &&& (4 : Int32)) = 0 then some ((1 : Int32)) else some ((0 : Int32))) else (if a1 = 100 then some ((1 : Int32)) else (if a1 = 109 then (if ((S.1 31 11) &&& (1 : Int32)) = 0 then some ((1 : Int32)) else some ((0 : Int32))) else (if a1 = 114 then (if (10 : Int32) ≤ (S.1 37 1) then some ((0 : Int32)) else some ((1 : Int32))) else (if a1 = 118 then (if (6 : Int32) ≤ (S.1 33 1) then some ((0 : Int32)) else some ((1 : Int32))) else (if a1 = 119 then (if ((S.1 31 11) &&& (2 : Int32)) = 0 then some ((1 : Int32)) else some ((0 : Int32))) else some ((0 : Int32))))))))
set_option maxRecDepth 100000 in
set_option maxHeartbeats 4000000 in
theorem c_X6_mayBe  (d : Nat) (S : zS) (a1 : Int32) (v : Int32) (hf : f_X6_mayBe S a1 = (some v)) : zC d yX6_mayBe cX6_mayBe 2 (some .boolean) [.ref 31, .int a1] (wd S) (zq (some (.int v)) (wd S)) := by
  refine zC_intro (by decide) rfl (Nat.le_of_ble_eq_true rfl) ?_
  unfold f_X6_mayBe at hf
  refine zv_iload_n dX6_mayBe_0 rfl rfl ?_
  by_cases c1 : a1 = 98
  · replace hf := (if_pos c1).symm.trans hf
    refine zv_lookup (off := 125) (tgt := 126) dX6_mayBe_1 (by decide) (by rw [c1]; decide) (by decide) ?_
    refine zv_aload_n dX6_mayBe_126 rfl rfl ?_
    refine zv_get zf_X6_88 (wo_31 S) rfl dX6_mayBe_127 ?_
    refine zv_iconst (v := 4) dX6_mayBe_130 (by decide) ?_
    refine zv_iand dX6_mayBe_131 ?_
    refine zv_if_ne (tgt := 139) dX6_mayBe_132 (by decide) (fun c2 => ?_) (fun c2 => ?_)
    · replace hf := (if_neg c2).symm.trans hf
      refine zv_iconst (v := 0) dX6_mayBe_139 (by decide) ?_
      exact zv_iret (ty := .boolean) dX6_mayBe_140 rfl rfl (zret1 hf)
    · replace hf := (if_pos c2).symm.trans hf
      refine zv_iconst (v := 1) dX6_mayBe_135 (by decide) ?_
      refine zv_goto (tgt := 140) dX6_mayBe_136 (by decide) ?_
      exact zv_iret (ty := .boolean) dX6_mayBe_140 rfl rfl (zret1 hf)
  replace hf := (if_neg c1).symm.trans hf
  by_cases c3 : a1 = 100
  · replace hf := (if_pos c3).symm.trans hf
    refine zv_lookup (off := 93) (tgt := 94) dX6_mayBe_1 (by decide) (by rw [c3]; decide) (by decide) ?_
    refine zv_iconst (v := 1) dX6_mayBe_94 (by decide) ?_
    exact zv_iret (ty := .boolean) dX6_mayBe_95 rfl rfl (zret1 hf)
  replace hf := (if_neg c3).symm.trans hf
  by_cases c4 : a1 = 109
  · replace hf := (if_pos c4).symm.trans hf
    refine zv_lookup (off := 95) (tgt := 96) dX6_mayBe_1 (by decide) (by rw [c4]; decide) (by decide) ?_
    refine zv_aload_n dX6_mayBe_96 rfl rfl ?_
    refine zv_get zf_X6_88 (wo_31 S) rfl dX6_mayBe_97 ?_
    refine zv_iconst (v := 1) dX6_mayBe_100 (by decide) ?_
    refine zv_iand dX6_mayBe_101 ?_
    refine zv_if_ne (tgt := 109) dX6_mayBe_102 (by decide) (fun c5 => ?_) (fun c5 => ?_)
    · replace hf := (if_neg c5).symm.trans hf
      refine zv_iconst (v := 0) dX6_mayBe_109 (by decide) ?_
      exact zv_iret (ty := .boolean) dX6_mayBe_110 rfl rfl (zret1 hf)
    · replace hf := (if_pos c5).symm.trans hf
      refine zv_iconst (v := 1) dX6_mayBe_105 (by decide) ?_
      refine zv_goto (tgt := 110) dX6_mayBe_106 (by decide) ?_
      exact zv_iret (ty := .boolean) dX6_mayBe_110 rfl rfl (zret1 hf)
  replace hf := (if_neg c4).symm.trans hf
  by_cases c6 : a1 = 114
  · replace hf := (if_pos c6).symm.trans hf
    refine zv_lookup (off := 76) (tgt := 77) dX6_mayBe_1 (by decide) (by rw [c6]; decide) (by decide) ?_
    refine zv_aload_n dX6_mayBe_77 rfl rfl ?_
    refine zv_get zf_X6_26 (wo_31 S) rfl dX6_mayBe_78 ?_
    refine zv_iconst (v := 1) dX6_mayBe_81 (by decide) ?_
    refine zv_ialdK (k := 1) (by decide) (by decide) (wo_37 S) dX6_mayBe_82 ?_
    refine zv_bipush (v := 10) dX6_mayBe_83 (by decide) ?_
    refine zv_icmp_ge (tgt := 92) dX6_mayBe_85 (by decide) (fun c7 => ?_) (fun c7 => ?_)
    · replace hf := (if_pos c7).symm.trans hf
      refine zv_iconst (v := 0) dX6_mayBe_92 (by decide) ?_
      exact zv_iret (ty := .boolean) dX6_mayBe_93 rfl rfl (zret1 hf)
    · replace hf := (if_neg c7).symm.trans hf
      refine zv_iconst (v := 1) dX6_mayBe_88 (by decide) ?_
      refine zv_goto (tgt := 93) dX6_mayBe_89 (by decide) ?_
      exact zv_iret (ty := .boolean) dX6_mayBe_93 rfl rfl (zret1 hf)
  replace hf := (if_neg c6).symm.trans hf
  by_cases c8 : a1 = 118
  · replace hf := (if_pos c8).symm.trans hf
    refine zv_lookup (off := 59) (tgt := 60) dX6_mayBe_1 (by decide) (by rw [c8]; decide) (by decide) ?_
    refine zv_aload_n dX6_mayBe_60 rfl rfl ?_
    refine zv_get zf_X6_13 (wo_31 S) rfl dX6_mayBe_61 ?_
    refine zv_iconst (v := 1) dX6_mayBe_64 (by decide) ?_
    refine zv_ialdK (k := 1) (by decide) (by decide) (wo_33 S) dX6_mayBe_65 ?_
    refine zv_bipush (v := 6) dX6_mayBe_66 (by decide) ?_
    refine zv_icmp_ge (tgt := 75) dX6_mayBe_68 (by decide) (fun c9 => ?_) (fun c9 => ?_)
    · replace hf := (if_pos c9).symm.trans hf
      refine zv_iconst (v := 0) dX6_mayBe_75 (by decide) ?_
      exact zv_iret (ty := .boolean) dX6_mayBe_76 rfl rfl (zret1 hf)
    · replace hf := (if_neg c9).symm.trans hf
      refine zv_iconst (v := 1) dX6_mayBe_71 (by decide) ?_
      refine zv_goto (tgt := 76) dX6_mayBe_72 (by decide) ?_
      exact zv_iret (ty := .boolean) dX6_mayBe_76 rfl rfl (zret1 hf)
  replace hf := (if_neg c8).symm.trans hf
  by_cases c10 : a1 = 119
  · replace hf := (if_pos c10).symm.trans hf
    refine zv_lookup (off := 110) (tgt := 111) dX6_mayBe_1 (by decide) (by rw [c10]; decide) (by decide) ?_
    refine zv_aload_n dX6_mayBe_111 rfl rfl ?_
    refine zv_get zf_X6_88 (wo_31 S) rfl dX6_mayBe_112 ?_
    refine zv_iconst (v := 2) dX6_mayBe_115 (by decide) ?_
    refine zv_iand dX6_mayBe_116 ?_
    refine zv_if_ne (tgt := 124) dX6_mayBe_117 (by decide) (fun c11 => ?_) (fun c11 => ?_)
    · replace hf := (if_neg c11).symm.trans hf
      refine zv_iconst (v := 0) dX6_mayBe_124 (by decide) ?_
      exact zv_iret (ty := .boolean) dX6_mayBe_125 rfl rfl (zret1 hf)
    · replace hf := (if_pos c11).symm.trans hf
      refine zv_iconst (v := 1) dX6_mayBe_120 (by decide) ?_
      refine zv_goto (tgt := 125) dX6_mayBe_121 (by decide) ?_
      exact zv_iret (ty := .boolean) dX6_mayBe_125 rfl rfl (zret1 hf)
  replace hf := (if_neg c10).symm.trans hf
  refine zv_lookup (off := 140) (tgt := 141) dX6_mayBe_1 (by decide) ((lv_osw c1 (by decide)).trans ((lv_osw c3 (by decide)).trans ((lv_osw c4 (by decide)).trans ((lv_osw c6 (by decide)).trans ((lv_osw c8 (by decide)).trans ((lv_osw c10 (by decide)).trans rfl)))))) (by decide) ?_
  refine zv_iconst (v := 0) dX6_mayBe_141 (by decide) ?_
  exact zv_iret (ty := .boolean) dX6_mayBe_142 rfl rfl (zret1 hf)
-- KingPricesModel.plain()V height 0 writes
def f_X6_plain_76 (k43 : zS → Int32 → Option zS) (S : zS) (a1 : Int32) : Option zS :=
  (if zin ((36 : Int32) + a1) 72 then k43 (zr S 39 (upd (S.1 39) (((36 : Int32) + a1)).toNatClampNeg (0 : Int32))) (a1 + (1 : Int32)) else none)
set_option maxRecDepth 100000 in
set_option maxHeartbeats 4000000 in
theorem v_X6_plain_76 (d : Nat) (k43 : zS → Int32 → Option zS) (hk43 : ∀ (S : zS) (a1 : Int32) S', k43 S a1 = (some S') → zV none d yX6_plain cX6_plain 2 none 43 [(0, .ref 31), (1, .int a1)] [] (wd S) (zq none (wd S'))) (S : zS) (a1 : Int32) (S' : zS) (hf : f_X6_plain_76 k43 S a1 = (some S')) : zV none d yX6_plain cX6_plain 2 none 76 [(0, .ref 31), (1, .int a1)] [] (wd S) (zq none (wd S')) := by
  unfold f_X6_plain_76 at hf
  refine zv_aload_n dX6_plain_76 rfl rfl ?_
  refine zv_get zf_X6_32 (wo_31 S) rfl dX6_plain_77 ?_
  refine zv_bipush (v := 36) dX6_plain_80 (by decide) ?_
  refine zv_iload_n dX6_plain_82 rfl rfl ?_
  refine zv_iadd dX6_plain_83 ?_
  refine zv_iconst (v := 0) dX6_plain_84 (by decide) ?_
  obtain ⟨hb1, hf⟩ := zifb hf
  refine zv_iast hb1 (wo_39 S) (ws_39 S (upd (S.1 39) (((36 : Int32) + a1)).toNatClampNeg (0 : Int32))) dX6_plain_85 ?_
  refine zv_iinc (v := 1) dX6_plain_86 rfl (by decide) (by decide) ?_
  refine zv_goto (tgt := 43) dX6_plain_89 (by decide) ?_
  exact zV_sub ([(0, .ref 31), (1, .int (a1 + (1 : Int32)))]) ⟨rfl, rfl, trivial⟩ (hk43 (zr S 39 (upd (S.1 39) (((36 : Int32) + a1)).toNatClampNeg (0 : Int32))) (a1 + (1 : Int32)) _ hf)
def f_X6_plain_43  : Nat → zS → Int32 → Option zS
  | 0, _, _ => none
  | n + 1, S, a1 => (if (36 : Int32) ≤ a1 then some S else (if (a1 / (6 : Int32)) = (a1 - a1 / (6 : Int32) * (6 : Int32)) then (if zin ((36 : Int32) + a1) 72 then f_X6_plain_76 (f_X6_plain_43  n) (zr S 38 (upd (S.1 38) (((36 : Int32) + a1)).toNatClampNeg (0 : Int32))) a1 else none) else (if zin ((36 : Int32) + a1) 72 then f_X6_plain_76 (f_X6_plain_43  n) (zr S 38 (upd (S.1 38) (((36 : Int32) + a1)).toNatClampNeg (1000 : Int32))) a1 else none)))
set_option maxRecDepth 100000 in
set_option maxHeartbeats 4000000 in
theorem v_X6_plain_43 (d : Nat) : ∀ (n : Nat) (S : zS) (a1 : Int32) (S' : zS), f_X6_plain_43  n S a1 = (some S') → zV none d yX6_plain cX6_plain 2 none 43 [(0, .ref 31), (1, .int a1)] [] (wd S) (zq none (wd S')) := by
  intro n
  induction n with
  | zero =>
    intro S a1 S' hf
    cases hf
  | succ n ih =>
    intro S a1 S' hf
    rw [f_X6_plain_43] at hf
    refine zv_iload_n dX6_plain_43 rfl rfl ?_
    refine zv_bipush (v := 36) dX6_plain_44 (by decide) ?_
    refine zv_icmp_ge (tgt := 92) dX6_plain_46 (by decide) (fun c1 => ?_) (fun c1 => ?_)
    · replace hf := (if_pos c1).symm.trans hf
      exact zv_vret dX6_plain_92 rfl (zret0 wd hf)
    · replace hf := (if_neg c1).symm.trans hf
      refine zv_aload_n dX6_plain_49 rfl rfl ?_
      refine zv_get zf_X6_29 (wo_31 S) rfl dX6_plain_50 ?_
      refine zv_bipush (v := 36) dX6_plain_53 (by decide) ?_
      refine zv_iload_n dX6_plain_55 rfl rfl ?_
      refine zv_iadd dX6_plain_56 ?_
      refine zv_iload_n dX6_plain_57 rfl rfl ?_
      refine zv_bipush (v := 6) dX6_plain_58 (by decide) ?_
      refine zv_idiv (by decide) dX6_plain_60 ?_
      refine zv_iload_n dX6_plain_61 rfl rfl ?_
      refine zv_bipush (v := 6) dX6_plain_62 (by decide) ?_
      refine zv_irem (by decide) dX6_plain_64 ?_
      refine zv_icmp_ne (tgt := 72) dX6_plain_65 (by decide) (fun c2 => ?_) (fun c2 => ?_)
      · replace hf := (if_neg c2).symm.trans hf
        refine zv_sipush (v := 1000) dX6_plain_72 (by decide) ?_
        obtain ⟨hb3, hf⟩ := zifb hf
        refine zv_iast hb3 (wo_38 S) (ws_38 S (upd (S.1 38) (((36 : Int32) + a1)).toNatClampNeg (1000 : Int32))) dX6_plain_75 ?_
        exact zV_sub ([(0, .ref 31), (1, .int a1)]) ⟨rfl, rfl, trivial⟩ (v_X6_plain_76 d (f_X6_plain_43  n) ih (zr S 38 (upd (S.1 38) (((36 : Int32) + a1)).toNatClampNeg (1000 : Int32))) a1 _ hf)
      · replace hf := (if_pos c2).symm.trans hf
        refine zv_iconst (v := 0) dX6_plain_68 (by decide) ?_
        refine zv_goto (tgt := 75) dX6_plain_69 (by decide) ?_
        obtain ⟨hb4, hf⟩ := zifb hf
        refine zv_iast hb4 (wo_38 S) (ws_38 S (upd (S.1 38) (((36 : Int32) + a1)).toNatClampNeg (0 : Int32))) dX6_plain_75 ?_
        exact zV_sub ([(0, .ref 31), (1, .int a1)]) ⟨rfl, rfl, trivial⟩ (v_X6_plain_76 d (f_X6_plain_43  n) ih (zr S 38 (upd (S.1 38) (((36 : Int32) + a1)).toNatClampNeg (0 : Int32))) a1 _ hf)
def f_X6_plain (S : zS) : Option zS :=
  f_X6_plain_43 zN (zu (zr (zr (zr (zr (zr S 33 (upd (S.1 33) 1 (0 : Int32))) 37 (upd ((zr S 33 (upd (S.1 33) 1 (0 : Int32))).1 37) 1 (0 : Int32))) 40 (upd ((zr (zr S 33 (upd (S.1 33) 1 (0 : Int32))) 37 (upd ((zr S 33 (upd (S.1 33) 1 (0 : Int32))).1 37) 1 (0 : Int32))).1 40) 3 (3 : Int32))) 40 (upd ((zr (zr (zr S 33 (upd (S.1 33) 1 (0 : Int32))) 37 (upd ((zr S 33 (upd (S.1 33) 1 (0 : Int32))).1 37) 1 (0 : Int32))) 40 (upd ((zr (zr S 33 (upd (S.1 33) 1 (0 : Int32))) 37 (upd ((zr S 33 (upd (S.1 33) 1 (0 : Int32))).1 37) 1 (0 : Int32))).1 40) 3 (3 : Int32))).1 40) 4 (8 : Int32))) 40 (upd ((zr (zr (zr (zr S 33 (upd (S.1 33) 1 (0 : Int32))) 37 (upd ((zr S 33 (upd (S.1 33) 1 (0 : Int32))).1 37) 1 (0 : Int32))) 40 (upd ((zr (zr S 33 (upd (S.1 33) 1 (0 : Int32))) 37 (upd ((zr S 33 (upd (S.1 33) 1 (0 : Int32))).1 37) 1 (0 : Int32))).1 40) 3 (3 : Int32))) 40 (upd ((zr (zr (zr S 33 (upd (S.1 33) 1 (0 : Int32))) 37 (upd ((zr S 33 (upd (S.1 33) 1 (0 : Int32))).1 37) 1 (0 : Int32))) 40 (upd ((zr (zr S 33 (upd (S.1 33) 1 (0 : Int32))) 37 (upd ((zr S 33 (upd (S.1 33) 1 (0 : Int32))).1 37) 1 (0 : Int32))).1 40) 3 (3 : Int32))).1 40) 4 (8 : Int32))).1 40) 5 (0 : Int32))) 31 11 (0 : Int32)) (0 : Int32)
set_option maxRecDepth 100000 in
set_option maxHeartbeats 4000000 in
theorem c_X6_plain  (d : Nat) (S : zS) (S' : zS) (hf : f_X6_plain S = (some S')) : zC d yX6_plain cX6_plain 2 none [.ref 31] (wd S) (zq none (wd S')) := by
  refine zC_intro (by decide) rfl (Nat.le_of_ble_eq_true rfl) ?_
  unfold f_X6_plain at hf
  refine zv_aload_n dX6_plain_0 rfl rfl ?_
  refine zv_get zf_X6_13 (wo_31 S) rfl dX6_plain_1 ?_
  refine zv_iconst (v := 1) dX6_plain_4 (by decide) ?_
  refine zv_iconst (v := 0) dX6_plain_5 (by decide) ?_
  refine zv_iastK (k := 1) (by decide) (by decide) (wo_33 S) (ws_33 S (upd (S.1 33) 1 (0 : Int32))) dX6_plain_6 ?_
  refine zv_aload_n dX6_plain_7 rfl rfl ?_
  refine zv_get zf_X6_26 (wo_31 (zr S 33 (upd (S.1 33) 1 (0 : Int32)))) rfl dX6_plain_8 ?_
  refine zv_iconst (v := 1) dX6_plain_11 (by decide) ?_
  refine zv_iconst (v := 0) dX6_plain_12 (by decide) ?_
  refine zv_iastK (k := 1) (by decide) (by decide) (wo_37 (zr S 33 (upd (S.1 33) 1 (0 : Int32)))) (ws_37 (zr S 33 (upd (S.1 33) 1 (0 : Int32))) (upd ((zr S 33 (upd (S.1 33) 1 (0 : Int32))).1 37) 1 (0 : Int32))) dX6_plain_13 ?_
  refine zv_aload_n dX6_plain_14 rfl rfl ?_
  refine zv_get zf_X6_35 (wo_31 (zr (zr S 33 (upd (S.1 33) 1 (0 : Int32))) 37 (upd ((zr S 33 (upd (S.1 33) 1 (0 : Int32))).1 37) 1 (0 : Int32)))) rfl dX6_plain_15 ?_
  refine zv_iconst (v := 3) dX6_plain_18 (by decide) ?_
  refine zv_iconst (v := 3) dX6_plain_19 (by decide) ?_
  refine zv_iastK (k := 3) (by decide) (by decide) (wo_40 (zr (zr S 33 (upd (S.1 33) 1 (0 : Int32))) 37 (upd ((zr S 33 (upd (S.1 33) 1 (0 : Int32))).1 37) 1 (0 : Int32)))) (ws_40 (zr (zr S 33 (upd (S.1 33) 1 (0 : Int32))) 37 (upd ((zr S 33 (upd (S.1 33) 1 (0 : Int32))).1 37) 1 (0 : Int32))) (upd ((zr (zr S 33 (upd (S.1 33) 1 (0 : Int32))) 37 (upd ((zr S 33 (upd (S.1 33) 1 (0 : Int32))).1 37) 1 (0 : Int32))).1 40) 3 (3 : Int32))) dX6_plain_20 ?_
  refine zv_aload_n dX6_plain_21 rfl rfl ?_
  refine zv_get zf_X6_35 (wo_31 (zr (zr (zr S 33 (upd (S.1 33) 1 (0 : Int32))) 37 (upd ((zr S 33 (upd (S.1 33) 1 (0 : Int32))).1 37) 1 (0 : Int32))) 40 (upd ((zr (zr S 33 (upd (S.1 33) 1 (0 : Int32))) 37 (upd ((zr S 33 (upd (S.1 33) 1 (0 : Int32))).1 37) 1 (0 : Int32))).1 40) 3 (3 : Int32)))) rfl dX6_plain_22 ?_
  refine zv_iconst (v := 4) dX6_plain_25 (by decide) ?_
  refine zv_bipush (v := 8) dX6_plain_26 (by decide) ?_
  refine zv_iastK (k := 4) (by decide) (by decide) (wo_40 (zr (zr (zr S 33 (upd (S.1 33) 1 (0 : Int32))) 37 (upd ((zr S 33 (upd (S.1 33) 1 (0 : Int32))).1 37) 1 (0 : Int32))) 40 (upd ((zr (zr S 33 (upd (S.1 33) 1 (0 : Int32))) 37 (upd ((zr S 33 (upd (S.1 33) 1 (0 : Int32))).1 37) 1 (0 : Int32))).1 40) 3 (3 : Int32)))) (ws_40 (zr (zr (zr S 33 (upd (S.1 33) 1 (0 : Int32))) 37 (upd ((zr S 33 (upd (S.1 33) 1 (0 : Int32))).1 37) 1 (0 : Int32))) 40 (upd ((zr (zr S 33 (upd (S.1 33) 1 (0 : Int32))) 37 (upd ((zr S 33 (upd (S.1 33) 1 (0 : Int32))).1 37) 1 (0 : Int32))).1 40) 3 (3 : Int32))) (upd ((zr (zr (zr S 33 (upd (S.1 33) 1 (0 : Int32))) 37 (upd ((zr S 33 (upd (S.1 33) 1 (0 : Int32))).1 37) 1 (0 : Int32))) 40 (upd ((zr (zr S 33 (upd (S.1 33) 1 (0 : Int32))) 37 (upd ((zr S 33 (upd (S.1 33) 1 (0 : Int32))).1 37) 1 (0 : Int32))).1 40) 3 (3 : Int32))).1 40) 4 (8 : Int32))) dX6_plain_28 ?_
  refine zv_aload_n dX6_plain_29 rfl rfl ?_
  refine zv_get zf_X6_35 (wo_31 (zr (zr (zr (zr S 33 (upd (S.1 33) 1 (0 : Int32))) 37 (upd ((zr S 33 (upd (S.1 33) 1 (0 : Int32))).1 37) 1 (0 : Int32))) 40 (upd ((zr (zr S 33 (upd (S.1 33) 1 (0 : Int32))) 37 (upd ((zr S 33 (upd (S.1 33) 1 (0 : Int32))).1 37) 1 (0 : Int32))).1 40) 3 (3 : Int32))) 40 (upd ((zr (zr (zr S 33 (upd (S.1 33) 1 (0 : Int32))) 37 (upd ((zr S 33 (upd (S.1 33) 1 (0 : Int32))).1 37) 1 (0 : Int32))) 40 (upd ((zr (zr S 33 (upd (S.1 33) 1 (0 : Int32))) 37 (upd ((zr S 33 (upd (S.1 33) 1 (0 : Int32))).1 37) 1 (0 : Int32))).1 40) 3 (3 : Int32))).1 40) 4 (8 : Int32)))) rfl dX6_plain_30 ?_
  refine zv_iconst (v := 5) dX6_plain_33 (by decide) ?_
  refine zv_iconst (v := 0) dX6_plain_34 (by decide) ?_
  refine zv_iastK (k := 5) (by decide) (by decide) (wo_40 (zr (zr (zr (zr S 33 (upd (S.1 33) 1 (0 : Int32))) 37 (upd ((zr S 33 (upd (S.1 33) 1 (0 : Int32))).1 37) 1 (0 : Int32))) 40 (upd ((zr (zr S 33 (upd (S.1 33) 1 (0 : Int32))) 37 (upd ((zr S 33 (upd (S.1 33) 1 (0 : Int32))).1 37) 1 (0 : Int32))).1 40) 3 (3 : Int32))) 40 (upd ((zr (zr (zr S 33 (upd (S.1 33) 1 (0 : Int32))) 37 (upd ((zr S 33 (upd (S.1 33) 1 (0 : Int32))).1 37) 1 (0 : Int32))) 40 (upd ((zr (zr S 33 (upd (S.1 33) 1 (0 : Int32))) 37 (upd ((zr S 33 (upd (S.1 33) 1 (0 : Int32))).1 37) 1 (0 : Int32))).1 40) 3 (3 : Int32))).1 40) 4 (8 : Int32)))) (ws_40 (zr (zr (zr (zr S 33 (upd (S.1 33) 1 (0 : Int32))) 37 (upd ((zr S 33 (upd (S.1 33) 1 (0 : Int32))).1 37) 1 (0 : Int32))) 40 (upd ((zr (zr S 33 (upd (S.1 33) 1 (0 : Int32))) 37 (upd ((zr S 33 (upd (S.1 33) 1 (0 : Int32))).1 37) 1 (0 : Int32))).1 40) 3 (3 : Int32))) 40 (upd ((zr (zr (zr S 33 (upd (S.1 33) 1 (0 : Int32))) 37 (upd ((zr S 33 (upd (S.1 33) 1 (0 : Int32))).1 37) 1 (0 : Int32))) 40 (upd ((zr (zr S 33 (upd (S.1 33) 1 (0 : Int32))) 37 (upd ((zr S 33 (upd (S.1 33) 1 (0 : Int32))).1 37) 1 (0 : Int32))).1 40) 3 (3 : Int32))).1 40) 4 (8 : Int32))) (upd ((zr (zr (zr (zr S 33 (upd (S.1 33) 1 (0 : Int32))) 37 (upd ((zr S 33 (upd (S.1 33) 1 (0 : Int32))).1 37) 1 (0 : Int32))) 40 (upd ((zr (zr S 33 (upd (S.1 33) 1 (0 : Int32))) 37 (upd ((zr S 33 (upd (S.1 33) 1 (0 : Int32))).1 37) 1 (0 : Int32))).1 40) 3 (3 : Int32))) 40 (upd ((zr (zr (zr S 33 (upd (S.1 33) 1 (0 : Int32))) 37 (upd ((zr S 33 (upd (S.1 33) 1 (0 : Int32))).1 37) 1 (0 : Int32))) 40 (upd ((zr (zr S 33 (upd (S.1 33) 1 (0 : Int32))) 37 (upd ((zr S 33 (upd (S.1 33) 1 (0 : Int32))).1 37) 1 (0 : Int32))).1 40) 3 (3 : Int32))).1 40) 4 (8 : Int32))).1 40) 5 (0 : Int32))) dX6_plain_35 ?_
  refine zv_aload_n dX6_plain_36 rfl rfl ?_
  refine zv_iconst (v := 0) dX6_plain_37 (by decide) ?_
  refine zv_put zp_X6_88 (wo_31 (zr (zr (zr (zr (zr S 33 (upd (S.1 33) 1 (0 : Int32))) 37 (upd ((zr S 33 (upd (S.1 33) 1 (0 : Int32))).1 37) 1 (0 : Int32))) 40 (upd ((zr (zr S 33 (upd (S.1 33) 1 (0 : Int32))) 37 (upd ((zr S 33 (upd (S.1 33) 1 (0 : Int32))).1 37) 1 (0 : Int32))).1 40) 3 (3 : Int32))) 40 (upd ((zr (zr (zr S 33 (upd (S.1 33) 1 (0 : Int32))) 37 (upd ((zr S 33 (upd (S.1 33) 1 (0 : Int32))).1 37) 1 (0 : Int32))) 40 (upd ((zr (zr S 33 (upd (S.1 33) 1 (0 : Int32))) 37 (upd ((zr S 33 (upd (S.1 33) 1 (0 : Int32))).1 37) 1 (0 : Int32))).1 40) 3 (3 : Int32))).1 40) 4 (8 : Int32))) 40 (upd ((zr (zr (zr (zr S 33 (upd (S.1 33) 1 (0 : Int32))) 37 (upd ((zr S 33 (upd (S.1 33) 1 (0 : Int32))).1 37) 1 (0 : Int32))) 40 (upd ((zr (zr S 33 (upd (S.1 33) 1 (0 : Int32))) 37 (upd ((zr S 33 (upd (S.1 33) 1 (0 : Int32))).1 37) 1 (0 : Int32))).1 40) 3 (3 : Int32))) 40 (upd ((zr (zr (zr S 33 (upd (S.1 33) 1 (0 : Int32))) 37 (upd ((zr S 33 (upd (S.1 33) 1 (0 : Int32))).1 37) 1 (0 : Int32))) 40 (upd ((zr (zr S 33 (upd (S.1 33) 1 (0 : Int32))) 37 (upd ((zr S 33 (upd (S.1 33) 1 (0 : Int32))).1 37) 1 (0 : Int32))).1 40) 3 (3 : Int32))).1 40) 4 (8 : Int32))).1 40) 5 (0 : Int32)))) rfl (fun _ => ⟨rfl, rfl⟩) (Nat.le_of_ble_eq_true rfl) (wp_31_11 (zr (zr (zr (zr (zr S 33 (upd (S.1 33) 1 (0 : Int32))) 37 (upd ((zr S 33 (upd (S.1 33) 1 (0 : Int32))).1 37) 1 (0 : Int32))) 40 (upd ((zr (zr S 33 (upd (S.1 33) 1 (0 : Int32))) 37 (upd ((zr S 33 (upd (S.1 33) 1 (0 : Int32))).1 37) 1 (0 : Int32))).1 40) 3 (3 : Int32))) 40 (upd ((zr (zr (zr S 33 (upd (S.1 33) 1 (0 : Int32))) 37 (upd ((zr S 33 (upd (S.1 33) 1 (0 : Int32))).1 37) 1 (0 : Int32))) 40 (upd ((zr (zr S 33 (upd (S.1 33) 1 (0 : Int32))) 37 (upd ((zr S 33 (upd (S.1 33) 1 (0 : Int32))).1 37) 1 (0 : Int32))).1 40) 3 (3 : Int32))).1 40) 4 (8 : Int32))) 40 (upd ((zr (zr (zr (zr S 33 (upd (S.1 33) 1 (0 : Int32))) 37 (upd ((zr S 33 (upd (S.1 33) 1 (0 : Int32))).1 37) 1 (0 : Int32))) 40 (upd ((zr (zr S 33 (upd (S.1 33) 1 (0 : Int32))) 37 (upd ((zr S 33 (upd (S.1 33) 1 (0 : Int32))).1 37) 1 (0 : Int32))).1 40) 3 (3 : Int32))) 40 (upd ((zr (zr (zr S 33 (upd (S.1 33) 1 (0 : Int32))) 37 (upd ((zr S 33 (upd (S.1 33) 1 (0 : Int32))).1 37) 1 (0 : Int32))) 40 (upd ((zr (zr S 33 (upd (S.1 33) 1 (0 : Int32))) 37 (upd ((zr S 33 (upd (S.1 33) 1 (0 : Int32))).1 37) 1 (0 : Int32))).1 40) 3 (3 : Int32))).1 40) 4 (8 : Int32))).1 40) 5 (0 : Int32))) (0 : Int32)) dX6_plain_38 ?_
  refine zv_iconst (v := 0) dX6_plain_41 (by decide) ?_
  refine zv_istore_n dX6_plain_42 rfl (by decide) ?_
  exact zV_sub ([(0, .ref 31), (1, .int (0 : Int32))]) ⟨rfl, rfl, trivial⟩ (v_X6_plain_43 d zN (zu (zr (zr (zr (zr (zr S 33 (upd (S.1 33) 1 (0 : Int32))) 37 (upd ((zr S 33 (upd (S.1 33) 1 (0 : Int32))).1 37) 1 (0 : Int32))) 40 (upd ((zr (zr S 33 (upd (S.1 33) 1 (0 : Int32))) 37 (upd ((zr S 33 (upd (S.1 33) 1 (0 : Int32))).1 37) 1 (0 : Int32))).1 40) 3 (3 : Int32))) 40 (upd ((zr (zr (zr S 33 (upd (S.1 33) 1 (0 : Int32))) 37 (upd ((zr S 33 (upd (S.1 33) 1 (0 : Int32))).1 37) 1 (0 : Int32))) 40 (upd ((zr (zr S 33 (upd (S.1 33) 1 (0 : Int32))) 37 (upd ((zr S 33 (upd (S.1 33) 1 (0 : Int32))).1 37) 1 (0 : Int32))).1 40) 3 (3 : Int32))).1 40) 4 (8 : Int32))) 40 (upd ((zr (zr (zr (zr S 33 (upd (S.1 33) 1 (0 : Int32))) 37 (upd ((zr S 33 (upd (S.1 33) 1 (0 : Int32))).1 37) 1 (0 : Int32))) 40 (upd ((zr (zr S 33 (upd (S.1 33) 1 (0 : Int32))) 37 (upd ((zr S 33 (upd (S.1 33) 1 (0 : Int32))).1 37) 1 (0 : Int32))).1 40) 3 (3 : Int32))) 40 (upd ((zr (zr (zr S 33 (upd (S.1 33) 1 (0 : Int32))) 37 (upd ((zr S 33 (upd (S.1 33) 1 (0 : Int32))).1 37) 1 (0 : Int32))) 40 (upd ((zr (zr S 33 (upd (S.1 33) 1 (0 : Int32))) 37 (upd ((zr S 33 (upd (S.1 33) 1 (0 : Int32))).1 37) 1 (0 : Int32))).1 40) 3 (3 : Int32))).1 40) 4 (8 : Int32))).1 40) 5 (0 : Int32))) 31 11 (0 : Int32)) (0 : Int32) _ hf)
-- KingPricesModel.another(I)I height 3 writes
def f_X6_another (S : zS) (a1 : Int32) : Option (Int32 × zS) :=
  (if (S.1 31 14) = (1 : Int32) then (if (S.1 33 1) ≤ (S.1 31 15) then (zb2 (f_X6_due S (0 : Int32)) (fun x7 S8 => some (x7, S8))) else (if (S.1 31 15) = a1 then (zb2 (f_X6_due S (0 : Int32)) (fun x11 S12 => some (x11, S12))) else (zb2 (f_X6_due S (1 : Int32)) (fun x14 S15 => some (x14, S15))))) else (zb2 (f_X6_due S (0 : Int32)) (fun x3 S4 => some (x3, S4))))
set_option maxRecDepth 100000 in
set_option maxHeartbeats 4000000 in
theorem c_X6_another  (d : Nat) (hd : 3 ≤ d) (S : zS) (a1 : Int32) (v : Int32) (S' : zS) (hf : f_X6_another S a1 = (some (v, S'))) : zC d yX6_another cX6_another 2 (some .int) [.ref 31, .int a1] (wd S) (zq (some (.int v)) (wd S')) := by
  obtain ⟨d, rfl⟩ : ∃ e, d = e + 1 := ⟨d - 1, by omega⟩
  refine zC_intro (by decide) rfl (Nat.le_of_ble_eq_true rfl) ?_
  unfold f_X6_another at hf
  refine zv_aload_n dX6_another_0 rfl rfl ?_
  refine zv_aload_n dX6_another_1 rfl rfl ?_
  refine zv_get zf_X6_75 (wo_31 S) rfl dX6_another_2 ?_
  refine zv_iconst (v := 1) dX6_another_5 (by decide) ?_
  refine zv_icmp_ne (tgt := 34) dX6_another_6 (by decide) (fun c1 => ?_) (fun c1 => ?_)
  · replace hf := (if_neg c1).symm.trans hf
    refine zv_iconst (v := 0) dX6_another_34 (by decide) ?_
    obtain ⟨x3, S4, hc2, hf⟩ := zbind2 hf
    refine zv_callV dX6_another_35 zk_X6_84 zm_X6_due (c_X6_due  d (by omega) S (0 : Int32) x3 S4 hc2) (wo_31 S) rfl rfl rfl (Nat.le_of_ble_eq_true rfl) ?_
    exact zv_iret (ty := .int) dX6_another_38 rfl rfl (zret2 wd hf)
  · replace hf := (if_pos c1).symm.trans hf
    refine zv_aload_n dX6_another_9 rfl rfl ?_
    refine zv_get zf_X6_72 (wo_31 S) rfl dX6_another_10 ?_
    refine zv_aload_n dX6_another_13 rfl rfl ?_
    refine zv_get zf_X6_13 (wo_31 S) rfl dX6_another_14 ?_
    refine zv_iconst (v := 1) dX6_another_17 (by decide) ?_
    refine zv_ialdK (k := 1) (by decide) (by decide) (wo_33 S) dX6_another_18 ?_
    refine zv_icmp_ge (tgt := 34) dX6_another_19 (by decide) (fun c5 => ?_) (fun c5 => ?_)
    · replace hf := (if_pos c5).symm.trans hf
      refine zv_iconst (v := 0) dX6_another_34 (by decide) ?_
      obtain ⟨x7, S8, hc6, hf⟩ := zbind2 hf
      refine zv_callV dX6_another_35 zk_X6_84 zm_X6_due (c_X6_due  d (by omega) S (0 : Int32) x7 S8 hc6) (wo_31 S) rfl rfl rfl (Nat.le_of_ble_eq_true rfl) ?_
      exact zv_iret (ty := .int) dX6_another_38 rfl rfl (zret2 wd hf)
    · replace hf := (if_neg c5).symm.trans hf
      refine zv_aload_n dX6_another_22 rfl rfl ?_
      refine zv_get zf_X6_72 (wo_31 S) rfl dX6_another_23 ?_
      refine zv_iload_n dX6_another_26 rfl rfl ?_
      refine zv_icmp_eq (tgt := 34) dX6_another_27 (by decide) (fun c9 => ?_) (fun c9 => ?_)
      · replace hf := (if_pos c9).symm.trans hf
        refine zv_iconst (v := 0) dX6_another_34 (by decide) ?_
        obtain ⟨x11, S12, hc10, hf⟩ := zbind2 hf
        refine zv_callV dX6_another_35 zk_X6_84 zm_X6_due (c_X6_due  d (by omega) S (0 : Int32) x11 S12 hc10) (wo_31 S) rfl rfl rfl (Nat.le_of_ble_eq_true rfl) ?_
        exact zv_iret (ty := .int) dX6_another_38 rfl rfl (zret2 wd hf)
      · replace hf := (if_neg c9).symm.trans hf
        refine zv_iconst (v := 1) dX6_another_30 (by decide) ?_
        refine zv_goto (tgt := 35) dX6_another_31 (by decide) ?_
        obtain ⟨x14, S15, hc13, hf⟩ := zbind2 hf
        refine zv_callV dX6_another_35 zk_X6_84 zm_X6_due (c_X6_due  d (by omega) S (1 : Int32) x14 S15 hc13) (wo_31 S) rfl rfl rfl (Nat.le_of_ble_eq_true rfl) ?_
        exact zv_iret (ty := .int) dX6_another_38 rfl rfl (zret2 wd hf)
-- KingPricesModel.number(II)I height 3 writes
def f_X6_number (S : zS) (a1 : Int32) (a2 : Int32) : Option (Int32 × zS) :=
  (if (S.1 31 14) = (1 : Int32) then ((f_X6_in (S.1 31 15) a1 a2).bind (fun x6 => (if x6 = 0 then (zb2 (f_X6_due S (0 : Int32)) (fun x9 S10 => some (x9, S10))) else (zb2 (f_X6_due S (1 : Int32)) (fun x12 S13 => some (x12, S13)))))) else (zb2 (f_X6_due S (0 : Int32)) (fun x3 S4 => some (x3, S4))))
set_option maxRecDepth 100000 in
set_option maxHeartbeats 4000000 in
theorem c_X6_number  (d : Nat) (hd : 3 ≤ d) (S : zS) (a1 : Int32) (a2 : Int32) (v : Int32) (S' : zS) (hf : f_X6_number S a1 a2 = (some (v, S'))) : zC d yX6_number cX6_number 3 (some .int) [.ref 31, .int a1, .int a2] (wd S) (zq (some (.int v)) (wd S')) := by
  obtain ⟨d, rfl⟩ : ∃ e, d = e + 1 := ⟨d - 1, by omega⟩
  refine zC_intro (by decide) rfl (Nat.le_of_ble_eq_true rfl) ?_
  unfold f_X6_number at hf
  refine zv_aload_n dX6_number_0 rfl rfl ?_
  refine zv_aload_n dX6_number_1 rfl rfl ?_
  refine zv_get zf_X6_75 (wo_31 S) rfl dX6_number_2 ?_
  refine zv_iconst (v := 1) dX6_number_5 (by decide) ?_
  refine zv_icmp_ne (tgt := 25) dX6_number_6 (by decide) (fun c1 => ?_) (fun c1 => ?_)
  · replace hf := (if_neg c1).symm.trans hf
    refine zv_iconst (v := 0) dX6_number_25 (by decide) ?_
    obtain ⟨x3, S4, hc2, hf⟩ := zbind2 hf
    refine zv_callV dX6_number_26 zk_X6_84 zm_X6_due (c_X6_due  d (by omega) S (0 : Int32) x3 S4 hc2) (wo_31 S) rfl rfl rfl (Nat.le_of_ble_eq_true rfl) ?_
    exact zv_iret (ty := .int) dX6_number_29 rfl rfl (zret2 wd hf)
  · replace hf := (if_pos c1).symm.trans hf
    refine zv_aload_n dX6_number_9 rfl rfl ?_
    refine zv_get zf_X6_72 (wo_31 S) rfl dX6_number_10 ?_
    refine zv_iload_n dX6_number_13 rfl rfl ?_
    refine zv_iload_n dX6_number_14 rfl rfl ?_
    obtain ⟨x6, hc5, hf⟩ := zbind hf
    refine zv_callS dX6_number_15 zk_X6_54 zm_X6_in (c_X6_in  d (S.1 31 15) a1 a2 x6 hc5) rfl rfl (Nat.le_of_ble_eq_true rfl) ?_
    refine zv_if_eq (tgt := 25) dX6_number_18 (by decide) (fun c7 => ?_) (fun c7 => ?_)
    · replace hf := (if_pos c7).symm.trans hf
      refine zv_iconst (v := 0) dX6_number_25 (by decide) ?_
      obtain ⟨x9, S10, hc8, hf⟩ := zbind2 hf
      refine zv_callV dX6_number_26 zk_X6_84 zm_X6_due (c_X6_due  d (by omega) S (0 : Int32) x9 S10 hc8) (wo_31 S) rfl rfl rfl (Nat.le_of_ble_eq_true rfl) ?_
      exact zv_iret (ty := .int) dX6_number_29 rfl rfl (zret2 wd hf)
    · replace hf := (if_neg c7).symm.trans hf
      refine zv_iconst (v := 1) dX6_number_21 (by decide) ?_
      refine zv_goto (tgt := 26) dX6_number_22 (by decide) ?_
      obtain ⟨x12, S13, hc11, hf⟩ := zbind2 hf
      refine zv_callV dX6_number_26 zk_X6_84 zm_X6_due (c_X6_due  d (by omega) S (1 : Int32) x12 S13 hc11) (wo_31 S) rfl rfl rfl (Nat.le_of_ble_eq_true rfl) ?_
      exact zv_iret (ty := .int) dX6_number_29 rfl rfl (zret2 wd hf)
-- KingPricesModel.readRow(I)V height 4 writes
def f_X6_readRow_213 (S : zS) : Option zS :=
  some (zr S 37 (upd (S.1 37) 1 ((S.1 37 1) + (1 : Int32))))
set_option maxRecDepth 100000 in
set_option maxHeartbeats 4000000 in
theorem v_X6_readRow_213 (d : Nat) (hd : 3 ≤ d) (S : zS) (S' : zS) (hf : f_X6_readRow_213 S = (some S')) : zV none (d + 1) yX6_readRow cX6_readRow 6 none 213 [(0, .ref 31)] [] (wd S) (zq none (wd S')) := by
  unfold f_X6_readRow_213 at hf
  refine zv_aload_n dX6_readRow_213 rfl rfl ?_
  refine zv_get zf_X6_26 (wo_31 S) rfl dX6_readRow_214 ?_
  refine zv_iconst (v := 1) dX6_readRow_217 (by decide) ?_
  refine zv_dup2 dX6_readRow_218 rfl rfl ?_
  refine zv_ialdK (k := 1) (by decide) (by decide) (wo_37 S) dX6_readRow_219 ?_
  refine zv_iconst (v := 1) dX6_readRow_220 (by decide) ?_
  refine zv_iadd dX6_readRow_221 ?_
  refine zv_iastK (k := 1) (by decide) (by decide) (wo_37 S) (ws_37 S (upd (S.1 37) 1 ((S.1 37 1) + (1 : Int32)))) dX6_readRow_222 ?_
  refine zv_goto (tgt := 391) dX6_readRow_223 (by decide) ?_
  exact zv_vret dX6_readRow_391 rfl (zret0 wd hf)
def f_X6_readRow (S : zS) (a1 : Int32) : Option zS :=
  (if a1 = 100 then (zb2 (f_X6_number S (0 : Int32) ((S.1 33 1) - (1 : Int32))) (fun x3 S4 => (zb2 (f_X6_another S4 x3) (fun x6 S7 => (zb2 (f_X6_number S7 (1 : Int32) (99 : Int32)) (fun x9 S10 => (if (S10.1 31 16) = (-9 : Int32) then (if zin (((36 : Int32) + ((6 : Int32) * x3)) + x6) 72 then (if ((S10.1 39 ((((36 : Int32) + ((6 : Int32) * x3)) + x6)).toNatClampNeg) + x9) ≤ (999 : Int32) then (if zin (((36 : Int32) + ((6 : Int32) * x3)) + x6) 72 then some (zr S10 39 (upd (S10.1 39) ((((36 : Int32) + ((6 : Int32) * x3)) + x6)).toNatClampNeg ((S10.1 39 ((((36 : Int32) + ((6 : Int32) * x3)) + x6)).toNatClampNeg) + x9))) else none) else (if zin (((36 : Int32) + ((6 : Int32) * x3)) + x6) 72 then some (zr S10 39 (upd (S10.1 39) ((((36 : Int32) + ((6 : Int32) * x3)) + x6)).toNatClampNeg (999 : Int32))) else none)) else none) else some S10))))))) else (if a1 = 109 then (zb2 (f_X6_number S (1 : Int32) (9 : Int32)) (fun x18 S19 => some (zu (zr S19 40 (upd (S19.1 40) 3 x18)) 31 11 (((zr S19 40 (upd (S19.1 40) 3 x18)).1 31 11) ||| (1 : Int32))))) else (if a1 = 114 then (zb2 (f_X6_number S (0 : Int32) ((S.1 33 1) - (1 : Int32))) (fun x22 S23 => (zb2 (f_X6_another S23 x22) (fun x25 S26 => (zb2 (f_X6_number S26 (1 : Int32) (9 : Int32)) (fun x28 S29 => (if (S29.1 31 16) = (-9 : Int32) then (if zin (((36 : Int32) + ((6 : Int32) * x22)) + x25) 72 then (if (S29.1 38 ((((36 : Int32) + ((6 : Int32) * x22)) + x25)).toNatClampNeg) ≤ x28 then f_X6_readRow_213 S29 else (if zin (((36 : Int32) + ((6 : Int32) * x22)) + x25) 72 then (if zin (((36 : Int32) + ((6 : Int32) * x25)) + x22) 72 then f_X6_readRow_213 (zr (zr S29 38 (upd (S29.1 38) ((((36 : Int32) + ((6 : Int32) * x22)) + x25)).toNatClampNeg x28)) 38 (upd ((zr S29 38 (upd (S29.1 38) ((((36 : Int32) + ((6 : Int32) * x22)) + x25)).toNatClampNeg x28)).1 38) ((((36 : Int32) + ((6 : Int32) * x25)) + x22)).toNatClampNeg x28)) else none) else none)) else none) else f_X6_readRow_213 S29))))))) else (if a1 = 118 then (zb2 (f_X6_number S (0 : Int32) (60 : Int32)) (fun x37 S38 => (if zin (S.1 33 1) 6 then (zb2 (f_X6_number (zr S38 34 (upd (S38.1 34) ((S.1 33 1)).toNatClampNeg x37)) (0 : Int32) (60 : Int32)) (fun x41 S42 => (if zin ((6 : Int32) + ((zr S38 34 (upd (S38.1 34) ((S.1 33 1)).toNatClampNeg x37)).1 33 1)) 12 then (zb2 (f_X6_number (zr S42 35 (upd (S42.1 35) (((6 : Int32) + ((zr S38 34 (upd (S38.1 34) ((S.1 33 1)).toNatClampNeg x37)).1 33 1))).toNatClampNeg x41)) (0 : Int32) (1 : Int32)) (fun x45 S46 => (if zin ((6 : Int32) + ((zr S42 35 (upd (S42.1 35) (((6 : Int32) + ((zr S38 34 (upd (S38.1 34) ((S.1 33 1)).toNatClampNeg x37)).1 33 1))).toNatClampNeg x41)).1 33 1)) 12 then some (zr (zr S46 36 (upd (S46.1 36) (((6 : Int32) + ((zr S42 35 (upd (S42.1 35) (((6 : Int32) + ((zr S38 34 (upd (S38.1 34) ((S.1 33 1)).toNatClampNeg x37)).1 33 1))).toNatClampNeg x41)).1 33 1))).toNatClampNeg x45)) 33 (upd ((zr S46 36 (upd (S46.1 36) (((6 : Int32) + ((zr S42 35 (upd (S42.1 35) (((6 : Int32) + ((zr S38 34 (upd (S38.1 34) ((S.1 33 1)).toNatClampNeg x37)).1 33 1))).toNatClampNeg x41)).1 33 1))).toNatClampNeg x45)).1 33) 1 (((zr S46 36 (upd (S46.1 36) (((6 : Int32) + ((zr S42 35 (upd (S42.1 35) (((6 : Int32) + ((zr S38 34 (upd (S38.1 34) ((S.1 33 1)).toNatClampNeg x37)).1 33 1))).toNatClampNeg x41)).1 33 1))).toNatClampNeg x45)).1 33 1) + (1 : Int32)))) else none))) else none))) else none))) else (if a1 = 119 then (zb2 (f_X6_number S (0 : Int32) (10 : Int32)) (fun x50 S51 => some (zu (zr S51 40 (upd (S51.1 40) 4 x50)) 31 11 (((zr S51 40 (upd (S51.1 40) 4 x50)).1 31 11) ||| (2 : Int32))))) else (zb2 (f_X6_number S (0 : Int32) (99 : Int32)) (fun x53 S54 => some (zu (zr S54 40 (upd (S54.1 40) 5 x53)) 31 11 (((zr S54 40 (upd (S54.1 40) 5 x53)).1 31 11) ||| (4 : Int32))))))))))
set_option maxRecDepth 100000 in
set_option maxHeartbeats 4000000 in
theorem c_X6_readRow  (d : Nat) (hd : 4 ≤ d) (S : zS) (a1 : Int32) (S' : zS) (hf : f_X6_readRow S a1 = (some S')) : zC d yX6_readRow cX6_readRow 6 none [.ref 31, .int a1] (wd S) (zq none (wd S')) := by
  obtain ⟨d, rfl⟩ : ∃ e, d = e + 1 := ⟨d - 1, by omega⟩
  refine zC_intro (by decide) rfl (Nat.le_of_ble_eq_true rfl) ?_
  unfold f_X6_readRow at hf
  refine zv_iload_n dX6_readRow_0 rfl rfl ?_
  by_cases c1 : a1 = 100
  · replace hf := (if_pos c1).symm.trans hf
    refine zv_lookup (off := 225) (tgt := 226) dX6_readRow_1 (by decide) (by rw [c1]; decide) (by decide) ?_
    refine zv_aload_n dX6_readRow_226 rfl rfl ?_
    refine zv_iconst (v := 0) dX6_readRow_227 (by decide) ?_
    refine zv_aload_n dX6_readRow_228 rfl rfl ?_
    refine zv_get zf_X6_13 (wo_31 S) rfl dX6_readRow_229 ?_
    refine zv_iconst (v := 1) dX6_readRow_232 (by decide) ?_
    refine zv_ialdK (k := 1) (by decide) (by decide) (wo_33 S) dX6_readRow_233 ?_
    refine zv_iconst (v := 1) dX6_readRow_234 (by decide) ?_
    refine zv_isub dX6_readRow_235 ?_
    obtain ⟨x3, S4, hc2, hf⟩ := zbind2 hf
    refine zv_callV dX6_readRow_236 zk_X6_91 zm_X6_number (c_X6_number  d (by omega) S (0 : Int32) ((S.1 33 1) - (1 : Int32)) x3 S4 hc2) (wo_31 S) rfl rfl rfl (Nat.le_of_ble_eq_true rfl) ?_
    refine zv_istore_n dX6_readRow_239 rfl (by decide) ?_
    refine zv_aload_n dX6_readRow_240 rfl rfl ?_
    refine zv_iload_n dX6_readRow_241 rfl rfl ?_
    obtain ⟨x6, S7, hc5, hf⟩ := zbind2 hf
    refine zv_callV dX6_readRow_242 zk_X6_95 zm_X6_another (c_X6_another  d (by omega) S4 x3 x6 S7 hc5) (wo_31 S4) rfl rfl rfl (Nat.le_of_ble_eq_true rfl) ?_
    refine zv_istore_n dX6_readRow_245 rfl (by decide) ?_
    refine zv_aload_n dX6_readRow_246 rfl rfl ?_
    refine zv_iconst (v := 1) dX6_readRow_247 (by decide) ?_
    refine zv_bipush (v := 99) dX6_readRow_248 (by decide) ?_
    obtain ⟨x9, S10, hc8, hf⟩ := zbind2 hf
    refine zv_callV dX6_readRow_250 zk_X6_91 zm_X6_number (c_X6_number  d (by omega) S7 (1 : Int32) (99 : Int32) x9 S10 hc8) (wo_31 S7) rfl rfl rfl (Nat.le_of_ble_eq_true rfl) ?_
    refine zv_istore dX6_readRow_253 (by decide) ?_
    refine zv_aload_n dX6_readRow_255 rfl rfl ?_
    refine zv_get zf_X6_78 (wo_31 S10) rfl dX6_readRow_256 ?_
    refine zv_bipush (v := -9) dX6_readRow_259 (by decide) ?_
    refine zv_icmp_ne (tgt := 391) dX6_readRow_261 (by decide) (fun c11 => ?_) (fun c11 => ?_)
    · replace hf := (if_neg c11).symm.trans hf
      exact zv_vret dX6_readRow_391 rfl (zret0 wd hf)
    · replace hf := (if_pos c11).symm.trans hf
      refine zv_aload_n dX6_readRow_264 rfl rfl ?_
      refine zv_get zf_X6_32 (wo_31 S10) rfl dX6_readRow_265 ?_
      refine zv_bipush (v := 36) dX6_readRow_268 (by decide) ?_
      refine zv_bipush (v := 6) dX6_readRow_270 (by decide) ?_
      refine zv_iload_n dX6_readRow_272 rfl rfl ?_
      refine zv_imul dX6_readRow_273 ?_
      refine zv_iadd dX6_readRow_274 ?_
      refine zv_iload_n dX6_readRow_275 rfl rfl ?_
      refine zv_iadd dX6_readRow_276 ?_
      obtain ⟨hb12, hf⟩ := zifb hf
      refine zv_iald hb12 (wo_39 S10) dX6_readRow_277 ?_
      refine zv_iload dX6_readRow_278 rfl ?_
      refine zv_iadd dX6_readRow_280 ?_
      refine zv_istore dX6_readRow_281 (by decide) ?_
      refine zv_aload_n dX6_readRow_283 rfl rfl ?_
      refine zv_get zf_X6_32 (wo_31 S10) rfl dX6_readRow_284 ?_
      refine zv_bipush (v := 36) dX6_readRow_287 (by decide) ?_
      refine zv_bipush (v := 6) dX6_readRow_289 (by decide) ?_
      refine zv_iload_n dX6_readRow_291 rfl rfl ?_
      refine zv_imul dX6_readRow_292 ?_
      refine zv_iadd dX6_readRow_293 ?_
      refine zv_iload_n dX6_readRow_294 rfl rfl ?_
      refine zv_iadd dX6_readRow_295 ?_
      refine zv_iload dX6_readRow_296 rfl ?_
      refine zv_sipush (v := 999) dX6_readRow_298 (by decide) ?_
      refine zv_icmp_le (tgt := 310) dX6_readRow_301 (by decide) (fun c13 => ?_) (fun c13 => ?_)
      · replace hf := (if_pos c13).symm.trans hf
        refine zv_iload dX6_readRow_310 rfl ?_
        obtain ⟨hb14, hf⟩ := zifb hf
        refine zv_iast hb14 (wo_39 S10) (ws_39 S10 (upd (S10.1 39) ((((36 : Int32) + ((6 : Int32) * x3)) + x6)).toNatClampNeg ((S10.1 39 ((((36 : Int32) + ((6 : Int32) * x3)) + x6)).toNatClampNeg) + x9))) dX6_readRow_312 ?_
        refine zv_goto (tgt := 391) dX6_readRow_313 (by decide) ?_
        exact zv_vret dX6_readRow_391 rfl (zret0 wd hf)
      · replace hf := (if_neg c13).symm.trans hf
        refine zv_sipush (v := 999) dX6_readRow_304 (by decide) ?_
        refine zv_goto (tgt := 312) dX6_readRow_307 (by decide) ?_
        obtain ⟨hb15, hf⟩ := zifb hf
        refine zv_iast hb15 (wo_39 S10) (ws_39 S10 (upd (S10.1 39) ((((36 : Int32) + ((6 : Int32) * x3)) + x6)).toNatClampNeg (999 : Int32))) dX6_readRow_312 ?_
        refine zv_goto (tgt := 391) dX6_readRow_313 (by decide) ?_
        exact zv_vret dX6_readRow_391 rfl (zret0 wd hf)
  replace hf := (if_neg c1).symm.trans hf
  by_cases c16 : a1 = 109
  · replace hf := (if_pos c16).symm.trans hf
    refine zv_lookup (off := 315) (tgt := 316) dX6_readRow_1 (by decide) (by rw [c16]; decide) (by decide) ?_
    refine zv_aload_n dX6_readRow_316 rfl rfl ?_
    refine zv_get zf_X6_35 (wo_31 S) rfl dX6_readRow_317 ?_
    refine zv_iconst (v := 3) dX6_readRow_320 (by decide) ?_
    refine zv_aload_n dX6_readRow_321 rfl rfl ?_
    refine zv_iconst (v := 1) dX6_readRow_322 (by decide) ?_
    refine zv_bipush (v := 9) dX6_readRow_323 (by decide) ?_
    obtain ⟨x18, S19, hc17, hf⟩ := zbind2 hf
    refine zv_callV dX6_readRow_325 zk_X6_91 zm_X6_number (c_X6_number  d (by omega) S (1 : Int32) (9 : Int32) x18 S19 hc17) (wo_31 S) rfl rfl rfl (Nat.le_of_ble_eq_true rfl) ?_
    refine zv_iastK (k := 3) (by decide) (by decide) (wo_40 S19) (ws_40 S19 (upd (S19.1 40) 3 x18)) dX6_readRow_328 ?_
    refine zv_aload_n dX6_readRow_329 rfl rfl ?_
    refine zv_dup dX6_readRow_330 rfl ?_
    refine zv_get zf_X6_88 (wo_31 (zr S19 40 (upd (S19.1 40) 3 x18))) rfl dX6_readRow_331 ?_
    refine zv_iconst (v := 1) dX6_readRow_334 (by decide) ?_
    refine zv_ior dX6_readRow_335 ?_
    refine zv_put zp_X6_88 (wo_31 (zr S19 40 (upd (S19.1 40) 3 x18))) rfl (fun _ => ⟨rfl, rfl⟩) (Nat.le_of_ble_eq_true rfl) (wp_31_11 (zr S19 40 (upd (S19.1 40) 3 x18)) (((zr S19 40 (upd (S19.1 40) 3 x18)).1 31 11) ||| (1 : Int32))) dX6_readRow_336 ?_
    refine zv_goto (tgt := 391) dX6_readRow_339 (by decide) ?_
    exact zv_vret dX6_readRow_391 rfl (zret0 wd hf)
  replace hf := (if_neg c16).symm.trans hf
  by_cases c20 : a1 = 114
  · replace hf := (if_pos c20).symm.trans hf
    refine zv_lookup (off := 123) (tgt := 124) dX6_readRow_1 (by decide) (by rw [c20]; decide) (by decide) ?_
    refine zv_aload_n dX6_readRow_124 rfl rfl ?_
    refine zv_iconst (v := 0) dX6_readRow_125 (by decide) ?_
    refine zv_aload_n dX6_readRow_126 rfl rfl ?_
    refine zv_get zf_X6_13 (wo_31 S) rfl dX6_readRow_127 ?_
    refine zv_iconst (v := 1) dX6_readRow_130 (by decide) ?_
    refine zv_ialdK (k := 1) (by decide) (by decide) (wo_33 S) dX6_readRow_131 ?_
    refine zv_iconst (v := 1) dX6_readRow_132 (by decide) ?_
    refine zv_isub dX6_readRow_133 ?_
    obtain ⟨x22, S23, hc21, hf⟩ := zbind2 hf
    refine zv_callV dX6_readRow_134 zk_X6_91 zm_X6_number (c_X6_number  d (by omega) S (0 : Int32) ((S.1 33 1) - (1 : Int32)) x22 S23 hc21) (wo_31 S) rfl rfl rfl (Nat.le_of_ble_eq_true rfl) ?_
    refine zv_istore_n dX6_readRow_137 rfl (by decide) ?_
    refine zv_aload_n dX6_readRow_138 rfl rfl ?_
    refine zv_iload_n dX6_readRow_139 rfl rfl ?_
    obtain ⟨x25, S26, hc24, hf⟩ := zbind2 hf
    refine zv_callV dX6_readRow_140 zk_X6_95 zm_X6_another (c_X6_another  d (by omega) S23 x22 x25 S26 hc24) (wo_31 S23) rfl rfl rfl (Nat.le_of_ble_eq_true rfl) ?_
    refine zv_istore_n dX6_readRow_143 rfl (by decide) ?_
    refine zv_aload_n dX6_readRow_144 rfl rfl ?_
    refine zv_iconst (v := 1) dX6_readRow_145 (by decide) ?_
    refine zv_bipush (v := 9) dX6_readRow_146 (by decide) ?_
    obtain ⟨x28, S29, hc27, hf⟩ := zbind2 hf
    refine zv_callV dX6_readRow_148 zk_X6_91 zm_X6_number (c_X6_number  d (by omega) S26 (1 : Int32) (9 : Int32) x28 S29 hc27) (wo_31 S26) rfl rfl rfl (Nat.le_of_ble_eq_true rfl) ?_
    refine zv_istore dX6_readRow_151 (by decide) ?_
    refine zv_aload_n dX6_readRow_153 rfl rfl ?_
    refine zv_get zf_X6_78 (wo_31 S29) rfl dX6_readRow_154 ?_
    refine zv_bipush (v := -9) dX6_readRow_157 (by decide) ?_
    refine zv_icmp_ne (tgt := 213) dX6_readRow_159 (by decide) (fun c30 => ?_) (fun c30 => ?_)
    · replace hf := (if_neg c30).symm.trans hf
      exact zV_sub ([(0, .ref 31)]) ⟨rfl, trivial⟩ (v_X6_readRow_213 d (by omega) S29 _ hf)
    · replace hf := (if_pos c30).symm.trans hf
      refine zv_iload dX6_readRow_162 rfl ?_
      refine zv_aload_n dX6_readRow_164 rfl rfl ?_
      refine zv_get zf_X6_29 (wo_31 S29) rfl dX6_readRow_165 ?_
      refine zv_bipush (v := 36) dX6_readRow_168 (by decide) ?_
      refine zv_bipush (v := 6) dX6_readRow_170 (by decide) ?_
      refine zv_iload_n dX6_readRow_172 rfl rfl ?_
      refine zv_imul dX6_readRow_173 ?_
      refine zv_iadd dX6_readRow_174 ?_
      refine zv_iload_n dX6_readRow_175 rfl rfl ?_
      refine zv_iadd dX6_readRow_176 ?_
      obtain ⟨hb31, hf⟩ := zifb hf
      refine zv_iald hb31 (wo_38 S29) dX6_readRow_177 ?_
      refine zv_icmp_ge (tgt := 213) dX6_readRow_178 (by decide) (fun c32 => ?_) (fun c32 => ?_)
      · replace hf := (if_pos c32).symm.trans hf
        exact zV_sub ([(0, .ref 31)]) ⟨rfl, trivial⟩ (v_X6_readRow_213 d (by omega) S29 _ hf)
      · replace hf := (if_neg c32).symm.trans hf
        refine zv_aload_n dX6_readRow_181 rfl rfl ?_
        refine zv_get zf_X6_29 (wo_31 S29) rfl dX6_readRow_182 ?_
        refine zv_bipush (v := 36) dX6_readRow_185 (by decide) ?_
        refine zv_bipush (v := 6) dX6_readRow_187 (by decide) ?_
        refine zv_iload_n dX6_readRow_189 rfl rfl ?_
        refine zv_imul dX6_readRow_190 ?_
        refine zv_iadd dX6_readRow_191 ?_
        refine zv_iload_n dX6_readRow_192 rfl rfl ?_
        refine zv_iadd dX6_readRow_193 ?_
        refine zv_iload dX6_readRow_194 rfl ?_
        obtain ⟨hb33, hf⟩ := zifb hf
        refine zv_iast hb33 (wo_38 S29) (ws_38 S29 (upd (S29.1 38) ((((36 : Int32) + ((6 : Int32) * x22)) + x25)).toNatClampNeg x28)) dX6_readRow_196 ?_
        refine zv_aload_n dX6_readRow_197 rfl rfl ?_
        refine zv_get zf_X6_29 (wo_31 (zr S29 38 (upd (S29.1 38) ((((36 : Int32) + ((6 : Int32) * x22)) + x25)).toNatClampNeg x28))) rfl dX6_readRow_198 ?_
        refine zv_bipush (v := 36) dX6_readRow_201 (by decide) ?_
        refine zv_bipush (v := 6) dX6_readRow_203 (by decide) ?_
        refine zv_iload_n dX6_readRow_205 rfl rfl ?_
        refine zv_imul dX6_readRow_206 ?_
        refine zv_iadd dX6_readRow_207 ?_
        refine zv_iload_n dX6_readRow_208 rfl rfl ?_
        refine zv_iadd dX6_readRow_209 ?_
        refine zv_iload dX6_readRow_210 rfl ?_
        obtain ⟨hb34, hf⟩ := zifb hf
        refine zv_iast hb34 (wo_38 (zr S29 38 (upd (S29.1 38) ((((36 : Int32) + ((6 : Int32) * x22)) + x25)).toNatClampNeg x28))) (ws_38 (zr S29 38 (upd (S29.1 38) ((((36 : Int32) + ((6 : Int32) * x22)) + x25)).toNatClampNeg x28)) (upd ((zr S29 38 (upd (S29.1 38) ((((36 : Int32) + ((6 : Int32) * x22)) + x25)).toNatClampNeg x28)).1 38) ((((36 : Int32) + ((6 : Int32) * x25)) + x22)).toNatClampNeg x28)) dX6_readRow_212 ?_
        exact zV_sub ([(0, .ref 31)]) ⟨rfl, trivial⟩ (v_X6_readRow_213 d (by omega) (zr (zr S29 38 (upd (S29.1 38) ((((36 : Int32) + ((6 : Int32) * x22)) + x25)).toNatClampNeg x28)) 38 (upd ((zr S29 38 (upd (S29.1 38) ((((36 : Int32) + ((6 : Int32) * x22)) + x25)).toNatClampNeg x28)).1 38) ((((36 : Int32) + ((6 : Int32) * x25)) + x22)).toNatClampNeg x28)) _ hf)
  replace hf := (if_neg c20).symm.trans hf
  by_cases c35 : a1 = 118
  · replace hf := (if_pos c35).symm.trans hf
    refine zv_lookup (off := 51) (tgt := 52) dX6_readRow_1 (by decide) (by rw [c35]; decide) (by decide) ?_
    refine zv_aload_n dX6_readRow_52 rfl rfl ?_
    refine zv_get zf_X6_17 (wo_31 S) rfl dX6_readRow_53 ?_
    refine zv_aload_n dX6_readRow_56 rfl rfl ?_
    refine zv_get zf_X6_13 (wo_31 S) rfl dX6_readRow_57 ?_
    refine zv_iconst (v := 1) dX6_readRow_60 (by decide) ?_
    refine zv_ialdK (k := 1) (by decide) (by decide) (wo_33 S) dX6_readRow_61 ?_
    refine zv_aload_n dX6_readRow_62 rfl rfl ?_
    refine zv_iconst (v := 0) dX6_readRow_63 (by decide) ?_
    refine zv_bipush (v := 60) dX6_readRow_64 (by decide) ?_
    obtain ⟨x37, S38, hc36, hf⟩ := zbind2 hf
    refine zv_callV dX6_readRow_66 zk_X6_91 zm_X6_number (c_X6_number  d (by omega) S (0 : Int32) (60 : Int32) x37 S38 hc36) (wo_31 S) rfl rfl rfl (Nat.le_of_ble_eq_true rfl) ?_
    obtain ⟨hb39, hf⟩ := zifb hf
    refine zv_iast hb39 (wo_34 S38) (ws_34 S38 (upd (S38.1 34) ((S.1 33 1)).toNatClampNeg x37)) dX6_readRow_69 ?_
    refine zv_aload_n dX6_readRow_70 rfl rfl ?_
    refine zv_get zf_X6_20 (wo_31 (zr S38 34 (upd (S38.1 34) ((S.1 33 1)).toNatClampNeg x37))) rfl dX6_readRow_71 ?_
    refine zv_bipush (v := 6) dX6_readRow_74 (by decide) ?_
    refine zv_aload_n dX6_readRow_76 rfl rfl ?_
    refine zv_get zf_X6_13 (wo_31 (zr S38 34 (upd (S38.1 34) ((S.1 33 1)).toNatClampNeg x37))) rfl dX6_readRow_77 ?_
    refine zv_iconst (v := 1) dX6_readRow_80 (by decide) ?_
    refine zv_ialdK (k := 1) (by decide) (by decide) (wo_33 (zr S38 34 (upd (S38.1 34) ((S.1 33 1)).toNatClampNeg x37))) dX6_readRow_81 ?_
    refine zv_iadd dX6_readRow_82 ?_
    refine zv_aload_n dX6_readRow_83 rfl rfl ?_
    refine zv_iconst (v := 0) dX6_readRow_84 (by decide) ?_
    refine zv_bipush (v := 60) dX6_readRow_85 (by decide) ?_
    obtain ⟨x41, S42, hc40, hf⟩ := zbind2 hf
    refine zv_callV dX6_readRow_87 zk_X6_91 zm_X6_number (c_X6_number  d (by omega) (zr S38 34 (upd (S38.1 34) ((S.1 33 1)).toNatClampNeg x37)) (0 : Int32) (60 : Int32) x41 S42 hc40) (wo_31 (zr S38 34 (upd (S38.1 34) ((S.1 33 1)).toNatClampNeg x37))) rfl rfl rfl (Nat.le_of_ble_eq_true rfl) ?_
    obtain ⟨hb43, hf⟩ := zifb hf
    refine zv_iast hb43 (wo_35 S42) (ws_35 S42 (upd (S42.1 35) (((6 : Int32) + ((zr S38 34 (upd (S38.1 34) ((S.1 33 1)).toNatClampNeg x37)).1 33 1))).toNatClampNeg x41)) dX6_readRow_90 ?_
    refine zv_aload_n dX6_readRow_91 rfl rfl ?_
    refine zv_get zf_X6_23 (wo_31 (zr S42 35 (upd (S42.1 35) (((6 : Int32) + ((zr S38 34 (upd (S38.1 34) ((S.1 33 1)).toNatClampNeg x37)).1 33 1))).toNatClampNeg x41))) rfl dX6_readRow_92 ?_
    refine zv_bipush (v := 6) dX6_readRow_95 (by decide) ?_
    refine zv_aload_n dX6_readRow_97 rfl rfl ?_
    refine zv_get zf_X6_13 (wo_31 (zr S42 35 (upd (S42.1 35) (((6 : Int32) + ((zr S38 34 (upd (S38.1 34) ((S.1 33 1)).toNatClampNeg x37)).1 33 1))).toNatClampNeg x41))) rfl dX6_readRow_98 ?_
    refine zv_iconst (v := 1) dX6_readRow_101 (by decide) ?_
    refine zv_ialdK (k := 1) (by decide) (by decide) (wo_33 (zr S42 35 (upd (S42.1 35) (((6 : Int32) + ((zr S38 34 (upd (S38.1 34) ((S.1 33 1)).toNatClampNeg x37)).1 33 1))).toNatClampNeg x41))) dX6_readRow_102 ?_
    refine zv_iadd dX6_readRow_103 ?_
    refine zv_aload_n dX6_readRow_104 rfl rfl ?_
    refine zv_iconst (v := 0) dX6_readRow_105 (by decide) ?_
    refine zv_iconst (v := 1) dX6_readRow_106 (by decide) ?_
    obtain ⟨x45, S46, hc44, hf⟩ := zbind2 hf
    refine zv_callV dX6_readRow_107 zk_X6_91 zm_X6_number (c_X6_number  d (by omega) (zr S42 35 (upd (S42.1 35) (((6 : Int32) + ((zr S38 34 (upd (S38.1 34) ((S.1 33 1)).toNatClampNeg x37)).1 33 1))).toNatClampNeg x41)) (0 : Int32) (1 : Int32) x45 S46 hc44) (wo_31 (zr S42 35 (upd (S42.1 35) (((6 : Int32) + ((zr S38 34 (upd (S38.1 34) ((S.1 33 1)).toNatClampNeg x37)).1 33 1))).toNatClampNeg x41))) rfl rfl rfl (Nat.le_of_ble_eq_true rfl) ?_
    obtain ⟨hb47, hf⟩ := zifb hf
    refine zv_iast hb47 (wo_36 S46) (ws_36 S46 (upd (S46.1 36) (((6 : Int32) + ((zr S42 35 (upd (S42.1 35) (((6 : Int32) + ((zr S38 34 (upd (S38.1 34) ((S.1 33 1)).toNatClampNeg x37)).1 33 1))).toNatClampNeg x41)).1 33 1))).toNatClampNeg x45)) dX6_readRow_110 ?_
    refine zv_aload_n dX6_readRow_111 rfl rfl ?_
    refine zv_get zf_X6_13 (wo_31 (zr S46 36 (upd (S46.1 36) (((6 : Int32) + ((zr S42 35 (upd (S42.1 35) (((6 : Int32) + ((zr S38 34 (upd (S38.1 34) ((S.1 33 1)).toNatClampNeg x37)).1 33 1))).toNatClampNeg x41)).1 33 1))).toNatClampNeg x45))) rfl dX6_readRow_112 ?_
    refine zv_iconst (v := 1) dX6_readRow_115 (by decide) ?_
    refine zv_dup2 dX6_readRow_116 rfl rfl ?_
    refine zv_ialdK (k := 1) (by decide) (by decide) (wo_33 (zr S46 36 (upd (S46.1 36) (((6 : Int32) + ((zr S42 35 (upd (S42.1 35) (((6 : Int32) + ((zr S38 34 (upd (S38.1 34) ((S.1 33 1)).toNatClampNeg x37)).1 33 1))).toNatClampNeg x41)).1 33 1))).toNatClampNeg x45))) dX6_readRow_117 ?_
    refine zv_iconst (v := 1) dX6_readRow_118 (by decide) ?_
    refine zv_iadd dX6_readRow_119 ?_
    refine zv_iastK (k := 1) (by decide) (by decide) (wo_33 (zr S46 36 (upd (S46.1 36) (((6 : Int32) + ((zr S42 35 (upd (S42.1 35) (((6 : Int32) + ((zr S38 34 (upd (S38.1 34) ((S.1 33 1)).toNatClampNeg x37)).1 33 1))).toNatClampNeg x41)).1 33 1))).toNatClampNeg x45))) (ws_33 (zr S46 36 (upd (S46.1 36) (((6 : Int32) + ((zr S42 35 (upd (S42.1 35) (((6 : Int32) + ((zr S38 34 (upd (S38.1 34) ((S.1 33 1)).toNatClampNeg x37)).1 33 1))).toNatClampNeg x41)).1 33 1))).toNatClampNeg x45)) (upd ((zr S46 36 (upd (S46.1 36) (((6 : Int32) + ((zr S42 35 (upd (S42.1 35) (((6 : Int32) + ((zr S38 34 (upd (S38.1 34) ((S.1 33 1)).toNatClampNeg x37)).1 33 1))).toNatClampNeg x41)).1 33 1))).toNatClampNeg x45)).1 33) 1 (((zr S46 36 (upd (S46.1 36) (((6 : Int32) + ((zr S42 35 (upd (S42.1 35) (((6 : Int32) + ((zr S38 34 (upd (S38.1 34) ((S.1 33 1)).toNatClampNeg x37)).1 33 1))).toNatClampNeg x41)).1 33 1))).toNatClampNeg x45)).1 33 1) + (1 : Int32)))) dX6_readRow_120 ?_
    refine zv_goto (tgt := 391) dX6_readRow_121 (by decide) ?_
    exact zv_vret dX6_readRow_391 rfl (zret0 wd hf)
  replace hf := (if_neg c35).symm.trans hf
  by_cases c48 : a1 = 119
  · replace hf := (if_pos c48).symm.trans hf
    refine zv_lookup (off := 341) (tgt := 342) dX6_readRow_1 (by decide) (by rw [c48]; decide) (by decide) ?_
    refine zv_aload_n dX6_readRow_342 rfl rfl ?_
    refine zv_get zf_X6_35 (wo_31 S) rfl dX6_readRow_343 ?_
    refine zv_iconst (v := 4) dX6_readRow_346 (by decide) ?_
    refine zv_aload_n dX6_readRow_347 rfl rfl ?_
    refine zv_iconst (v := 0) dX6_readRow_348 (by decide) ?_
    refine zv_bipush (v := 10) dX6_readRow_349 (by decide) ?_
    obtain ⟨x50, S51, hc49, hf⟩ := zbind2 hf
    refine zv_callV dX6_readRow_351 zk_X6_91 zm_X6_number (c_X6_number  d (by omega) S (0 : Int32) (10 : Int32) x50 S51 hc49) (wo_31 S) rfl rfl rfl (Nat.le_of_ble_eq_true rfl) ?_
    refine zv_iastK (k := 4) (by decide) (by decide) (wo_40 S51) (ws_40 S51 (upd (S51.1 40) 4 x50)) dX6_readRow_354 ?_
    refine zv_aload_n dX6_readRow_355 rfl rfl ?_
    refine zv_dup dX6_readRow_356 rfl ?_
    refine zv_get zf_X6_88 (wo_31 (zr S51 40 (upd (S51.1 40) 4 x50))) rfl dX6_readRow_357 ?_
    refine zv_iconst (v := 2) dX6_readRow_360 (by decide) ?_
    refine zv_ior dX6_readRow_361 ?_
    refine zv_put zp_X6_88 (wo_31 (zr S51 40 (upd (S51.1 40) 4 x50))) rfl (fun _ => ⟨rfl, rfl⟩) (Nat.le_of_ble_eq_true rfl) (wp_31_11 (zr S51 40 (upd (S51.1 40) 4 x50)) (((zr S51 40 (upd (S51.1 40) 4 x50)).1 31 11) ||| (2 : Int32))) dX6_readRow_362 ?_
    refine zv_goto (tgt := 391) dX6_readRow_365 (by decide) ?_
    exact zv_vret dX6_readRow_391 rfl (zret0 wd hf)
  replace hf := (if_neg c48).symm.trans hf
  refine zv_lookup (off := 367) (tgt := 368) dX6_readRow_1 (by decide) ((lv_osw c1 (by decide)).trans ((lv_osw c16 (by decide)).trans ((lv_osw c20 (by decide)).trans ((lv_osw c35 (by decide)).trans ((lv_osw c48 (by decide)).trans rfl))))) (by decide) ?_
  refine zv_aload_n dX6_readRow_368 rfl rfl ?_
  refine zv_get zf_X6_35 (wo_31 S) rfl dX6_readRow_369 ?_
  refine zv_iconst (v := 5) dX6_readRow_372 (by decide) ?_
  refine zv_aload_n dX6_readRow_373 rfl rfl ?_
  refine zv_iconst (v := 0) dX6_readRow_374 (by decide) ?_
  refine zv_bipush (v := 99) dX6_readRow_375 (by decide) ?_
  obtain ⟨x53, S54, hc52, hf⟩ := zbind2 hf
  refine zv_callV dX6_readRow_377 zk_X6_91 zm_X6_number (c_X6_number  d (by omega) S (0 : Int32) (99 : Int32) x53 S54 hc52) (wo_31 S) rfl rfl rfl (Nat.le_of_ble_eq_true rfl) ?_
  refine zv_iastK (k := 5) (by decide) (by decide) (wo_40 S54) (ws_40 S54 (upd (S54.1 40) 5 x53)) dX6_readRow_380 ?_
  refine zv_aload_n dX6_readRow_381 rfl rfl ?_
  refine zv_dup dX6_readRow_382 rfl ?_
  refine zv_get zf_X6_88 (wo_31 (zr S54 40 (upd (S54.1 40) 5 x53))) rfl dX6_readRow_383 ?_
  refine zv_iconst (v := 4) dX6_readRow_386 (by decide) ?_
  refine zv_ior dX6_readRow_387 ?_
  refine zv_put zp_X6_88 (wo_31 (zr S54 40 (upd (S54.1 40) 5 x53))) rfl (fun _ => ⟨rfl, rfl⟩) (Nat.le_of_ble_eq_true rfl) (wp_31_11 (zr S54 40 (upd (S54.1 40) 5 x53)) (((zr S54 40 (upd (S54.1 40) 5 x53)).1 31 11) ||| (4 : Int32))) dX6_readRow_388 ?_
  exact zv_vret dX6_readRow_391 rfl (zret0 wd hf)
-- KingPricesModel.takeDraft()V height 0 writes
def f_X6_takeDraft_138 (k74 : zS → Int32 → Option zS) (S : zS) (a1 : Int32) : Option zS :=
  k74 S (a1 + (1 : Int32))
set_option maxRecDepth 100000 in
set_option maxHeartbeats 4000000 in
theorem v_X6_takeDraft_138 (d : Nat) (k74 : zS → Int32 → Option zS) (hk74 : ∀ (S : zS) (a1 : Int32) S', k74 S a1 = (some S') → zV none d yX6_takeDraft cX6_takeDraft 4 none 74 [(0, .ref 31), (1, .int a1)] [] (wd S) (zq none (wd S'))) (S : zS) (a1 : Int32) (S' : zS) (hf : f_X6_takeDraft_138 k74 S a1 = (some S')) : zV none d yX6_takeDraft cX6_takeDraft 4 none 138 [(0, .ref 31), (1, .int a1)] [] (wd S) (zq none (wd S')) := by
  unfold f_X6_takeDraft_138 at hf
  refine zv_iinc (v := 1) dX6_takeDraft_138 rfl (by decide) (by decide) ?_
  refine zv_goto (tgt := 74) dX6_takeDraft_141 (by decide) ?_
  exact zV_sub ([(0, .ref 31), (1, .int (a1 + (1 : Int32)))]) ⟨rfl, rfl, trivial⟩ (hk74 S (a1 + (1 : Int32)) _ hf)
def f_X6_takeDraft_260 (k190 : zS → Int32 → Option zS) (k198 : zS → Int32 → Int32 → Option zS) (S : zS) (a1 : Int32) (a2 : Int32) : Option zS :=
  k198 S a1 (a2 + (1 : Int32))
set_option maxRecDepth 100000 in
set_option maxHeartbeats 4000000 in
theorem v_X6_takeDraft_260 (d : Nat) (k190 : zS → Int32 → Option zS) (hk190 : ∀ (S : zS) (a1 : Int32) S', k190 S a1 = (some S') → zV none d yX6_takeDraft cX6_takeDraft 4 none 190 [(0, .ref 31), (1, .int a1)] [] (wd S) (zq none (wd S'))) (k198 : zS → Int32 → Int32 → Option zS) (hk198 : ∀ (S : zS) (a1 a2 : Int32) S', k198 S a1 a2 = (some S') → zV none d yX6_takeDraft cX6_takeDraft 4 none 198 [(0, .ref 31), (1, .int a1), (2, .int a2)] [] (wd S) (zq none (wd S'))) (S : zS) (a1 : Int32) (a2 : Int32) (S' : zS) (hf : f_X6_takeDraft_260 k190 k198 S a1 a2 = (some S')) : zV none d yX6_takeDraft cX6_takeDraft 4 none 260 [(0, .ref 31), (1, .int a1), (2, .int a2)] [] (wd S) (zq none (wd S')) := by
  unfold f_X6_takeDraft_260 at hf
  refine zv_iinc (v := 1) dX6_takeDraft_260 rfl (by decide) (by decide) ?_
  refine zv_goto (tgt := 198) dX6_takeDraft_263 (by decide) ?_
  exact zV_sub ([(0, .ref 31), (1, .int a1), (2, .int (a2 + (1 : Int32)))]) ⟨rfl, rfl, rfl, trivial⟩ (hk198 S a1 (a2 + (1 : Int32)) _ hf)
def f_X6_takeDraft_198 (k190 : zS → Int32 → Option zS) : Nat → zS → Int32 → Int32 → Option zS
  | 0, _, _, _ => none
  | n + 1, S, a1, a2 => (if (36 : Int32) ≤ a2 then k190 S (a1 + (1 : Int32)) else (if zin (((a2 / (6 : Int32)) * (6 : Int32)) + a1) 72 then (if zin (((6 : Int32) * a1) + (a2 - a2 / (6 : Int32) * (6 : Int32))) 72 then (if zin a2 72 then (if (S.1 38 (a2).toNatClampNeg) ≤ ((S.1 38 ((((a2 / (6 : Int32)) * (6 : Int32)) + a1)).toNatClampNeg) + (S.1 38 ((((6 : Int32) * a1) + (a2 - a2 / (6 : Int32) * (6 : Int32)))).toNatClampNeg)) then (if zin a2 72 then (if zin a2 72 then f_X6_takeDraft_260 k190 (f_X6_takeDraft_198 k190 n) (zr S 38 (upd (S.1 38) (a2).toNatClampNeg (S.1 38 (a2).toNatClampNeg))) a1 a2 else none) else none) else (if zin a2 72 then f_X6_takeDraft_260 k190 (f_X6_takeDraft_198 k190 n) (zr S 38 (upd (S.1 38) (a2).toNatClampNeg ((S.1 38 ((((a2 / (6 : Int32)) * (6 : Int32)) + a1)).toNatClampNeg) + (S.1 38 ((((6 : Int32) * a1) + (a2 - a2 / (6 : Int32) * (6 : Int32)))).toNatClampNeg)))) a1 a2 else none)) else none) else none) else none))
set_option maxRecDepth 100000 in
set_option maxHeartbeats 4000000 in
theorem v_X6_takeDraft_198 (d : Nat) (k190 : zS → Int32 → Option zS) (hk190 : ∀ (S : zS) (a1 : Int32) S', k190 S a1 = (some S') → zV none d yX6_takeDraft cX6_takeDraft 4 none 190 [(0, .ref 31), (1, .int a1)] [] (wd S) (zq none (wd S'))) : ∀ (n : Nat) (S : zS) (a1 : Int32) (a2 : Int32) (S' : zS), f_X6_takeDraft_198 k190 n S a1 a2 = (some S') → zV none d yX6_takeDraft cX6_takeDraft 4 none 198 [(0, .ref 31), (1, .int a1), (2, .int a2)] [] (wd S) (zq none (wd S')) := by
  intro n
  induction n with
  | zero =>
    intro S a1 a2 S' hf
    cases hf
  | succ n ih =>
    intro S a1 a2 S' hf
    rw [f_X6_takeDraft_198] at hf
    refine zv_iload_n dX6_takeDraft_198 rfl rfl ?_
    refine zv_bipush (v := 36) dX6_takeDraft_199 (by decide) ?_
    refine zv_icmp_ge (tgt := 266) dX6_takeDraft_201 (by decide) (fun c1 => ?_) (fun c1 => ?_)
    · replace hf := (if_pos c1).symm.trans hf
      refine zv_iinc (v := 1) dX6_takeDraft_266 rfl (by decide) (by decide) ?_
      refine zv_goto (tgt := 190) dX6_takeDraft_269 (by decide) ?_
      exact zV_sub ([(0, .ref 31), (1, .int (a1 + (1 : Int32)))]) ⟨rfl, rfl, trivial⟩ (hk190 S (a1 + (1 : Int32)) _ hf)
    · replace hf := (if_neg c1).symm.trans hf
      refine zv_aload_n dX6_takeDraft_204 rfl rfl ?_
      refine zv_get zf_X6_29 (wo_31 S) rfl dX6_takeDraft_205 ?_
      refine zv_iload_n dX6_takeDraft_208 rfl rfl ?_
      refine zv_bipush (v := 6) dX6_takeDraft_209 (by decide) ?_
      refine zv_idiv (by decide) dX6_takeDraft_211 ?_
      refine zv_bipush (v := 6) dX6_takeDraft_212 (by decide) ?_
      refine zv_imul dX6_takeDraft_214 ?_
      refine zv_iload_n dX6_takeDraft_215 rfl rfl ?_
      refine zv_iadd dX6_takeDraft_216 ?_
      obtain ⟨hb2, hf⟩ := zifb hf
      refine zv_iald hb2 (wo_38 S) dX6_takeDraft_217 ?_
      refine zv_aload_n dX6_takeDraft_218 rfl rfl ?_
      refine zv_get zf_X6_29 (wo_31 S) rfl dX6_takeDraft_219 ?_
      refine zv_bipush (v := 6) dX6_takeDraft_222 (by decide) ?_
      refine zv_iload_n dX6_takeDraft_224 rfl rfl ?_
      refine zv_imul dX6_takeDraft_225 ?_
      refine zv_iload_n dX6_takeDraft_226 rfl rfl ?_
      refine zv_bipush (v := 6) dX6_takeDraft_227 (by decide) ?_
      refine zv_irem (by decide) dX6_takeDraft_229 ?_
      refine zv_iadd dX6_takeDraft_230 ?_
      obtain ⟨hb3, hf⟩ := zifb hf
      refine zv_iald hb3 (wo_38 S) dX6_takeDraft_231 ?_
      refine zv_iadd dX6_takeDraft_232 ?_
      refine zv_istore_n dX6_takeDraft_233 rfl (by decide) ?_
      refine zv_aload_n dX6_takeDraft_234 rfl rfl ?_
      refine zv_get zf_X6_29 (wo_31 S) rfl dX6_takeDraft_235 ?_
      refine zv_iload_n dX6_takeDraft_238 rfl rfl ?_
      refine zv_iload_n dX6_takeDraft_239 rfl rfl ?_
      refine zv_aload_n dX6_takeDraft_240 rfl rfl ?_
      refine zv_get zf_X6_29 (wo_31 S) rfl dX6_takeDraft_241 ?_
      refine zv_iload_n dX6_takeDraft_244 rfl rfl ?_
      obtain ⟨hb4, hf⟩ := zifb hf
      refine zv_iald hb4 (wo_38 S) dX6_takeDraft_245 ?_
      refine zv_icmp_ge (tgt := 253) dX6_takeDraft_246 (by decide) (fun c5 => ?_) (fun c5 => ?_)
      · replace hf := (if_pos c5).symm.trans hf
        refine zv_aload_n dX6_takeDraft_253 rfl rfl ?_
        refine zv_get zf_X6_29 (wo_31 S) rfl dX6_takeDraft_254 ?_
        refine zv_iload_n dX6_takeDraft_257 rfl rfl ?_
        obtain ⟨hb6, hf⟩ := zifb hf
        refine zv_iald hb6 (wo_38 S) dX6_takeDraft_258 ?_
        obtain ⟨hb7, hf⟩ := zifb hf
        refine zv_iast hb7 (wo_38 S) (ws_38 S (upd (S.1 38) (a2).toNatClampNeg (S.1 38 (a2).toNatClampNeg))) dX6_takeDraft_259 ?_
        exact zV_sub ([(0, .ref 31), (1, .int a1), (2, .int a2)]) ⟨rfl, rfl, rfl, trivial⟩ (v_X6_takeDraft_260 d k190 hk190 (f_X6_takeDraft_198 k190 n) ih (zr S 38 (upd (S.1 38) (a2).toNatClampNeg (S.1 38 (a2).toNatClampNeg))) a1 a2 _ hf)
      · replace hf := (if_neg c5).symm.trans hf
        refine zv_iload_n dX6_takeDraft_249 rfl rfl ?_
        refine zv_goto (tgt := 259) dX6_takeDraft_250 (by decide) ?_
        obtain ⟨hb8, hf⟩ := zifb hf
        refine zv_iast hb8 (wo_38 S) (ws_38 S (upd (S.1 38) (a2).toNatClampNeg ((S.1 38 ((((a2 / (6 : Int32)) * (6 : Int32)) + a1)).toNatClampNeg) + (S.1 38 ((((6 : Int32) * a1) + (a2 - a2 / (6 : Int32) * (6 : Int32)))).toNatClampNeg)))) dX6_takeDraft_259 ?_
        exact zV_sub ([(0, .ref 31), (1, .int a1), (2, .int a2)]) ⟨rfl, rfl, rfl, trivial⟩ (v_X6_takeDraft_260 d k190 hk190 (f_X6_takeDraft_198 k190 n) ih (zr S 38 (upd (S.1 38) (a2).toNatClampNeg ((S.1 38 ((((a2 / (6 : Int32)) * (6 : Int32)) + a1)).toNatClampNeg) + (S.1 38 ((((6 : Int32) * a1) + (a2 - a2 / (6 : Int32) * (6 : Int32)))).toNatClampNeg)))) a1 a2 _ hf)
def f_X6_takeDraft_293 (S : zS) : Option zS :=
  some (zr (zr (zr (zr S 41 (upd (S.1 41) 2 (S.1 40 2))) 41 (upd ((zr S 41 (upd (S.1 41) 2 (S.1 40 2))).1 41) 28 (0 : Int32))) 42 (upd ((zr (zr S 41 (upd (S.1 41) 2 (S.1 40 2))) 41 (upd ((zr S 41 (upd (S.1 41) 2 (S.1 40 2))).1 41) 28 (0 : Int32))).1 42) 0 (0 : Int32))) 42 (upd ((zr (zr (zr S 41 (upd (S.1 41) 2 (S.1 40 2))) 41 (upd ((zr S 41 (upd (S.1 41) 2 (S.1 40 2))).1 41) 28 (0 : Int32))) 42 (upd ((zr (zr S 41 (upd (S.1 41) 2 (S.1 40 2))) 41 (upd ((zr S 41 (upd (S.1 41) 2 (S.1 40 2))).1 41) 28 (0 : Int32))).1 42) 0 (0 : Int32))).1 42) 1 (0 : Int32)))
set_option maxRecDepth 100000 in
set_option maxHeartbeats 4000000 in
theorem v_X6_takeDraft_293 (d : Nat) (S : zS) (S' : zS) (hf : f_X6_takeDraft_293 S = (some S')) : zV none d yX6_takeDraft cX6_takeDraft 4 none 293 [(0, .ref 31)] [] (wd S) (zq none (wd S')) := by
  unfold f_X6_takeDraft_293 at hf
  refine zv_aload_n dX6_takeDraft_293 rfl rfl ?_
  refine zv_get zf_X6_38 (wo_31 S) rfl dX6_takeDraft_294 ?_
  refine zv_iconst (v := 2) dX6_takeDraft_297 (by decide) ?_
  refine zv_aload_n dX6_takeDraft_298 rfl rfl ?_
  refine zv_get zf_X6_35 (wo_31 S) rfl dX6_takeDraft_299 ?_
  refine zv_iconst (v := 2) dX6_takeDraft_302 (by decide) ?_
  refine zv_ialdK (k := 2) (by decide) (by decide) (wo_40 S) dX6_takeDraft_303 ?_
  refine zv_iastK (k := 2) (by decide) (by decide) (wo_41 S) (ws_41 S (upd (S.1 41) 2 (S.1 40 2))) dX6_takeDraft_304 ?_
  refine zv_aload_n dX6_takeDraft_305 rfl rfl ?_
  refine zv_get zf_X6_38 (wo_31 (zr S 41 (upd (S.1 41) 2 (S.1 40 2)))) rfl dX6_takeDraft_306 ?_
  refine zv_bipush (v := 28) dX6_takeDraft_309 (by decide) ?_
  refine zv_iconst (v := 0) dX6_takeDraft_311 (by decide) ?_
  refine zv_iastK (k := 28) (by decide) (by decide) (wo_41 (zr S 41 (upd (S.1 41) 2 (S.1 40 2)))) (ws_41 (zr S 41 (upd (S.1 41) 2 (S.1 40 2))) (upd ((zr S 41 (upd (S.1 41) 2 (S.1 40 2))).1 41) 28 (0 : Int32))) dX6_takeDraft_312 ?_
  refine zv_aload_n dX6_takeDraft_313 rfl rfl ?_
  refine zv_get zf_X6_41 (wo_31 (zr (zr S 41 (upd (S.1 41) 2 (S.1 40 2))) 41 (upd ((zr S 41 (upd (S.1 41) 2 (S.1 40 2))).1 41) 28 (0 : Int32)))) rfl dX6_takeDraft_314 ?_
  refine zv_iconst (v := 0) dX6_takeDraft_317 (by decide) ?_
  refine zv_iconst (v := 0) dX6_takeDraft_318 (by decide) ?_
  refine zv_zastK (k := 0) (x' := 0) (by decide) (by decide) (by decide) (wo_42 (zr (zr S 41 (upd (S.1 41) 2 (S.1 40 2))) 41 (upd ((zr S 41 (upd (S.1 41) 2 (S.1 40 2))).1 41) 28 (0 : Int32)))) (ws_42 (zr (zr S 41 (upd (S.1 41) 2 (S.1 40 2))) 41 (upd ((zr S 41 (upd (S.1 41) 2 (S.1 40 2))).1 41) 28 (0 : Int32))) (upd ((zr (zr S 41 (upd (S.1 41) 2 (S.1 40 2))) 41 (upd ((zr S 41 (upd (S.1 41) 2 (S.1 40 2))).1 41) 28 (0 : Int32))).1 42) 0 (0 : Int32))) dX6_takeDraft_319 ?_
  refine zv_aload_n dX6_takeDraft_320 rfl rfl ?_
  refine zv_get zf_X6_41 (wo_31 (zr (zr (zr S 41 (upd (S.1 41) 2 (S.1 40 2))) 41 (upd ((zr S 41 (upd (S.1 41) 2 (S.1 40 2))).1 41) 28 (0 : Int32))) 42 (upd ((zr (zr S 41 (upd (S.1 41) 2 (S.1 40 2))) 41 (upd ((zr S 41 (upd (S.1 41) 2 (S.1 40 2))).1 41) 28 (0 : Int32))).1 42) 0 (0 : Int32)))) rfl dX6_takeDraft_321 ?_
  refine zv_iconst (v := 1) dX6_takeDraft_324 (by decide) ?_
  refine zv_iconst (v := 0) dX6_takeDraft_325 (by decide) ?_
  refine zv_zastK (k := 1) (x' := 0) (by decide) (by decide) (by decide) (wo_42 (zr (zr (zr S 41 (upd (S.1 41) 2 (S.1 40 2))) 41 (upd ((zr S 41 (upd (S.1 41) 2 (S.1 40 2))).1 41) 28 (0 : Int32))) 42 (upd ((zr (zr S 41 (upd (S.1 41) 2 (S.1 40 2))) 41 (upd ((zr S 41 (upd (S.1 41) 2 (S.1 40 2))).1 41) 28 (0 : Int32))).1 42) 0 (0 : Int32)))) (ws_42 (zr (zr (zr S 41 (upd (S.1 41) 2 (S.1 40 2))) 41 (upd ((zr S 41 (upd (S.1 41) 2 (S.1 40 2))).1 41) 28 (0 : Int32))) 42 (upd ((zr (zr S 41 (upd (S.1 41) 2 (S.1 40 2))) 41 (upd ((zr S 41 (upd (S.1 41) 2 (S.1 40 2))).1 41) 28 (0 : Int32))).1 42) 0 (0 : Int32))) (upd ((zr (zr (zr S 41 (upd (S.1 41) 2 (S.1 40 2))) 41 (upd ((zr S 41 (upd (S.1 41) 2 (S.1 40 2))).1 41) 28 (0 : Int32))) 42 (upd ((zr (zr S 41 (upd (S.1 41) 2 (S.1 40 2))) 41 (upd ((zr S 41 (upd (S.1 41) 2 (S.1 40 2))).1 41) 28 (0 : Int32))).1 42) 0 (0 : Int32))).1 42) 1 (0 : Int32))) dX6_takeDraft_326 ?_
  exact zv_vret dX6_takeDraft_327 rfl (zret0 wd hf)
def f_X6_takeDraft_190  : Nat → zS → Int32 → Option zS
  | 0, _, _ => none
  | n + 1, S, a1 => (if (6 : Int32) ≤ a1 then (if (S.1 33 0) ≤ 0 then f_X6_takeDraft_293 (zr S 41 (upd (S.1 41) 0 (-9 : Int32))) else f_X6_takeDraft_293 (zr S 41 (upd (S.1 41) 0 (0 : Int32)))) else f_X6_takeDraft_198 (f_X6_takeDraft_190  n) zN S a1 (0 : Int32))
set_option maxRecDepth 100000 in
set_option maxHeartbeats 4000000 in
theorem v_X6_takeDraft_190 (d : Nat) : ∀ (n : Nat) (S : zS) (a1 : Int32) (S' : zS), f_X6_takeDraft_190  n S a1 = (some S') → zV none d yX6_takeDraft cX6_takeDraft 4 none 190 [(0, .ref 31), (1, .int a1)] [] (wd S) (zq none (wd S')) := by
  intro n
  induction n with
  | zero =>
    intro S a1 S' hf
    cases hf
  | succ n ih =>
    intro S a1 S' hf
    rw [f_X6_takeDraft_190] at hf
    refine zv_iload_n dX6_takeDraft_190 rfl rfl ?_
    refine zv_bipush (v := 6) dX6_takeDraft_191 (by decide) ?_
    refine zv_icmp_ge (tgt := 272) dX6_takeDraft_193 (by decide) (fun c1 => ?_) (fun c1 => ?_)
    · replace hf := (if_pos c1).symm.trans hf
      refine zv_aload_n dX6_takeDraft_272 rfl rfl ?_
      refine zv_get zf_X6_38 (wo_31 S) rfl dX6_takeDraft_273 ?_
      refine zv_iconst (v := 0) dX6_takeDraft_276 (by decide) ?_
      refine zv_aload_n dX6_takeDraft_277 rfl rfl ?_
      refine zv_get zf_X6_13 (wo_31 S) rfl dX6_takeDraft_278 ?_
      refine zv_iconst (v := 0) dX6_takeDraft_281 (by decide) ?_
      refine zv_ialdK (k := 0) (by decide) (by decide) (wo_33 S) dX6_takeDraft_282 ?_
      refine zv_if_le (tgt := 290) dX6_takeDraft_283 (by decide) (fun c2 => ?_) (fun c2 => ?_)
      · replace hf := (if_pos c2).symm.trans hf
        refine zv_bipush (v := -9) dX6_takeDraft_290 (by decide) ?_
        refine zv_iastK (k := 0) (by decide) (by decide) (wo_41 S) (ws_41 S (upd (S.1 41) 0 (-9 : Int32))) dX6_takeDraft_292 ?_
        exact zV_sub ([(0, .ref 31)]) ⟨rfl, trivial⟩ (v_X6_takeDraft_293 d (zr S 41 (upd (S.1 41) 0 (-9 : Int32))) _ hf)
      · replace hf := (if_neg c2).symm.trans hf
        refine zv_iconst (v := 0) dX6_takeDraft_286 (by decide) ?_
        refine zv_goto (tgt := 292) dX6_takeDraft_287 (by decide) ?_
        refine zv_iastK (k := 0) (by decide) (by decide) (wo_41 S) (ws_41 S (upd (S.1 41) 0 (0 : Int32))) dX6_takeDraft_292 ?_
        exact zV_sub ([(0, .ref 31)]) ⟨rfl, trivial⟩ (v_X6_takeDraft_293 d (zr S 41 (upd (S.1 41) 0 (0 : Int32))) _ hf)
    · replace hf := (if_neg c1).symm.trans hf
      refine zv_iconst (v := 0) dX6_takeDraft_196 (by decide) ?_
      refine zv_istore_n dX6_takeDraft_197 rfl (by decide) ?_
      exact zV_sub ([(0, .ref 31), (1, .int a1), (2, .int (0 : Int32))]) ⟨rfl, rfl, rfl, trivial⟩ (v_X6_takeDraft_198 d (f_X6_takeDraft_190  n) ih zN S a1 (0 : Int32) _ hf)
def f_X6_takeDraft_146  : Nat → zS → Int32 → Option zS
  | 0, _, _ => none
  | n + 1, S, a1 => (if (36 : Int32) ≤ a1 then f_X6_takeDraft_190 zN S (0 : Int32) else (if zin ((36 : Int32) + a1) 72 then (if zin a1 72 then (if zin ((36 : Int32) + a1) 72 then (if zin a1 72 then f_X6_takeDraft_146  n (zr (zr S 38 (upd (S.1 38) (a1).toNatClampNeg (S.1 38 (((36 : Int32) + a1)).toNatClampNeg))) 39 (upd ((zr S 38 (upd (S.1 38) (a1).toNatClampNeg (S.1 38 (((36 : Int32) + a1)).toNatClampNeg))).1 39) (a1).toNatClampNeg ((zr S 38 (upd (S.1 38) (a1).toNatClampNeg (S.1 38 (((36 : Int32) + a1)).toNatClampNeg))).1 39 (((36 : Int32) + a1)).toNatClampNeg))) (a1 + (1 : Int32)) else none) else none) else none) else none))
set_option maxRecDepth 100000 in
set_option maxHeartbeats 4000000 in
theorem v_X6_takeDraft_146 (d : Nat) : ∀ (n : Nat) (S : zS) (a1 : Int32) (S' : zS), f_X6_takeDraft_146  n S a1 = (some S') → zV none d yX6_takeDraft cX6_takeDraft 4 none 146 [(0, .ref 31), (1, .int a1)] [] (wd S) (zq none (wd S')) := by
  intro n
  induction n with
  | zero =>
    intro S a1 S' hf
    cases hf
  | succ n ih =>
    intro S a1 S' hf
    rw [f_X6_takeDraft_146] at hf
    refine zv_iload_n dX6_takeDraft_146 rfl rfl ?_
    refine zv_bipush (v := 36) dX6_takeDraft_147 (by decide) ?_
    refine zv_icmp_ge (tgt := 188) dX6_takeDraft_149 (by decide) (fun c1 => ?_) (fun c1 => ?_)
    · replace hf := (if_pos c1).symm.trans hf
      refine zv_iconst (v := 0) dX6_takeDraft_188 (by decide) ?_
      refine zv_istore_n dX6_takeDraft_189 rfl (by decide) ?_
      exact zV_sub ([(0, .ref 31), (1, .int (0 : Int32))]) ⟨rfl, rfl, trivial⟩ (v_X6_takeDraft_190 d zN S (0 : Int32) _ hf)
    · replace hf := (if_neg c1).symm.trans hf
      refine zv_aload_n dX6_takeDraft_152 rfl rfl ?_
      refine zv_get zf_X6_29 (wo_31 S) rfl dX6_takeDraft_153 ?_
      refine zv_iload_n dX6_takeDraft_156 rfl rfl ?_
      refine zv_aload_n dX6_takeDraft_157 rfl rfl ?_
      refine zv_get zf_X6_29 (wo_31 S) rfl dX6_takeDraft_158 ?_
      refine zv_bipush (v := 36) dX6_takeDraft_161 (by decide) ?_
      refine zv_iload_n dX6_takeDraft_163 rfl rfl ?_
      refine zv_iadd dX6_takeDraft_164 ?_
      obtain ⟨hb2, hf⟩ := zifb hf
      refine zv_iald hb2 (wo_38 S) dX6_takeDraft_165 ?_
      obtain ⟨hb3, hf⟩ := zifb hf
      refine zv_iast hb3 (wo_38 S) (ws_38 S (upd (S.1 38) (a1).toNatClampNeg (S.1 38 (((36 : Int32) + a1)).toNatClampNeg))) dX6_takeDraft_166 ?_
      refine zv_aload_n dX6_takeDraft_167 rfl rfl ?_
      refine zv_get zf_X6_32 (wo_31 (zr S 38 (upd (S.1 38) (a1).toNatClampNeg (S.1 38 (((36 : Int32) + a1)).toNatClampNeg)))) rfl dX6_takeDraft_168 ?_
      refine zv_iload_n dX6_takeDraft_171 rfl rfl ?_
      refine zv_aload_n dX6_takeDraft_172 rfl rfl ?_
      refine zv_get zf_X6_32 (wo_31 (zr S 38 (upd (S.1 38) (a1).toNatClampNeg (S.1 38 (((36 : Int32) + a1)).toNatClampNeg)))) rfl dX6_takeDraft_173 ?_
      refine zv_bipush (v := 36) dX6_takeDraft_176 (by decide) ?_
      refine zv_iload_n dX6_takeDraft_178 rfl rfl ?_
      refine zv_iadd dX6_takeDraft_179 ?_
      obtain ⟨hb4, hf⟩ := zifb hf
      refine zv_iald hb4 (wo_39 (zr S 38 (upd (S.1 38) (a1).toNatClampNeg (S.1 38 (((36 : Int32) + a1)).toNatClampNeg)))) dX6_takeDraft_180 ?_
      obtain ⟨hb5, hf⟩ := zifb hf
      refine zv_iast hb5 (wo_39 (zr S 38 (upd (S.1 38) (a1).toNatClampNeg (S.1 38 (((36 : Int32) + a1)).toNatClampNeg)))) (ws_39 (zr S 38 (upd (S.1 38) (a1).toNatClampNeg (S.1 38 (((36 : Int32) + a1)).toNatClampNeg))) (upd ((zr S 38 (upd (S.1 38) (a1).toNatClampNeg (S.1 38 (((36 : Int32) + a1)).toNatClampNeg))).1 39) (a1).toNatClampNeg ((zr S 38 (upd (S.1 38) (a1).toNatClampNeg (S.1 38 (((36 : Int32) + a1)).toNatClampNeg))).1 39 (((36 : Int32) + a1)).toNatClampNeg))) dX6_takeDraft_181 ?_
      refine zv_iinc (v := 1) dX6_takeDraft_182 rfl (by decide) (by decide) ?_
      refine zv_goto (tgt := 146) dX6_takeDraft_185 (by decide) ?_
      exact zV_sub ([(0, .ref 31), (1, .int (a1 + (1 : Int32)))]) ⟨rfl, rfl, trivial⟩ (ih (zr (zr S 38 (upd (S.1 38) (a1).toNatClampNeg (S.1 38 (((36 : Int32) + a1)).toNatClampNeg))) 39 (upd ((zr S 38 (upd (S.1 38) (a1).toNatClampNeg (S.1 38 (((36 : Int32) + a1)).toNatClampNeg))).1 39) (a1).toNatClampNeg ((zr S 38 (upd (S.1 38) (a1).toNatClampNeg (S.1 38 (((36 : Int32) + a1)).toNatClampNeg))).1 39 (((36 : Int32) + a1)).toNatClampNeg))) (a1 + (1 : Int32)) _ hf)
def f_X6_takeDraft_74  : Nat → zS → Int32 → Option zS
  | 0, _, _ => none
  | n + 1, S, a1 => (if (6 : Int32) ≤ a1 then f_X6_takeDraft_146 zN S (0 : Int32) else (if zin ((6 : Int32) + a1) 12 then (if zin a1 12 then (if zin ((6 : Int32) + a1) 12 then (if zin a1 12 then (if ((zr (zr S 35 (upd (S.1 35) (a1).toNatClampNeg (S.1 35 (((6 : Int32) + a1)).toNatClampNeg))) 36 (upd ((zr S 35 (upd (S.1 35) (a1).toNatClampNeg (S.1 35 (((6 : Int32) + a1)).toNatClampNeg))).1 36) (a1).toNatClampNeg ((zr S 35 (upd (S.1 35) (a1).toNatClampNeg (S.1 35 (((6 : Int32) + a1)).toNatClampNeg))).1 36 (((6 : Int32) + a1)).toNatClampNeg))).1 33 0) ≤ a1 then (if zin ((4 : Int32) + a1) 927 then f_X6_takeDraft_138 (f_X6_takeDraft_74  n) (zr (zr (zr S 35 (upd (S.1 35) (a1).toNatClampNeg (S.1 35 (((6 : Int32) + a1)).toNatClampNeg))) 36 (upd ((zr S 35 (upd (S.1 35) (a1).toNatClampNeg (S.1 35 (((6 : Int32) + a1)).toNatClampNeg))).1 36) (a1).toNatClampNeg ((zr S 35 (upd (S.1 35) (a1).toNatClampNeg (S.1 35 (((6 : Int32) + a1)).toNatClampNeg))).1 36 (((6 : Int32) + a1)).toNatClampNeg))) 41 (upd ((zr (zr S 35 (upd (S.1 35) (a1).toNatClampNeg (S.1 35 (((6 : Int32) + a1)).toNatClampNeg))) 36 (upd ((zr S 35 (upd (S.1 35) (a1).toNatClampNeg (S.1 35 (((6 : Int32) + a1)).toNatClampNeg))).1 36) (a1).toNatClampNeg ((zr S 35 (upd (S.1 35) (a1).toNatClampNeg (S.1 35 (((6 : Int32) + a1)).toNatClampNeg))).1 36 (((6 : Int32) + a1)).toNatClampNeg))).1 41) (((4 : Int32) + a1)).toNatClampNeg (0 : Int32))) a1 else none) else (if zin a1 6 then (if zin ((4 : Int32) + a1) 927 then f_X6_takeDraft_138 (f_X6_takeDraft_74  n) (zr (zr (zr S 35 (upd (S.1 35) (a1).toNatClampNeg (S.1 35 (((6 : Int32) + a1)).toNatClampNeg))) 36 (upd ((zr S 35 (upd (S.1 35) (a1).toNatClampNeg (S.1 35 (((6 : Int32) + a1)).toNatClampNeg))).1 36) (a1).toNatClampNeg ((zr S 35 (upd (S.1 35) (a1).toNatClampNeg (S.1 35 (((6 : Int32) + a1)).toNatClampNeg))).1 36 (((6 : Int32) + a1)).toNatClampNeg))) 41 (upd ((zr (zr S 35 (upd (S.1 35) (a1).toNatClampNeg (S.1 35 (((6 : Int32) + a1)).toNatClampNeg))) 36 (upd ((zr S 35 (upd (S.1 35) (a1).toNatClampNeg (S.1 35 (((6 : Int32) + a1)).toNatClampNeg))).1 36) (a1).toNatClampNeg ((zr S 35 (upd (S.1 35) (a1).toNatClampNeg (S.1 35 (((6 : Int32) + a1)).toNatClampNeg))).1 36 (((6 : Int32) + a1)).toNatClampNeg))).1 41) (((4 : Int32) + a1)).toNatClampNeg ((zr (zr S 35 (upd (S.1 35) (a1).toNatClampNeg (S.1 35 (((6 : Int32) + a1)).toNatClampNeg))) 36 (upd ((zr S 35 (upd (S.1 35) (a1).toNatClampNeg (S.1 35 (((6 : Int32) + a1)).toNatClampNeg))).1 36) (a1).toNatClampNeg ((zr S 35 (upd (S.1 35) (a1).toNatClampNeg (S.1 35 (((6 : Int32) + a1)).toNatClampNeg))).1 36 (((6 : Int32) + a1)).toNatClampNeg))).1 34 (a1).toNatClampNeg))) a1 else none) else none)) else none) else none) else none) else none))
set_option maxRecDepth 100000 in
set_option maxHeartbeats 4000000 in
theorem v_X6_takeDraft_74 (d : Nat) : ∀ (n : Nat) (S : zS) (a1 : Int32) (S' : zS), f_X6_takeDraft_74  n S a1 = (some S') → zV none d yX6_takeDraft cX6_takeDraft 4 none 74 [(0, .ref 31), (1, .int a1)] [] (wd S) (zq none (wd S')) := by
  intro n
  induction n with
  | zero =>
    intro S a1 S' hf
    cases hf
  | succ n ih =>
    intro S a1 S' hf
    rw [f_X6_takeDraft_74] at hf
    refine zv_iload_n dX6_takeDraft_74 rfl rfl ?_
    refine zv_bipush (v := 6) dX6_takeDraft_75 (by decide) ?_
    refine zv_icmp_ge (tgt := 144) dX6_takeDraft_77 (by decide) (fun c1 => ?_) (fun c1 => ?_)
    · replace hf := (if_pos c1).symm.trans hf
      refine zv_iconst (v := 0) dX6_takeDraft_144 (by decide) ?_
      refine zv_istore_n dX6_takeDraft_145 rfl (by decide) ?_
      exact zV_sub ([(0, .ref 31), (1, .int (0 : Int32))]) ⟨rfl, rfl, trivial⟩ (v_X6_takeDraft_146 d zN S (0 : Int32) _ hf)
    · replace hf := (if_neg c1).symm.trans hf
      refine zv_aload_n dX6_takeDraft_80 rfl rfl ?_
      refine zv_get zf_X6_20 (wo_31 S) rfl dX6_takeDraft_81 ?_
      refine zv_iload_n dX6_takeDraft_84 rfl rfl ?_
      refine zv_aload_n dX6_takeDraft_85 rfl rfl ?_
      refine zv_get zf_X6_20 (wo_31 S) rfl dX6_takeDraft_86 ?_
      refine zv_bipush (v := 6) dX6_takeDraft_89 (by decide) ?_
      refine zv_iload_n dX6_takeDraft_91 rfl rfl ?_
      refine zv_iadd dX6_takeDraft_92 ?_
      obtain ⟨hb2, hf⟩ := zifb hf
      refine zv_iald hb2 (wo_35 S) dX6_takeDraft_93 ?_
      obtain ⟨hb3, hf⟩ := zifb hf
      refine zv_iast hb3 (wo_35 S) (ws_35 S (upd (S.1 35) (a1).toNatClampNeg (S.1 35 (((6 : Int32) + a1)).toNatClampNeg))) dX6_takeDraft_94 ?_
      refine zv_aload_n dX6_takeDraft_95 rfl rfl ?_
      refine zv_get zf_X6_23 (wo_31 (zr S 35 (upd (S.1 35) (a1).toNatClampNeg (S.1 35 (((6 : Int32) + a1)).toNatClampNeg)))) rfl dX6_takeDraft_96 ?_
      refine zv_iload_n dX6_takeDraft_99 rfl rfl ?_
      refine zv_aload_n dX6_takeDraft_100 rfl rfl ?_
      refine zv_get zf_X6_23 (wo_31 (zr S 35 (upd (S.1 35) (a1).toNatClampNeg (S.1 35 (((6 : Int32) + a1)).toNatClampNeg)))) rfl dX6_takeDraft_101 ?_
      refine zv_bipush (v := 6) dX6_takeDraft_104 (by decide) ?_
      refine zv_iload_n dX6_takeDraft_106 rfl rfl ?_
      refine zv_iadd dX6_takeDraft_107 ?_
      obtain ⟨hb4, hf⟩ := zifb hf
      refine zv_iald hb4 (wo_36 (zr S 35 (upd (S.1 35) (a1).toNatClampNeg (S.1 35 (((6 : Int32) + a1)).toNatClampNeg)))) dX6_takeDraft_108 ?_
      obtain ⟨hb5, hf⟩ := zifb hf
      refine zv_iast hb5 (wo_36 (zr S 35 (upd (S.1 35) (a1).toNatClampNeg (S.1 35 (((6 : Int32) + a1)).toNatClampNeg)))) (ws_36 (zr S 35 (upd (S.1 35) (a1).toNatClampNeg (S.1 35 (((6 : Int32) + a1)).toNatClampNeg))) (upd ((zr S 35 (upd (S.1 35) (a1).toNatClampNeg (S.1 35 (((6 : Int32) + a1)).toNatClampNeg))).1 36) (a1).toNatClampNeg ((zr S 35 (upd (S.1 35) (a1).toNatClampNeg (S.1 35 (((6 : Int32) + a1)).toNatClampNeg))).1 36 (((6 : Int32) + a1)).toNatClampNeg))) dX6_takeDraft_109 ?_
      refine zv_aload_n dX6_takeDraft_110 rfl rfl ?_
      refine zv_get zf_X6_38 (wo_31 (zr (zr S 35 (upd (S.1 35) (a1).toNatClampNeg (S.1 35 (((6 : Int32) + a1)).toNatClampNeg))) 36 (upd ((zr S 35 (upd (S.1 35) (a1).toNatClampNeg (S.1 35 (((6 : Int32) + a1)).toNatClampNeg))).1 36) (a1).toNatClampNeg ((zr S 35 (upd (S.1 35) (a1).toNatClampNeg (S.1 35 (((6 : Int32) + a1)).toNatClampNeg))).1 36 (((6 : Int32) + a1)).toNatClampNeg)))) rfl dX6_takeDraft_111 ?_
      refine zv_iconst (v := 4) dX6_takeDraft_114 (by decide) ?_
      refine zv_iload_n dX6_takeDraft_115 rfl rfl ?_
      refine zv_iadd dX6_takeDraft_116 ?_
      refine zv_iload_n dX6_takeDraft_117 rfl rfl ?_
      refine zv_aload_n dX6_takeDraft_118 rfl rfl ?_
      refine zv_get zf_X6_13 (wo_31 (zr (zr S 35 (upd (S.1 35) (a1).toNatClampNeg (S.1 35 (((6 : Int32) + a1)).toNatClampNeg))) 36 (upd ((zr S 35 (upd (S.1 35) (a1).toNatClampNeg (S.1 35 (((6 : Int32) + a1)).toNatClampNeg))).1 36) (a1).toNatClampNeg ((zr S 35 (upd (S.1 35) (a1).toNatClampNeg (S.1 35 (((6 : Int32) + a1)).toNatClampNeg))).1 36 (((6 : Int32) + a1)).toNatClampNeg)))) rfl dX6_takeDraft_119 ?_
      refine zv_iconst (v := 0) dX6_takeDraft_122 (by decide) ?_
      refine zv_ialdK (k := 0) (by decide) (by decide) (wo_33 (zr (zr S 35 (upd (S.1 35) (a1).toNatClampNeg (S.1 35 (((6 : Int32) + a1)).toNatClampNeg))) 36 (upd ((zr S 35 (upd (S.1 35) (a1).toNatClampNeg (S.1 35 (((6 : Int32) + a1)).toNatClampNeg))).1 36) (a1).toNatClampNeg ((zr S 35 (upd (S.1 35) (a1).toNatClampNeg (S.1 35 (((6 : Int32) + a1)).toNatClampNeg))).1 36 (((6 : Int32) + a1)).toNatClampNeg)))) dX6_takeDraft_123 ?_
      refine zv_icmp_ge (tgt := 136) dX6_takeDraft_124 (by decide) (fun c6 => ?_) (fun c6 => ?_)
      · replace hf := (if_pos c6).symm.trans hf
        refine zv_iconst (v := 0) dX6_takeDraft_136 (by decide) ?_
        obtain ⟨hb7, hf⟩ := zifb hf
        refine zv_iast hb7 (wo_41 (zr (zr S 35 (upd (S.1 35) (a1).toNatClampNeg (S.1 35 (((6 : Int32) + a1)).toNatClampNeg))) 36 (upd ((zr S 35 (upd (S.1 35) (a1).toNatClampNeg (S.1 35 (((6 : Int32) + a1)).toNatClampNeg))).1 36) (a1).toNatClampNeg ((zr S 35 (upd (S.1 35) (a1).toNatClampNeg (S.1 35 (((6 : Int32) + a1)).toNatClampNeg))).1 36 (((6 : Int32) + a1)).toNatClampNeg)))) (ws_41 (zr (zr S 35 (upd (S.1 35) (a1).toNatClampNeg (S.1 35 (((6 : Int32) + a1)).toNatClampNeg))) 36 (upd ((zr S 35 (upd (S.1 35) (a1).toNatClampNeg (S.1 35 (((6 : Int32) + a1)).toNatClampNeg))).1 36) (a1).toNatClampNeg ((zr S 35 (upd (S.1 35) (a1).toNatClampNeg (S.1 35 (((6 : Int32) + a1)).toNatClampNeg))).1 36 (((6 : Int32) + a1)).toNatClampNeg))) (upd ((zr (zr S 35 (upd (S.1 35) (a1).toNatClampNeg (S.1 35 (((6 : Int32) + a1)).toNatClampNeg))) 36 (upd ((zr S 35 (upd (S.1 35) (a1).toNatClampNeg (S.1 35 (((6 : Int32) + a1)).toNatClampNeg))).1 36) (a1).toNatClampNeg ((zr S 35 (upd (S.1 35) (a1).toNatClampNeg (S.1 35 (((6 : Int32) + a1)).toNatClampNeg))).1 36 (((6 : Int32) + a1)).toNatClampNeg))).1 41) (((4 : Int32) + a1)).toNatClampNeg (0 : Int32))) dX6_takeDraft_137 ?_
        exact zV_sub ([(0, .ref 31), (1, .int a1)]) ⟨rfl, rfl, trivial⟩ (v_X6_takeDraft_138 d (f_X6_takeDraft_74  n) ih (zr (zr (zr S 35 (upd (S.1 35) (a1).toNatClampNeg (S.1 35 (((6 : Int32) + a1)).toNatClampNeg))) 36 (upd ((zr S 35 (upd (S.1 35) (a1).toNatClampNeg (S.1 35 (((6 : Int32) + a1)).toNatClampNeg))).1 36) (a1).toNatClampNeg ((zr S 35 (upd (S.1 35) (a1).toNatClampNeg (S.1 35 (((6 : Int32) + a1)).toNatClampNeg))).1 36 (((6 : Int32) + a1)).toNatClampNeg))) 41 (upd ((zr (zr S 35 (upd (S.1 35) (a1).toNatClampNeg (S.1 35 (((6 : Int32) + a1)).toNatClampNeg))) 36 (upd ((zr S 35 (upd (S.1 35) (a1).toNatClampNeg (S.1 35 (((6 : Int32) + a1)).toNatClampNeg))).1 36) (a1).toNatClampNeg ((zr S 35 (upd (S.1 35) (a1).toNatClampNeg (S.1 35 (((6 : Int32) + a1)).toNatClampNeg))).1 36 (((6 : Int32) + a1)).toNatClampNeg))).1 41) (((4 : Int32) + a1)).toNatClampNeg (0 : Int32))) a1 _ hf)
      · replace hf := (if_neg c6).symm.trans hf
        refine zv_aload_n dX6_takeDraft_127 rfl rfl ?_
        refine zv_get zf_X6_17 (wo_31 (zr (zr S 35 (upd (S.1 35) (a1).toNatClampNeg (S.1 35 (((6 : Int32) + a1)).toNatClampNeg))) 36 (upd ((zr S 35 (upd (S.1 35) (a1).toNatClampNeg (S.1 35 (((6 : Int32) + a1)).toNatClampNeg))).1 36) (a1).toNatClampNeg ((zr S 35 (upd (S.1 35) (a1).toNatClampNeg (S.1 35 (((6 : Int32) + a1)).toNatClampNeg))).1 36 (((6 : Int32) + a1)).toNatClampNeg)))) rfl dX6_takeDraft_128 ?_
        refine zv_iload_n dX6_takeDraft_131 rfl rfl ?_
        obtain ⟨hb8, hf⟩ := zifb hf
        refine zv_iald hb8 (wo_34 (zr (zr S 35 (upd (S.1 35) (a1).toNatClampNeg (S.1 35 (((6 : Int32) + a1)).toNatClampNeg))) 36 (upd ((zr S 35 (upd (S.1 35) (a1).toNatClampNeg (S.1 35 (((6 : Int32) + a1)).toNatClampNeg))).1 36) (a1).toNatClampNeg ((zr S 35 (upd (S.1 35) (a1).toNatClampNeg (S.1 35 (((6 : Int32) + a1)).toNatClampNeg))).1 36 (((6 : Int32) + a1)).toNatClampNeg)))) dX6_takeDraft_132 ?_
        refine zv_goto (tgt := 137) dX6_takeDraft_133 (by decide) ?_
        obtain ⟨hb9, hf⟩ := zifb hf
        refine zv_iast hb9 (wo_41 (zr (zr S 35 (upd (S.1 35) (a1).toNatClampNeg (S.1 35 (((6 : Int32) + a1)).toNatClampNeg))) 36 (upd ((zr S 35 (upd (S.1 35) (a1).toNatClampNeg (S.1 35 (((6 : Int32) + a1)).toNatClampNeg))).1 36) (a1).toNatClampNeg ((zr S 35 (upd (S.1 35) (a1).toNatClampNeg (S.1 35 (((6 : Int32) + a1)).toNatClampNeg))).1 36 (((6 : Int32) + a1)).toNatClampNeg)))) (ws_41 (zr (zr S 35 (upd (S.1 35) (a1).toNatClampNeg (S.1 35 (((6 : Int32) + a1)).toNatClampNeg))) 36 (upd ((zr S 35 (upd (S.1 35) (a1).toNatClampNeg (S.1 35 (((6 : Int32) + a1)).toNatClampNeg))).1 36) (a1).toNatClampNeg ((zr S 35 (upd (S.1 35) (a1).toNatClampNeg (S.1 35 (((6 : Int32) + a1)).toNatClampNeg))).1 36 (((6 : Int32) + a1)).toNatClampNeg))) (upd ((zr (zr S 35 (upd (S.1 35) (a1).toNatClampNeg (S.1 35 (((6 : Int32) + a1)).toNatClampNeg))) 36 (upd ((zr S 35 (upd (S.1 35) (a1).toNatClampNeg (S.1 35 (((6 : Int32) + a1)).toNatClampNeg))).1 36) (a1).toNatClampNeg ((zr S 35 (upd (S.1 35) (a1).toNatClampNeg (S.1 35 (((6 : Int32) + a1)).toNatClampNeg))).1 36 (((6 : Int32) + a1)).toNatClampNeg))).1 41) (((4 : Int32) + a1)).toNatClampNeg ((zr (zr S 35 (upd (S.1 35) (a1).toNatClampNeg (S.1 35 (((6 : Int32) + a1)).toNatClampNeg))) 36 (upd ((zr S 35 (upd (S.1 35) (a1).toNatClampNeg (S.1 35 (((6 : Int32) + a1)).toNatClampNeg))).1 36) (a1).toNatClampNeg ((zr S 35 (upd (S.1 35) (a1).toNatClampNeg (S.1 35 (((6 : Int32) + a1)).toNatClampNeg))).1 36 (((6 : Int32) + a1)).toNatClampNeg))).1 34 (a1).toNatClampNeg))) dX6_takeDraft_137 ?_
        exact zV_sub ([(0, .ref 31), (1, .int a1)]) ⟨rfl, rfl, trivial⟩ (v_X6_takeDraft_138 d (f_X6_takeDraft_74  n) ih (zr (zr (zr S 35 (upd (S.1 35) (a1).toNatClampNeg (S.1 35 (((6 : Int32) + a1)).toNatClampNeg))) 36 (upd ((zr S 35 (upd (S.1 35) (a1).toNatClampNeg (S.1 35 (((6 : Int32) + a1)).toNatClampNeg))).1 36) (a1).toNatClampNeg ((zr S 35 (upd (S.1 35) (a1).toNatClampNeg (S.1 35 (((6 : Int32) + a1)).toNatClampNeg))).1 36 (((6 : Int32) + a1)).toNatClampNeg))) 41 (upd ((zr (zr S 35 (upd (S.1 35) (a1).toNatClampNeg (S.1 35 (((6 : Int32) + a1)).toNatClampNeg))) 36 (upd ((zr S 35 (upd (S.1 35) (a1).toNatClampNeg (S.1 35 (((6 : Int32) + a1)).toNatClampNeg))).1 36) (a1).toNatClampNeg ((zr S 35 (upd (S.1 35) (a1).toNatClampNeg (S.1 35 (((6 : Int32) + a1)).toNatClampNeg))).1 36 (((6 : Int32) + a1)).toNatClampNeg))).1 41) (((4 : Int32) + a1)).toNatClampNeg ((zr (zr S 35 (upd (S.1 35) (a1).toNatClampNeg (S.1 35 (((6 : Int32) + a1)).toNatClampNeg))) 36 (upd ((zr S 35 (upd (S.1 35) (a1).toNatClampNeg (S.1 35 (((6 : Int32) + a1)).toNatClampNeg))).1 36) (a1).toNatClampNeg ((zr S 35 (upd (S.1 35) (a1).toNatClampNeg (S.1 35 (((6 : Int32) + a1)).toNatClampNeg))).1 36 (((6 : Int32) + a1)).toNatClampNeg))).1 34 (a1).toNatClampNeg))) a1 _ hf)
def f_X6_takeDraft_53  : Nat → zS → Int32 → Option zS
  | 0, _, _ => none
  | n + 1, S, a1 => (if (28 : Int32) ≤ a1 then f_X6_takeDraft_74 zN S (0 : Int32) else (if zin a1 927 then f_X6_takeDraft_53  n (zr S 41 (upd (S.1 41) (a1).toNatClampNeg (0 : Int32))) (a1 + (1 : Int32)) else none))
set_option maxRecDepth 100000 in
set_option maxHeartbeats 4000000 in
theorem v_X6_takeDraft_53 (d : Nat) : ∀ (n : Nat) (S : zS) (a1 : Int32) (S' : zS), f_X6_takeDraft_53  n S a1 = (some S') → zV none d yX6_takeDraft cX6_takeDraft 4 none 53 [(0, .ref 31), (1, .int a1)] [] (wd S) (zq none (wd S')) := by
  intro n
  induction n with
  | zero =>
    intro S a1 S' hf
    cases hf
  | succ n ih =>
    intro S a1 S' hf
    rw [f_X6_takeDraft_53] at hf
    refine zv_iload_n dX6_takeDraft_53 rfl rfl ?_
    refine zv_bipush (v := 28) dX6_takeDraft_54 (by decide) ?_
    refine zv_icmp_ge (tgt := 72) dX6_takeDraft_56 (by decide) (fun c1 => ?_) (fun c1 => ?_)
    · replace hf := (if_pos c1).symm.trans hf
      refine zv_iconst (v := 0) dX6_takeDraft_72 (by decide) ?_
      refine zv_istore_n dX6_takeDraft_73 rfl (by decide) ?_
      exact zV_sub ([(0, .ref 31), (1, .int (0 : Int32))]) ⟨rfl, rfl, trivial⟩ (v_X6_takeDraft_74 d zN S (0 : Int32) _ hf)
    · replace hf := (if_neg c1).symm.trans hf
      refine zv_aload_n dX6_takeDraft_59 rfl rfl ?_
      refine zv_get zf_X6_38 (wo_31 S) rfl dX6_takeDraft_60 ?_
      refine zv_iload_n dX6_takeDraft_63 rfl rfl ?_
      refine zv_iconst (v := 0) dX6_takeDraft_64 (by decide) ?_
      obtain ⟨hb2, hf⟩ := zifb hf
      refine zv_iast hb2 (wo_41 S) (ws_41 S (upd (S.1 41) (a1).toNatClampNeg (0 : Int32))) dX6_takeDraft_65 ?_
      refine zv_iinc (v := 1) dX6_takeDraft_66 rfl (by decide) (by decide) ?_
      refine zv_goto (tgt := 53) dX6_takeDraft_69 (by decide) ?_
      exact zV_sub ([(0, .ref 31), (1, .int (a1 + (1 : Int32)))]) ⟨rfl, rfl, trivial⟩ (ih (zr S 41 (upd (S.1 41) (a1).toNatClampNeg (0 : Int32))) (a1 + (1 : Int32)) _ hf)
def f_X6_takeDraft_26  : Nat → zS → Int32 → Option zS
  | 0, _, _ => none
  | n + 1, S, a1 => (if (3 : Int32) ≤ a1 then f_X6_takeDraft_53 zN S (0 : Int32) else (if zin ((3 : Int32) + a1) 6 then (if zin a1 6 then f_X6_takeDraft_26  n (zr S 40 (upd (S.1 40) (a1).toNatClampNeg (S.1 40 (((3 : Int32) + a1)).toNatClampNeg))) (a1 + (1 : Int32)) else none) else none))
set_option maxRecDepth 100000 in
set_option maxHeartbeats 4000000 in
theorem v_X6_takeDraft_26 (d : Nat) : ∀ (n : Nat) (S : zS) (a1 : Int32) (S' : zS), f_X6_takeDraft_26  n S a1 = (some S') → zV none d yX6_takeDraft cX6_takeDraft 4 none 26 [(0, .ref 31), (1, .int a1)] [] (wd S) (zq none (wd S')) := by
  intro n
  induction n with
  | zero =>
    intro S a1 S' hf
    cases hf
  | succ n ih =>
    intro S a1 S' hf
    rw [f_X6_takeDraft_26] at hf
    refine zv_iload_n dX6_takeDraft_26 rfl rfl ?_
    refine zv_iconst (v := 3) dX6_takeDraft_27 (by decide) ?_
    refine zv_icmp_ge (tgt := 51) dX6_takeDraft_28 (by decide) (fun c1 => ?_) (fun c1 => ?_)
    · replace hf := (if_pos c1).symm.trans hf
      refine zv_iconst (v := 0) dX6_takeDraft_51 (by decide) ?_
      refine zv_istore_n dX6_takeDraft_52 rfl (by decide) ?_
      exact zV_sub ([(0, .ref 31), (1, .int (0 : Int32))]) ⟨rfl, rfl, trivial⟩ (v_X6_takeDraft_53 d zN S (0 : Int32) _ hf)
    · replace hf := (if_neg c1).symm.trans hf
      refine zv_aload_n dX6_takeDraft_31 rfl rfl ?_
      refine zv_get zf_X6_35 (wo_31 S) rfl dX6_takeDraft_32 ?_
      refine zv_iload_n dX6_takeDraft_35 rfl rfl ?_
      refine zv_aload_n dX6_takeDraft_36 rfl rfl ?_
      refine zv_get zf_X6_35 (wo_31 S) rfl dX6_takeDraft_37 ?_
      refine zv_iconst (v := 3) dX6_takeDraft_40 (by decide) ?_
      refine zv_iload_n dX6_takeDraft_41 rfl rfl ?_
      refine zv_iadd dX6_takeDraft_42 ?_
      obtain ⟨hb2, hf⟩ := zifb hf
      refine zv_iald hb2 (wo_40 S) dX6_takeDraft_43 ?_
      obtain ⟨hb3, hf⟩ := zifb hf
      refine zv_iast hb3 (wo_40 S) (ws_40 S (upd (S.1 40) (a1).toNatClampNeg (S.1 40 (((3 : Int32) + a1)).toNatClampNeg))) dX6_takeDraft_44 ?_
      refine zv_iinc (v := 1) dX6_takeDraft_45 rfl (by decide) (by decide) ?_
      refine zv_goto (tgt := 26) dX6_takeDraft_48 (by decide) ?_
      exact zV_sub ([(0, .ref 31), (1, .int (a1 + (1 : Int32)))]) ⟨rfl, rfl, trivial⟩ (ih (zr S 40 (upd (S.1 40) (a1).toNatClampNeg (S.1 40 (((3 : Int32) + a1)).toNatClampNeg))) (a1 + (1 : Int32)) _ hf)
def f_X6_takeDraft (S : zS) : Option zS :=
  f_X6_takeDraft_26 zN (zr (zr S 33 (upd (S.1 33) 0 (S.1 33 1))) 37 (upd ((zr S 33 (upd (S.1 33) 0 (S.1 33 1))).1 37) 0 ((zr S 33 (upd (S.1 33) 0 (S.1 33 1))).1 37 1))) (0 : Int32)
set_option maxRecDepth 100000 in
set_option maxHeartbeats 4000000 in
theorem c_X6_takeDraft  (d : Nat) (S : zS) (S' : zS) (hf : f_X6_takeDraft S = (some S')) : zC d yX6_takeDraft cX6_takeDraft 4 none [.ref 31] (wd S) (zq none (wd S')) := by
  refine zC_intro (by decide) rfl (Nat.le_of_ble_eq_true rfl) ?_
  unfold f_X6_takeDraft at hf
  refine zv_aload_n dX6_takeDraft_0 rfl rfl ?_
  refine zv_get zf_X6_13 (wo_31 S) rfl dX6_takeDraft_1 ?_
  refine zv_iconst (v := 0) dX6_takeDraft_4 (by decide) ?_
  refine zv_aload_n dX6_takeDraft_5 rfl rfl ?_
  refine zv_get zf_X6_13 (wo_31 S) rfl dX6_takeDraft_6 ?_
  refine zv_iconst (v := 1) dX6_takeDraft_9 (by decide) ?_
  refine zv_ialdK (k := 1) (by decide) (by decide) (wo_33 S) dX6_takeDraft_10 ?_
  refine zv_iastK (k := 0) (by decide) (by decide) (wo_33 S) (ws_33 S (upd (S.1 33) 0 (S.1 33 1))) dX6_takeDraft_11 ?_
  refine zv_aload_n dX6_takeDraft_12 rfl rfl ?_
  refine zv_get zf_X6_26 (wo_31 (zr S 33 (upd (S.1 33) 0 (S.1 33 1)))) rfl dX6_takeDraft_13 ?_
  refine zv_iconst (v := 0) dX6_takeDraft_16 (by decide) ?_
  refine zv_aload_n dX6_takeDraft_17 rfl rfl ?_
  refine zv_get zf_X6_26 (wo_31 (zr S 33 (upd (S.1 33) 0 (S.1 33 1)))) rfl dX6_takeDraft_18 ?_
  refine zv_iconst (v := 1) dX6_takeDraft_21 (by decide) ?_
  refine zv_ialdK (k := 1) (by decide) (by decide) (wo_37 (zr S 33 (upd (S.1 33) 0 (S.1 33 1)))) dX6_takeDraft_22 ?_
  refine zv_iastK (k := 0) (by decide) (by decide) (wo_37 (zr S 33 (upd (S.1 33) 0 (S.1 33 1)))) (ws_37 (zr S 33 (upd (S.1 33) 0 (S.1 33 1))) (upd ((zr S 33 (upd (S.1 33) 0 (S.1 33 1))).1 37) 0 ((zr S 33 (upd (S.1 33) 0 (S.1 33 1))).1 37 1))) dX6_takeDraft_23 ?_
  refine zv_iconst (v := 0) dX6_takeDraft_24 (by decide) ?_
  refine zv_istore_n dX6_takeDraft_25 rfl (by decide) ?_
  exact zV_sub ([(0, .ref 31), (1, .int (0 : Int32))]) ⟨rfl, rfl, trivial⟩ (v_X6_takeDraft_26 d zN (zr (zr S 33 (upd (S.1 33) 0 (S.1 33 1))) 37 (upd ((zr S 33 (upd (S.1 33) 0 (S.1 33 1))).1 37) 0 ((zr S 33 (upd (S.1 33) 0 (S.1 33 1))).1 37 1))) (0 : Int32) _ hf)
-- KingPricesModel.land()I height 5 writes
def f_X6_land_88 (k21 : zS → Int32 → Option (Int32 × zS)) (S : zS) (a1 : Int32) : Option (Int32 × zS) :=
  k21 S a1
set_option maxRecDepth 100000 in
set_option maxHeartbeats 4000000 in
theorem v_X6_land_88 (d : Nat) (hd : 4 ≤ d) (k21 : zS → Int32 → Option (Int32 × zS)) (hk21 : ∀ (S : zS) (a1 : Int32) v S', k21 S a1 = (some (v, S')) → zV none (d + 1) yX6_land cX6_land 3 (some .int) 21 [(0, .ref 31), (1, .int a1)] [] (wd S) (zq (some (.int v)) (wd S'))) (S : zS) (a1 : Int32) (v : Int32) (S' : zS) (hf : f_X6_land_88 k21 S a1 = (some (v, S'))) : zV none (d + 1) yX6_land cX6_land 3 (some .int) 88 [(0, .ref 31), (1, .int a1)] [] (wd S) (zq (some (.int v)) (wd S')) := by
  unfold f_X6_land_88 at hf
  refine zv_goto (tgt := 21) dX6_land_88 (by decide) ?_
  exact zV_sub ([(0, .ref 31), (1, .int a1)]) ⟨rfl, rfl, trivial⟩ (hk21 S a1 _ _ hf)
def f_X6_land_85 (k21 : zS → Int32 → Option (Int32 × zS)) (S : zS) (a1 : Int32) : Option (Int32 × zS) :=
  f_X6_land_88 k21 S (a1 + (1 : Int32))
set_option maxRecDepth 100000 in
set_option maxHeartbeats 4000000 in
theorem v_X6_land_85 (d : Nat) (hd : 4 ≤ d) (k21 : zS → Int32 → Option (Int32 × zS)) (hk21 : ∀ (S : zS) (a1 : Int32) v S', k21 S a1 = (some (v, S')) → zV none (d + 1) yX6_land cX6_land 3 (some .int) 21 [(0, .ref 31), (1, .int a1)] [] (wd S) (zq (some (.int v)) (wd S'))) (S : zS) (a1 : Int32) (v : Int32) (S' : zS) (hf : f_X6_land_85 k21 S a1 = (some (v, S'))) : zV none (d + 1) yX6_land cX6_land 3 (some .int) 85 [(0, .ref 31), (1, .int a1)] [] (wd S) (zq (some (.int v)) (wd S')) := by
  unfold f_X6_land_85 at hf
  refine zv_iinc (v := 1) dX6_land_85 rfl (by decide) (by decide) ?_
  exact zV_sub ([(0, .ref 31), (1, .int (a1 + (1 : Int32)))]) ⟨rfl, rfl, trivial⟩ (v_X6_land_88 d (by omega) k21 hk21 S (a1 + (1 : Int32)) _ _ hf)
def f_X6_land_91 (S : zS) (a1 : Int32) : Option (Int32 × zS) :=
  (if (S.1 31 16) = (-9 : Int32) then ((f_X6_takeDraft S).bind (fun S3 => some (a1, (zu S3 31 2 (0 : Int32))))) else some (((-10 : Int32) - (S.1 31 16)), S))
set_option maxRecDepth 100000 in
set_option maxHeartbeats 4000000 in
theorem v_X6_land_91 (d : Nat) (hd : 4 ≤ d) (S : zS) (a1 : Int32) (v : Int32) (S' : zS) (hf : f_X6_land_91 S a1 = (some (v, S'))) : zV none (d + 1) yX6_land cX6_land 3 (some .int) 91 [(0, .ref 31), (1, .int a1)] [] (wd S) (zq (some (.int v)) (wd S')) := by
  unfold f_X6_land_91 at hf
  refine zv_aload_n dX6_land_91 rfl rfl ?_
  refine zv_get zf_X6_78 (wo_31 S) rfl dX6_land_92 ?_
  refine zv_bipush (v := -9) dX6_land_95 (by decide) ?_
  refine zv_icmp_eq (tgt := 108) dX6_land_97 (by decide) (fun c1 => ?_) (fun c1 => ?_)
  · replace hf := (if_pos c1).symm.trans hf
    refine zv_aload_n dX6_land_108 rfl rfl ?_
    obtain ⟨S3, hc2, hf⟩ := zbind hf
    refine zv_callV dX6_land_109 zk_X6_51 zm_X6_takeDraft (c_X6_takeDraft  d S S3 hc2) (wo_31 S) rfl rfl rfl (Nat.le_of_ble_eq_true rfl) ?_
    refine zv_aload_n dX6_land_112 rfl rfl ?_
    refine zv_iconst (v := 0) dX6_land_113 (by decide) ?_
    refine zv_put zp_X6_58 (wo_31 S3) rfl (fun _ => ⟨rfl, rfl⟩) (Nat.le_of_ble_eq_true rfl) (wp_31_2 S3 (0 : Int32)) dX6_land_114 ?_
    refine zv_iload_n dX6_land_117 rfl rfl ?_
    exact zv_iret (ty := .int) dX6_land_118 rfl rfl (zret2 wd hf)
  · replace hf := (if_neg c1).symm.trans hf
    refine zv_bipush (v := -10) dX6_land_100 (by decide) ?_
    refine zv_aload_n dX6_land_102 rfl rfl ?_
    refine zv_get zf_X6_78 (wo_31 S) rfl dX6_land_103 ?_
    refine zv_isub dX6_land_106 ?_
    exact zv_iret (ty := .int) dX6_land_107 rfl rfl (zret2 wd hf)
def f_X6_land_21  : Nat → zS → Int32 → Option (Int32 × zS)
  | 0, _, _ => none
  | n + 1, S, a1 => (if (S.1 31 16) = (-9 : Int32) then (if (S.1 31 14) = (3 : Int32) then f_X6_land_91 S a1 else ((f_X6_mayBe S (S.1 31 14)).bind (fun x4 => (zb2 (f_X6_due S x4) (fun x6 S7 => (if (S7.1 31 16) = (-9 : Int32) then ((f_X6_readRow S7 (S.1 31 14)).bind (fun S10 => (if (S10.1 31 14) = (2 : Int32) then (zb2 (f_X6_due S10 (1 : Int32)) (fun x16 S17 => f_X6_land_85 (f_X6_land_21  n) S17 a1)) else (zb2 (f_X6_due S10 (0 : Int32)) (fun x13 S14 => f_X6_land_85 (f_X6_land_21  n) S14 a1))))) else f_X6_land_88 (f_X6_land_21  n) S7 a1)))))) else f_X6_land_91 S a1)
set_option maxRecDepth 100000 in
set_option maxHeartbeats 4000000 in
theorem v_X6_land_21 (d : Nat) (hd : 4 ≤ d) : ∀ (n : Nat) (S : zS) (a1 : Int32) (v : Int32) (S' : zS), f_X6_land_21  n S a1 = (some (v, S')) → zV none (d + 1) yX6_land cX6_land 3 (some .int) 21 [(0, .ref 31), (1, .int a1)] [] (wd S) (zq (some (.int v)) (wd S')) := by
  intro n
  induction n with
  | zero =>
    intro S a1 v S' hf
    cases hf
  | succ n ih =>
    intro S a1 v S' hf
    rw [f_X6_land_21] at hf
    refine zv_aload_n dX6_land_21 rfl rfl ?_
    refine zv_get zf_X6_78 (wo_31 S) rfl dX6_land_22 ?_
    refine zv_bipush (v := -9) dX6_land_25 (by decide) ?_
    refine zv_icmp_ne (tgt := 91) dX6_land_27 (by decide) (fun c1 => ?_) (fun c1 => ?_)
    · replace hf := (if_neg c1).symm.trans hf
      exact zV_sub ([(0, .ref 31), (1, .int a1)]) ⟨rfl, rfl, trivial⟩ (v_X6_land_91 d (by omega) S a1 _ _ hf)
    · replace hf := (if_pos c1).symm.trans hf
      refine zv_aload_n dX6_land_30 rfl rfl ?_
      refine zv_get zf_X6_75 (wo_31 S) rfl dX6_land_31 ?_
      refine zv_iconst (v := 3) dX6_land_34 (by decide) ?_
      refine zv_icmp_eq (tgt := 91) dX6_land_35 (by decide) (fun c2 => ?_) (fun c2 => ?_)
      · replace hf := (if_pos c2).symm.trans hf
        exact zV_sub ([(0, .ref 31), (1, .int a1)]) ⟨rfl, rfl, trivial⟩ (v_X6_land_91 d (by omega) S a1 _ _ hf)
      · replace hf := (if_neg c2).symm.trans hf
        refine zv_aload_n dX6_land_38 rfl rfl ?_
        refine zv_get zf_X6_75 (wo_31 S) rfl dX6_land_39 ?_
        refine zv_istore_n dX6_land_42 rfl (by decide) ?_
        refine zv_aload_n dX6_land_43 rfl rfl ?_
        refine zv_aload_n dX6_land_44 rfl rfl ?_
        refine zv_iload_n dX6_land_45 rfl rfl ?_
        obtain ⟨x4, hc3, hf⟩ := zbind hf
        refine zv_callV dX6_land_46 zk_X6_99 zm_X6_mayBe (c_X6_mayBe  d S (S.1 31 14) x4 hc3) (wo_31 S) rfl rfl rfl (Nat.le_of_ble_eq_true rfl) ?_
        obtain ⟨x6, S7, hc5, hf⟩ := zbind2 hf
        refine zv_callV dX6_land_49 zk_X6_84 zm_X6_due (c_X6_due  d (by omega) S x4 x6 S7 hc5) (wo_31 S) rfl rfl rfl (Nat.le_of_ble_eq_true rfl) ?_
        refine zv_pop dX6_land_52 rfl ?_
        refine zv_aload_n dX6_land_53 rfl rfl ?_
        refine zv_get zf_X6_78 (wo_31 S7) rfl dX6_land_54 ?_
        refine zv_bipush (v := -9) dX6_land_57 (by decide) ?_
        refine zv_icmp_ne (tgt := 88) dX6_land_59 (by decide) (fun c8 => ?_) (fun c8 => ?_)
        · replace hf := (if_neg c8).symm.trans hf
          exact zV_sub ([(0, .ref 31), (1, .int a1)]) ⟨rfl, rfl, trivial⟩ (v_X6_land_88 d (by omega) (f_X6_land_21  n) ih S7 a1 _ _ hf)
        · replace hf := (if_pos c8).symm.trans hf
          refine zv_aload_n dX6_land_62 rfl rfl ?_
          refine zv_iload_n dX6_land_63 rfl rfl ?_
          obtain ⟨S10, hc9, hf⟩ := zbind hf
          refine zv_callV dX6_land_64 zk_X6_103 zm_X6_readRow (c_X6_readRow  d (by omega) S7 (S.1 31 14) S10 hc9) (wo_31 S7) rfl rfl rfl (Nat.le_of_ble_eq_true rfl) ?_
          refine zv_aload_n dX6_land_67 rfl rfl ?_
          refine zv_aload_n dX6_land_68 rfl rfl ?_
          refine zv_get zf_X6_75 (wo_31 S10) rfl dX6_land_69 ?_
          refine zv_iconst (v := 2) dX6_land_72 (by decide) ?_
          refine zv_icmp_ne (tgt := 80) dX6_land_73 (by decide) (fun c11 => ?_) (fun c11 => ?_)
          · replace hf := (if_neg c11).symm.trans hf
            refine zv_iconst (v := 0) dX6_land_80 (by decide) ?_
            obtain ⟨x13, S14, hc12, hf⟩ := zbind2 hf
            refine zv_callV dX6_land_81 zk_X6_84 zm_X6_due (c_X6_due  d (by omega) S10 (0 : Int32) x13 S14 hc12) (wo_31 S10) rfl rfl rfl (Nat.le_of_ble_eq_true rfl) ?_
            refine zv_pop dX6_land_84 rfl ?_
            exact zV_sub ([(0, .ref 31), (1, .int a1)]) ⟨rfl, rfl, trivial⟩ (v_X6_land_85 d (by omega) (f_X6_land_21  n) ih S14 a1 _ _ hf)
          · replace hf := (if_pos c11).symm.trans hf
            refine zv_iconst (v := 1) dX6_land_76 (by decide) ?_
            refine zv_goto (tgt := 81) dX6_land_77 (by decide) ?_
            obtain ⟨x16, S17, hc15, hf⟩ := zbind2 hf
            refine zv_callV dX6_land_81 zk_X6_84 zm_X6_due (c_X6_due  d (by omega) S10 (1 : Int32) x16 S17 hc15) (wo_31 S10) rfl rfl rfl (Nat.le_of_ble_eq_true rfl) ?_
            refine zv_pop dX6_land_84 rfl ?_
            exact zV_sub ([(0, .ref 31), (1, .int a1)]) ⟨rfl, rfl, trivial⟩ (v_X6_land_85 d (by omega) (f_X6_land_21  n) ih S17 a1 _ _ hf)
def f_X6_land (S : zS) : Option (Int32 × zS) :=
  ((f_X6_plain (zu (zu S 31 12 (0 : Int32)) 31 16 (-9 : Int32))).bind (fun S2 => ((f_X6_step S2).bind (fun S4 => f_X6_land_21 zN S4 (0 : Int32)))))
set_option maxRecDepth 100000 in
set_option maxHeartbeats 4000000 in
theorem c_X6_land  (d : Nat) (hd : 5 ≤ d) (S : zS) (v : Int32) (S' : zS) (hf : f_X6_land S = (some (v, S'))) : zC d yX6_land cX6_land 3 (some .int) [.ref 31] (wd S) (zq (some (.int v)) (wd S')) := by
  obtain ⟨d, rfl⟩ : ∃ e, d = e + 1 := ⟨d - 1, by omega⟩
  refine zC_intro (by decide) rfl (Nat.le_of_ble_eq_true rfl) ?_
  unfold f_X6_land at hf
  refine zv_aload_n dX6_land_0 rfl rfl ?_
  refine zv_iconst (v := 0) dX6_land_1 (by decide) ?_
  refine zv_put zp_X6_62 (wo_31 S) rfl (fun _ => ⟨rfl, rfl⟩) (Nat.le_of_ble_eq_true rfl) (wp_31_12 S (0 : Int32)) dX6_land_2 ?_
  refine zv_aload_n dX6_land_5 rfl rfl ?_
  refine zv_bipush (v := -9) dX6_land_6 (by decide) ?_
  refine zv_put zp_X6_78 (wo_31 (zu S 31 12 (0 : Int32))) rfl (fun _ => ⟨rfl, rfl⟩) (Nat.le_of_ble_eq_true rfl) (wp_31_16 (zu S 31 12 (0 : Int32)) (-9 : Int32)) dX6_land_8 ?_
  refine zv_aload_n dX6_land_11 rfl rfl ?_
  obtain ⟨S2, hc1, hf⟩ := zbind hf
  refine zv_callV dX6_land_12 zk_X6_48 zm_X6_plain (c_X6_plain  d (zu (zu S 31 12 (0 : Int32)) 31 16 (-9 : Int32)) S2 hc1) (wo_31 (zu (zu S 31 12 (0 : Int32)) 31 16 (-9 : Int32))) rfl rfl rfl (Nat.le_of_ble_eq_true rfl) ?_
  refine zv_iconst (v := 0) dX6_land_15 (by decide) ?_
  refine zv_istore_n dX6_land_16 rfl (by decide) ?_
  refine zv_aload_n dX6_land_17 rfl rfl ?_
  obtain ⟨S4, hc3, hf⟩ := zbind hf
  refine zv_callV dX6_land_18 zk_X6_81 zm_X6_step (c_X6_step  d (by omega) S2 S4 hc3) (wo_31 S2) rfl rfl rfl (Nat.le_of_ble_eq_true rfl) ?_
  exact zV_sub ([(0, .ref 31), (1, .int (0 : Int32))]) ⟨rfl, rfl, trivial⟩ (v_X6_land_21 d (by omega) zN S4 (0 : Int32) _ _ hf)
-- KingPricesModel.mark(II)I height 2 writes
def f_X6_mark (S : zS) (a1 : Int32) (a2 : Int32) : Option (Int32 × zS) :=
  ((f_X6_in a1 (0 : Int32) (5 : Int32)).bind (fun x2 => (if x2 = 0 then some ((-1000000 : Int32), S) else ((f_X6_isVillage S a2).bind (fun x5 => (if x5 = 0 then some ((-1000000 : Int32), S) else (if zin ((4 : Int32) + a2) 927 then (if zin ((10 : Int32) + a2) 927 then (if zin ((4 : Int32) + a2) 927 then (if zin a2 12 then (if a1 = 0 then (if zin ((4 : Int32) + a2) 927 then some (((zT S 1 ((S.2.1 1) + (1 : Int64))).1 41 (((4 : Int32) + a2)).toNatClampNeg), (zT S 1 ((S.2.1 1) + (1 : Int64)))) else none) else (if a1 = 1 then some (((S.1 41 (((4 : Int32) + a2)).toNatClampNeg) + (S.1 41 (((10 : Int32) + a2)).toNatClampNeg)), (zT S 1 ((S.2.1 1) + (11 : Int64)))) else (if a1 = 2 then some (((S.1 41 (((4 : Int32) + a2)).toNatClampNeg) - (S.1 35 (a2).toNatClampNeg)), (zT S 1 ((S.2.1 1) + (101 : Int64)))) else (if a1 = 3 then some (((2 : Int32) * ((S.1 41 (((4 : Int32) + a2)).toNatClampNeg) + (S.1 41 (((10 : Int32) + a2)).toNatClampNeg))), (zT S 1 ((S.2.1 1) + (1011 : Int64)))) else (if a1 = 4 then (if zin ((22 : Int32) + a2) 927 then some ((((S.1 41 (((4 : Int32) + a2)).toNatClampNeg) - (S.1 35 (a2).toNatClampNeg)) + ((zT S 1 ((S.2.1 1) + (10101 : Int64))).1 41 (((22 : Int32) + a2)).toNatClampNeg)), (zT S 1 ((S.2.1 1) + (10101 : Int64)))) else none) else (if zin ((4 : Int32) + a2) 927 then (if zin ((16 : Int32) + a2) 927 then some ((((zT S 1 ((S.2.1 1) + (100001 : Int64))).1 41 (((4 : Int32) + a2)).toNatClampNeg) + ((zT S 1 ((S.2.1 1) + (100001 : Int64))).1 41 (((16 : Int32) + a2)).toNatClampNeg)), (zT S 1 ((S.2.1 1) + (100001 : Int64)))) else none) else none)))))) else none) else none) else none) else none)))))))
set_option maxRecDepth 100000 in
set_option maxHeartbeats 4000000 in
theorem c_X6_mark  (d : Nat) (hd : 2 ≤ d) (S : zS) (a1 : Int32) (a2 : Int32) (v : Int32) (S' : zS) (hf : f_X6_mark S a1 a2 = (some (v, S'))) : zC d yX6_mark cX6_mark 5 (some .int) [.ref 31, .int a1, .int a2] (wd S) (zq (some (.int v)) (wd S')) := by
  obtain ⟨d, rfl⟩ : ∃ e, d = e + 1 := ⟨d - 1, by omega⟩
  refine zC_intro (by decide) rfl (Nat.le_of_ble_eq_true rfl) ?_
  unfold f_X6_mark at hf
  refine zv_iload_n dX6_mark_0 rfl rfl ?_
  refine zv_iconst (v := 0) dX6_mark_1 (by decide) ?_
  refine zv_iconst (v := 5) dX6_mark_2 (by decide) ?_
  obtain ⟨x2, hc1, hf⟩ := zbind hf
  refine zv_callS dX6_mark_3 zk_X6_54 zm_X6_in (c_X6_in  d a1 (0 : Int32) (5 : Int32) x2 hc1) rfl rfl (Nat.le_of_ble_eq_true rfl) ?_
  refine zv_if_eq (tgt := 17) dX6_mark_6 (by decide) (fun c3 => ?_) (fun c3 => ?_)
  · replace hf := (if_pos c3).symm.trans hf
    refine zv_ldc rfl zcn_X6_161 dX6_mark_17 ?_
    exact zv_iret (ty := .int) dX6_mark_19 rfl rfl (zret2 wd hf)
  · replace hf := (if_neg c3).symm.trans hf
    refine zv_aload_n dX6_mark_9 rfl rfl ?_
    refine zv_iload_n dX6_mark_10 rfl rfl ?_
    obtain ⟨x5, hc4, hf⟩ := zbind hf
    refine zv_callV dX6_mark_11 zk_X6_107 zm_X6_isVillage (c_X6_isVillage  d (by omega) S a2 x5 hc4) (wo_31 S) rfl rfl rfl (Nat.le_of_ble_eq_true rfl) ?_
    refine zv_if_ne (tgt := 20) dX6_mark_14 (by decide) (fun c6 => ?_) (fun c6 => ?_)
    · replace hf := (if_neg c6).symm.trans hf
      refine zv_aload_n dX6_mark_20 rfl rfl ?_
      refine zv_get zf_X6_38 (wo_31 S) rfl dX6_mark_21 ?_
      refine zv_iconst (v := 4) dX6_mark_24 (by decide) ?_
      refine zv_iload_n dX6_mark_25 rfl rfl ?_
      refine zv_iadd dX6_mark_26 ?_
      obtain ⟨hb7, hf⟩ := zifb hf
      refine zv_iald hb7 (wo_41 S) dX6_mark_27 ?_
      refine zv_aload_n dX6_mark_28 rfl rfl ?_
      refine zv_get zf_X6_38 (wo_31 S) rfl dX6_mark_29 ?_
      refine zv_bipush (v := 10) dX6_mark_32 (by decide) ?_
      refine zv_iload_n dX6_mark_34 rfl rfl ?_
      refine zv_iadd dX6_mark_35 ?_
      obtain ⟨hb8, hf⟩ := zifb hf
      refine zv_iald hb8 (wo_41 S) dX6_mark_36 ?_
      refine zv_iadd dX6_mark_37 ?_
      refine zv_istore_n dX6_mark_38 rfl (by decide) ?_
      refine zv_aload_n dX6_mark_39 rfl rfl ?_
      refine zv_get zf_X6_38 (wo_31 S) rfl dX6_mark_40 ?_
      refine zv_iconst (v := 4) dX6_mark_43 (by decide) ?_
      refine zv_iload_n dX6_mark_44 rfl rfl ?_
      refine zv_iadd dX6_mark_45 ?_
      obtain ⟨hb9, hf⟩ := zifb hf
      refine zv_iald hb9 (wo_41 S) dX6_mark_46 ?_
      refine zv_aload_n dX6_mark_47 rfl rfl ?_
      refine zv_get zf_X6_20 (wo_31 S) rfl dX6_mark_48 ?_
      refine zv_iload_n dX6_mark_51 rfl rfl ?_
      obtain ⟨hb10, hf⟩ := zifb hf
      refine zv_iald hb10 (wo_35 S) dX6_mark_52 ?_
      refine zv_isub dX6_mark_53 ?_
      refine zv_istore dX6_mark_54 (by decide) ?_
      refine zv_iload_n dX6_mark_56 rfl rfl ?_
      by_cases c11 : a1 = 0
      · replace hf := (if_pos c11).symm.trans hf
        refine zv_tableIn (v := 0) (off := 35) (tgt := 92) dX6_mark_57 c11 (by decide) (by decide) (by decide) (by decide) ?_
        refine zv_aload_n dX6_mark_92 rfl rfl ?_
        refine zv_dup dX6_mark_93 rfl ?_
        refine zv_get zf_X6_162 (wo_31 S) rfl dX6_mark_94 ?_
        refine zv_lconst (v := 1) dX6_mark_97 (by decide) ?_
        refine zv_ladd dX6_mark_98 ?_
        refine zv_put zp_X6_162 (wo_31 S) rfl (fun _ => ⟨rfl, rfl⟩) (Nat.le_of_ble_eq_true rfl) (wp_31_0 S ((S.2.1 1) + (1 : Int64))) dX6_mark_99 ?_
        refine zv_aload_n dX6_mark_102 rfl rfl ?_
        refine zv_get zf_X6_38 (wo_31 (zT S 1 ((S.2.1 1) + (1 : Int64)))) rfl dX6_mark_103 ?_
        refine zv_iconst (v := 4) dX6_mark_106 (by decide) ?_
        refine zv_iload_n dX6_mark_107 rfl rfl ?_
        refine zv_iadd dX6_mark_108 ?_
        obtain ⟨hb12, hf⟩ := zifb hf
        refine zv_iald hb12 (wo_41 (zT S 1 ((S.2.1 1) + (1 : Int64)))) dX6_mark_109 ?_
        exact zv_iret (ty := .int) dX6_mark_110 rfl rfl (zret2 wd hf)
      replace hf := (if_neg c11).symm.trans hf
      by_cases c13 : a1 = 1
      · replace hf := (if_pos c13).symm.trans hf
        refine zv_tableIn (v := 1) (off := 54) (tgt := 111) dX6_mark_57 c13 (by decide) (by decide) (by decide) (by decide) ?_
        refine zv_aload_n dX6_mark_111 rfl rfl ?_
        refine zv_dup dX6_mark_112 rfl ?_
        refine zv_get zf_X6_162 (wo_31 S) rfl dX6_mark_113 ?_
        refine zv_ldc2 rfl zcn_X6_166 dX6_mark_116 ?_
        refine zv_ladd dX6_mark_119 ?_
        refine zv_put zp_X6_162 (wo_31 S) rfl (fun _ => ⟨rfl, rfl⟩) (Nat.le_of_ble_eq_true rfl) (wp_31_0 S ((S.2.1 1) + (11 : Int64))) dX6_mark_120 ?_
        refine zv_iload_n dX6_mark_123 rfl rfl ?_
        exact zv_iret (ty := .int) dX6_mark_124 rfl rfl (zret2 wd hf)
      replace hf := (if_neg c13).symm.trans hf
      by_cases c14 : a1 = 2
      · replace hf := (if_pos c14).symm.trans hf
        refine zv_tableIn (v := 2) (off := 68) (tgt := 125) dX6_mark_57 c14 (by decide) (by decide) (by decide) (by decide) ?_
        refine zv_aload_n dX6_mark_125 rfl rfl ?_
        refine zv_dup dX6_mark_126 rfl ?_
        refine zv_get zf_X6_162 (wo_31 S) rfl dX6_mark_127 ?_
        refine zv_ldc2 rfl zcn_X6_168 dX6_mark_130 ?_
        refine zv_ladd dX6_mark_133 ?_
        refine zv_put zp_X6_162 (wo_31 S) rfl (fun _ => ⟨rfl, rfl⟩) (Nat.le_of_ble_eq_true rfl) (wp_31_0 S ((S.2.1 1) + (101 : Int64))) dX6_mark_134 ?_
        refine zv_iload dX6_mark_137 rfl ?_
        exact zv_iret (ty := .int) dX6_mark_139 rfl rfl (zret2 wd hf)
      replace hf := (if_neg c14).symm.trans hf
      by_cases c15 : a1 = 3
      · replace hf := (if_pos c15).symm.trans hf
        refine zv_tableIn (v := 3) (off := 83) (tgt := 140) dX6_mark_57 c15 (by decide) (by decide) (by decide) (by decide) ?_
        refine zv_aload_n dX6_mark_140 rfl rfl ?_
        refine zv_dup dX6_mark_141 rfl ?_
        refine zv_get zf_X6_162 (wo_31 S) rfl dX6_mark_142 ?_
        refine zv_ldc2 rfl zcn_X6_170 dX6_mark_145 ?_
        refine zv_ladd dX6_mark_148 ?_
        refine zv_put zp_X6_162 (wo_31 S) rfl (fun _ => ⟨rfl, rfl⟩) (Nat.le_of_ble_eq_true rfl) (wp_31_0 S ((S.2.1 1) + (1011 : Int64))) dX6_mark_149 ?_
        refine zv_iconst (v := 2) dX6_mark_152 (by decide) ?_
        refine zv_iload_n dX6_mark_153 rfl rfl ?_
        refine zv_imul dX6_mark_154 ?_
        exact zv_iret (ty := .int) dX6_mark_155 rfl rfl (zret2 wd hf)
      replace hf := (if_neg c15).symm.trans hf
      by_cases c16 : a1 = 4
      · replace hf := (if_pos c16).symm.trans hf
        refine zv_tableIn (v := 4) (off := 99) (tgt := 156) dX6_mark_57 c16 (by decide) (by decide) (by decide) (by decide) ?_
        refine zv_aload_n dX6_mark_156 rfl rfl ?_
        refine zv_dup dX6_mark_157 rfl ?_
        refine zv_get zf_X6_162 (wo_31 S) rfl dX6_mark_158 ?_
        refine zv_ldc2 rfl zcn_X6_172 dX6_mark_161 ?_
        refine zv_ladd dX6_mark_164 ?_
        refine zv_put zp_X6_162 (wo_31 S) rfl (fun _ => ⟨rfl, rfl⟩) (Nat.le_of_ble_eq_true rfl) (wp_31_0 S ((S.2.1 1) + (10101 : Int64))) dX6_mark_165 ?_
        refine zv_iload dX6_mark_168 rfl ?_
        refine zv_aload_n dX6_mark_170 rfl rfl ?_
        refine zv_get zf_X6_38 (wo_31 (zT S 1 ((S.2.1 1) + (10101 : Int64)))) rfl dX6_mark_171 ?_
        refine zv_bipush (v := 22) dX6_mark_174 (by decide) ?_
        refine zv_iload_n dX6_mark_176 rfl rfl ?_
        refine zv_iadd dX6_mark_177 ?_
        obtain ⟨hb17, hf⟩ := zifb hf
        refine zv_iald hb17 (wo_41 (zT S 1 ((S.2.1 1) + (10101 : Int64)))) dX6_mark_178 ?_
        refine zv_iadd dX6_mark_179 ?_
        exact zv_iret (ty := .int) dX6_mark_180 rfl rfl (zret2 wd hf)
      replace hf := (if_neg c16).symm.trans hf
      refine zv_tableOut (tgt := 181) dX6_mark_57 (by have q0 := lv_neT (a := 0) c11 (by decide); have q1 := lv_neT (a := 1) c13 (by decide); have q2 := lv_neT (a := 2) c14 (by decide); have q3 := lv_neT (a := 3) c15 (by decide); have q4 := lv_neT (a := 4) c16 (by decide); omega) (by decide) ?_
      refine zv_aload_n dX6_mark_181 rfl rfl ?_
      refine zv_dup dX6_mark_182 rfl ?_
      refine zv_get zf_X6_162 (wo_31 S) rfl dX6_mark_183 ?_
      refine zv_ldc2 rfl zcn_X6_174 dX6_mark_186 ?_
      refine zv_ladd dX6_mark_189 ?_
      refine zv_put zp_X6_162 (wo_31 S) rfl (fun _ => ⟨rfl, rfl⟩) (Nat.le_of_ble_eq_true rfl) (wp_31_0 S ((S.2.1 1) + (100001 : Int64))) dX6_mark_190 ?_
      refine zv_aload_n dX6_mark_193 rfl rfl ?_
      refine zv_get zf_X6_38 (wo_31 (zT S 1 ((S.2.1 1) + (100001 : Int64)))) rfl dX6_mark_194 ?_
      refine zv_iconst (v := 4) dX6_mark_197 (by decide) ?_
      refine zv_iload_n dX6_mark_198 rfl rfl ?_
      refine zv_iadd dX6_mark_199 ?_
      obtain ⟨hb18, hf⟩ := zifb hf
      refine zv_iald hb18 (wo_41 (zT S 1 ((S.2.1 1) + (100001 : Int64)))) dX6_mark_200 ?_
      refine zv_aload_n dX6_mark_201 rfl rfl ?_
      refine zv_get zf_X6_38 (wo_31 (zT S 1 ((S.2.1 1) + (100001 : Int64)))) rfl dX6_mark_202 ?_
      refine zv_bipush (v := 16) dX6_mark_205 (by decide) ?_
      refine zv_iload_n dX6_mark_207 rfl rfl ?_
      refine zv_iadd dX6_mark_208 ?_
      obtain ⟨hb19, hf⟩ := zifb hf
      refine zv_iald hb19 (wo_41 (zT S 1 ((S.2.1 1) + (100001 : Int64)))) dX6_mark_209 ?_
      refine zv_iadd dX6_mark_210 ?_
      exact zv_iret (ty := .int) dX6_mark_211 rfl rfl (zret2 wd hf)
    · replace hf := (if_pos c6).symm.trans hf
      refine zv_ldc rfl zcn_X6_161 dX6_mark_17 ?_
      exact zv_iret (ty := .int) dX6_mark_19 rfl rfl (zret2 wd hf)
-- KingPricesModel.part(III)I height 0 reads
def f_X6_part_5  : Nat → Int32 → Int32 → Int32 → Int32 → Int32 → Option Int32
  | 0, _, _, _, _, _ => none
  | n + 1, a0, a1, a2, a3, a4 => (if a4 = 0 then (if a2 = 0 then (if a3 = 0 then none else some ((a0 / a3))) else (if a3 = 0 then none else some ((a1 / a3)))) else (if a4 = 0 then none else f_X6_part_5  n a0 a1 a2 a4 (a3 - a3 / a4 * a4)))
set_option maxRecDepth 100000 in
set_option maxHeartbeats 4000000 in
theorem v_X6_part_5 {h : List va_E} (d : Nat) : ∀ (n : Nat) (a0 : Int32) (a1 : Int32) (a2 : Int32) (a3 : Int32) (a4 : Int32) (v : Int32), f_X6_part_5  n a0 a1 a2 a3 a4 = (some v) → zV none d yX6_part cX6_part 6 (some .int) 5 [(0, .int a0), (1, .int a1), (2, .int a2), (3, .int a3), (4, .int a4)] [] h (zq (some (.int v)) h) := by
  intro n
  induction n with
  | zero =>
    intro a0 a1 a2 a3 a4 v hf
    cases hf
  | succ n ih =>
    intro a0 a1 a2 a3 a4 v hf
    rw [f_X6_part_5] at hf
    refine zv_iload dX6_part_5 rfl ?_
    refine zv_if_eq (tgt := 26) dX6_part_7 (by decide) (fun c1 => ?_) (fun c1 => ?_)
    · replace hf := (if_pos c1).symm.trans hf
      refine zv_iload_n dX6_part_26 rfl rfl ?_
      refine zv_if_ne (tgt := 36) dX6_part_27 (by decide) (fun c2 => ?_) (fun c2 => ?_)
      · replace hf := (if_neg c2).symm.trans hf
        refine zv_iload_n dX6_part_36 rfl rfl ?_
        refine zv_iload_n dX6_part_37 rfl rfl ?_
        obtain ⟨hz3, hf⟩ := zifn hf
        refine zv_idiv hz3 dX6_part_38 ?_
        exact zv_iret (ty := .int) dX6_part_39 rfl rfl (zret1 hf)
      · replace hf := (if_pos c2).symm.trans hf
        refine zv_iload_n dX6_part_30 rfl rfl ?_
        refine zv_iload_n dX6_part_31 rfl rfl ?_
        obtain ⟨hz4, hf⟩ := zifn hf
        refine zv_idiv hz4 dX6_part_32 ?_
        refine zv_goto (tgt := 39) dX6_part_33 (by decide) ?_
        exact zv_iret (ty := .int) dX6_part_39 rfl rfl (zret1 hf)
    · replace hf := (if_neg c1).symm.trans hf
      refine zv_iload_n dX6_part_10 rfl rfl ?_
      refine zv_iload dX6_part_11 rfl ?_
      obtain ⟨hz5, hf⟩ := zifn hf
      refine zv_irem hz5 dX6_part_13 ?_
      refine zv_istore dX6_part_14 (by decide) ?_
      refine zv_iload dX6_part_16 rfl ?_
      refine zv_istore_n dX6_part_18 rfl (by decide) ?_
      refine zv_iload dX6_part_19 rfl ?_
      refine zv_istore dX6_part_21 (by decide) ?_
      refine zv_goto (tgt := 5) dX6_part_23 (by decide) ?_
      exact zV_sub ([(0, .int a0), (1, .int a1), (2, .int a2), (3, .int a4), (4, .int (a3 - a3 / a4 * a4))]) ⟨rfl, rfl, rfl, rfl, rfl, trivial⟩ (ih a0 a1 a2 a4 (a3 - a3 / a4 * a4) _ hf)
def f_X6_part (a0 : Int32) (a1 : Int32) (a2 : Int32) : Option Int32 :=
  f_X6_part_5 zN a0 a1 a2 a0 a1
set_option maxRecDepth 100000 in
set_option maxHeartbeats 4000000 in
theorem c_X6_part {h : List va_E} (d : Nat) (a0 : Int32) (a1 : Int32) (a2 : Int32) (v : Int32) (hf : f_X6_part a0 a1 a2 = (some v)) : zC d yX6_part cX6_part 6 (some .int) [.int a0, .int a1, .int a2] h (zq (some (.int v)) h) := by
  refine zC_intro (by decide) rfl (Nat.le_of_ble_eq_true rfl) ?_
  unfold f_X6_part at hf
  refine zv_iload_n dX6_part_0 rfl rfl ?_
  refine zv_istore_n dX6_part_1 rfl (by decide) ?_
  refine zv_iload_n dX6_part_2 rfl rfl ?_
  refine zv_istore dX6_part_3 (by decide) ?_
  exact zV_sub ([(0, .int a0), (1, .int a1), (2, .int a2), (3, .int a0), (4, .int a1)]) ⟨rfl, rfl, rfl, rfl, rfl, trivial⟩ (v_X6_part_5 d zN a0 a1 a2 a0 a1 _ hf)
-- KingPricesModel.mixed(III)I height 1 reads
def f_X6_mixed (S : zS) (a1 : Int32) (a2 : Int32) (a3 : Int32) : Option Int32 :=
  ((f_X6_in a1 (1 : Int32) (60 : Int32)).bind (fun x2 => (if x2 = 0 then some ((-1 : Int32)) else ((f_X6_in a2 (0 : Int32) (60 : Int32)).bind (fun x5 => (if x5 = 0 then some ((-1 : Int32)) else ((f_X6_in a3 (0 : Int32) (1 : Int32)).bind (fun x8 => (if x8 = 0 then some ((-1 : Int32)) else ((f_X6_part a1 (a1 + a2) a3).bind (fun x11 => some x11)))))))))))
set_option maxRecDepth 100000 in
set_option maxHeartbeats 4000000 in
theorem c_X6_mixed  (d : Nat) (hd : 1 ≤ d) (S : zS) (a1 : Int32) (a2 : Int32) (a3 : Int32) (v : Int32) (hf : f_X6_mixed S a1 a2 a3 = (some v)) : zC d yX6_mixed cX6_mixed 4 (some .int) [.ref 31, .int a1, .int a2, .int a3] (wd S) (zq (some (.int v)) (wd S)) := by
  obtain ⟨d, rfl⟩ : ∃ e, d = e + 1 := ⟨d - 1, by omega⟩
  refine zC_intro (by decide) rfl (Nat.le_of_ble_eq_true rfl) ?_
  unfold f_X6_mixed at hf
  refine zv_iload_n dX6_mixed_0 rfl rfl ?_
  refine zv_iconst (v := 1) dX6_mixed_1 (by decide) ?_
  refine zv_bipush (v := 60) dX6_mixed_2 (by decide) ?_
  obtain ⟨x2, hc1, hf⟩ := zbind hf
  refine zv_callS dX6_mixed_4 zk_X6_54 zm_X6_in (c_X6_in  d a1 (1 : Int32) (60 : Int32) x2 hc1) rfl rfl (Nat.le_of_ble_eq_true rfl) ?_
  refine zv_if_eq (tgt := 29) dX6_mixed_7 (by decide) (fun c3 => ?_) (fun c3 => ?_)
  · replace hf := (if_pos c3).symm.trans hf
    refine zv_iconst (v := -1) dX6_mixed_29 (by decide) ?_
    exact zv_iret (ty := .int) dX6_mixed_30 rfl rfl (zret1 hf)
  · replace hf := (if_neg c3).symm.trans hf
    refine zv_iload_n dX6_mixed_10 rfl rfl ?_
    refine zv_iconst (v := 0) dX6_mixed_11 (by decide) ?_
    refine zv_bipush (v := 60) dX6_mixed_12 (by decide) ?_
    obtain ⟨x5, hc4, hf⟩ := zbind hf
    refine zv_callS dX6_mixed_14 zk_X6_54 zm_X6_in (c_X6_in  d a2 (0 : Int32) (60 : Int32) x5 hc4) rfl rfl (Nat.le_of_ble_eq_true rfl) ?_
    refine zv_if_eq (tgt := 29) dX6_mixed_17 (by decide) (fun c6 => ?_) (fun c6 => ?_)
    · replace hf := (if_pos c6).symm.trans hf
      refine zv_iconst (v := -1) dX6_mixed_29 (by decide) ?_
      exact zv_iret (ty := .int) dX6_mixed_30 rfl rfl (zret1 hf)
    · replace hf := (if_neg c6).symm.trans hf
      refine zv_iload_n dX6_mixed_20 rfl rfl ?_
      refine zv_iconst (v := 0) dX6_mixed_21 (by decide) ?_
      refine zv_iconst (v := 1) dX6_mixed_22 (by decide) ?_
      obtain ⟨x8, hc7, hf⟩ := zbind hf
      refine zv_callS dX6_mixed_23 zk_X6_54 zm_X6_in (c_X6_in  d a3 (0 : Int32) (1 : Int32) x8 hc7) rfl rfl (Nat.le_of_ble_eq_true rfl) ?_
      refine zv_if_ne (tgt := 31) dX6_mixed_26 (by decide) (fun c9 => ?_) (fun c9 => ?_)
      · replace hf := (if_neg c9).symm.trans hf
        refine zv_iload_n dX6_mixed_31 rfl rfl ?_
        refine zv_iload_n dX6_mixed_32 rfl rfl ?_
        refine zv_iload_n dX6_mixed_33 rfl rfl ?_
        refine zv_iadd dX6_mixed_34 ?_
        refine zv_iload_n dX6_mixed_35 rfl rfl ?_
        obtain ⟨x11, hc10, hf⟩ := zbind hf
        refine zv_callS dX6_mixed_36 zk_X6_148 zm_X6_part (c_X6_part  d a1 (a1 + a2) a3 x11 hc10) rfl rfl (Nat.le_of_ble_eq_true rfl) ?_
        exact zv_iret (ty := .int) dX6_mixed_39 rfl rfl (zret1 hf)
      · replace hf := (if_pos c9).symm.trans hf
        refine zv_iconst (v := -1) dX6_mixed_29 (by decide) ?_
        exact zv_iret (ty := .int) dX6_mixed_30 rfl rfl (zret1 hf)
-- KingPricesModel.net(I)I height 2 reads
def f_X6_net_15  : Nat → zS → Int32 → Int32 → Int32 → Option Int32
  | 0, _, _, _, _ => none
  | n + 1, S, a1, a2, a3 => (if (S.1 33 0) ≤ a3 then some a2 else (if zin (((6 : Int32) * a3) + a1) 72 then (if zin (((6 : Int32) * a1) + a3) 72 then f_X6_net_15  n S a1 (a2 + ((S.1 39 ((((6 : Int32) * a3) + a1)).toNatClampNeg) - (S.1 39 ((((6 : Int32) * a1) + a3)).toNatClampNeg))) (a3 + (1 : Int32)) else none) else none))
set_option maxRecDepth 100000 in
set_option maxHeartbeats 4000000 in
theorem v_X6_net_15 (d : Nat) (hd : 1 ≤ d) : ∀ (n : Nat) (S : zS) (a1 : Int32) (a2 : Int32) (a3 : Int32) (v : Int32), f_X6_net_15  n S a1 a2 a3 = (some v) → zV none (d + 1) yX6_net cX6_net 4 (some .int) 15 [(0, .ref 31), (1, .int a1), (2, .int a2), (3, .int a3)] [] (wd S) (zq (some (.int v)) (wd S)) := by
  intro n
  induction n with
  | zero =>
    intro S a1 a2 a3 v hf
    cases hf
  | succ n ih =>
    intro S a1 a2 a3 v hf
    rw [f_X6_net_15] at hf
    refine zv_iload_n dX6_net_15 rfl rfl ?_
    refine zv_aload_n dX6_net_16 rfl rfl ?_
    refine zv_get zf_X6_13 (wo_31 S) rfl dX6_net_17 ?_
    refine zv_iconst (v := 0) dX6_net_20 (by decide) ?_
    refine zv_ialdK (k := 0) (by decide) (by decide) (wo_33 S) dX6_net_21 ?_
    refine zv_icmp_ge (tgt := 57) dX6_net_22 (by decide) (fun c1 => ?_) (fun c1 => ?_)
    · replace hf := (if_pos c1).symm.trans hf
      refine zv_iload_n dX6_net_57 rfl rfl ?_
      exact zv_iret (ty := .int) dX6_net_58 rfl rfl (zret1 hf)
    · replace hf := (if_neg c1).symm.trans hf
      refine zv_iload_n dX6_net_25 rfl rfl ?_
      refine zv_aload_n dX6_net_26 rfl rfl ?_
      refine zv_get zf_X6_32 (wo_31 S) rfl dX6_net_27 ?_
      refine zv_bipush (v := 6) dX6_net_30 (by decide) ?_
      refine zv_iload_n dX6_net_32 rfl rfl ?_
      refine zv_imul dX6_net_33 ?_
      refine zv_iload_n dX6_net_34 rfl rfl ?_
      refine zv_iadd dX6_net_35 ?_
      obtain ⟨hb2, hf⟩ := zifb hf
      refine zv_iald hb2 (wo_39 S) dX6_net_36 ?_
      refine zv_aload_n dX6_net_37 rfl rfl ?_
      refine zv_get zf_X6_32 (wo_31 S) rfl dX6_net_38 ?_
      refine zv_bipush (v := 6) dX6_net_41 (by decide) ?_
      refine zv_iload_n dX6_net_43 rfl rfl ?_
      refine zv_imul dX6_net_44 ?_
      refine zv_iload_n dX6_net_45 rfl rfl ?_
      refine zv_iadd dX6_net_46 ?_
      obtain ⟨hb3, hf⟩ := zifb hf
      refine zv_iald hb3 (wo_39 S) dX6_net_47 ?_
      refine zv_isub dX6_net_48 ?_
      refine zv_iadd dX6_net_49 ?_
      refine zv_istore_n dX6_net_50 rfl (by decide) ?_
      refine zv_iinc (v := 1) dX6_net_51 rfl (by decide) (by decide) ?_
      refine zv_goto (tgt := 15) dX6_net_54 (by decide) ?_
      exact zV_sub ([(0, .ref 31), (1, .int a1), (2, .int (a2 + ((S.1 39 ((((6 : Int32) * a3) + a1)).toNatClampNeg) - (S.1 39 ((((6 : Int32) * a1) + a3)).toNatClampNeg)))), (3, .int (a3 + (1 : Int32)))]) ⟨rfl, rfl, rfl, rfl, trivial⟩ (ih S a1 (a2 + ((S.1 39 ((((6 : Int32) * a3) + a1)).toNatClampNeg) - (S.1 39 ((((6 : Int32) * a1) + a3)).toNatClampNeg))) (a3 + (1 : Int32)) _ hf)
def f_X6_net (S : zS) (a1 : Int32) : Option Int32 :=
  ((f_X6_isVillage S a1).bind (fun x2 => (if x2 = 0 then some ((-1000000 : Int32)) else f_X6_net_15 zN S a1 (0 : Int32) (0 : Int32))))
set_option maxRecDepth 100000 in
set_option maxHeartbeats 4000000 in
theorem c_X6_net  (d : Nat) (hd : 2 ≤ d) (S : zS) (a1 : Int32) (v : Int32) (hf : f_X6_net S a1 = (some v)) : zC d yX6_net cX6_net 4 (some .int) [.ref 31, .int a1] (wd S) (zq (some (.int v)) (wd S)) := by
  obtain ⟨d, rfl⟩ : ∃ e, d = e + 1 := ⟨d - 1, by omega⟩
  refine zC_intro (by decide) rfl (Nat.le_of_ble_eq_true rfl) ?_
  unfold f_X6_net at hf
  refine zv_aload_n dX6_net_0 rfl rfl ?_
  refine zv_iload_n dX6_net_1 rfl rfl ?_
  obtain ⟨x2, hc1, hf⟩ := zbind hf
  refine zv_callV dX6_net_2 zk_X6_107 zm_X6_isVillage (c_X6_isVillage  d (by omega) S a1 x2 hc1) (wo_31 S) rfl rfl rfl (Nat.le_of_ble_eq_true rfl) ?_
  refine zv_if_ne (tgt := 11) dX6_net_5 (by decide) (fun c3 => ?_) (fun c3 => ?_)
  · replace hf := (if_neg c3).symm.trans hf
    refine zv_iconst (v := 0) dX6_net_11 (by decide) ?_
    refine zv_istore_n dX6_net_12 rfl (by decide) ?_
    refine zv_iconst (v := 0) dX6_net_13 (by decide) ?_
    refine zv_istore_n dX6_net_14 rfl (by decide) ?_
    exact zV_sub ([(0, .ref 31), (1, .int a1), (2, .int (0 : Int32)), (3, .int (0 : Int32))]) ⟨rfl, rfl, rfl, rfl, trivial⟩ (v_X6_net_15 d (by omega) zN S a1 (0 : Int32) (0 : Int32) _ hf)
  · replace hf := (if_pos c3).symm.trans hf
    refine zv_ldc rfl zcn_X6_161 dX6_net_8 ?_
    exact zv_iret (ty := .int) dX6_net_10 rfl rfl (zret1 hf)
-- KingPricesModel.now(I)I height 1 reads
def f_X6_now_67  : Nat → zS → Int32 → Int32 → Option Int32
  | 0, _, _, _ => none
  | n + 1, S, a2, a3 => (if (S.1 33 0) ≤ a3 then some a2 else (if zin ((16 : Int32) + a3) 927 then f_X6_now_67  n S (a2 + (S.1 41 (((16 : Int32) + a3)).toNatClampNeg)) (a3 + (1 : Int32)) else none))
set_option maxRecDepth 100000 in
set_option maxHeartbeats 4000000 in
theorem v_X6_now_67 (d : Nat) (hd : 0 ≤ d) : ∀ (n : Nat) (S : zS) (a2 : Int32) (a3 : Int32) (v : Int32), f_X6_now_67  n S a2 a3 = (some v) → zV none (d + 1) yX6_now cX6_now 4 (some .int) 67 [(0, .ref 31), (2, .int a2), (3, .int a3)] [] (wd S) (zq (some (.int v)) (wd S)) := by
  intro n
  induction n with
  | zero =>
    intro S a2 a3 v hf
    cases hf
  | succ n ih =>
    intro S a2 a3 v hf
    rw [f_X6_now_67] at hf
    refine zv_iload_n dX6_now_67 rfl rfl ?_
    refine zv_aload_n dX6_now_68 rfl rfl ?_
    refine zv_get zf_X6_13 (wo_31 S) rfl dX6_now_69 ?_
    refine zv_iconst (v := 0) dX6_now_72 (by decide) ?_
    refine zv_ialdK (k := 0) (by decide) (by decide) (wo_33 S) dX6_now_73 ?_
    refine zv_icmp_ge (tgt := 95) dX6_now_74 (by decide) (fun c1 => ?_) (fun c1 => ?_)
    · replace hf := (if_pos c1).symm.trans hf
      refine zv_iload_n dX6_now_95 rfl rfl ?_
      exact zv_iret (ty := .int) dX6_now_96 rfl rfl (zret1 hf)
    · replace hf := (if_neg c1).symm.trans hf
      refine zv_iload_n dX6_now_77 rfl rfl ?_
      refine zv_aload_n dX6_now_78 rfl rfl ?_
      refine zv_get zf_X6_38 (wo_31 S) rfl dX6_now_79 ?_
      refine zv_bipush (v := 16) dX6_now_82 (by decide) ?_
      refine zv_iload_n dX6_now_84 rfl rfl ?_
      refine zv_iadd dX6_now_85 ?_
      obtain ⟨hb2, hf⟩ := zifb hf
      refine zv_iald hb2 (wo_41 S) dX6_now_86 ?_
      refine zv_iadd dX6_now_87 ?_
      refine zv_istore_n dX6_now_88 rfl (by decide) ?_
      refine zv_iinc (v := 1) dX6_now_89 rfl (by decide) (by decide) ?_
      refine zv_goto (tgt := 67) dX6_now_92 (by decide) ?_
      exact zV_sub ([(0, .ref 31), (2, .int (a2 + (S.1 41 (((16 : Int32) + a3)).toNatClampNeg))), (3, .int (a3 + (1 : Int32)))]) ⟨rfl, rfl, rfl, trivial⟩ (ih S (a2 + (S.1 41 (((16 : Int32) + a3)).toNatClampNeg)) (a3 + (1 : Int32)) _ hf)
def f_X6_now_99  : Nat → zS → Int32 → Int32 → Option Int32
  | 0, _, _, _ => none
  | n + 1, S, a2, a3 => (if (S.1 33 0) ≤ a3 then some a2 else ((f_X6_spare S a3).bind (fun x3 => f_X6_now_99  n S (a2 + x3) (a3 + (1 : Int32)))))
set_option maxRecDepth 100000 in
set_option maxHeartbeats 4000000 in
theorem v_X6_now_99 (d : Nat) (hd : 0 ≤ d) : ∀ (n : Nat) (S : zS) (a2 : Int32) (a3 : Int32) (v : Int32), f_X6_now_99  n S a2 a3 = (some v) → zV none (d + 1) yX6_now cX6_now 4 (some .int) 99 [(0, .ref 31), (2, .int a2), (3, .int a3)] [] (wd S) (zq (some (.int v)) (wd S)) := by
  intro n
  induction n with
  | zero =>
    intro S a2 a3 v hf
    cases hf
  | succ n ih =>
    intro S a2 a3 v hf
    rw [f_X6_now_99] at hf
    refine zv_iload_n dX6_now_99 rfl rfl ?_
    refine zv_aload_n dX6_now_100 rfl rfl ?_
    refine zv_get zf_X6_13 (wo_31 S) rfl dX6_now_101 ?_
    refine zv_iconst (v := 0) dX6_now_104 (by decide) ?_
    refine zv_ialdK (k := 0) (by decide) (by decide) (wo_33 S) dX6_now_105 ?_
    refine zv_icmp_ge (tgt := 123) dX6_now_106 (by decide) (fun c1 => ?_) (fun c1 => ?_)
    · replace hf := (if_pos c1).symm.trans hf
      refine zv_iload_n dX6_now_123 rfl rfl ?_
      exact zv_iret (ty := .int) dX6_now_124 rfl rfl (zret1 hf)
    · replace hf := (if_neg c1).symm.trans hf
      refine zv_iload_n dX6_now_109 rfl rfl ?_
      refine zv_aload_n dX6_now_110 rfl rfl ?_
      refine zv_iload_n dX6_now_111 rfl rfl ?_
      obtain ⟨x3, hc2, hf⟩ := zbind hf
      refine zv_callV dX6_now_112 zk_X6_110 zm_X6_spare (c_X6_spare  d S a3 x3 hc2) (wo_31 S) rfl rfl rfl (Nat.le_of_ble_eq_true rfl) ?_
      refine zv_iadd dX6_now_115 ?_
      refine zv_istore_n dX6_now_116 rfl (by decide) ?_
      refine zv_iinc (v := 1) dX6_now_117 rfl (by decide) (by decide) ?_
      refine zv_goto (tgt := 99) dX6_now_120 (by decide) ?_
      exact zV_sub ([(0, .ref 31), (2, .int (a2 + x3)), (3, .int (a3 + (1 : Int32)))]) ⟨rfl, rfl, rfl, trivial⟩ (ih S (a2 + x3) (a3 + (1 : Int32)) _ hf)
def f_X6_now (S : zS) (a1 : Int32) : Option Int32 :=
  (if a1 = 0 then (if zin a1 927 then some ((S.1 41 (a1).toNatClampNeg)) else none) else (if a1 = 1 then (if zin a1 927 then some ((S.1 41 (a1).toNatClampNeg)) else none) else (if a1 = 2 then (if zin a1 927 then some ((S.1 41 (a1).toNatClampNeg)) else none) else (if a1 = 3 then (if zin a1 927 then some ((S.1 41 (a1).toNatClampNeg)) else none) else (if a1 = 4 then (if (S.1 40 0) = 0 then none else some (((S.1 41 2) / (S.1 40 0)))) else (if a1 = 5 then f_X6_now_67 zN S (0 : Int32) (0 : Int32) else (if a1 = 6 then f_X6_now_99 zN S (0 : Int32) (0 : Int32) else some ((-1 : Int32)))))))))
set_option maxRecDepth 100000 in
set_option maxHeartbeats 4000000 in
theorem c_X6_now  (d : Nat) (hd : 1 ≤ d) (S : zS) (a1 : Int32) (v : Int32) (hf : f_X6_now S a1 = (some v)) : zC d yX6_now cX6_now 4 (some .int) [.ref 31, .int a1] (wd S) (zq (some (.int v)) (wd S)) := by
  obtain ⟨d, rfl⟩ : ∃ e, d = e + 1 := ⟨d - 1, by omega⟩
  refine zC_intro (by decide) rfl (Nat.le_of_ble_eq_true rfl) ?_
  unfold f_X6_now at hf
  refine zv_iconst (v := 0) dX6_now_0 (by decide) ?_
  refine zv_istore_n dX6_now_1 rfl (by decide) ?_
  refine zv_iload_n dX6_now_2 rfl rfl ?_
  by_cases c1 : a1 = 0
  · replace hf := (if_pos c1).symm.trans hf
    refine zv_tableIn (v := 0) (off := 41) (tgt := 44) dX6_now_3 c1 (by decide) (by decide) (by decide) (by decide) ?_
    refine zv_aload_n dX6_now_44 rfl rfl ?_
    refine zv_get zf_X6_38 (wo_31 S) rfl dX6_now_45 ?_
    refine zv_iload_n dX6_now_48 rfl rfl ?_
    obtain ⟨hb2, hf⟩ := zifb hf
    refine zv_iald hb2 (wo_41 S) dX6_now_49 ?_
    exact zv_iret (ty := .int) dX6_now_50 rfl rfl (zret1 hf)
  replace hf := (if_neg c1).symm.trans hf
  by_cases c3 : a1 = 1
  · replace hf := (if_pos c3).symm.trans hf
    refine zv_tableIn (v := 1) (off := 41) (tgt := 44) dX6_now_3 c3 (by decide) (by decide) (by decide) (by decide) ?_
    refine zv_aload_n dX6_now_44 rfl rfl ?_
    refine zv_get zf_X6_38 (wo_31 S) rfl dX6_now_45 ?_
    refine zv_iload_n dX6_now_48 rfl rfl ?_
    obtain ⟨hb4, hf⟩ := zifb hf
    refine zv_iald hb4 (wo_41 S) dX6_now_49 ?_
    exact zv_iret (ty := .int) dX6_now_50 rfl rfl (zret1 hf)
  replace hf := (if_neg c3).symm.trans hf
  by_cases c5 : a1 = 2
  · replace hf := (if_pos c5).symm.trans hf
    refine zv_tableIn (v := 2) (off := 41) (tgt := 44) dX6_now_3 c5 (by decide) (by decide) (by decide) (by decide) ?_
    refine zv_aload_n dX6_now_44 rfl rfl ?_
    refine zv_get zf_X6_38 (wo_31 S) rfl dX6_now_45 ?_
    refine zv_iload_n dX6_now_48 rfl rfl ?_
    obtain ⟨hb6, hf⟩ := zifb hf
    refine zv_iald hb6 (wo_41 S) dX6_now_49 ?_
    exact zv_iret (ty := .int) dX6_now_50 rfl rfl (zret1 hf)
  replace hf := (if_neg c5).symm.trans hf
  by_cases c7 : a1 = 3
  · replace hf := (if_pos c7).symm.trans hf
    refine zv_tableIn (v := 3) (off := 41) (tgt := 44) dX6_now_3 c7 (by decide) (by decide) (by decide) (by decide) ?_
    refine zv_aload_n dX6_now_44 rfl rfl ?_
    refine zv_get zf_X6_38 (wo_31 S) rfl dX6_now_45 ?_
    refine zv_iload_n dX6_now_48 rfl rfl ?_
    obtain ⟨hb8, hf⟩ := zifb hf
    refine zv_iald hb8 (wo_41 S) dX6_now_49 ?_
    exact zv_iret (ty := .int) dX6_now_50 rfl rfl (zret1 hf)
  replace hf := (if_neg c7).symm.trans hf
  by_cases c9 : a1 = 4
  · replace hf := (if_pos c9).symm.trans hf
    refine zv_tableIn (v := 4) (off := 48) (tgt := 51) dX6_now_3 c9 (by decide) (by decide) (by decide) (by decide) ?_
    refine zv_aload_n dX6_now_51 rfl rfl ?_
    refine zv_get zf_X6_38 (wo_31 S) rfl dX6_now_52 ?_
    refine zv_iconst (v := 2) dX6_now_55 (by decide) ?_
    refine zv_ialdK (k := 2) (by decide) (by decide) (wo_41 S) dX6_now_56 ?_
    refine zv_aload_n dX6_now_57 rfl rfl ?_
    refine zv_get zf_X6_35 (wo_31 S) rfl dX6_now_58 ?_
    refine zv_iconst (v := 0) dX6_now_61 (by decide) ?_
    refine zv_ialdK (k := 0) (by decide) (by decide) (wo_40 S) dX6_now_62 ?_
    obtain ⟨hz10, hf⟩ := zifn hf
    refine zv_idiv hz10 dX6_now_63 ?_
    exact zv_iret (ty := .int) dX6_now_64 rfl rfl (zret1 hf)
  replace hf := (if_neg c9).symm.trans hf
  by_cases c11 : a1 = 5
  · replace hf := (if_pos c11).symm.trans hf
    refine zv_tableIn (v := 5) (off := 62) (tgt := 65) dX6_now_3 c11 (by decide) (by decide) (by decide) (by decide) ?_
    refine zv_iconst (v := 0) dX6_now_65 (by decide) ?_
    refine zv_istore_n dX6_now_66 rfl (by decide) ?_
    exact zV_sub ([(0, .ref 31), (2, .int (0 : Int32)), (3, .int (0 : Int32))]) ⟨rfl, rfl, rfl, trivial⟩ (v_X6_now_67 d (by omega) zN S (0 : Int32) (0 : Int32) _ hf)
  replace hf := (if_neg c11).symm.trans hf
  by_cases c12 : a1 = 6
  · replace hf := (if_pos c12).symm.trans hf
    refine zv_tableIn (v := 6) (off := 94) (tgt := 97) dX6_now_3 c12 (by decide) (by decide) (by decide) (by decide) ?_
    refine zv_iconst (v := 0) dX6_now_97 (by decide) ?_
    refine zv_istore_n dX6_now_98 rfl (by decide) ?_
    exact zV_sub ([(0, .ref 31), (2, .int (0 : Int32)), (3, .int (0 : Int32))]) ⟨rfl, rfl, rfl, trivial⟩ (v_X6_now_99 d (by omega) zN S (0 : Int32) (0 : Int32) _ hf)
  replace hf := (if_neg c12).symm.trans hf
  refine zv_tableOut (tgt := 125) dX6_now_3 (by have q0 := lv_neT (a := 0) c1 (by decide); have q1 := lv_neT (a := 1) c3 (by decide); have q2 := lv_neT (a := 2) c5 (by decide); have q3 := lv_neT (a := 3) c7 (by decide); have q4 := lv_neT (a := 4) c9 (by decide); have q5 := lv_neT (a := 5) c11 (by decide); have q6 := lv_neT (a := 6) c12 (by decide); omega) (by decide) ?_
  refine zv_iconst (v := -1) dX6_now_125 (by decide) ?_
  exact zv_iret (ty := .int) dX6_now_126 rfl rfl (zret1 hf)
-- KingPricesModel.odds(III)I height 2 reads
def f_X6_odds_136 (k68 : zS → Int32 → Int32 → Int32 → Int32 → Int32 → Int32 → Option Int32) (k101 : zS → Int32 → Int32 → Int32 → Int32 → Int32 → Int32 → Int32 → Int32 → Option Int32) (S : zS) (a1 : Int32) (a2 : Int32) (a3 : Int32) (a4 : Int32) (a5 : Int32) (a6 : Int32) (a7 : Int32) (a8 : Int32) : Option Int32 :=
  k101 S a1 a2 a3 a4 a5 a6 a7 (a8 + (1 : Int32))
set_option maxRecDepth 100000 in
set_option maxHeartbeats 4000000 in
theorem v_X6_odds_136 (d : Nat) (hd : 1 ≤ d) (k68 : zS → Int32 → Int32 → Int32 → Int32 → Int32 → Int32 → Option Int32) (hk68 : ∀ (S : zS) (a1 a2 a3 a4 a5 a6 : Int32) v, k68 S a1 a2 a3 a4 a5 a6 = (some v) → zV none (d + 1) yX6_odds cX6_odds 9 (some .int) 68 [(0, .ref 31), (1, .int a1), (2, .int a2), (3, .int a3), (4, .int a4), (5, .int a5), (6, .int a6)] [] (wd S) (zq (some (.int v)) (wd S))) (k101 : zS → Int32 → Int32 → Int32 → Int32 → Int32 → Int32 → Int32 → Int32 → Option Int32) (hk101 : ∀ (S : zS) (a1 a2 a3 a4 a5 a6 a7 a8 : Int32) v, k101 S a1 a2 a3 a4 a5 a6 a7 a8 = (some v) → zV none (d + 1) yX6_odds cX6_odds 9 (some .int) 101 [(0, .ref 31), (1, .int a1), (2, .int a2), (3, .int a3), (4, .int a4), (5, .int a5), (6, .int a6), (7, .int a7), (8, .int a8)] [] (wd S) (zq (some (.int v)) (wd S))) (S : zS) (a1 : Int32) (a2 : Int32) (a3 : Int32) (a4 : Int32) (a5 : Int32) (a6 : Int32) (a7 : Int32) (a8 : Int32) (v : Int32) (hf : f_X6_odds_136 k68 k101 S a1 a2 a3 a4 a5 a6 a7 a8 = (some v)) : zV none (d + 1) yX6_odds cX6_odds 9 (some .int) 136 [(0, .ref 31), (1, .int a1), (2, .int a2), (3, .int a3), (4, .int a4), (5, .int a5), (6, .int a6), (7, .int a7), (8, .int a8)] [] (wd S) (zq (some (.int v)) (wd S)) := by
  unfold f_X6_odds_136 at hf
  refine zv_iinc (v := 1) dX6_odds_136 rfl (by decide) (by decide) ?_
  refine zv_goto (tgt := 101) dX6_odds_139 (by decide) ?_
  exact zV_sub ([(0, .ref 31), (1, .int a1), (2, .int a2), (3, .int a3), (4, .int a4), (5, .int a5), (6, .int a6), (7, .int a7), (8, .int (a8 + (1 : Int32)))]) ⟨rfl, rfl, rfl, rfl, rfl, rfl, rfl, rfl, rfl, trivial⟩ (hk101 S a1 a2 a3 a4 a5 a6 a7 (a8 + (1 : Int32)) _ hf)
def f_X6_odds_101 (k68 : zS → Int32 → Int32 → Int32 → Int32 → Int32 → Int32 → Option Int32) : Nat → zS → Int32 → Int32 → Int32 → Int32 → Int32 → Int32 → Int32 → Int32 → Option Int32
  | 0, _, _, _, _, _, _, _, _, _ => none
  | n + 1, S, a1, a2, a3, a4, a5, a6, a7, a8 => (if (S.1 33 0) ≤ a8 then k68 S a1 a2 a3 (a4 + a7) a5 (a6 + (1 : Int32)) else (if ((a6 >>> (a8 &&& 31)) &&& (1 : Int32)) = (1 : Int32) then f_X6_odds_136 k68 (f_X6_odds_101 k68 n) S a1 a2 a3 a4 a5 a6 (a7 * ((10 : Int32) - a1)) a8 else f_X6_odds_136 k68 (f_X6_odds_101 k68 n) S a1 a2 a3 a4 a5 a6 (a7 * a1) a8))
set_option maxRecDepth 100000 in
set_option maxHeartbeats 4000000 in
theorem v_X6_odds_101 (d : Nat) (hd : 1 ≤ d) (k68 : zS → Int32 → Int32 → Int32 → Int32 → Int32 → Int32 → Option Int32) (hk68 : ∀ (S : zS) (a1 a2 a3 a4 a5 a6 : Int32) v, k68 S a1 a2 a3 a4 a5 a6 = (some v) → zV none (d + 1) yX6_odds cX6_odds 9 (some .int) 68 [(0, .ref 31), (1, .int a1), (2, .int a2), (3, .int a3), (4, .int a4), (5, .int a5), (6, .int a6)] [] (wd S) (zq (some (.int v)) (wd S))) : ∀ (n : Nat) (S : zS) (a1 : Int32) (a2 : Int32) (a3 : Int32) (a4 : Int32) (a5 : Int32) (a6 : Int32) (a7 : Int32) (a8 : Int32) (v : Int32), f_X6_odds_101 k68 n S a1 a2 a3 a4 a5 a6 a7 a8 = (some v) → zV none (d + 1) yX6_odds cX6_odds 9 (some .int) 101 [(0, .ref 31), (1, .int a1), (2, .int a2), (3, .int a3), (4, .int a4), (5, .int a5), (6, .int a6), (7, .int a7), (8, .int a8)] [] (wd S) (zq (some (.int v)) (wd S)) := by
  intro n
  induction n with
  | zero =>
    intro S a1 a2 a3 a4 a5 a6 a7 a8 v hf
    cases hf
  | succ n ih =>
    intro S a1 a2 a3 a4 a5 a6 a7 a8 v hf
    rw [f_X6_odds_101] at hf
    refine zv_iload dX6_odds_101 rfl ?_
    refine zv_aload_n dX6_odds_103 rfl rfl ?_
    refine zv_get zf_X6_13 (wo_31 S) rfl dX6_odds_104 ?_
    refine zv_iconst (v := 0) dX6_odds_107 (by decide) ?_
    refine zv_ialdK (k := 0) (by decide) (by decide) (wo_33 S) dX6_odds_108 ?_
    refine zv_icmp_ge (tgt := 142) dX6_odds_109 (by decide) (fun c1 => ?_) (fun c1 => ?_)
    · replace hf := (if_pos c1).symm.trans hf
      refine zv_iload dX6_odds_142 rfl ?_
      refine zv_iload dX6_odds_144 rfl ?_
      refine zv_iadd dX6_odds_146 ?_
      refine zv_istore dX6_odds_147 (by decide) ?_
      refine zv_iinc (v := 1) dX6_odds_149 rfl (by decide) (by decide) ?_
      refine zv_goto (tgt := 68) dX6_odds_152 (by decide) ?_
      exact zV_sub ([(0, .ref 31), (1, .int a1), (2, .int a2), (3, .int a3), (4, .int (a4 + a7)), (5, .int a5), (6, .int (a6 + (1 : Int32)))]) ⟨rfl, rfl, rfl, rfl, rfl, rfl, rfl, trivial⟩ (hk68 S a1 a2 a3 (a4 + a7) a5 (a6 + (1 : Int32)) _ hf)
    · replace hf := (if_neg c1).symm.trans hf
      refine zv_iload dX6_odds_112 rfl ?_
      refine zv_iload dX6_odds_114 rfl ?_
      refine zv_iload dX6_odds_116 rfl ?_
      refine zv_ishr dX6_odds_118 ?_
      refine zv_iconst (v := 1) dX6_odds_119 (by decide) ?_
      refine zv_iand dX6_odds_120 ?_
      refine zv_iconst (v := 1) dX6_odds_121 (by decide) ?_
      refine zv_icmp_ne (tgt := 132) dX6_odds_122 (by decide) (fun c2 => ?_) (fun c2 => ?_)
      · replace hf := (if_neg c2).symm.trans hf
        refine zv_iload_n dX6_odds_132 rfl rfl ?_
        refine zv_imul dX6_odds_133 ?_
        refine zv_istore dX6_odds_134 (by decide) ?_
        exact zV_sub ([(0, .ref 31), (1, .int a1), (2, .int a2), (3, .int a3), (4, .int a4), (5, .int a5), (6, .int a6), (7, .int (a7 * a1)), (8, .int a8)]) ⟨rfl, rfl, rfl, rfl, rfl, rfl, rfl, rfl, rfl, trivial⟩ (v_X6_odds_136 d (by omega) k68 hk68 (f_X6_odds_101 k68 n) ih S a1 a2 a3 a4 a5 a6 (a7 * a1) a8 _ hf)
      · replace hf := (if_pos c2).symm.trans hf
        refine zv_bipush (v := 10) dX6_odds_125 (by decide) ?_
        refine zv_iload_n dX6_odds_127 rfl rfl ?_
        refine zv_isub dX6_odds_128 ?_
        refine zv_goto (tgt := 133) dX6_odds_129 (by decide) ?_
        refine zv_imul dX6_odds_133 ?_
        refine zv_istore dX6_odds_134 (by decide) ?_
        exact zV_sub ([(0, .ref 31), (1, .int a1), (2, .int a2), (3, .int a3), (4, .int a4), (5, .int a5), (6, .int a6), (7, .int (a7 * ((10 : Int32) - a1))), (8, .int a8)]) ⟨rfl, rfl, rfl, rfl, rfl, rfl, rfl, rfl, rfl, trivial⟩ (v_X6_odds_136 d (by omega) k68 hk68 (f_X6_odds_101 k68 n) ih S a1 a2 a3 a4 a5 a6 (a7 * ((10 : Int32) - a1)) a8 _ hf)
def f_X6_odds_98 (k68 : zS → Int32 → Int32 → Int32 → Int32 → Int32 → Int32 → Option Int32) (S : zS) (a1 : Int32) (a2 : Int32) (a3 : Int32) (a4 : Int32) (a5 : Int32) (a6 : Int32) (a7 : Int32) : Option Int32 :=
  f_X6_odds_101 k68 zN S a1 a2 a3 a4 a5 a6 a7 (0 : Int32)
set_option maxRecDepth 100000 in
set_option maxHeartbeats 4000000 in
theorem v_X6_odds_98 (d : Nat) (hd : 1 ≤ d) (k68 : zS → Int32 → Int32 → Int32 → Int32 → Int32 → Int32 → Option Int32) (hk68 : ∀ (S : zS) (a1 a2 a3 a4 a5 a6 : Int32) v, k68 S a1 a2 a3 a4 a5 a6 = (some v) → zV none (d + 1) yX6_odds cX6_odds 9 (some .int) 68 [(0, .ref 31), (1, .int a1), (2, .int a2), (3, .int a3), (4, .int a4), (5, .int a5), (6, .int a6)] [] (wd S) (zq (some (.int v)) (wd S))) (S : zS) (a1 : Int32) (a2 : Int32) (a3 : Int32) (a4 : Int32) (a5 : Int32) (a6 : Int32) (a7 : Int32) (v : Int32) (hf : f_X6_odds_98 k68 S a1 a2 a3 a4 a5 a6 a7 = (some v)) : zV none (d + 1) yX6_odds cX6_odds 9 (some .int) 98 [(0, .ref 31), (1, .int a1), (2, .int a2), (3, .int a3), (4, .int a4), (5, .int a5), (6, .int a6), (7, .int a7)] [] (wd S) (zq (some (.int v)) (wd S)) := by
  unfold f_X6_odds_98 at hf
  refine zv_iconst (v := 0) dX6_odds_98 (by decide) ?_
  refine zv_istore dX6_odds_99 (by decide) ?_
  exact zV_sub ([(0, .ref 31), (1, .int a1), (2, .int a2), (3, .int a3), (4, .int a4), (5, .int a5), (6, .int a6), (7, .int a7), (8, .int (0 : Int32))]) ⟨rfl, rfl, rfl, rfl, rfl, rfl, rfl, rfl, rfl, trivial⟩ (v_X6_odds_101 d (by omega) k68 hk68 zN S a1 a2 a3 a4 a5 a6 a7 (0 : Int32) _ hf)
def f_X6_odds_68  : Nat → zS → Int32 → Int32 → Int32 → Int32 → Int32 → Int32 → Option Int32
  | 0, _, _, _, _, _, _, _ => none
  | n + 1, S, a1, a2, a3, a4, a5, a6 => (if ((1 : Int32) <<< ((S.1 33 0) &&& 31)) ≤ a6 then ((f_X6_part a4 a5 a3).bind (fun x3 => some x3)) else ((f_X6_spareOf S a6).bind (fun x5 => (if x5 < a2 then f_X6_odds_98 (f_X6_odds_68  n) S a1 a2 a3 a4 a5 a6 (0 : Int32) else f_X6_odds_98 (f_X6_odds_68  n) S a1 a2 a3 a4 a5 a6 (1 : Int32)))))
set_option maxRecDepth 100000 in
set_option maxHeartbeats 4000000 in
theorem v_X6_odds_68 (d : Nat) (hd : 1 ≤ d) : ∀ (n : Nat) (S : zS) (a1 : Int32) (a2 : Int32) (a3 : Int32) (a4 : Int32) (a5 : Int32) (a6 : Int32) (v : Int32), f_X6_odds_68  n S a1 a2 a3 a4 a5 a6 = (some v) → zV none (d + 1) yX6_odds cX6_odds 9 (some .int) 68 [(0, .ref 31), (1, .int a1), (2, .int a2), (3, .int a3), (4, .int a4), (5, .int a5), (6, .int a6)] [] (wd S) (zq (some (.int v)) (wd S)) := by
  intro n
  induction n with
  | zero =>
    intro S a1 a2 a3 a4 a5 a6 v hf
    cases hf
  | succ n ih =>
    intro S a1 a2 a3 a4 a5 a6 v hf
    rw [f_X6_odds_68] at hf
    refine zv_iload dX6_odds_68 rfl ?_
    refine zv_iconst (v := 1) dX6_odds_70 (by decide) ?_
    refine zv_aload_n dX6_odds_71 rfl rfl ?_
    refine zv_get zf_X6_13 (wo_31 S) rfl dX6_odds_72 ?_
    refine zv_iconst (v := 0) dX6_odds_75 (by decide) ?_
    refine zv_ialdK (k := 0) (by decide) (by decide) (wo_33 S) dX6_odds_76 ?_
    refine zv_ishl dX6_odds_77 ?_
    refine zv_icmp_ge (tgt := 155) dX6_odds_78 (by decide) (fun c1 => ?_) (fun c1 => ?_)
    · replace hf := (if_pos c1).symm.trans hf
      refine zv_iload dX6_odds_155 rfl ?_
      refine zv_iload dX6_odds_157 rfl ?_
      refine zv_iload_n dX6_odds_159 rfl rfl ?_
      obtain ⟨x3, hc2, hf⟩ := zbind hf
      refine zv_callS dX6_odds_160 zk_X6_148 zm_X6_part (c_X6_part  d a4 a5 a3 x3 hc2) rfl rfl (Nat.le_of_ble_eq_true rfl) ?_
      exact zv_iret (ty := .int) dX6_odds_163 rfl rfl (zret1 hf)
    · replace hf := (if_neg c1).symm.trans hf
      refine zv_aload_n dX6_odds_81 rfl rfl ?_
      refine zv_iload dX6_odds_82 rfl ?_
      obtain ⟨x5, hc4, hf⟩ := zbind hf
      refine zv_callV dX6_odds_84 zk_X6_145 zm_X6_spareOf (c_X6_spareOf  d (by omega) S a6 x5 hc4) (wo_31 S) rfl rfl rfl (Nat.le_of_ble_eq_true rfl) ?_
      refine zv_iload_n dX6_odds_87 rfl rfl ?_
      refine zv_icmp_lt (tgt := 95) dX6_odds_88 (by decide) (fun c6 => ?_) (fun c6 => ?_)
      · replace hf := (if_pos c6).symm.trans hf
        refine zv_iconst (v := 0) dX6_odds_95 (by decide) ?_
        refine zv_istore dX6_odds_96 (by decide) ?_
        exact zV_sub ([(0, .ref 31), (1, .int a1), (2, .int a2), (3, .int a3), (4, .int a4), (5, .int a5), (6, .int a6), (7, .int (0 : Int32))]) ⟨rfl, rfl, rfl, rfl, rfl, rfl, rfl, rfl, trivial⟩ (v_X6_odds_98 d (by omega) (f_X6_odds_68  n) ih S a1 a2 a3 a4 a5 a6 (0 : Int32) _ hf)
      · replace hf := (if_neg c6).symm.trans hf
        refine zv_iconst (v := 1) dX6_odds_91 (by decide) ?_
        refine zv_goto (tgt := 96) dX6_odds_92 (by decide) ?_
        refine zv_istore dX6_odds_96 (by decide) ?_
        exact zV_sub ([(0, .ref 31), (1, .int a1), (2, .int a2), (3, .int a3), (4, .int a4), (5, .int a5), (6, .int a6), (7, .int (1 : Int32))]) ⟨rfl, rfl, rfl, rfl, rfl, rfl, rfl, rfl, trivial⟩ (v_X6_odds_98 d (by omega) (f_X6_odds_68  n) ih S a1 a2 a3 a4 a5 a6 (1 : Int32) _ hf)
def f_X6_odds_41  : Nat → zS → Int32 → Int32 → Int32 → Int32 → Int32 → Int32 → Option Int32
  | 0, _, _, _, _, _, _, _ => none
  | n + 1, S, a1, a2, a3, a4, a5, a6 => (if (S.1 33 0) ≤ a6 then f_X6_odds_68 zN S a1 a2 a3 a4 a5 (0 : Int32) else f_X6_odds_41  n S a1 a2 a3 a4 (a5 * (10 : Int32)) (a6 + (1 : Int32)))
set_option maxRecDepth 100000 in
set_option maxHeartbeats 4000000 in
theorem v_X6_odds_41 (d : Nat) (hd : 1 ≤ d) : ∀ (n : Nat) (S : zS) (a1 : Int32) (a2 : Int32) (a3 : Int32) (a4 : Int32) (a5 : Int32) (a6 : Int32) (v : Int32), f_X6_odds_41  n S a1 a2 a3 a4 a5 a6 = (some v) → zV none (d + 1) yX6_odds cX6_odds 9 (some .int) 41 [(0, .ref 31), (1, .int a1), (2, .int a2), (3, .int a3), (4, .int a4), (5, .int a5), (6, .int a6)] [] (wd S) (zq (some (.int v)) (wd S)) := by
  intro n
  induction n with
  | zero =>
    intro S a1 a2 a3 a4 a5 a6 v hf
    cases hf
  | succ n ih =>
    intro S a1 a2 a3 a4 a5 a6 v hf
    rw [f_X6_odds_41] at hf
    refine zv_iload dX6_odds_41 rfl ?_
    refine zv_aload_n dX6_odds_43 rfl rfl ?_
    refine zv_get zf_X6_13 (wo_31 S) rfl dX6_odds_44 ?_
    refine zv_iconst (v := 0) dX6_odds_47 (by decide) ?_
    refine zv_ialdK (k := 0) (by decide) (by decide) (wo_33 S) dX6_odds_48 ?_
    refine zv_icmp_ge (tgt := 65) dX6_odds_49 (by decide) (fun c1 => ?_) (fun c1 => ?_)
    · replace hf := (if_pos c1).symm.trans hf
      refine zv_iconst (v := 0) dX6_odds_65 (by decide) ?_
      refine zv_istore dX6_odds_66 (by decide) ?_
      exact zV_sub ([(0, .ref 31), (1, .int a1), (2, .int a2), (3, .int a3), (4, .int a4), (5, .int a5), (6, .int (0 : Int32))]) ⟨rfl, rfl, rfl, rfl, rfl, rfl, rfl, trivial⟩ (v_X6_odds_68 d (by omega) zN S a1 a2 a3 a4 a5 (0 : Int32) _ hf)
    · replace hf := (if_neg c1).symm.trans hf
      refine zv_iload dX6_odds_52 rfl ?_
      refine zv_bipush (v := 10) dX6_odds_54 (by decide) ?_
      refine zv_imul dX6_odds_56 ?_
      refine zv_istore dX6_odds_57 (by decide) ?_
      refine zv_iinc (v := 1) dX6_odds_59 rfl (by decide) (by decide) ?_
      refine zv_goto (tgt := 41) dX6_odds_62 (by decide) ?_
      exact zV_sub ([(0, .ref 31), (1, .int a1), (2, .int a2), (3, .int a3), (4, .int a4), (5, .int (a5 * (10 : Int32))), (6, .int (a6 + (1 : Int32)))]) ⟨rfl, rfl, rfl, rfl, rfl, rfl, rfl, trivial⟩ (ih S a1 a2 a3 a4 (a5 * (10 : Int32)) (a6 + (1 : Int32)) _ hf)
def f_X6_odds (S : zS) (a1 : Int32) (a2 : Int32) (a3 : Int32) : Option Int32 :=
  ((f_X6_in a1 (0 : Int32) (10 : Int32)).bind (fun x2 => (if x2 = 0 then some ((-1 : Int32)) else ((f_X6_in a2 (0 : Int32) (360 : Int32)).bind (fun x5 => (if x5 = 0 then some ((-1 : Int32)) else ((f_X6_in a3 (0 : Int32) (1 : Int32)).bind (fun x8 => (if x8 = 0 then some ((-1 : Int32)) else f_X6_odds_41 zN S a1 a2 a3 (0 : Int32) (1 : Int32) (0 : Int32))))))))))
set_option maxRecDepth 100000 in
set_option maxHeartbeats 4000000 in
theorem c_X6_odds  (d : Nat) (hd : 2 ≤ d) (S : zS) (a1 : Int32) (a2 : Int32) (a3 : Int32) (v : Int32) (hf : f_X6_odds S a1 a2 a3 = (some v)) : zC d yX6_odds cX6_odds 9 (some .int) [.ref 31, .int a1, .int a2, .int a3] (wd S) (zq (some (.int v)) (wd S)) := by
  obtain ⟨d, rfl⟩ : ∃ e, d = e + 1 := ⟨d - 1, by omega⟩
  refine zC_intro (by decide) rfl (Nat.le_of_ble_eq_true rfl) ?_
  unfold f_X6_odds at hf
  refine zv_iload_n dX6_odds_0 rfl rfl ?_
  refine zv_iconst (v := 0) dX6_odds_1 (by decide) ?_
  refine zv_bipush (v := 10) dX6_odds_2 (by decide) ?_
  obtain ⟨x2, hc1, hf⟩ := zbind hf
  refine zv_callS dX6_odds_4 zk_X6_54 zm_X6_in (c_X6_in  d a1 (0 : Int32) (10 : Int32) x2 hc1) rfl rfl (Nat.le_of_ble_eq_true rfl) ?_
  refine zv_if_eq (tgt := 30) dX6_odds_7 (by decide) (fun c3 => ?_) (fun c3 => ?_)
  · replace hf := (if_pos c3).symm.trans hf
    refine zv_iconst (v := -1) dX6_odds_30 (by decide) ?_
    exact zv_iret (ty := .int) dX6_odds_31 rfl rfl (zret1 hf)
  · replace hf := (if_neg c3).symm.trans hf
    refine zv_iload_n dX6_odds_10 rfl rfl ?_
    refine zv_iconst (v := 0) dX6_odds_11 (by decide) ?_
    refine zv_sipush (v := 360) dX6_odds_12 (by decide) ?_
    obtain ⟨x5, hc4, hf⟩ := zbind hf
    refine zv_callS dX6_odds_15 zk_X6_54 zm_X6_in (c_X6_in  d a2 (0 : Int32) (360 : Int32) x5 hc4) rfl rfl (Nat.le_of_ble_eq_true rfl) ?_
    refine zv_if_eq (tgt := 30) dX6_odds_18 (by decide) (fun c6 => ?_) (fun c6 => ?_)
    · replace hf := (if_pos c6).symm.trans hf
      refine zv_iconst (v := -1) dX6_odds_30 (by decide) ?_
      exact zv_iret (ty := .int) dX6_odds_31 rfl rfl (zret1 hf)
    · replace hf := (if_neg c6).symm.trans hf
      refine zv_iload_n dX6_odds_21 rfl rfl ?_
      refine zv_iconst (v := 0) dX6_odds_22 (by decide) ?_
      refine zv_iconst (v := 1) dX6_odds_23 (by decide) ?_
      obtain ⟨x8, hc7, hf⟩ := zbind hf
      refine zv_callS dX6_odds_24 zk_X6_54 zm_X6_in (c_X6_in  d a3 (0 : Int32) (1 : Int32) x8 hc7) rfl rfl (Nat.le_of_ble_eq_true rfl) ?_
      refine zv_if_ne (tgt := 32) dX6_odds_27 (by decide) (fun c9 => ?_) (fun c9 => ?_)
      · replace hf := (if_neg c9).symm.trans hf
        refine zv_iconst (v := 0) dX6_odds_32 (by decide) ?_
        refine zv_istore dX6_odds_33 (by decide) ?_
        refine zv_iconst (v := 1) dX6_odds_35 (by decide) ?_
        refine zv_istore dX6_odds_36 (by decide) ?_
        refine zv_iconst (v := 0) dX6_odds_38 (by decide) ?_
        refine zv_istore dX6_odds_39 (by decide) ?_
        exact zV_sub ([(0, .ref 31), (1, .int a1), (2, .int a2), (3, .int a3), (4, .int (0 : Int32)), (5, .int (1 : Int32)), (6, .int (0 : Int32))]) ⟨rfl, rfl, rfl, rfl, rfl, rfl, rfl, trivial⟩ (v_X6_odds_41 d (by omega) zN S a1 a2 a3 (0 : Int32) (1 : Int32) (0 : Int32) _ hf)
      · replace hf := (if_pos c9).symm.trans hf
        refine zv_iconst (v := -1) dX6_odds_30 (by decide) ?_
        exact zv_iret (ty := .int) dX6_odds_31 rfl rfl (zret1 hf)
-- KingPricesModel.owes(II)I height 2 reads
def f_X6_owes (S : zS) (a1 : Int32) (a2 : Int32) : Option Int32 :=
  ((f_X6_isVillage S a1).bind (fun x2 => (if x2 = 0 then some ((-1 : Int32)) else ((f_X6_isVillage S a2).bind (fun x5 => (if x5 = 0 then some ((-1 : Int32)) else (if a1 = a2 then some ((-1 : Int32)) else (if zin (((6 : Int32) * a1) + a2) 72 then some ((S.1 39 ((((6 : Int32) * a1) + a2)).toNatClampNeg)) else none))))))))
set_option maxRecDepth 100000 in
set_option maxHeartbeats 4000000 in
theorem c_X6_owes  (d : Nat) (hd : 2 ≤ d) (S : zS) (a1 : Int32) (a2 : Int32) (v : Int32) (hf : f_X6_owes S a1 a2 = (some v)) : zC d yX6_owes cX6_owes 3 (some .int) [.ref 31, .int a1, .int a2] (wd S) (zq (some (.int v)) (wd S)) := by
  obtain ⟨d, rfl⟩ : ∃ e, d = e + 1 := ⟨d - 1, by omega⟩
  refine zC_intro (by decide) rfl (Nat.le_of_ble_eq_true rfl) ?_
  unfold f_X6_owes at hf
  refine zv_aload_n dX6_owes_0 rfl rfl ?_
  refine zv_iload_n dX6_owes_1 rfl rfl ?_
  obtain ⟨x2, hc1, hf⟩ := zbind hf
  refine zv_callV dX6_owes_2 zk_X6_107 zm_X6_isVillage (c_X6_isVillage  d (by omega) S a1 x2 hc1) (wo_31 S) rfl rfl rfl (Nat.le_of_ble_eq_true rfl) ?_
  refine zv_if_eq (tgt := 35) dX6_owes_5 (by decide) (fun c3 => ?_) (fun c3 => ?_)
  · replace hf := (if_pos c3).symm.trans hf
    refine zv_iconst (v := -1) dX6_owes_35 (by decide) ?_
    exact zv_iret (ty := .int) dX6_owes_36 rfl rfl (zret1 hf)
  · replace hf := (if_neg c3).symm.trans hf
    refine zv_aload_n dX6_owes_8 rfl rfl ?_
    refine zv_iload_n dX6_owes_9 rfl rfl ?_
    obtain ⟨x5, hc4, hf⟩ := zbind hf
    refine zv_callV dX6_owes_10 zk_X6_107 zm_X6_isVillage (c_X6_isVillage  d (by omega) S a2 x5 hc4) (wo_31 S) rfl rfl rfl (Nat.le_of_ble_eq_true rfl) ?_
    refine zv_if_eq (tgt := 35) dX6_owes_13 (by decide) (fun c6 => ?_) (fun c6 => ?_)
    · replace hf := (if_pos c6).symm.trans hf
      refine zv_iconst (v := -1) dX6_owes_35 (by decide) ?_
      exact zv_iret (ty := .int) dX6_owes_36 rfl rfl (zret1 hf)
    · replace hf := (if_neg c6).symm.trans hf
      refine zv_iload_n dX6_owes_16 rfl rfl ?_
      refine zv_iload_n dX6_owes_17 rfl rfl ?_
      refine zv_icmp_eq (tgt := 35) dX6_owes_18 (by decide) (fun c7 => ?_) (fun c7 => ?_)
      · replace hf := (if_pos c7).symm.trans hf
        refine zv_iconst (v := -1) dX6_owes_35 (by decide) ?_
        exact zv_iret (ty := .int) dX6_owes_36 rfl rfl (zret1 hf)
      · replace hf := (if_neg c7).symm.trans hf
        refine zv_aload_n dX6_owes_21 rfl rfl ?_
        refine zv_get zf_X6_32 (wo_31 S) rfl dX6_owes_22 ?_
        refine zv_bipush (v := 6) dX6_owes_25 (by decide) ?_
        refine zv_iload_n dX6_owes_27 rfl rfl ?_
        refine zv_imul dX6_owes_28 ?_
        refine zv_iload_n dX6_owes_29 rfl rfl ?_
        refine zv_iadd dX6_owes_30 ?_
        obtain ⟨hb8, hf⟩ := zifb hf
        refine zv_iald hb8 (wo_39 S) dX6_owes_31 ?_
        refine zv_goto (tgt := 36) dX6_owes_32 (by decide) ?_
        exact zv_iret (ty := .int) dX6_owes_36 rfl rfl (zret1 hf)
-- KingPricesModel.pays(I)I height 2 writes
def f_X6_pays (S : zS) (a1 : Int32) : Option (Int32 × zS) :=
  ((f_X6_isVillage S a1).bind (fun x2 => (if x2 = 0 then some ((-1 : Int32), S) else ((f_X6_know S).bind (fun S5 => (if zin ((16 : Int32) + a1) 927 then (if zin ((16 : Int32) + a1) 927 then some ((S5.1 41 (((16 : Int32) + a1)).toNatClampNeg), (zr S5 41 (upd (S5.1 41) (((16 : Int32) + a1)).toNatClampNeg (0 : Int32)))) else none) else none))))))
set_option maxRecDepth 100000 in
set_option maxHeartbeats 4000000 in
theorem c_X6_pays  (d : Nat) (hd : 2 ≤ d) (S : zS) (a1 : Int32) (v : Int32) (S' : zS) (hf : f_X6_pays S a1 = (some (v, S'))) : zC d yX6_pays cX6_pays 3 (some .int) [.ref 31, .int a1] (wd S) (zq (some (.int v)) (wd S')) := by
  obtain ⟨d, rfl⟩ : ∃ e, d = e + 1 := ⟨d - 1, by omega⟩
  refine zC_intro (by decide) rfl (Nat.le_of_ble_eq_true rfl) ?_
  unfold f_X6_pays at hf
  refine zv_aload_n dX6_pays_0 rfl rfl ?_
  refine zv_iload_n dX6_pays_1 rfl rfl ?_
  obtain ⟨x2, hc1, hf⟩ := zbind hf
  refine zv_callV dX6_pays_2 zk_X6_107 zm_X6_isVillage (c_X6_isVillage  d (by omega) S a1 x2 hc1) (wo_31 S) rfl rfl rfl (Nat.le_of_ble_eq_true rfl) ?_
  refine zv_if_ne (tgt := 10) dX6_pays_5 (by decide) (fun c3 => ?_) (fun c3 => ?_)
  · replace hf := (if_neg c3).symm.trans hf
    refine zv_aload_n dX6_pays_10 rfl rfl ?_
    obtain ⟨S5, hc4, hf⟩ := zbind hf
    refine zv_callV dX6_pays_11 zk_X6_113 zm_X6_know (c_X6_know  d S S5 hc4) (wo_31 S) rfl rfl rfl (Nat.le_of_ble_eq_true rfl) ?_
    refine zv_aload_n dX6_pays_14 rfl rfl ?_
    refine zv_get zf_X6_38 (wo_31 S5) rfl dX6_pays_15 ?_
    refine zv_bipush (v := 16) dX6_pays_18 (by decide) ?_
    refine zv_iload_n dX6_pays_20 rfl rfl ?_
    refine zv_iadd dX6_pays_21 ?_
    obtain ⟨hb6, hf⟩ := zifb hf
    refine zv_iald hb6 (wo_41 S5) dX6_pays_22 ?_
    refine zv_istore_n dX6_pays_23 rfl (by decide) ?_
    refine zv_aload_n dX6_pays_24 rfl rfl ?_
    refine zv_get zf_X6_38 (wo_31 S5) rfl dX6_pays_25 ?_
    refine zv_bipush (v := 16) dX6_pays_28 (by decide) ?_
    refine zv_iload_n dX6_pays_30 rfl rfl ?_
    refine zv_iadd dX6_pays_31 ?_
    refine zv_iconst (v := 0) dX6_pays_32 (by decide) ?_
    obtain ⟨hb7, hf⟩ := zifb hf
    refine zv_iast hb7 (wo_41 S5) (ws_41 S5 (upd (S5.1 41) (((16 : Int32) + a1)).toNatClampNeg (0 : Int32))) dX6_pays_33 ?_
    refine zv_iload_n dX6_pays_34 rfl rfl ?_
    exact zv_iret (ty := .int) dX6_pays_35 rfl rfl (zret2 wd hf)
  · replace hf := (if_pos c3).symm.trans hf
    refine zv_iconst (v := -1) dX6_pays_8 (by decide) ?_
    exact zv_iret (ty := .int) dX6_pays_9 rfl rfl (zret2 wd hf)
-- KingPricesModel.buyerHas(IIII)I height 0 reads
def f_X6_buyerHas_16 (a1 : Int32) (a3 : Int32) (a4 : Int32) : Option Int32 :=
  (if a1 = (1 : Int32) then some ((a4 - a3)) else some a4)
set_option maxRecDepth 100000 in
set_option maxHeartbeats 4000000 in
theorem v_X6_buyerHas_16 {h : List va_E} (d : Nat) (a1 : Int32) (a3 : Int32) (a4 : Int32) (v : Int32) (hf : f_X6_buyerHas_16 a1 a3 a4 = (some v)) : zV none d yX6_buyerHas cX6_buyerHas 5 (some .int) 16 [(1, .int a1), (3, .int a3), (4, .int a4)] [] h (zq (some (.int v)) h) := by
  unfold f_X6_buyerHas_16 at hf
  refine zv_iload_n dX6_buyerHas_16 rfl rfl ?_
  refine zv_iconst (v := 1) dX6_buyerHas_17 (by decide) ?_
  refine zv_icmp_ne (tgt := 28) dX6_buyerHas_18 (by decide) (fun c1 => ?_) (fun c1 => ?_)
  · replace hf := (if_neg c1).symm.trans hf
    refine zv_iload dX6_buyerHas_28 rfl ?_
    exact zv_iret (ty := .int) dX6_buyerHas_30 rfl rfl (zret1 hf)
  · replace hf := (if_pos c1).symm.trans hf
    refine zv_iload dX6_buyerHas_21 rfl ?_
    refine zv_iload_n dX6_buyerHas_23 rfl rfl ?_
    refine zv_isub dX6_buyerHas_24 ?_
    refine zv_goto (tgt := 30) dX6_buyerHas_25 (by decide) ?_
    exact zv_iret (ty := .int) dX6_buyerHas_30 rfl rfl (zret1 hf)
def f_X6_buyerHas_9 (a1 : Int32) (a2 : Int32) (a3 : Int32) : Option Int32 :=
  f_X6_buyerHas_16 a1 a3 a2
set_option maxRecDepth 100000 in
set_option maxHeartbeats 4000000 in
theorem v_X6_buyerHas_9 {h : List va_E} (d : Nat) (a1 : Int32) (a2 : Int32) (a3 : Int32) (v : Int32) (hf : f_X6_buyerHas_9 a1 a2 a3 = (some v)) : zV none d yX6_buyerHas cX6_buyerHas 5 (some .int) 9 [(1, .int a1), (2, .int a2), (3, .int a3)] [] h (zq (some (.int v)) h) := by
  unfold f_X6_buyerHas_9 at hf
  refine zv_iload_n dX6_buyerHas_9 rfl rfl ?_
  refine zv_goto (tgt := 14) dX6_buyerHas_10 (by decide) ?_
  refine zv_istore dX6_buyerHas_14 (by decide) ?_
  exact zV_sub ([(1, .int a1), (3, .int a3), (4, .int a2)]) ⟨rfl, rfl, rfl, trivial⟩ (v_X6_buyerHas_16 d a1 a3 a2 _ hf)
def f_X6_buyerHas (a0 : Int32) (a1 : Int32) (a2 : Int32) (a3 : Int32) : Option Int32 :=
  (if a0 = 0 then f_X6_buyerHas_9 a1 a2 a3 else (if a1 = (1 : Int32) then f_X6_buyerHas_9 a1 a2 a3 else f_X6_buyerHas_16 a1 a3 (0 : Int32)))
set_option maxRecDepth 100000 in
set_option maxHeartbeats 4000000 in
theorem c_X6_buyerHas {h : List va_E} (d : Nat) (a0 : Int32) (a1 : Int32) (a2 : Int32) (a3 : Int32) (v : Int32) (hf : f_X6_buyerHas a0 a1 a2 a3 = (some v)) : zC d yX6_buyerHas cX6_buyerHas 5 (some .int) [.int a0, .int a1, .int a2, .int a3] h (zq (some (.int v)) h) := by
  refine zC_intro (by decide) rfl (Nat.le_of_ble_eq_true rfl) ?_
  unfold f_X6_buyerHas at hf
  refine zv_iload_n dX6_buyerHas_0 rfl rfl ?_
  refine zv_if_eq (tgt := 9) dX6_buyerHas_1 (by decide) (fun c1 => ?_) (fun c1 => ?_)
  · replace hf := (if_pos c1).symm.trans hf
    exact zV_sub ([(1, .int a1), (2, .int a2), (3, .int a3)]) ⟨rfl, rfl, rfl, trivial⟩ (v_X6_buyerHas_9 d a1 a2 a3 _ hf)
  · replace hf := (if_neg c1).symm.trans hf
    refine zv_iload_n dX6_buyerHas_4 rfl rfl ?_
    refine zv_iconst (v := 1) dX6_buyerHas_5 (by decide) ?_
    refine zv_icmp_ne (tgt := 13) dX6_buyerHas_6 (by decide) (fun c2 => ?_) (fun c2 => ?_)
    · replace hf := (if_neg c2).symm.trans hf
      refine zv_iconst (v := 0) dX6_buyerHas_13 (by decide) ?_
      refine zv_istore dX6_buyerHas_14 (by decide) ?_
      exact zV_sub ([(1, .int a1), (3, .int a3), (4, .int (0 : Int32))]) ⟨rfl, rfl, rfl, trivial⟩ (v_X6_buyerHas_16 d a1 a3 (0 : Int32) _ hf)
    · replace hf := (if_pos c2).symm.trans hf
      exact zV_sub ([(1, .int a1), (2, .int a2), (3, .int a3)]) ⟨rfl, rfl, rfl, trivial⟩ (v_X6_buyerHas_9 d a1 a2 a3 _ hf)
-- KingPricesModel.villageHas(IIII)I height 0 reads
def f_X6_villageHas (a0 : Int32) (a1 : Int32) (a2 : Int32) (a3 : Int32) : Option Int32 :=
  (if a0 = 0 then some (-a2) else (if a1 = 0 then some ((0 : Int32)) else some (((-a2) - a3))))
set_option maxRecDepth 100000 in
set_option maxHeartbeats 4000000 in
theorem c_X6_villageHas {h : List va_E} (d : Nat) (a0 : Int32) (a1 : Int32) (a2 : Int32) (a3 : Int32) (v : Int32) (hf : f_X6_villageHas a0 a1 a2 a3 = (some v)) : zC d yX6_villageHas cX6_villageHas 4 (some .int) [.int a0, .int a1, .int a2, .int a3] h (zq (some (.int v)) h) := by
  refine zC_intro (by decide) rfl (Nat.le_of_ble_eq_true rfl) ?_
  unfold f_X6_villageHas at hf
  refine zv_iload_n dX6_villageHas_0 rfl rfl ?_
  refine zv_if_ne (tgt := 9) dX6_villageHas_1 (by decide) (fun c1 => ?_) (fun c1 => ?_)
  · replace hf := (if_neg c1).symm.trans hf
    refine zv_iload_n dX6_villageHas_9 rfl rfl ?_
    refine zv_if_ne (tgt := 17) dX6_villageHas_10 (by decide) (fun c2 => ?_) (fun c2 => ?_)
    · replace hf := (if_neg c2).symm.trans hf
      refine zv_iload_n dX6_villageHas_17 rfl rfl ?_
      refine zv_ineg dX6_villageHas_18 ?_
      refine zv_iload_n dX6_villageHas_19 rfl rfl ?_
      refine zv_isub dX6_villageHas_20 ?_
      exact zv_iret (ty := .int) dX6_villageHas_21 rfl rfl (zret1 hf)
    · replace hf := (if_pos c2).symm.trans hf
      refine zv_iconst (v := 0) dX6_villageHas_13 (by decide) ?_
      refine zv_goto (tgt := 21) dX6_villageHas_14 (by decide) ?_
      exact zv_iret (ty := .int) dX6_villageHas_21 rfl rfl (zret1 hf)
  · replace hf := (if_pos c1).symm.trans hf
    refine zv_iload_n dX6_villageHas_4 rfl rfl ?_
    refine zv_ineg dX6_villageHas_5 ?_
    refine zv_goto (tgt := 21) dX6_villageHas_6 (by decide) ?_
    exact zv_iret (ty := .int) dX6_villageHas_21 rfl rfl (zret1 hf)
-- KingPricesModel.rests(III)I height 1 reads
def f_X6_rests_127 (k38 : zS → Int32 → Int32 → Int32 → Int32 → Int32 → Option Int32) (S : zS) (a1 : Int32) (a2 : Int32) (a3 : Int32) (a4 : Int32) (a5 : Int32) : Option Int32 :=
  k38 S a1 a2 a3 a4 (a5 + (1 : Int32))
set_option maxRecDepth 100000 in
set_option maxHeartbeats 4000000 in
theorem v_X6_rests_127 (d : Nat) (hd : 0 ≤ d) (k38 : zS → Int32 → Int32 → Int32 → Int32 → Int32 → Option Int32) (hk38 : ∀ (S : zS) (a1 a2 a3 a4 a5 : Int32) v, k38 S a1 a2 a3 a4 a5 = (some v) → zV none (d + 1) yX6_rests cX6_rests 9 (some .int) 38 [(1, .int a1), (2, .int a2), (3, .int a3), (4, .int a4), (5, .int a5)] [] (wd S) (zq (some (.int v)) (wd S))) (S : zS) (a1 : Int32) (a2 : Int32) (a3 : Int32) (a4 : Int32) (a5 : Int32) (v : Int32) (hf : f_X6_rests_127 k38 S a1 a2 a3 a4 a5 = (some v)) : zV none (d + 1) yX6_rests cX6_rests 9 (some .int) 127 [(1, .int a1), (2, .int a2), (3, .int a3), (4, .int a4), (5, .int a5)] [] (wd S) (zq (some (.int v)) (wd S)) := by
  unfold f_X6_rests_127 at hf
  refine zv_iinc (v := 1) dX6_rests_127 rfl (by decide) (by decide) ?_
  refine zv_goto (tgt := 38) dX6_rests_130 (by decide) ?_
  exact zV_sub ([(1, .int a1), (2, .int a2), (3, .int a3), (4, .int a4), (5, .int (a5 + (1 : Int32)))]) ⟨rfl, rfl, rfl, rfl, rfl, trivial⟩ (hk38 S a1 a2 a3 a4 (a5 + (1 : Int32)) _ hf)
def f_X6_rests_109 (k38 : zS → Int32 → Int32 → Int32 → Int32 → Int32 → Option Int32) (S : zS) (a1 : Int32) (a2 : Int32) (a3 : Int32) (a4 : Int32) (a5 : Int32) (a8 : Int32) : Option Int32 :=
  (if a8 = 0 then f_X6_rests_127 k38 S a1 a2 a3 (a4 ||| (0 : Int32)) a5 else f_X6_rests_127 k38 S a1 a2 a3 (a4 ||| ((1 : Int32) <<< (a5 &&& 31))) a5)
set_option maxRecDepth 100000 in
set_option maxHeartbeats 4000000 in
theorem v_X6_rests_109 (d : Nat) (hd : 0 ≤ d) (k38 : zS → Int32 → Int32 → Int32 → Int32 → Int32 → Option Int32) (hk38 : ∀ (S : zS) (a1 a2 a3 a4 a5 : Int32) v, k38 S a1 a2 a3 a4 a5 = (some v) → zV none (d + 1) yX6_rests cX6_rests 9 (some .int) 38 [(1, .int a1), (2, .int a2), (3, .int a3), (4, .int a4), (5, .int a5)] [] (wd S) (zq (some (.int v)) (wd S))) (S : zS) (a1 : Int32) (a2 : Int32) (a3 : Int32) (a4 : Int32) (a5 : Int32) (a8 : Int32) (v : Int32) (hf : f_X6_rests_109 k38 S a1 a2 a3 a4 a5 a8 = (some v)) : zV none (d + 1) yX6_rests cX6_rests 9 (some .int) 109 [(1, .int a1), (2, .int a2), (3, .int a3), (4, .int a4), (5, .int a5), (8, .int a8)] [] (wd S) (zq (some (.int v)) (wd S)) := by
  unfold f_X6_rests_109 at hf
  refine zv_iload dX6_rests_109 rfl ?_
  refine zv_iload dX6_rests_111 rfl ?_
  refine zv_if_eq (tgt := 123) dX6_rests_113 (by decide) (fun c1 => ?_) (fun c1 => ?_)
  · replace hf := (if_pos c1).symm.trans hf
    refine zv_iconst (v := 0) dX6_rests_123 (by decide) ?_
    refine zv_ior dX6_rests_124 ?_
    refine zv_istore dX6_rests_125 (by decide) ?_
    exact zV_sub ([(1, .int a1), (2, .int a2), (3, .int a3), (4, .int (a4 ||| (0 : Int32))), (5, .int a5)]) ⟨rfl, rfl, rfl, rfl, rfl, trivial⟩ (v_X6_rests_127 d (by omega) k38 hk38 S a1 a2 a3 (a4 ||| (0 : Int32)) a5 _ hf)
  · replace hf := (if_neg c1).symm.trans hf
    refine zv_iconst (v := 1) dX6_rests_116 (by decide) ?_
    refine zv_iload dX6_rests_117 rfl ?_
    refine zv_ishl dX6_rests_119 ?_
    refine zv_goto (tgt := 124) dX6_rests_120 (by decide) ?_
    refine zv_ior dX6_rests_124 ?_
    refine zv_istore dX6_rests_125 (by decide) ?_
    exact zV_sub ([(1, .int a1), (2, .int a2), (3, .int a3), (4, .int (a4 ||| ((1 : Int32) <<< (a5 &&& 31)))), (5, .int a5)]) ⟨rfl, rfl, rfl, rfl, rfl, trivial⟩ (v_X6_rests_127 d (by omega) k38 hk38 S a1 a2 a3 (a4 ||| ((1 : Int32) <<< (a5 &&& 31))) a5 _ hf)
def f_X6_rests_106 (k38 : zS → Int32 → Int32 → Int32 → Int32 → Int32 → Option Int32) (S : zS) (a1 : Int32) (a2 : Int32) (a3 : Int32) (a4 : Int32) (a5 : Int32) : Option Int32 :=
  f_X6_rests_109 k38 S a1 a2 a3 a4 a5 (0 : Int32)
set_option maxRecDepth 100000 in
set_option maxHeartbeats 4000000 in
theorem v_X6_rests_106 (d : Nat) (hd : 0 ≤ d) (k38 : zS → Int32 → Int32 → Int32 → Int32 → Int32 → Option Int32) (hk38 : ∀ (S : zS) (a1 a2 a3 a4 a5 : Int32) v, k38 S a1 a2 a3 a4 a5 = (some v) → zV none (d + 1) yX6_rests cX6_rests 9 (some .int) 38 [(1, .int a1), (2, .int a2), (3, .int a3), (4, .int a4), (5, .int a5)] [] (wd S) (zq (some (.int v)) (wd S))) (S : zS) (a1 : Int32) (a2 : Int32) (a3 : Int32) (a4 : Int32) (a5 : Int32) (v : Int32) (hf : f_X6_rests_106 k38 S a1 a2 a3 a4 a5 = (some v)) : zV none (d + 1) yX6_rests cX6_rests 9 (some .int) 106 [(1, .int a1), (2, .int a2), (3, .int a3), (4, .int a4), (5, .int a5)] [] (wd S) (zq (some (.int v)) (wd S)) := by
  unfold f_X6_rests_106 at hf
  refine zv_iconst (v := 0) dX6_rests_106 (by decide) ?_
  refine zv_istore dX6_rests_107 (by decide) ?_
  exact zV_sub ([(1, .int a1), (2, .int a2), (3, .int a3), (4, .int a4), (5, .int a5), (8, .int (0 : Int32))]) ⟨rfl, rfl, rfl, rfl, rfl, rfl, trivial⟩ (v_X6_rests_109 d (by omega) k38 hk38 S a1 a2 a3 a4 a5 (0 : Int32) _ hf)
def f_X6_rests_38  : Nat → zS → Int32 → Int32 → Int32 → Int32 → Int32 → Option Int32
  | 0, _, _, _, _, _, _ => none
  | n + 1, S, a1, a2, a3, a4, a5 => (if (4 : Int32) ≤ a5 then some a4 else ((f_X6_villageHas (a5 / (2 : Int32)) (a5 - a5 / (2 : Int32) * (2 : Int32)) a1 a3).bind (fun x3 => ((f_X6_villageHas ((1 : Int32) - (a5 / (2 : Int32))) (a5 - a5 / (2 : Int32) * (2 : Int32)) a1 a3).bind (fun x5 => (if x3 < x5 then f_X6_rests_106 (f_X6_rests_38  n) S a1 a2 a3 a4 a5 else ((f_X6_buyerHas (a5 / (2 : Int32)) (a5 - a5 / (2 : Int32) * (2 : Int32)) a1 a2).bind (fun x8 => ((f_X6_buyerHas (a5 / (2 : Int32)) ((1 : Int32) - (a5 - a5 / (2 : Int32) * (2 : Int32))) a1 a2).bind (fun x10 => (if x8 < x10 then f_X6_rests_106 (f_X6_rests_38  n) S a1 a2 a3 a4 a5 else f_X6_rests_109 (f_X6_rests_38  n) S a1 a2 a3 a4 a5 (1 : Int32))))))))))))
set_option maxRecDepth 100000 in
set_option maxHeartbeats 4000000 in
theorem v_X6_rests_38 (d : Nat) (hd : 0 ≤ d) : ∀ (n : Nat) (S : zS) (a1 : Int32) (a2 : Int32) (a3 : Int32) (a4 : Int32) (a5 : Int32) (v : Int32), f_X6_rests_38  n S a1 a2 a3 a4 a5 = (some v) → zV none (d + 1) yX6_rests cX6_rests 9 (some .int) 38 [(1, .int a1), (2, .int a2), (3, .int a3), (4, .int a4), (5, .int a5)] [] (wd S) (zq (some (.int v)) (wd S)) := by
  intro n
  induction n with
  | zero =>
    intro S a1 a2 a3 a4 a5 v hf
    cases hf
  | succ n ih =>
    intro S a1 a2 a3 a4 a5 v hf
    rw [f_X6_rests_38] at hf
    refine zv_iload dX6_rests_38 rfl ?_
    refine zv_iconst (v := 4) dX6_rests_40 (by decide) ?_
    refine zv_icmp_ge (tgt := 133) dX6_rests_41 (by decide) (fun c1 => ?_) (fun c1 => ?_)
    · replace hf := (if_pos c1).symm.trans hf
      refine zv_iload dX6_rests_133 rfl ?_
      exact zv_iret (ty := .int) dX6_rests_135 rfl rfl (zret1 hf)
    · replace hf := (if_neg c1).symm.trans hf
      refine zv_iload dX6_rests_44 rfl ?_
      refine zv_iconst (v := 2) dX6_rests_46 (by decide) ?_
      refine zv_idiv (by decide) dX6_rests_47 ?_
      refine zv_istore dX6_rests_48 (by decide) ?_
      refine zv_iload dX6_rests_50 rfl ?_
      refine zv_iconst (v := 2) dX6_rests_52 (by decide) ?_
      refine zv_irem (by decide) dX6_rests_53 ?_
      refine zv_istore dX6_rests_54 (by decide) ?_
      refine zv_iload dX6_rests_56 rfl ?_
      refine zv_iload dX6_rests_58 rfl ?_
      refine zv_iload_n dX6_rests_60 rfl rfl ?_
      refine zv_iload_n dX6_rests_61 rfl rfl ?_
      obtain ⟨x3, hc2, hf⟩ := zbind hf
      refine zv_callS dX6_rests_62 zk_X6_152 zm_X6_villageHas (c_X6_villageHas  d (a5 / (2 : Int32)) (a5 - a5 / (2 : Int32) * (2 : Int32)) a1 a3 x3 hc2) rfl rfl (Nat.le_of_ble_eq_true rfl) ?_
      refine zv_iconst (v := 1) dX6_rests_65 (by decide) ?_
      refine zv_iload dX6_rests_66 rfl ?_
      refine zv_isub dX6_rests_68 ?_
      refine zv_iload dX6_rests_69 rfl ?_
      refine zv_iload_n dX6_rests_71 rfl rfl ?_
      refine zv_iload_n dX6_rests_72 rfl rfl ?_
      obtain ⟨x5, hc4, hf⟩ := zbind hf
      refine zv_callS dX6_rests_73 zk_X6_152 zm_X6_villageHas (c_X6_villageHas  d ((1 : Int32) - (a5 / (2 : Int32))) (a5 - a5 / (2 : Int32) * (2 : Int32)) a1 a3 x5 hc4) rfl rfl (Nat.le_of_ble_eq_true rfl) ?_
      refine zv_icmp_lt (tgt := 106) dX6_rests_76 (by decide) (fun c6 => ?_) (fun c6 => ?_)
      · replace hf := (if_pos c6).symm.trans hf
        exact zV_sub ([(1, .int a1), (2, .int a2), (3, .int a3), (4, .int a4), (5, .int a5)]) ⟨rfl, rfl, rfl, rfl, rfl, trivial⟩ (v_X6_rests_106 d (by omega) (f_X6_rests_38  n) ih S a1 a2 a3 a4 a5 _ hf)
      · replace hf := (if_neg c6).symm.trans hf
        refine zv_iload dX6_rests_79 rfl ?_
        refine zv_iload dX6_rests_81 rfl ?_
        refine zv_iload_n dX6_rests_83 rfl rfl ?_
        refine zv_iload_n dX6_rests_84 rfl rfl ?_
        obtain ⟨x8, hc7, hf⟩ := zbind hf
        refine zv_callS dX6_rests_85 zk_X6_155 zm_X6_buyerHas (c_X6_buyerHas  d (a5 / (2 : Int32)) (a5 - a5 / (2 : Int32) * (2 : Int32)) a1 a2 x8 hc7) rfl rfl (Nat.le_of_ble_eq_true rfl) ?_
        refine zv_iload dX6_rests_88 rfl ?_
        refine zv_iconst (v := 1) dX6_rests_90 (by decide) ?_
        refine zv_iload dX6_rests_91 rfl ?_
        refine zv_isub dX6_rests_93 ?_
        refine zv_iload_n dX6_rests_94 rfl rfl ?_
        refine zv_iload_n dX6_rests_95 rfl rfl ?_
        obtain ⟨x10, hc9, hf⟩ := zbind hf
        refine zv_callS dX6_rests_96 zk_X6_155 zm_X6_buyerHas (c_X6_buyerHas  d (a5 / (2 : Int32)) ((1 : Int32) - (a5 - a5 / (2 : Int32) * (2 : Int32))) a1 a2 x10 hc9) rfl rfl (Nat.le_of_ble_eq_true rfl) ?_
        refine zv_icmp_lt (tgt := 106) dX6_rests_99 (by decide) (fun c11 => ?_) (fun c11 => ?_)
        · replace hf := (if_pos c11).symm.trans hf
          exact zV_sub ([(1, .int a1), (2, .int a2), (3, .int a3), (4, .int a4), (5, .int a5)]) ⟨rfl, rfl, rfl, rfl, rfl, trivial⟩ (v_X6_rests_106 d (by omega) (f_X6_rests_38  n) ih S a1 a2 a3 a4 a5 _ hf)
        · replace hf := (if_neg c11).symm.trans hf
          refine zv_iconst (v := 1) dX6_rests_102 (by decide) ?_
          refine zv_goto (tgt := 107) dX6_rests_103 (by decide) ?_
          refine zv_istore dX6_rests_107 (by decide) ?_
          exact zV_sub ([(1, .int a1), (2, .int a2), (3, .int a3), (4, .int a4), (5, .int a5), (8, .int (1 : Int32))]) ⟨rfl, rfl, rfl, rfl, rfl, rfl, trivial⟩ (v_X6_rests_109 d (by omega) (f_X6_rests_38  n) ih S a1 a2 a3 a4 a5 (1 : Int32) _ hf)
def f_X6_rests (S : zS) (a1 : Int32) (a2 : Int32) (a3 : Int32) : Option Int32 :=
  ((f_X6_in a1 (1 : Int32) (60 : Int32)).bind (fun x2 => (if x2 = 0 then some ((-1 : Int32)) else ((f_X6_in a2 (0 : Int32) (60 : Int32)).bind (fun x5 => (if x5 = 0 then some ((-1 : Int32)) else ((f_X6_in a3 (0 : Int32) (60 : Int32)).bind (fun x8 => (if x8 = 0 then some ((-1 : Int32)) else f_X6_rests_38 zN S a1 a2 a3 (0 : Int32) (0 : Int32))))))))))
set_option maxRecDepth 100000 in
set_option maxHeartbeats 4000000 in
theorem c_X6_rests  (d : Nat) (hd : 1 ≤ d) (S : zS) (a1 : Int32) (a2 : Int32) (a3 : Int32) (v : Int32) (hf : f_X6_rests S a1 a2 a3 = (some v)) : zC d yX6_rests cX6_rests 9 (some .int) [.ref 31, .int a1, .int a2, .int a3] (wd S) (zq (some (.int v)) (wd S)) := by
  obtain ⟨d, rfl⟩ : ∃ e, d = e + 1 := ⟨d - 1, by omega⟩
  refine zC_intro (by decide) rfl (Nat.le_of_ble_eq_true rfl) ?_
  unfold f_X6_rests at hf
  refine zv_iload_n dX6_rests_0 rfl rfl ?_
  refine zv_iconst (v := 1) dX6_rests_1 (by decide) ?_
  refine zv_bipush (v := 60) dX6_rests_2 (by decide) ?_
  obtain ⟨x2, hc1, hf⟩ := zbind hf
  refine zv_callS dX6_rests_4 zk_X6_54 zm_X6_in (c_X6_in  d a1 (1 : Int32) (60 : Int32) x2 hc1) rfl rfl (Nat.le_of_ble_eq_true rfl) ?_
  refine zv_if_eq (tgt := 30) dX6_rests_7 (by decide) (fun c3 => ?_) (fun c3 => ?_)
  · replace hf := (if_pos c3).symm.trans hf
    refine zv_iconst (v := -1) dX6_rests_30 (by decide) ?_
    exact zv_iret (ty := .int) dX6_rests_31 rfl rfl (zret1 hf)
  · replace hf := (if_neg c3).symm.trans hf
    refine zv_iload_n dX6_rests_10 rfl rfl ?_
    refine zv_iconst (v := 0) dX6_rests_11 (by decide) ?_
    refine zv_bipush (v := 60) dX6_rests_12 (by decide) ?_
    obtain ⟨x5, hc4, hf⟩ := zbind hf
    refine zv_callS dX6_rests_14 zk_X6_54 zm_X6_in (c_X6_in  d a2 (0 : Int32) (60 : Int32) x5 hc4) rfl rfl (Nat.le_of_ble_eq_true rfl) ?_
    refine zv_if_eq (tgt := 30) dX6_rests_17 (by decide) (fun c6 => ?_) (fun c6 => ?_)
    · replace hf := (if_pos c6).symm.trans hf
      refine zv_iconst (v := -1) dX6_rests_30 (by decide) ?_
      exact zv_iret (ty := .int) dX6_rests_31 rfl rfl (zret1 hf)
    · replace hf := (if_neg c6).symm.trans hf
      refine zv_iload_n dX6_rests_20 rfl rfl ?_
      refine zv_iconst (v := 0) dX6_rests_21 (by decide) ?_
      refine zv_bipush (v := 60) dX6_rests_22 (by decide) ?_
      obtain ⟨x8, hc7, hf⟩ := zbind hf
      refine zv_callS dX6_rests_24 zk_X6_54 zm_X6_in (c_X6_in  d a3 (0 : Int32) (60 : Int32) x8 hc7) rfl rfl (Nat.le_of_ble_eq_true rfl) ?_
      refine zv_if_ne (tgt := 32) dX6_rests_27 (by decide) (fun c9 => ?_) (fun c9 => ?_)
      · replace hf := (if_neg c9).symm.trans hf
        refine zv_iconst (v := 0) dX6_rests_32 (by decide) ?_
        refine zv_istore dX6_rests_33 (by decide) ?_
        refine zv_iconst (v := 0) dX6_rests_35 (by decide) ?_
        refine zv_istore dX6_rests_36 (by decide) ?_
        exact zV_sub ([(1, .int a1), (2, .int a2), (3, .int a3), (4, .int (0 : Int32)), (5, .int (0 : Int32))]) ⟨rfl, rfl, rfl, rfl, rfl, trivial⟩ (v_X6_rests_38 d (by omega) zN S a1 a2 a3 (0 : Int32) (0 : Int32) _ hf)
      · replace hf := (if_pos c9).symm.trans hf
        refine zv_iconst (v := -1) dX6_rests_30 (by decide) ?_
        exact zv_iret (ty := .int) dX6_rests_31 rfl rfl (zret1 hf)
-- KingPricesModel.leastOf(I)I height 0 reads
def f_X6_leastOf_156 (k8 : zS → Int32 → Int32 → Int32 → Int32 → Option Int32) (S : zS) (a1 : Int32) (a2 : Int32) (a3 : Int32) (a4 : Int32) : Option Int32 :=
  k8 S a1 a2 a3 (a4 + (1 : Int32))
set_option maxRecDepth 100000 in
set_option maxHeartbeats 4000000 in
theorem v_X6_leastOf_156 (d : Nat) (k8 : zS → Int32 → Int32 → Int32 → Int32 → Option Int32) (hk8 : ∀ (S : zS) (a1 a2 a3 a4 : Int32) v, k8 S a1 a2 a3 a4 = (some v) → zV none d yX6_leastOf cX6_leastOf 7 (some .int) 8 [(0, .ref 31), (1, .int a1), (2, .int a2), (3, .int a3), (4, .int a4)] [] (wd S) (zq (some (.int v)) (wd S))) (S : zS) (a1 : Int32) (a2 : Int32) (a3 : Int32) (a4 : Int32) (v : Int32) (hf : f_X6_leastOf_156 k8 S a1 a2 a3 a4 = (some v)) : zV none d yX6_leastOf cX6_leastOf 7 (some .int) 156 [(0, .ref 31), (1, .int a1), (2, .int a2), (3, .int a3), (4, .int a4)] [] (wd S) (zq (some (.int v)) (wd S)) := by
  unfold f_X6_leastOf_156 at hf
  refine zv_iinc (v := 1) dX6_leastOf_156 rfl (by decide) (by decide) ?_
  refine zv_goto (tgt := 8) dX6_leastOf_159 (by decide) ?_
  exact zV_sub ([(0, .ref 31), (1, .int a1), (2, .int a2), (3, .int a3), (4, .int (a4 + (1 : Int32)))]) ⟨rfl, rfl, rfl, rfl, rfl, trivial⟩ (hk8 S a1 a2 a3 (a4 + (1 : Int32)) _ hf)
def f_X6_leastOf_138 (k8 : zS → Int32 → Int32 → Int32 → Int32 → Option Int32) (S : zS) (a1 : Int32) (a2 : Int32) (a4 : Int32) (a5 : Int32) (a6 : Int32) : Option Int32 :=
  (if zin (((6 : Int32) * a5) + a6) 72 then f_X6_leastOf_156 k8 S a1 a2 (S.1 39 ((((6 : Int32) * a5) + a6)).toNatClampNeg) a4 else none)
set_option maxRecDepth 100000 in
set_option maxHeartbeats 4000000 in
theorem v_X6_leastOf_138 (d : Nat) (k8 : zS → Int32 → Int32 → Int32 → Int32 → Option Int32) (hk8 : ∀ (S : zS) (a1 a2 a3 a4 : Int32) v, k8 S a1 a2 a3 a4 = (some v) → zV none d yX6_leastOf cX6_leastOf 7 (some .int) 8 [(0, .ref 31), (1, .int a1), (2, .int a2), (3, .int a3), (4, .int a4)] [] (wd S) (zq (some (.int v)) (wd S))) (S : zS) (a1 : Int32) (a2 : Int32) (a4 : Int32) (a5 : Int32) (a6 : Int32) (v : Int32) (hf : f_X6_leastOf_138 k8 S a1 a2 a4 a5 a6 = (some v)) : zV none d yX6_leastOf cX6_leastOf 7 (some .int) 138 [(0, .ref 31), (1, .int a1), (2, .int a2), (4, .int a4), (5, .int a5), (6, .int a6)] [] (wd S) (zq (some (.int v)) (wd S)) := by
  unfold f_X6_leastOf_138 at hf
  refine zv_aload_n dX6_leastOf_138 rfl rfl ?_
  refine zv_get zf_X6_32 (wo_31 S) rfl dX6_leastOf_139 ?_
  refine zv_bipush (v := 6) dX6_leastOf_142 (by decide) ?_
  refine zv_iload dX6_leastOf_144 rfl ?_
  refine zv_imul dX6_leastOf_146 ?_
  refine zv_iload dX6_leastOf_147 rfl ?_
  refine zv_iadd dX6_leastOf_149 ?_
  obtain ⟨hb1, hf⟩ := zifb hf
  refine zv_iald hb1 (wo_39 S) dX6_leastOf_150 ?_
  refine zv_goto (tgt := 155) dX6_leastOf_151 (by decide) ?_
  refine zv_istore_n dX6_leastOf_155 rfl (by decide) ?_
  exact zV_sub ([(0, .ref 31), (1, .int a1), (2, .int a2), (3, .int (S.1 39 ((((6 : Int32) * a5) + a6)).toNatClampNeg)), (4, .int a4)]) ⟨rfl, rfl, rfl, rfl, rfl, trivial⟩ (v_X6_leastOf_156 d k8 hk8 S a1 a2 (S.1 39 ((((6 : Int32) * a5) + a6)).toNatClampNeg) a4 _ hf)
def f_X6_leastOf_46 (k8 : zS → Int32 → Int32 → Int32 → Int32 → Option Int32) (S : zS) (a1 : Int32) (a2 : Int32) (a3 : Int32) (a4 : Int32) (a5 : Int32) (a6 : Int32) : Option Int32 :=
  (if (S.1 33 0) ≤ a5 then some ((-9 : Int32)) else (if (S.1 33 0) ≤ a6 then some ((-9 : Int32)) else (if a5 < (S.1 43 0) then some ((-9 : Int32)) else (if ((a2 >>> (a5 &&& 31)) &&& (1 : Int32)) = (1 : Int32) then some ((-9 : Int32)) else (if zin (((6 : Int32) * a5) + a6) 72 then (if (S.1 39 ((((6 : Int32) * a5) + a6)).toNatClampNeg) = 0 then some ((-9 : Int32)) else (if a3 = (-9 : Int32) then f_X6_leastOf_138 k8 S a1 (a2 ||| ((1 : Int32) <<< (a5 &&& 31))) a4 a5 a6 else (if zin (((6 : Int32) * a5) + a6) 72 then (if a3 ≤ (S.1 39 ((((6 : Int32) * a5) + a6)).toNatClampNeg) then f_X6_leastOf_156 k8 S a1 (a2 ||| ((1 : Int32) <<< (a5 &&& 31))) a3 a4 else f_X6_leastOf_138 k8 S a1 (a2 ||| ((1 : Int32) <<< (a5 &&& 31))) a4 a5 a6) else none))) else none)))))
set_option maxRecDepth 100000 in
set_option maxHeartbeats 4000000 in
theorem v_X6_leastOf_46 (d : Nat) (k8 : zS → Int32 → Int32 → Int32 → Int32 → Option Int32) (hk8 : ∀ (S : zS) (a1 a2 a3 a4 : Int32) v, k8 S a1 a2 a3 a4 = (some v) → zV none d yX6_leastOf cX6_leastOf 7 (some .int) 8 [(0, .ref 31), (1, .int a1), (2, .int a2), (3, .int a3), (4, .int a4)] [] (wd S) (zq (some (.int v)) (wd S))) (S : zS) (a1 : Int32) (a2 : Int32) (a3 : Int32) (a4 : Int32) (a5 : Int32) (a6 : Int32) (v : Int32) (hf : f_X6_leastOf_46 k8 S a1 a2 a3 a4 a5 a6 = (some v)) : zV none d yX6_leastOf cX6_leastOf 7 (some .int) 46 [(0, .ref 31), (1, .int a1), (2, .int a2), (3, .int a3), (4, .int a4), (5, .int a5), (6, .int a6)] [] (wd S) (zq (some (.int v)) (wd S)) := by
  unfold f_X6_leastOf_46 at hf
  refine zv_iload dX6_leastOf_46 rfl ?_
  refine zv_aload_n dX6_leastOf_48 rfl rfl ?_
  refine zv_get zf_X6_13 (wo_31 S) rfl dX6_leastOf_49 ?_
  refine zv_iconst (v := 0) dX6_leastOf_52 (by decide) ?_
  refine zv_ialdK (k := 0) (by decide) (by decide) (wo_33 S) dX6_leastOf_53 ?_
  refine zv_icmp_ge (tgt := 105) dX6_leastOf_54 (by decide) (fun c1 => ?_) (fun c1 => ?_)
  · replace hf := (if_pos c1).symm.trans hf
    refine zv_bipush (v := -9) dX6_leastOf_105 (by decide) ?_
    exact zv_iret (ty := .int) dX6_leastOf_107 rfl rfl (zret1 hf)
  · replace hf := (if_neg c1).symm.trans hf
    refine zv_iload dX6_leastOf_57 rfl ?_
    refine zv_aload_n dX6_leastOf_59 rfl rfl ?_
    refine zv_get zf_X6_13 (wo_31 S) rfl dX6_leastOf_60 ?_
    refine zv_iconst (v := 0) dX6_leastOf_63 (by decide) ?_
    refine zv_ialdK (k := 0) (by decide) (by decide) (wo_33 S) dX6_leastOf_64 ?_
    refine zv_icmp_ge (tgt := 105) dX6_leastOf_65 (by decide) (fun c2 => ?_) (fun c2 => ?_)
    · replace hf := (if_pos c2).symm.trans hf
      refine zv_bipush (v := -9) dX6_leastOf_105 (by decide) ?_
      exact zv_iret (ty := .int) dX6_leastOf_107 rfl rfl (zret1 hf)
    · replace hf := (if_neg c2).symm.trans hf
      refine zv_iload dX6_leastOf_68 rfl ?_
      refine zv_aload_n dX6_leastOf_70 rfl rfl ?_
      refine zv_get zf_X6_45 (wo_31 S) rfl dX6_leastOf_71 ?_
      refine zv_iconst (v := 0) dX6_leastOf_74 (by decide) ?_
      refine zv_ialdK (k := 0) (by decide) (by decide) (wo_43 S) dX6_leastOf_75 ?_
      refine zv_icmp_lt (tgt := 105) dX6_leastOf_76 (by decide) (fun c3 => ?_) (fun c3 => ?_)
      · replace hf := (if_pos c3).symm.trans hf
        refine zv_bipush (v := -9) dX6_leastOf_105 (by decide) ?_
        exact zv_iret (ty := .int) dX6_leastOf_107 rfl rfl (zret1 hf)
      · replace hf := (if_neg c3).symm.trans hf
        refine zv_iload_n dX6_leastOf_79 rfl rfl ?_
        refine zv_iload dX6_leastOf_80 rfl ?_
        refine zv_ishr dX6_leastOf_82 ?_
        refine zv_iconst (v := 1) dX6_leastOf_83 (by decide) ?_
        refine zv_iand dX6_leastOf_84 ?_
        refine zv_iconst (v := 1) dX6_leastOf_85 (by decide) ?_
        refine zv_icmp_eq (tgt := 105) dX6_leastOf_86 (by decide) (fun c4 => ?_) (fun c4 => ?_)
        · replace hf := (if_pos c4).symm.trans hf
          refine zv_bipush (v := -9) dX6_leastOf_105 (by decide) ?_
          exact zv_iret (ty := .int) dX6_leastOf_107 rfl rfl (zret1 hf)
        · replace hf := (if_neg c4).symm.trans hf
          refine zv_aload_n dX6_leastOf_89 rfl rfl ?_
          refine zv_get zf_X6_32 (wo_31 S) rfl dX6_leastOf_90 ?_
          refine zv_bipush (v := 6) dX6_leastOf_93 (by decide) ?_
          refine zv_iload dX6_leastOf_95 rfl ?_
          refine zv_imul dX6_leastOf_97 ?_
          refine zv_iload dX6_leastOf_98 rfl ?_
          refine zv_iadd dX6_leastOf_100 ?_
          obtain ⟨hb5, hf⟩ := zifb hf
          refine zv_iald hb5 (wo_39 S) dX6_leastOf_101 ?_
          refine zv_if_ne (tgt := 108) dX6_leastOf_102 (by decide) (fun c6 => ?_) (fun c6 => ?_)
          · replace hf := (if_neg c6).symm.trans hf
            refine zv_iload_n dX6_leastOf_108 rfl rfl ?_
            refine zv_iconst (v := 1) dX6_leastOf_109 (by decide) ?_
            refine zv_iload dX6_leastOf_110 rfl ?_
            refine zv_ishl dX6_leastOf_112 ?_
            refine zv_ior dX6_leastOf_113 ?_
            refine zv_istore_n dX6_leastOf_114 rfl (by decide) ?_
            refine zv_iload_n dX6_leastOf_115 rfl rfl ?_
            refine zv_bipush (v := -9) dX6_leastOf_116 (by decide) ?_
            refine zv_icmp_eq (tgt := 138) dX6_leastOf_118 (by decide) (fun c7 => ?_) (fun c7 => ?_)
            · replace hf := (if_pos c7).symm.trans hf
              exact zV_sub ([(0, .ref 31), (1, .int a1), (2, .int (a2 ||| ((1 : Int32) <<< (a5 &&& 31)))), (4, .int a4), (5, .int a5), (6, .int a6)]) ⟨rfl, rfl, rfl, rfl, rfl, rfl, trivial⟩ (v_X6_leastOf_138 d k8 hk8 S a1 (a2 ||| ((1 : Int32) <<< (a5 &&& 31))) a4 a5 a6 _ hf)
            · replace hf := (if_neg c7).symm.trans hf
              refine zv_aload_n dX6_leastOf_121 rfl rfl ?_
              refine zv_get zf_X6_32 (wo_31 S) rfl dX6_leastOf_122 ?_
              refine zv_bipush (v := 6) dX6_leastOf_125 (by decide) ?_
              refine zv_iload dX6_leastOf_127 rfl ?_
              refine zv_imul dX6_leastOf_129 ?_
              refine zv_iload dX6_leastOf_130 rfl ?_
              refine zv_iadd dX6_leastOf_132 ?_
              obtain ⟨hb8, hf⟩ := zifb hf
              refine zv_iald hb8 (wo_39 S) dX6_leastOf_133 ?_
              refine zv_iload_n dX6_leastOf_134 rfl rfl ?_
              refine zv_icmp_ge (tgt := 154) dX6_leastOf_135 (by decide) (fun c9 => ?_) (fun c9 => ?_)
              · replace hf := (if_pos c9).symm.trans hf
                refine zv_iload_n dX6_leastOf_154 rfl rfl ?_
                refine zv_istore_n dX6_leastOf_155 rfl (by decide) ?_
                exact zV_sub ([(0, .ref 31), (1, .int a1), (2, .int (a2 ||| ((1 : Int32) <<< (a5 &&& 31)))), (3, .int a3), (4, .int a4)]) ⟨rfl, rfl, rfl, rfl, rfl, trivial⟩ (v_X6_leastOf_156 d k8 hk8 S a1 (a2 ||| ((1 : Int32) <<< (a5 &&& 31))) a3 a4 _ hf)
              · replace hf := (if_neg c9).symm.trans hf
                exact zV_sub ([(0, .ref 31), (1, .int a1), (2, .int (a2 ||| ((1 : Int32) <<< (a5 &&& 31)))), (4, .int a4), (5, .int a5), (6, .int a6)]) ⟨rfl, rfl, rfl, rfl, rfl, rfl, trivial⟩ (v_X6_leastOf_138 d k8 hk8 S a1 (a2 ||| ((1 : Int32) <<< (a5 &&& 31))) a4 a5 a6 _ hf)
          · replace hf := (if_pos c6).symm.trans hf
            refine zv_bipush (v := -9) dX6_leastOf_105 (by decide) ?_
            exact zv_iret (ty := .int) dX6_leastOf_107 rfl rfl (zret1 hf)
def f_X6_leastOf_8  : Nat → zS → Int32 → Int32 → Int32 → Int32 → Option Int32
  | 0, _, _, _, _, _ => none
  | n + 1, S, a1, a2, a3, a4 => (if a1 ≤ a4 then some a3 else (if zin a4 6 then (if a1 ≤ (a4 + (1 : Int32)) then f_X6_leastOf_46 (f_X6_leastOf_8  n) S a1 a2 a3 a4 (S.1 43 (a4).toNatClampNeg) (S.1 43 0) else (if zin (a4 + (1 : Int32)) 6 then f_X6_leastOf_46 (f_X6_leastOf_8  n) S a1 a2 a3 a4 (S.1 43 (a4).toNatClampNeg) (S.1 43 ((a4 + (1 : Int32))).toNatClampNeg) else none)) else none))
set_option maxRecDepth 100000 in
set_option maxHeartbeats 4000000 in
theorem v_X6_leastOf_8 (d : Nat) : ∀ (n : Nat) (S : zS) (a1 : Int32) (a2 : Int32) (a3 : Int32) (a4 : Int32) (v : Int32), f_X6_leastOf_8  n S a1 a2 a3 a4 = (some v) → zV none d yX6_leastOf cX6_leastOf 7 (some .int) 8 [(0, .ref 31), (1, .int a1), (2, .int a2), (3, .int a3), (4, .int a4)] [] (wd S) (zq (some (.int v)) (wd S)) := by
  intro n
  induction n with
  | zero =>
    intro S a1 a2 a3 a4 v hf
    cases hf
  | succ n ih =>
    intro S a1 a2 a3 a4 v hf
    rw [f_X6_leastOf_8] at hf
    refine zv_iload dX6_leastOf_8 rfl ?_
    refine zv_iload_n dX6_leastOf_10 rfl rfl ?_
    refine zv_icmp_ge (tgt := 162) dX6_leastOf_11 (by decide) (fun c1 => ?_) (fun c1 => ?_)
    · replace hf := (if_pos c1).symm.trans hf
      refine zv_iload_n dX6_leastOf_162 rfl rfl ?_
      exact zv_iret (ty := .int) dX6_leastOf_163 rfl rfl (zret1 hf)
    · replace hf := (if_neg c1).symm.trans hf
      refine zv_aload_n dX6_leastOf_14 rfl rfl ?_
      refine zv_get zf_X6_45 (wo_31 S) rfl dX6_leastOf_15 ?_
      refine zv_iload dX6_leastOf_18 rfl ?_
      obtain ⟨hb2, hf⟩ := zifb hf
      refine zv_iald hb2 (wo_43 S) dX6_leastOf_20 ?_
      refine zv_istore dX6_leastOf_21 (by decide) ?_
      refine zv_aload_n dX6_leastOf_23 rfl rfl ?_
      refine zv_get zf_X6_45 (wo_31 S) rfl dX6_leastOf_24 ?_
      refine zv_iload dX6_leastOf_27 rfl ?_
      refine zv_iconst (v := 1) dX6_leastOf_29 (by decide) ?_
      refine zv_iadd dX6_leastOf_30 ?_
      refine zv_iload_n dX6_leastOf_31 rfl rfl ?_
      refine zv_icmp_ge (tgt := 42) dX6_leastOf_32 (by decide) (fun c3 => ?_) (fun c3 => ?_)
      · replace hf := (if_pos c3).symm.trans hf
        refine zv_iconst (v := 0) dX6_leastOf_42 (by decide) ?_
        refine zv_ialdK (k := 0) (by decide) (by decide) (wo_43 S) dX6_leastOf_43 ?_
        refine zv_istore dX6_leastOf_44 (by decide) ?_
        exact zV_sub ([(0, .ref 31), (1, .int a1), (2, .int a2), (3, .int a3), (4, .int a4), (5, .int (S.1 43 (a4).toNatClampNeg)), (6, .int (S.1 43 0))]) ⟨rfl, rfl, rfl, rfl, rfl, rfl, rfl, trivial⟩ (v_X6_leastOf_46 d (f_X6_leastOf_8  n) ih S a1 a2 a3 a4 (S.1 43 (a4).toNatClampNeg) (S.1 43 0) _ hf)
      · replace hf := (if_neg c3).symm.trans hf
        refine zv_iload dX6_leastOf_35 rfl ?_
        refine zv_iconst (v := 1) dX6_leastOf_37 (by decide) ?_
        refine zv_iadd dX6_leastOf_38 ?_
        refine zv_goto (tgt := 43) dX6_leastOf_39 (by decide) ?_
        obtain ⟨hb4, hf⟩ := zifb hf
        refine zv_iald hb4 (wo_43 S) dX6_leastOf_43 ?_
        refine zv_istore dX6_leastOf_44 (by decide) ?_
        exact zV_sub ([(0, .ref 31), (1, .int a1), (2, .int a2), (3, .int a3), (4, .int a4), (5, .int (S.1 43 (a4).toNatClampNeg)), (6, .int (S.1 43 ((a4 + (1 : Int32))).toNatClampNeg))]) ⟨rfl, rfl, rfl, rfl, rfl, rfl, rfl, trivial⟩ (v_X6_leastOf_46 d (f_X6_leastOf_8  n) ih S a1 a2 a3 a4 (S.1 43 (a4).toNatClampNeg) (S.1 43 ((a4 + (1 : Int32))).toNatClampNeg) _ hf)
def f_X6_leastOf (S : zS) (a1 : Int32) : Option Int32 :=
  f_X6_leastOf_8 zN S a1 (0 : Int32) (-9 : Int32) (0 : Int32)
set_option maxRecDepth 100000 in
set_option maxHeartbeats 4000000 in
theorem c_X6_leastOf  (d : Nat) (S : zS) (a1 : Int32) (v : Int32) (hf : f_X6_leastOf S a1 = (some v)) : zC d yX6_leastOf cX6_leastOf 7 (some .int) [.ref 31, .int a1] (wd S) (zq (some (.int v)) (wd S)) := by
  refine zC_intro (by decide) rfl (Nat.le_of_ble_eq_true rfl) ?_
  unfold f_X6_leastOf at hf
  refine zv_iconst (v := 0) dX6_leastOf_0 (by decide) ?_
  refine zv_istore_n dX6_leastOf_1 rfl (by decide) ?_
  refine zv_bipush (v := -9) dX6_leastOf_2 (by decide) ?_
  refine zv_istore_n dX6_leastOf_4 rfl (by decide) ?_
  refine zv_iconst (v := 0) dX6_leastOf_5 (by decide) ?_
  refine zv_istore dX6_leastOf_6 (by decide) ?_
  exact zV_sub ([(0, .ref 31), (1, .int a1), (2, .int (0 : Int32)), (3, .int (-9 : Int32)), (4, .int (0 : Int32))]) ⟨rfl, rfl, rfl, rfl, rfl, trivial⟩ (v_X6_leastOf_8 d zN S a1 (0 : Int32) (-9 : Int32) (0 : Int32) _ hf)
-- KingPricesModel.takeRow(II)V height 0 writes
def f_X6_takeRow_7  : Nat → zS → Int32 → Int32 → Option zS
  | 0, _, _, _ => none
  | n + 1, S, a3, a4 => (if a4 < 0 then some S else (if zin a4 6 then f_X6_takeRow_7  n (zr S 43 (upd (S.1 43) (a4).toNatClampNeg (a3 - a3 / (6 : Int32) * (6 : Int32)))) (a3 / (6 : Int32)) (a4 + (-1 : Int32)) else none))
set_option maxRecDepth 100000 in
set_option maxHeartbeats 4000000 in
theorem v_X6_takeRow_7 (d : Nat) : ∀ (n : Nat) (S : zS) (a3 : Int32) (a4 : Int32) (S' : zS), f_X6_takeRow_7  n S a3 a4 = (some S') → zV none d yX6_takeRow cX6_takeRow 5 none 7 [(0, .ref 31), (3, .int a3), (4, .int a4)] [] (wd S) (zq none (wd S')) := by
  intro n
  induction n with
  | zero =>
    intro S a3 a4 S' hf
    cases hf
  | succ n ih =>
    intro S a3 a4 S' hf
    rw [f_X6_takeRow_7] at hf
    refine zv_iload dX6_takeRow_7 rfl ?_
    refine zv_if_lt (tgt := 34) dX6_takeRow_9 (by decide) (fun c1 => ?_) (fun c1 => ?_)
    · replace hf := (if_pos c1).symm.trans hf
      exact zv_vret dX6_takeRow_34 rfl (zret0 wd hf)
    · replace hf := (if_neg c1).symm.trans hf
      refine zv_aload_n dX6_takeRow_12 rfl rfl ?_
      refine zv_get zf_X6_45 (wo_31 S) rfl dX6_takeRow_13 ?_
      refine zv_iload dX6_takeRow_16 rfl ?_
      refine zv_iload_n dX6_takeRow_18 rfl rfl ?_
      refine zv_bipush (v := 6) dX6_takeRow_19 (by decide) ?_
      refine zv_irem (by decide) dX6_takeRow_21 ?_
      obtain ⟨hb2, hf⟩ := zifb hf
      refine zv_iast hb2 (wo_43 S) (ws_43 S (upd (S.1 43) (a4).toNatClampNeg (a3 - a3 / (6 : Int32) * (6 : Int32)))) dX6_takeRow_22 ?_
      refine zv_iload_n dX6_takeRow_23 rfl rfl ?_
      refine zv_bipush (v := 6) dX6_takeRow_24 (by decide) ?_
      refine zv_idiv (by decide) dX6_takeRow_26 ?_
      refine zv_istore_n dX6_takeRow_27 rfl (by decide) ?_
      refine zv_iinc (v := -1) dX6_takeRow_28 rfl (by decide) (by decide) ?_
      refine zv_goto (tgt := 7) dX6_takeRow_31 (by decide) ?_
      exact zV_sub ([(0, .ref 31), (3, .int (a3 / (6 : Int32))), (4, .int (a4 + (-1 : Int32)))]) ⟨rfl, rfl, rfl, trivial⟩ (ih (zr S 43 (upd (S.1 43) (a4).toNatClampNeg (a3 - a3 / (6 : Int32) * (6 : Int32)))) (a3 / (6 : Int32)) (a4 + (-1 : Int32)) _ hf)
def f_X6_takeRow (S : zS) (a1 : Int32) (a2 : Int32) : Option zS :=
  f_X6_takeRow_7 zN S a1 (a2 - (1 : Int32))
set_option maxRecDepth 100000 in
set_option maxHeartbeats 4000000 in
theorem c_X6_takeRow  (d : Nat) (S : zS) (a1 : Int32) (a2 : Int32) (S' : zS) (hf : f_X6_takeRow S a1 a2 = (some S')) : zC d yX6_takeRow cX6_takeRow 5 none [.ref 31, .int a1, .int a2] (wd S) (zq none (wd S')) := by
  refine zC_intro (by decide) rfl (Nat.le_of_ble_eq_true rfl) ?_
  unfold f_X6_takeRow at hf
  refine zv_iload_n dX6_takeRow_0 rfl rfl ?_
  refine zv_istore_n dX6_takeRow_1 rfl (by decide) ?_
  refine zv_iload_n dX6_takeRow_2 rfl rfl ?_
  refine zv_iconst (v := 1) dX6_takeRow_3 (by decide) ?_
  refine zv_isub dX6_takeRow_4 ?_
  refine zv_istore dX6_takeRow_5 (by decide) ?_
  exact zV_sub ([(0, .ref 31), (3, .int a1), (4, .int (a2 - (1 : Int32)))]) ⟨rfl, rfl, rfl, trivial⟩ (v_X6_takeRow_7 d zN S a1 (a2 - (1 : Int32)) _ hf)
-- KingPricesModel.ring(I)I height 1 writes
def f_X6_ring_30 (k17 : zS → Int32 → Int32 → Int32 → Option (Int32 × zS)) : Nat → zS → Int32 → Int32 → Int32 → Int32 → Option (Int32 × zS)
  | 0, _, _, _, _, _ => none
  | n + 1, S, a1, a2, a3, a4 => (if a2 ≤ a4 then k17 S a1 (a2 * (6 : Int32)) (a3 + (1 : Int32)) else ((f_X6_takeRow S a4 a3).bind (fun S3 => ((f_X6_leastOf S3 a3).bind (fun x5 => (if x5 = (-9 : Int32) then f_X6_ring_30 k17 n S3 a1 a2 a3 (a4 + (1 : Int32)) else (if a1 = (-1 : Int32) then some (a3, S3) else (if a1 = (-2 : Int32) then some (x5, S3) else (if a3 ≤ a1 then some ((-9 : Int32), S3) else (if zin a1 6 then some ((S3.1 43 (a1).toNatClampNeg), S3) else none))))))))))
set_option maxRecDepth 100000 in
set_option maxHeartbeats 4000000 in
theorem v_X6_ring_30 (d : Nat) (hd : 0 ≤ d) (k17 : zS → Int32 → Int32 → Int32 → Option (Int32 × zS)) (hk17 : ∀ (S : zS) (a1 a2 a3 : Int32) v S', k17 S a1 a2 a3 = (some (v, S')) → zV none (d + 1) yX6_ring cX6_ring 6 (some .int) 17 [(0, .ref 31), (1, .int a1), (2, .int a2), (3, .int a3)] [] (wd S) (zq (some (.int v)) (wd S'))) : ∀ (n : Nat) (S : zS) (a1 : Int32) (a2 : Int32) (a3 : Int32) (a4 : Int32) (v : Int32) (S' : zS), f_X6_ring_30 k17 n S a1 a2 a3 a4 = (some (v, S')) → zV none (d + 1) yX6_ring cX6_ring 6 (some .int) 30 [(0, .ref 31), (1, .int a1), (2, .int a2), (3, .int a3), (4, .int a4)] [] (wd S) (zq (some (.int v)) (wd S')) := by
  intro n
  induction n with
  | zero =>
    intro S a1 a2 a3 a4 v S' hf
    cases hf
  | succ n ih =>
    intro S a1 a2 a3 a4 v S' hf
    rw [f_X6_ring_30] at hf
    refine zv_iload dX6_ring_30 rfl ?_
    refine zv_iload_n dX6_ring_32 rfl rfl ?_
    refine zv_icmp_ge (tgt := 100) dX6_ring_33 (by decide) (fun c1 => ?_) (fun c1 => ?_)
    · replace hf := (if_pos c1).symm.trans hf
      refine zv_iload_n dX6_ring_100 rfl rfl ?_
      refine zv_bipush (v := 6) dX6_ring_101 (by decide) ?_
      refine zv_imul dX6_ring_103 ?_
      refine zv_istore_n dX6_ring_104 rfl (by decide) ?_
      refine zv_iinc (v := 1) dX6_ring_105 rfl (by decide) (by decide) ?_
      refine zv_goto (tgt := 17) dX6_ring_108 (by decide) ?_
      exact zV_sub ([(0, .ref 31), (1, .int a1), (2, .int (a2 * (6 : Int32))), (3, .int (a3 + (1 : Int32)))]) ⟨rfl, rfl, rfl, rfl, trivial⟩ (hk17 S a1 (a2 * (6 : Int32)) (a3 + (1 : Int32)) _ _ hf)
    · replace hf := (if_neg c1).symm.trans hf
      refine zv_aload_n dX6_ring_36 rfl rfl ?_
      refine zv_iload dX6_ring_37 rfl ?_
      refine zv_iload_n dX6_ring_39 rfl rfl ?_
      obtain ⟨S3, hc2, hf⟩ := zbind hf
      refine zv_callV dX6_ring_40 zk_X6_126 zm_X6_takeRow (c_X6_takeRow  d S a4 a3 S3 hc2) (wo_31 S) rfl rfl rfl (Nat.le_of_ble_eq_true rfl) ?_
      refine zv_aload_n dX6_ring_43 rfl rfl ?_
      refine zv_iload_n dX6_ring_44 rfl rfl ?_
      obtain ⟨x5, hc4, hf⟩ := zbind hf
      refine zv_callV dX6_ring_45 zk_X6_158 zm_X6_leastOf (c_X6_leastOf  d S3 a3 x5 hc4) (wo_31 S3) rfl rfl rfl (Nat.le_of_ble_eq_true rfl) ?_
      refine zv_istore dX6_ring_48 (by decide) ?_
      refine zv_iload dX6_ring_50 rfl ?_
      refine zv_bipush (v := -9) dX6_ring_52 (by decide) ?_
      refine zv_icmp_eq (tgt := 94) dX6_ring_54 (by decide) (fun c6 => ?_) (fun c6 => ?_)
      · replace hf := (if_pos c6).symm.trans hf
        refine zv_iinc (v := 1) dX6_ring_94 rfl (by decide) (by decide) ?_
        refine zv_goto (tgt := 30) dX6_ring_97 (by decide) ?_
        exact zV_sub ([(0, .ref 31), (1, .int a1), (2, .int a2), (3, .int a3), (4, .int (a4 + (1 : Int32)))]) ⟨rfl, rfl, rfl, rfl, rfl, trivial⟩ (ih S3 a1 a2 a3 (a4 + (1 : Int32)) _ _ hf)
      · replace hf := (if_neg c6).symm.trans hf
        refine zv_iload_n dX6_ring_57 rfl rfl ?_
        refine zv_iconst (v := -1) dX6_ring_58 (by decide) ?_
        refine zv_icmp_ne (tgt := 66) dX6_ring_59 (by decide) (fun c7 => ?_) (fun c7 => ?_)
        · replace hf := (if_neg c7).symm.trans hf
          refine zv_iload_n dX6_ring_66 rfl rfl ?_
          refine zv_bipush (v := -2) dX6_ring_67 (by decide) ?_
          refine zv_icmp_ne (tgt := 77) dX6_ring_69 (by decide) (fun c8 => ?_) (fun c8 => ?_)
          · replace hf := (if_neg c8).symm.trans hf
            refine zv_iload_n dX6_ring_77 rfl rfl ?_
            refine zv_iload_n dX6_ring_78 rfl rfl ?_
            refine zv_icmp_ge (tgt := 91) dX6_ring_79 (by decide) (fun c9 => ?_) (fun c9 => ?_)
            · replace hf := (if_pos c9).symm.trans hf
              refine zv_bipush (v := -9) dX6_ring_91 (by decide) ?_
              exact zv_iret (ty := .int) dX6_ring_93 rfl rfl (zret2 wd hf)
            · replace hf := (if_neg c9).symm.trans hf
              refine zv_aload_n dX6_ring_82 rfl rfl ?_
              refine zv_get zf_X6_45 (wo_31 S3) rfl dX6_ring_83 ?_
              refine zv_iload_n dX6_ring_86 rfl rfl ?_
              obtain ⟨hb10, hf⟩ := zifb hf
              refine zv_iald hb10 (wo_43 S3) dX6_ring_87 ?_
              refine zv_goto (tgt := 93) dX6_ring_88 (by decide) ?_
              exact zv_iret (ty := .int) dX6_ring_93 rfl rfl (zret2 wd hf)
          · replace hf := (if_pos c8).symm.trans hf
            refine zv_iload dX6_ring_72 rfl ?_
            refine zv_goto (tgt := 93) dX6_ring_74 (by decide) ?_
            exact zv_iret (ty := .int) dX6_ring_93 rfl rfl (zret2 wd hf)
        · replace hf := (if_pos c7).symm.trans hf
          refine zv_iload_n dX6_ring_62 rfl rfl ?_
          refine zv_goto (tgt := 93) dX6_ring_63 (by decide) ?_
          exact zv_iret (ty := .int) dX6_ring_93 rfl rfl (zret2 wd hf)
def f_X6_ring_17  : Nat → zS → Int32 → Int32 → Int32 → Option (Int32 × zS)
  | 0, _, _, _, _ => none
  | n + 1, S, a1, a2, a3 => (if (S.1 33 0) < a3 then some ((-9 : Int32), S) else f_X6_ring_30 (f_X6_ring_17  n) zN S a1 a2 a3 (0 : Int32))
set_option maxRecDepth 100000 in
set_option maxHeartbeats 4000000 in
theorem v_X6_ring_17 (d : Nat) (hd : 0 ≤ d) : ∀ (n : Nat) (S : zS) (a1 : Int32) (a2 : Int32) (a3 : Int32) (v : Int32) (S' : zS), f_X6_ring_17  n S a1 a2 a3 = (some (v, S')) → zV none (d + 1) yX6_ring cX6_ring 6 (some .int) 17 [(0, .ref 31), (1, .int a1), (2, .int a2), (3, .int a3)] [] (wd S) (zq (some (.int v)) (wd S')) := by
  intro n
  induction n with
  | zero =>
    intro S a1 a2 a3 v S' hf
    cases hf
  | succ n ih =>
    intro S a1 a2 a3 v S' hf
    rw [f_X6_ring_17] at hf
    refine zv_iload_n dX6_ring_17 rfl rfl ?_
    refine zv_aload_n dX6_ring_18 rfl rfl ?_
    refine zv_get zf_X6_13 (wo_31 S) rfl dX6_ring_19 ?_
    refine zv_iconst (v := 0) dX6_ring_22 (by decide) ?_
    refine zv_ialdK (k := 0) (by decide) (by decide) (wo_33 S) dX6_ring_23 ?_
    refine zv_icmp_gt (tgt := 111) dX6_ring_24 (by decide) (fun c1 => ?_) (fun c1 => ?_)
    · replace hf := (if_pos c1).symm.trans hf
      refine zv_bipush (v := -9) dX6_ring_111 (by decide) ?_
      exact zv_iret (ty := .int) dX6_ring_113 rfl rfl (zret2 wd hf)
    · replace hf := (if_neg c1).symm.trans hf
      refine zv_iconst (v := 0) dX6_ring_27 (by decide) ?_
      refine zv_istore dX6_ring_28 (by decide) ?_
      exact zV_sub ([(0, .ref 31), (1, .int a1), (2, .int a2), (3, .int a3), (4, .int (0 : Int32))]) ⟨rfl, rfl, rfl, rfl, rfl, trivial⟩ (v_X6_ring_30 d (by omega) (f_X6_ring_17  n) ih zN S a1 a2 a3 (0 : Int32) _ _ hf)
def f_X6_ring (S : zS) (a1 : Int32) : Option (Int32 × zS) :=
  ((f_X6_in a1 (-2 : Int32) (5 : Int32)).bind (fun x2 => (if x2 = 0 then some ((-1 : Int32), S) else f_X6_ring_17 zN S a1 (36 : Int32) (2 : Int32))))
set_option maxRecDepth 100000 in
set_option maxHeartbeats 4000000 in
theorem c_X6_ring  (d : Nat) (hd : 1 ≤ d) (S : zS) (a1 : Int32) (v : Int32) (S' : zS) (hf : f_X6_ring S a1 = (some (v, S'))) : zC d yX6_ring cX6_ring 6 (some .int) [.ref 31, .int a1] (wd S) (zq (some (.int v)) (wd S')) := by
  obtain ⟨d, rfl⟩ : ∃ e, d = e + 1 := ⟨d - 1, by omega⟩
  refine zC_intro (by decide) rfl (Nat.le_of_ble_eq_true rfl) ?_
  unfold f_X6_ring at hf
  refine zv_iload_n dX6_ring_0 rfl rfl ?_
  refine zv_bipush (v := -2) dX6_ring_1 (by decide) ?_
  refine zv_iconst (v := 5) dX6_ring_3 (by decide) ?_
  obtain ⟨x2, hc1, hf⟩ := zbind hf
  refine zv_callS dX6_ring_4 zk_X6_54 zm_X6_in (c_X6_in  d a1 (-2 : Int32) (5 : Int32) x2 hc1) rfl rfl (Nat.le_of_ble_eq_true rfl) ?_
  refine zv_if_ne (tgt := 12) dX6_ring_7 (by decide) (fun c3 => ?_) (fun c3 => ?_)
  · replace hf := (if_neg c3).symm.trans hf
    refine zv_bipush (v := 36) dX6_ring_12 (by decide) ?_
    refine zv_istore_n dX6_ring_14 rfl (by decide) ?_
    refine zv_iconst (v := 2) dX6_ring_15 (by decide) ?_
    refine zv_istore_n dX6_ring_16 rfl (by decide) ?_
    exact zV_sub ([(0, .ref 31), (1, .int a1), (2, .int (36 : Int32)), (3, .int (2 : Int32))]) ⟨rfl, rfl, rfl, rfl, trivial⟩ (v_X6_ring_17 d (by omega) zN S a1 (36 : Int32) (2 : Int32) _ _ hf)
  · replace hf := (if_pos c3).symm.trans hf
    refine zv_iconst (v := -1) dX6_ring_10 (by decide) ?_
    exact zv_iret (ty := .int) dX6_ring_11 rfl rfl (zret2 wd hf)
-- KingPricesModel.sells(II)I height 2 writes
def f_X6_sells (S : zS) (a1 : Int32) (a2 : Int32) : Option (Int32 × zS) :=
  ((f_X6_isVillage S a1).bind (fun x2 => (if x2 = 0 then some ((-1 : Int32), S) else ((f_X6_in a2 (1 : Int32) (99 : Int32)).bind (fun x5 => (if x5 = 0 then some ((-1 : Int32), S) else (if zin ((16 : Int32) + a1) 927 then (if a2 ≤ (S.1 41 (((16 : Int32) + a1)).toNatClampNeg) then ((f_X6_know S).bind (fun S10 => (if zin ((16 : Int32) + a1) 927 then (if zin ((16 : Int32) + a1) 927 then (if zin ((22 : Int32) + a1) 927 then (if zin ((22 : Int32) + a1) 927 then (if zin ((22 : Int32) + a1) 927 then some (((zr (zr S10 41 (upd (S10.1 41) (((16 : Int32) + a1)).toNatClampNeg ((S10.1 41 (((16 : Int32) + a1)).toNatClampNeg) - a2))) 41 (upd ((zr S10 41 (upd (S10.1 41) (((16 : Int32) + a1)).toNatClampNeg ((S10.1 41 (((16 : Int32) + a1)).toNatClampNeg) - a2))).1 41) (((22 : Int32) + a1)).toNatClampNeg (((zr S10 41 (upd (S10.1 41) (((16 : Int32) + a1)).toNatClampNeg ((S10.1 41 (((16 : Int32) + a1)).toNatClampNeg) - a2))).1 41 (((22 : Int32) + a1)).toNatClampNeg) + (a2 / (3 : Int32))))).1 41 (((22 : Int32) + a1)).toNatClampNeg), (zr (zr S10 41 (upd (S10.1 41) (((16 : Int32) + a1)).toNatClampNeg ((S10.1 41 (((16 : Int32) + a1)).toNatClampNeg) - a2))) 41 (upd ((zr S10 41 (upd (S10.1 41) (((16 : Int32) + a1)).toNatClampNeg ((S10.1 41 (((16 : Int32) + a1)).toNatClampNeg) - a2))).1 41) (((22 : Int32) + a1)).toNatClampNeg (((zr S10 41 (upd (S10.1 41) (((16 : Int32) + a1)).toNatClampNeg ((S10.1 41 (((16 : Int32) + a1)).toNatClampNeg) - a2))).1 41 (((22 : Int32) + a1)).toNatClampNeg) + (a2 / (3 : Int32)))))) else none) else none) else none) else none) else none))) else some ((-2 : Int32), S)) else none)))))))
set_option maxRecDepth 100000 in
set_option maxHeartbeats 4000000 in
theorem c_X6_sells  (d : Nat) (hd : 2 ≤ d) (S : zS) (a1 : Int32) (a2 : Int32) (v : Int32) (S' : zS) (hf : f_X6_sells S a1 a2 = (some (v, S'))) : zC d yX6_sells cX6_sells 3 (some .int) [.ref 31, .int a1, .int a2] (wd S) (zq (some (.int v)) (wd S')) := by
  obtain ⟨d, rfl⟩ : ∃ e, d = e + 1 := ⟨d - 1, by omega⟩
  refine zC_intro (by decide) rfl (Nat.le_of_ble_eq_true rfl) ?_
  unfold f_X6_sells at hf
  refine zv_aload_n dX6_sells_0 rfl rfl ?_
  refine zv_iload_n dX6_sells_1 rfl rfl ?_
  obtain ⟨x2, hc1, hf⟩ := zbind hf
  refine zv_callV dX6_sells_2 zk_X6_107 zm_X6_isVillage (c_X6_isVillage  d (by omega) S a1 x2 hc1) (wo_31 S) rfl rfl rfl (Nat.le_of_ble_eq_true rfl) ?_
  refine zv_if_eq (tgt := 18) dX6_sells_5 (by decide) (fun c3 => ?_) (fun c3 => ?_)
  · replace hf := (if_pos c3).symm.trans hf
    refine zv_iconst (v := -1) dX6_sells_18 (by decide) ?_
    exact zv_iret (ty := .int) dX6_sells_19 rfl rfl (zret2 wd hf)
  · replace hf := (if_neg c3).symm.trans hf
    refine zv_iload_n dX6_sells_8 rfl rfl ?_
    refine zv_iconst (v := 1) dX6_sells_9 (by decide) ?_
    refine zv_bipush (v := 99) dX6_sells_10 (by decide) ?_
    obtain ⟨x5, hc4, hf⟩ := zbind hf
    refine zv_callS dX6_sells_12 zk_X6_54 zm_X6_in (c_X6_in  d a2 (1 : Int32) (99 : Int32) x5 hc4) rfl rfl (Nat.le_of_ble_eq_true rfl) ?_
    refine zv_if_ne (tgt := 20) dX6_sells_15 (by decide) (fun c6 => ?_) (fun c6 => ?_)
    · replace hf := (if_neg c6).symm.trans hf
      refine zv_aload_n dX6_sells_20 rfl rfl ?_
      refine zv_get zf_X6_38 (wo_31 S) rfl dX6_sells_21 ?_
      refine zv_bipush (v := 16) dX6_sells_24 (by decide) ?_
      refine zv_iload_n dX6_sells_26 rfl rfl ?_
      refine zv_iadd dX6_sells_27 ?_
      obtain ⟨hb7, hf⟩ := zifb hf
      refine zv_iald hb7 (wo_41 S) dX6_sells_28 ?_
      refine zv_iload_n dX6_sells_29 rfl rfl ?_
      refine zv_icmp_ge (tgt := 36) dX6_sells_30 (by decide) (fun c8 => ?_) (fun c8 => ?_)
      · replace hf := (if_pos c8).symm.trans hf
        refine zv_aload_n dX6_sells_36 rfl rfl ?_
        obtain ⟨S10, hc9, hf⟩ := zbind hf
        refine zv_callV dX6_sells_37 zk_X6_113 zm_X6_know (c_X6_know  d S S10 hc9) (wo_31 S) rfl rfl rfl (Nat.le_of_ble_eq_true rfl) ?_
        refine zv_aload_n dX6_sells_40 rfl rfl ?_
        refine zv_get zf_X6_38 (wo_31 S10) rfl dX6_sells_41 ?_
        refine zv_bipush (v := 16) dX6_sells_44 (by decide) ?_
        refine zv_iload_n dX6_sells_46 rfl rfl ?_
        refine zv_iadd dX6_sells_47 ?_
        refine zv_dup2 dX6_sells_48 rfl rfl ?_
        obtain ⟨hb11, hf⟩ := zifb hf
        refine zv_iald hb11 (wo_41 S10) dX6_sells_49 ?_
        refine zv_iload_n dX6_sells_50 rfl rfl ?_
        refine zv_isub dX6_sells_51 ?_
        obtain ⟨hb12, hf⟩ := zifb hf
        refine zv_iast hb12 (wo_41 S10) (ws_41 S10 (upd (S10.1 41) (((16 : Int32) + a1)).toNatClampNeg ((S10.1 41 (((16 : Int32) + a1)).toNatClampNeg) - a2))) dX6_sells_52 ?_
        refine zv_aload_n dX6_sells_53 rfl rfl ?_
        refine zv_get zf_X6_38 (wo_31 (zr S10 41 (upd (S10.1 41) (((16 : Int32) + a1)).toNatClampNeg ((S10.1 41 (((16 : Int32) + a1)).toNatClampNeg) - a2)))) rfl dX6_sells_54 ?_
        refine zv_bipush (v := 22) dX6_sells_57 (by decide) ?_
        refine zv_iload_n dX6_sells_59 rfl rfl ?_
        refine zv_iadd dX6_sells_60 ?_
        refine zv_dup2 dX6_sells_61 rfl rfl ?_
        obtain ⟨hb13, hf⟩ := zifb hf
        refine zv_iald hb13 (wo_41 (zr S10 41 (upd (S10.1 41) (((16 : Int32) + a1)).toNatClampNeg ((S10.1 41 (((16 : Int32) + a1)).toNatClampNeg) - a2)))) dX6_sells_62 ?_
        refine zv_iload_n dX6_sells_63 rfl rfl ?_
        refine zv_iconst (v := 3) dX6_sells_64 (by decide) ?_
        refine zv_idiv (by decide) dX6_sells_65 ?_
        refine zv_iadd dX6_sells_66 ?_
        obtain ⟨hb14, hf⟩ := zifb hf
        refine zv_iast hb14 (wo_41 (zr S10 41 (upd (S10.1 41) (((16 : Int32) + a1)).toNatClampNeg ((S10.1 41 (((16 : Int32) + a1)).toNatClampNeg) - a2)))) (ws_41 (zr S10 41 (upd (S10.1 41) (((16 : Int32) + a1)).toNatClampNeg ((S10.1 41 (((16 : Int32) + a1)).toNatClampNeg) - a2))) (upd ((zr S10 41 (upd (S10.1 41) (((16 : Int32) + a1)).toNatClampNeg ((S10.1 41 (((16 : Int32) + a1)).toNatClampNeg) - a2))).1 41) (((22 : Int32) + a1)).toNatClampNeg (((zr S10 41 (upd (S10.1 41) (((16 : Int32) + a1)).toNatClampNeg ((S10.1 41 (((16 : Int32) + a1)).toNatClampNeg) - a2))).1 41 (((22 : Int32) + a1)).toNatClampNeg) + (a2 / (3 : Int32))))) dX6_sells_67 ?_
        refine zv_aload_n dX6_sells_68 rfl rfl ?_
        refine zv_get zf_X6_38 (wo_31 (zr (zr S10 41 (upd (S10.1 41) (((16 : Int32) + a1)).toNatClampNeg ((S10.1 41 (((16 : Int32) + a1)).toNatClampNeg) - a2))) 41 (upd ((zr S10 41 (upd (S10.1 41) (((16 : Int32) + a1)).toNatClampNeg ((S10.1 41 (((16 : Int32) + a1)).toNatClampNeg) - a2))).1 41) (((22 : Int32) + a1)).toNatClampNeg (((zr S10 41 (upd (S10.1 41) (((16 : Int32) + a1)).toNatClampNeg ((S10.1 41 (((16 : Int32) + a1)).toNatClampNeg) - a2))).1 41 (((22 : Int32) + a1)).toNatClampNeg) + (a2 / (3 : Int32)))))) rfl dX6_sells_69 ?_
        refine zv_bipush (v := 22) dX6_sells_72 (by decide) ?_
        refine zv_iload_n dX6_sells_74 rfl rfl ?_
        refine zv_iadd dX6_sells_75 ?_
        obtain ⟨hb15, hf⟩ := zifb hf
        refine zv_iald hb15 (wo_41 (zr (zr S10 41 (upd (S10.1 41) (((16 : Int32) + a1)).toNatClampNeg ((S10.1 41 (((16 : Int32) + a1)).toNatClampNeg) - a2))) 41 (upd ((zr S10 41 (upd (S10.1 41) (((16 : Int32) + a1)).toNatClampNeg ((S10.1 41 (((16 : Int32) + a1)).toNatClampNeg) - a2))).1 41) (((22 : Int32) + a1)).toNatClampNeg (((zr S10 41 (upd (S10.1 41) (((16 : Int32) + a1)).toNatClampNeg ((S10.1 41 (((16 : Int32) + a1)).toNatClampNeg) - a2))).1 41 (((22 : Int32) + a1)).toNatClampNeg) + (a2 / (3 : Int32)))))) dX6_sells_76 ?_
        exact zv_iret (ty := .int) dX6_sells_77 rfl rfl (zret2 wd hf)
      · replace hf := (if_neg c8).symm.trans hf
        refine zv_bipush (v := -2) dX6_sells_33 (by decide) ?_
        exact zv_iret (ty := .int) dX6_sells_35 rfl rfl (zret2 wd hf)
    · replace hf := (if_pos c6).symm.trans hf
      refine zv_iconst (v := -1) dX6_sells_18 (by decide) ?_
      exact zv_iret (ty := .int) dX6_sells_19 rfl rfl (zret2 wd hf)
-- KingPricesModel.shows(II)I height 3 writes
def f_X6_shows (S : zS) (a1 : Int32) (a2 : Int32) : Option (Int32 × zS) :=
  (zb2 (f_X6_shift S a1 a2 (10 : Int32) (4 : Int32)) (fun x2 S3 => some (x2, S3)))
set_option maxRecDepth 100000 in
set_option maxHeartbeats 4000000 in
theorem c_X6_shows  (d : Nat) (hd : 3 ≤ d) (S : zS) (a1 : Int32) (a2 : Int32) (v : Int32) (S' : zS) (hf : f_X6_shows S a1 a2 = (some (v, S'))) : zC d yX6_shows cX6_shows 3 (some .int) [.ref 31, .int a1, .int a2] (wd S) (zq (some (.int v)) (wd S')) := by
  obtain ⟨d, rfl⟩ : ∃ e, d = e + 1 := ⟨d - 1, by omega⟩
  refine zC_intro (by decide) rfl (Nat.le_of_ble_eq_true rfl) ?_
  unfold f_X6_shows at hf
  refine zv_aload_n dX6_shows_0 rfl rfl ?_
  refine zv_iload_n dX6_shows_1 rfl rfl ?_
  refine zv_iload_n dX6_shows_2 rfl rfl ?_
  refine zv_bipush (v := 10) dX6_shows_3 (by decide) ?_
  refine zv_iconst (v := 4) dX6_shows_5 (by decide) ?_
  obtain ⟨x2, S3, hc1, hf⟩ := zbind2 hf
  refine zv_callV dX6_shows_6 zk_X6_119 zm_X6_shift (c_X6_shift  d (by omega) S a1 a2 (10 : Int32) (4 : Int32) x2 S3 hc1) (wo_31 S) rfl rfl rfl (Nat.le_of_ble_eq_true rfl) ?_
  exact zv_iret (ty := .int) dX6_shows_9 rfl rfl (zret2 wd hf)
-- KingPricesModel.stays()I height 1 writes
def f_X6_stays (S : zS) : Option (Int32 × zS) :=
  (if (S.1 33 0) = 0 then some ((-2 : Int32), S) else (if (S.1 41 1) = (999 : Int32) then some ((-2 : Int32), S) else ((f_X6_know S).bind (fun S4 => ((f_X6_pass S4 (1 : Int32)).bind (fun S6 => some ((S6.1 41 1), S6)))))))
set_option maxRecDepth 100000 in
set_option maxHeartbeats 4000000 in
theorem c_X6_stays  (d : Nat) (hd : 1 ≤ d) (S : zS) (v : Int32) (S' : zS) (hf : f_X6_stays S = (some (v, S'))) : zC d yX6_stays cX6_stays 1 (some .int) [.ref 31] (wd S) (zq (some (.int v)) (wd S')) := by
  obtain ⟨d, rfl⟩ : ∃ e, d = e + 1 := ⟨d - 1, by omega⟩
  refine zC_intro (by decide) rfl (Nat.le_of_ble_eq_true rfl) ?_
  unfold f_X6_stays at hf
  refine zv_aload_n dX6_stays_0 rfl rfl ?_
  refine zv_get zf_X6_13 (wo_31 S) rfl dX6_stays_1 ?_
  refine zv_iconst (v := 0) dX6_stays_4 (by decide) ?_
  refine zv_ialdK (k := 0) (by decide) (by decide) (wo_33 S) dX6_stays_5 ?_
  refine zv_if_eq (tgt := 21) dX6_stays_6 (by decide) (fun c1 => ?_) (fun c1 => ?_)
  · replace hf := (if_pos c1).symm.trans hf
    refine zv_bipush (v := -2) dX6_stays_21 (by decide) ?_
    exact zv_iret (ty := .int) dX6_stays_23 rfl rfl (zret2 wd hf)
  · replace hf := (if_neg c1).symm.trans hf
    refine zv_aload_n dX6_stays_9 rfl rfl ?_
    refine zv_get zf_X6_38 (wo_31 S) rfl dX6_stays_10 ?_
    refine zv_iconst (v := 1) dX6_stays_13 (by decide) ?_
    refine zv_ialdK (k := 1) (by decide) (by decide) (wo_41 S) dX6_stays_14 ?_
    refine zv_sipush (v := 999) dX6_stays_15 (by decide) ?_
    refine zv_icmp_ne (tgt := 24) dX6_stays_18 (by decide) (fun c2 => ?_) (fun c2 => ?_)
    · replace hf := (if_neg c2).symm.trans hf
      refine zv_aload_n dX6_stays_24 rfl rfl ?_
      obtain ⟨S4, hc3, hf⟩ := zbind hf
      refine zv_callV dX6_stays_25 zk_X6_113 zm_X6_know (c_X6_know  d S S4 hc3) (wo_31 S) rfl rfl rfl (Nat.le_of_ble_eq_true rfl) ?_
      refine zv_aload_n dX6_stays_28 rfl rfl ?_
      refine zv_iconst (v := 1) dX6_stays_29 (by decide) ?_
      obtain ⟨S6, hc5, hf⟩ := zbind hf
      refine zv_callV dX6_stays_30 zk_X6_116 zm_X6_pass (c_X6_pass  d S4 (1 : Int32) S6 hc5) (wo_31 S4) rfl rfl rfl (Nat.le_of_ble_eq_true rfl) ?_
      refine zv_aload_n dX6_stays_33 rfl rfl ?_
      refine zv_get zf_X6_38 (wo_31 S6) rfl dX6_stays_34 ?_
      refine zv_iconst (v := 1) dX6_stays_37 (by decide) ?_
      refine zv_ialdK (k := 1) (by decide) (by decide) (wo_41 S6) dX6_stays_38 ?_
      exact zv_iret (ty := .int) dX6_stays_39 rfl rfl (zret2 wd hf)
    · replace hf := (if_pos c2).symm.trans hf
      refine zv_bipush (v := -2) dX6_stays_21 (by decide) ?_
      exact zv_iret (ty := .int) dX6_stays_23 rfl rfl (zret2 wd hf)
-- KingPricesModel.takes(I)I height 1 writes
def f_X6_takes (S : zS) (a1 : Int32) : Option (Int32 × zS) :=
  ((f_X6_in a1 (1 : Int32) (60 : Int32)).bind (fun x2 => (if x2 = 0 then some ((-1 : Int32), S) else (if (S.1 33 0) = 0 then some ((-2 : Int32), S) else (if zin (S.1 41 0) 12 then (if (S.1 36 ((S.1 41 0)).toNatClampNeg) = (1 : Int32) then some ((-2 : Int32), S) else (if zin ((4 : Int32) + (S.1 41 0)) 927 then (if (S.1 41 (((4 : Int32) + (S.1 41 0))).toNatClampNeg) < a1 then some ((-2 : Int32), S) else (if (999 : Int32) < ((S.1 41 2) + a1) then some ((-2 : Int32), S) else (if zin ((16 : Int32) + (S.1 41 0)) 927 then (if ((S.1 41 (((16 : Int32) + (S.1 41 0))).toNatClampNeg) + (((S.1 40 1) * a1) / (10 : Int32))) ≤ (999 : Int32) then ((f_X6_know S).bind (fun S13 => (if zin ((4 : Int32) + (S.1 41 0)) 927 then (if zin ((4 : Int32) + (S.1 41 0)) 927 then (if zin ((16 : Int32) + (S.1 41 0)) 927 then (if zin ((16 : Int32) + (S.1 41 0)) 927 then some ((((S.1 40 1) * a1) / (10 : Int32)), (zr (zr (zr S13 41 (upd (S13.1 41) (((4 : Int32) + (S.1 41 0))).toNatClampNeg ((S13.1 41 (((4 : Int32) + (S.1 41 0))).toNatClampNeg) - a1))) 41 (upd ((zr S13 41 (upd (S13.1 41) (((4 : Int32) + (S.1 41 0))).toNatClampNeg ((S13.1 41 (((4 : Int32) + (S.1 41 0))).toNatClampNeg) - a1))).1 41) 2 (((zr S13 41 (upd (S13.1 41) (((4 : Int32) + (S.1 41 0))).toNatClampNeg ((S13.1 41 (((4 : Int32) + (S.1 41 0))).toNatClampNeg) - a1))).1 41 2) + a1))) 41 (upd ((zr (zr S13 41 (upd (S13.1 41) (((4 : Int32) + (S.1 41 0))).toNatClampNeg ((S13.1 41 (((4 : Int32) + (S.1 41 0))).toNatClampNeg) - a1))) 41 (upd ((zr S13 41 (upd (S13.1 41) (((4 : Int32) + (S.1 41 0))).toNatClampNeg ((S13.1 41 (((4 : Int32) + (S.1 41 0))).toNatClampNeg) - a1))).1 41) 2 (((zr S13 41 (upd (S13.1 41) (((4 : Int32) + (S.1 41 0))).toNatClampNeg ((S13.1 41 (((4 : Int32) + (S.1 41 0))).toNatClampNeg) - a1))).1 41 2) + a1))).1 41) (((16 : Int32) + (S.1 41 0))).toNatClampNeg (((zr (zr S13 41 (upd (S13.1 41) (((4 : Int32) + (S.1 41 0))).toNatClampNeg ((S13.1 41 (((4 : Int32) + (S.1 41 0))).toNatClampNeg) - a1))) 41 (upd ((zr S13 41 (upd (S13.1 41) (((4 : Int32) + (S.1 41 0))).toNatClampNeg ((S13.1 41 (((4 : Int32) + (S.1 41 0))).toNatClampNeg) - a1))).1 41) 2 (((zr S13 41 (upd (S13.1 41) (((4 : Int32) + (S.1 41 0))).toNatClampNeg ((S13.1 41 (((4 : Int32) + (S.1 41 0))).toNatClampNeg) - a1))).1 41 2) + a1))).1 41 (((16 : Int32) + (S.1 41 0))).toNatClampNeg) + (((S.1 40 1) * a1) / (10 : Int32)))))) else none) else none) else none) else none))) else some ((-2 : Int32), S)) else none))) else none)) else none)))))
set_option maxRecDepth 100000 in
set_option maxHeartbeats 4000000 in
theorem c_X6_takes  (d : Nat) (hd : 1 ≤ d) (S : zS) (a1 : Int32) (v : Int32) (S' : zS) (hf : f_X6_takes S a1 = (some (v, S'))) : zC d yX6_takes cX6_takes 4 (some .int) [.ref 31, .int a1] (wd S) (zq (some (.int v)) (wd S')) := by
  obtain ⟨d, rfl⟩ : ∃ e, d = e + 1 := ⟨d - 1, by omega⟩
  refine zC_intro (by decide) rfl (Nat.le_of_ble_eq_true rfl) ?_
  unfold f_X6_takes at hf
  refine zv_iload_n dX6_takes_0 rfl rfl ?_
  refine zv_iconst (v := 1) dX6_takes_1 (by decide) ?_
  refine zv_bipush (v := 60) dX6_takes_2 (by decide) ?_
  obtain ⟨x2, hc1, hf⟩ := zbind hf
  refine zv_callS dX6_takes_4 zk_X6_54 zm_X6_in (c_X6_in  d a1 (1 : Int32) (60 : Int32) x2 hc1) rfl rfl (Nat.le_of_ble_eq_true rfl) ?_
  refine zv_if_ne (tgt := 12) dX6_takes_7 (by decide) (fun c3 => ?_) (fun c3 => ?_)
  · replace hf := (if_neg c3).symm.trans hf
    refine zv_aload_n dX6_takes_12 rfl rfl ?_
    refine zv_get zf_X6_13 (wo_31 S) rfl dX6_takes_13 ?_
    refine zv_iconst (v := 0) dX6_takes_16 (by decide) ?_
    refine zv_ialdK (k := 0) (by decide) (by decide) (wo_33 S) dX6_takes_17 ?_
    refine zv_if_ne (tgt := 24) dX6_takes_18 (by decide) (fun c4 => ?_) (fun c4 => ?_)
    · replace hf := (if_neg c4).symm.trans hf
      refine zv_aload_n dX6_takes_24 rfl rfl ?_
      refine zv_get zf_X6_38 (wo_31 S) rfl dX6_takes_25 ?_
      refine zv_iconst (v := 0) dX6_takes_28 (by decide) ?_
      refine zv_ialdK (k := 0) (by decide) (by decide) (wo_41 S) dX6_takes_29 ?_
      refine zv_istore_n dX6_takes_30 rfl (by decide) ?_
      refine zv_aload_n dX6_takes_31 rfl rfl ?_
      refine zv_get zf_X6_35 (wo_31 S) rfl dX6_takes_32 ?_
      refine zv_iconst (v := 1) dX6_takes_35 (by decide) ?_
      refine zv_ialdK (k := 1) (by decide) (by decide) (wo_40 S) dX6_takes_36 ?_
      refine zv_iload_n dX6_takes_37 rfl rfl ?_
      refine zv_imul dX6_takes_38 ?_
      refine zv_bipush (v := 10) dX6_takes_39 (by decide) ?_
      refine zv_idiv (by decide) dX6_takes_41 ?_
      refine zv_istore_n dX6_takes_42 rfl (by decide) ?_
      refine zv_aload_n dX6_takes_43 rfl rfl ?_
      refine zv_get zf_X6_23 (wo_31 S) rfl dX6_takes_44 ?_
      refine zv_iload_n dX6_takes_47 rfl rfl ?_
      obtain ⟨hb5, hf⟩ := zifb hf
      refine zv_iald hb5 (wo_36 S) dX6_takes_48 ?_
      refine zv_iconst (v := 1) dX6_takes_49 (by decide) ?_
      refine zv_icmp_eq (tgt := 96) dX6_takes_50 (by decide) (fun c6 => ?_) (fun c6 => ?_)
      · replace hf := (if_pos c6).symm.trans hf
        refine zv_bipush (v := -2) dX6_takes_96 (by decide) ?_
        exact zv_iret (ty := .int) dX6_takes_98 rfl rfl (zret2 wd hf)
      · replace hf := (if_neg c6).symm.trans hf
        refine zv_aload_n dX6_takes_53 rfl rfl ?_
        refine zv_get zf_X6_38 (wo_31 S) rfl dX6_takes_54 ?_
        refine zv_iconst (v := 4) dX6_takes_57 (by decide) ?_
        refine zv_iload_n dX6_takes_58 rfl rfl ?_
        refine zv_iadd dX6_takes_59 ?_
        obtain ⟨hb7, hf⟩ := zifb hf
        refine zv_iald hb7 (wo_41 S) dX6_takes_60 ?_
        refine zv_iload_n dX6_takes_61 rfl rfl ?_
        refine zv_icmp_lt (tgt := 96) dX6_takes_62 (by decide) (fun c8 => ?_) (fun c8 => ?_)
        · replace hf := (if_pos c8).symm.trans hf
          refine zv_bipush (v := -2) dX6_takes_96 (by decide) ?_
          exact zv_iret (ty := .int) dX6_takes_98 rfl rfl (zret2 wd hf)
        · replace hf := (if_neg c8).symm.trans hf
          refine zv_aload_n dX6_takes_65 rfl rfl ?_
          refine zv_get zf_X6_38 (wo_31 S) rfl dX6_takes_66 ?_
          refine zv_iconst (v := 2) dX6_takes_69 (by decide) ?_
          refine zv_ialdK (k := 2) (by decide) (by decide) (wo_41 S) dX6_takes_70 ?_
          refine zv_iload_n dX6_takes_71 rfl rfl ?_
          refine zv_iadd dX6_takes_72 ?_
          refine zv_sipush (v := 999) dX6_takes_73 (by decide) ?_
          refine zv_icmp_gt (tgt := 96) dX6_takes_76 (by decide) (fun c9 => ?_) (fun c9 => ?_)
          · replace hf := (if_pos c9).symm.trans hf
            refine zv_bipush (v := -2) dX6_takes_96 (by decide) ?_
            exact zv_iret (ty := .int) dX6_takes_98 rfl rfl (zret2 wd hf)
          · replace hf := (if_neg c9).symm.trans hf
            refine zv_aload_n dX6_takes_79 rfl rfl ?_
            refine zv_get zf_X6_38 (wo_31 S) rfl dX6_takes_80 ?_
            refine zv_bipush (v := 16) dX6_takes_83 (by decide) ?_
            refine zv_iload_n dX6_takes_85 rfl rfl ?_
            refine zv_iadd dX6_takes_86 ?_
            obtain ⟨hb10, hf⟩ := zifb hf
            refine zv_iald hb10 (wo_41 S) dX6_takes_87 ?_
            refine zv_iload_n dX6_takes_88 rfl rfl ?_
            refine zv_iadd dX6_takes_89 ?_
            refine zv_sipush (v := 999) dX6_takes_90 (by decide) ?_
            refine zv_icmp_le (tgt := 99) dX6_takes_93 (by decide) (fun c11 => ?_) (fun c11 => ?_)
            · replace hf := (if_pos c11).symm.trans hf
              refine zv_aload_n dX6_takes_99 rfl rfl ?_
              obtain ⟨S13, hc12, hf⟩ := zbind hf
              refine zv_callV dX6_takes_100 zk_X6_113 zm_X6_know (c_X6_know  d S S13 hc12) (wo_31 S) rfl rfl rfl (Nat.le_of_ble_eq_true rfl) ?_
              refine zv_aload_n dX6_takes_103 rfl rfl ?_
              refine zv_get zf_X6_38 (wo_31 S13) rfl dX6_takes_104 ?_
              refine zv_iconst (v := 4) dX6_takes_107 (by decide) ?_
              refine zv_iload_n dX6_takes_108 rfl rfl ?_
              refine zv_iadd dX6_takes_109 ?_
              refine zv_dup2 dX6_takes_110 rfl rfl ?_
              obtain ⟨hb14, hf⟩ := zifb hf
              refine zv_iald hb14 (wo_41 S13) dX6_takes_111 ?_
              refine zv_iload_n dX6_takes_112 rfl rfl ?_
              refine zv_isub dX6_takes_113 ?_
              obtain ⟨hb15, hf⟩ := zifb hf
              refine zv_iast hb15 (wo_41 S13) (ws_41 S13 (upd (S13.1 41) (((4 : Int32) + (S.1 41 0))).toNatClampNeg ((S13.1 41 (((4 : Int32) + (S.1 41 0))).toNatClampNeg) - a1))) dX6_takes_114 ?_
              refine zv_aload_n dX6_takes_115 rfl rfl ?_
              refine zv_get zf_X6_38 (wo_31 (zr S13 41 (upd (S13.1 41) (((4 : Int32) + (S.1 41 0))).toNatClampNeg ((S13.1 41 (((4 : Int32) + (S.1 41 0))).toNatClampNeg) - a1)))) rfl dX6_takes_116 ?_
              refine zv_iconst (v := 2) dX6_takes_119 (by decide) ?_
              refine zv_dup2 dX6_takes_120 rfl rfl ?_
              refine zv_ialdK (k := 2) (by decide) (by decide) (wo_41 (zr S13 41 (upd (S13.1 41) (((4 : Int32) + (S.1 41 0))).toNatClampNeg ((S13.1 41 (((4 : Int32) + (S.1 41 0))).toNatClampNeg) - a1)))) dX6_takes_121 ?_
              refine zv_iload_n dX6_takes_122 rfl rfl ?_
              refine zv_iadd dX6_takes_123 ?_
              refine zv_iastK (k := 2) (by decide) (by decide) (wo_41 (zr S13 41 (upd (S13.1 41) (((4 : Int32) + (S.1 41 0))).toNatClampNeg ((S13.1 41 (((4 : Int32) + (S.1 41 0))).toNatClampNeg) - a1)))) (ws_41 (zr S13 41 (upd (S13.1 41) (((4 : Int32) + (S.1 41 0))).toNatClampNeg ((S13.1 41 (((4 : Int32) + (S.1 41 0))).toNatClampNeg) - a1))) (upd ((zr S13 41 (upd (S13.1 41) (((4 : Int32) + (S.1 41 0))).toNatClampNeg ((S13.1 41 (((4 : Int32) + (S.1 41 0))).toNatClampNeg) - a1))).1 41) 2 (((zr S13 41 (upd (S13.1 41) (((4 : Int32) + (S.1 41 0))).toNatClampNeg ((S13.1 41 (((4 : Int32) + (S.1 41 0))).toNatClampNeg) - a1))).1 41 2) + a1))) dX6_takes_124 ?_
              refine zv_aload_n dX6_takes_125 rfl rfl ?_
              refine zv_get zf_X6_38 (wo_31 (zr (zr S13 41 (upd (S13.1 41) (((4 : Int32) + (S.1 41 0))).toNatClampNeg ((S13.1 41 (((4 : Int32) + (S.1 41 0))).toNatClampNeg) - a1))) 41 (upd ((zr S13 41 (upd (S13.1 41) (((4 : Int32) + (S.1 41 0))).toNatClampNeg ((S13.1 41 (((4 : Int32) + (S.1 41 0))).toNatClampNeg) - a1))).1 41) 2 (((zr S13 41 (upd (S13.1 41) (((4 : Int32) + (S.1 41 0))).toNatClampNeg ((S13.1 41 (((4 : Int32) + (S.1 41 0))).toNatClampNeg) - a1))).1 41 2) + a1)))) rfl dX6_takes_126 ?_
              refine zv_bipush (v := 16) dX6_takes_129 (by decide) ?_
              refine zv_iload_n dX6_takes_131 rfl rfl ?_
              refine zv_iadd dX6_takes_132 ?_
              refine zv_dup2 dX6_takes_133 rfl rfl ?_
              obtain ⟨hb16, hf⟩ := zifb hf
              refine zv_iald hb16 (wo_41 (zr (zr S13 41 (upd (S13.1 41) (((4 : Int32) + (S.1 41 0))).toNatClampNeg ((S13.1 41 (((4 : Int32) + (S.1 41 0))).toNatClampNeg) - a1))) 41 (upd ((zr S13 41 (upd (S13.1 41) (((4 : Int32) + (S.1 41 0))).toNatClampNeg ((S13.1 41 (((4 : Int32) + (S.1 41 0))).toNatClampNeg) - a1))).1 41) 2 (((zr S13 41 (upd (S13.1 41) (((4 : Int32) + (S.1 41 0))).toNatClampNeg ((S13.1 41 (((4 : Int32) + (S.1 41 0))).toNatClampNeg) - a1))).1 41 2) + a1)))) dX6_takes_134 ?_
              refine zv_iload_n dX6_takes_135 rfl rfl ?_
              refine zv_iadd dX6_takes_136 ?_
              obtain ⟨hb17, hf⟩ := zifb hf
              refine zv_iast hb17 (wo_41 (zr (zr S13 41 (upd (S13.1 41) (((4 : Int32) + (S.1 41 0))).toNatClampNeg ((S13.1 41 (((4 : Int32) + (S.1 41 0))).toNatClampNeg) - a1))) 41 (upd ((zr S13 41 (upd (S13.1 41) (((4 : Int32) + (S.1 41 0))).toNatClampNeg ((S13.1 41 (((4 : Int32) + (S.1 41 0))).toNatClampNeg) - a1))).1 41) 2 (((zr S13 41 (upd (S13.1 41) (((4 : Int32) + (S.1 41 0))).toNatClampNeg ((S13.1 41 (((4 : Int32) + (S.1 41 0))).toNatClampNeg) - a1))).1 41 2) + a1)))) (ws_41 (zr (zr S13 41 (upd (S13.1 41) (((4 : Int32) + (S.1 41 0))).toNatClampNeg ((S13.1 41 (((4 : Int32) + (S.1 41 0))).toNatClampNeg) - a1))) 41 (upd ((zr S13 41 (upd (S13.1 41) (((4 : Int32) + (S.1 41 0))).toNatClampNeg ((S13.1 41 (((4 : Int32) + (S.1 41 0))).toNatClampNeg) - a1))).1 41) 2 (((zr S13 41 (upd (S13.1 41) (((4 : Int32) + (S.1 41 0))).toNatClampNeg ((S13.1 41 (((4 : Int32) + (S.1 41 0))).toNatClampNeg) - a1))).1 41 2) + a1))) (upd ((zr (zr S13 41 (upd (S13.1 41) (((4 : Int32) + (S.1 41 0))).toNatClampNeg ((S13.1 41 (((4 : Int32) + (S.1 41 0))).toNatClampNeg) - a1))) 41 (upd ((zr S13 41 (upd (S13.1 41) (((4 : Int32) + (S.1 41 0))).toNatClampNeg ((S13.1 41 (((4 : Int32) + (S.1 41 0))).toNatClampNeg) - a1))).1 41) 2 (((zr S13 41 (upd (S13.1 41) (((4 : Int32) + (S.1 41 0))).toNatClampNeg ((S13.1 41 (((4 : Int32) + (S.1 41 0))).toNatClampNeg) - a1))).1 41 2) + a1))).1 41) (((16 : Int32) + (S.1 41 0))).toNatClampNeg (((zr (zr S13 41 (upd (S13.1 41) (((4 : Int32) + (S.1 41 0))).toNatClampNeg ((S13.1 41 (((4 : Int32) + (S.1 41 0))).toNatClampNeg) - a1))) 41 (upd ((zr S13 41 (upd (S13.1 41) (((4 : Int32) + (S.1 41 0))).toNatClampNeg ((S13.1 41 (((4 : Int32) + (S.1 41 0))).toNatClampNeg) - a1))).1 41) 2 (((zr S13 41 (upd (S13.1 41) (((4 : Int32) + (S.1 41 0))).toNatClampNeg ((S13.1 41 (((4 : Int32) + (S.1 41 0))).toNatClampNeg) - a1))).1 41 2) + a1))).1 41 (((16 : Int32) + (S.1 41 0))).toNatClampNeg) + (((S.1 40 1) * a1) / (10 : Int32))))) dX6_takes_137 ?_
              refine zv_iload_n dX6_takes_138 rfl rfl ?_
              exact zv_iret (ty := .int) dX6_takes_139 rfl rfl (zret2 wd hf)
            · replace hf := (if_neg c11).symm.trans hf
              refine zv_bipush (v := -2) dX6_takes_96 (by decide) ?_
              exact zv_iret (ty := .int) dX6_takes_98 rfl rfl (zret2 wd hf)
    · replace hf := (if_pos c4).symm.trans hf
      refine zv_bipush (v := -2) dX6_takes_21 (by decide) ?_
      exact zv_iret (ty := .int) dX6_takes_23 rfl rfl (zret2 wd hf)
  · replace hf := (if_pos c3).symm.trans hf
    refine zv_iconst (v := -1) dX6_takes_10 (by decide) ?_
    exact zv_iret (ty := .int) dX6_takes_11 rfl rfl (zret2 wd hf)
-- KingPricesModel.daysOf(II)I height 1 reads
def f_X6_daysOf_32  : Nat → zS → Int32 → Int32 → Int32 → Int32 → Int32 → Int32 → Int32 → Int32 → Option Int32
  | 0, _, _, _, _, _, _, _, _, _ => none
  | n + 1, S, a1, a2, a3, a4, a5, a6, a7, a8 => (if a1 ≤ a8 then (if a2 ≤ a6 then some a7 else some ((-9 : Int32))) else (if zin a8 6 then (if (S.1 33 0) ≤ (S.1 43 (a8).toNatClampNeg) then some ((-9 : Int32)) else (if ((a3 >>> ((S.1 43 (a8).toNatClampNeg) &&& 31)) &&& (1 : Int32)) = (1 : Int32) then some ((-9 : Int32)) else (if zin (((6 : Int32) * a4) + (S.1 43 (a8).toNatClampNeg)) 72 then (if (1000 : Int32) ≤ (S.1 38 ((((6 : Int32) * a4) + (S.1 43 (a8).toNatClampNeg))).toNatClampNeg) then some ((-9 : Int32)) else (if ((S.1 40 0) * (S.1 38 ((((6 : Int32) * a4) + (S.1 43 (a8).toNatClampNeg))).toNatClampNeg)) ≤ a5 then ((f_X6_spare S (S.1 43 (a8).toNatClampNeg)).bind (fun x10 => ((f_X6_spare S (S.1 43 (a8).toNatClampNeg)).bind (fun x12 => f_X6_daysOf_32  n S a1 a2 (a3 ||| ((1 : Int32) <<< ((S.1 43 (a8).toNatClampNeg) &&& 31))) (S.1 43 (a8).toNatClampNeg) (a5 + (x10 - ((S.1 40 0) * (S.1 38 ((((6 : Int32) * a4) + (S.1 43 (a8).toNatClampNeg))).toNatClampNeg)))) (a6 + x12) (a7 + (S.1 38 ((((6 : Int32) * a4) + (S.1 43 (a8).toNatClampNeg))).toNatClampNeg)) (a8 + (1 : Int32)))))) else some ((-9 : Int32)))) else none))) else none))
set_option maxRecDepth 100000 in
set_option maxHeartbeats 4000000 in
theorem v_X6_daysOf_32 (d : Nat) (hd : 0 ≤ d) : ∀ (n : Nat) (S : zS) (a1 : Int32) (a2 : Int32) (a3 : Int32) (a4 : Int32) (a5 : Int32) (a6 : Int32) (a7 : Int32) (a8 : Int32) (v : Int32), f_X6_daysOf_32  n S a1 a2 a3 a4 a5 a6 a7 a8 = (some v) → zV none (d + 1) yX6_daysOf cX6_daysOf 11 (some .int) 32 [(0, .ref 31), (1, .int a1), (2, .int a2), (3, .int a3), (4, .int a4), (5, .int a5), (6, .int a6), (7, .int a7), (8, .int a8)] [] (wd S) (zq (some (.int v)) (wd S)) := by
  intro n
  induction n with
  | zero =>
    intro S a1 a2 a3 a4 a5 a6 a7 a8 v hf
    cases hf
  | succ n ih =>
    intro S a1 a2 a3 a4 a5 a6 a7 a8 v hf
    rw [f_X6_daysOf_32] at hf
    refine zv_iload dX6_daysOf_32 rfl ?_
    refine zv_iload_n dX6_daysOf_34 rfl rfl ?_
    refine zv_icmp_ge (tgt := 167) dX6_daysOf_35 (by decide) (fun c1 => ?_) (fun c1 => ?_)
    · replace hf := (if_pos c1).symm.trans hf
      refine zv_iload dX6_daysOf_167 rfl ?_
      refine zv_iload_n dX6_daysOf_169 rfl rfl ?_
      refine zv_icmp_ge (tgt := 178) dX6_daysOf_170 (by decide) (fun c2 => ?_) (fun c2 => ?_)
      · replace hf := (if_pos c2).symm.trans hf
        refine zv_iload dX6_daysOf_178 rfl ?_
        exact zv_iret (ty := .int) dX6_daysOf_180 rfl rfl (zret1 hf)
      · replace hf := (if_neg c2).symm.trans hf
        refine zv_bipush (v := -9) dX6_daysOf_173 (by decide) ?_
        refine zv_goto (tgt := 180) dX6_daysOf_175 (by decide) ?_
        exact zv_iret (ty := .int) dX6_daysOf_180 rfl rfl (zret1 hf)
    · replace hf := (if_neg c1).symm.trans hf
      refine zv_aload_n dX6_daysOf_38 rfl rfl ?_
      refine zv_get zf_X6_45 (wo_31 S) rfl dX6_daysOf_39 ?_
      refine zv_iload dX6_daysOf_42 rfl ?_
      obtain ⟨hb3, hf⟩ := zifb hf
      refine zv_iald hb3 (wo_43 S) dX6_daysOf_44 ?_
      refine zv_istore dX6_daysOf_45 (by decide) ?_
      refine zv_iload dX6_daysOf_47 rfl ?_
      refine zv_aload_n dX6_daysOf_49 rfl rfl ?_
      refine zv_get zf_X6_13 (wo_31 S) rfl dX6_daysOf_50 ?_
      refine zv_iconst (v := 0) dX6_daysOf_53 (by decide) ?_
      refine zv_ialdK (k := 0) (by decide) (by decide) (wo_33 S) dX6_daysOf_54 ?_
      refine zv_icmp_ge (tgt := 68) dX6_daysOf_55 (by decide) (fun c4 => ?_) (fun c4 => ?_)
      · replace hf := (if_pos c4).symm.trans hf
        refine zv_bipush (v := -9) dX6_daysOf_68 (by decide) ?_
        exact zv_iret (ty := .int) dX6_daysOf_70 rfl rfl (zret1 hf)
      · replace hf := (if_neg c4).symm.trans hf
        refine zv_iload_n dX6_daysOf_58 rfl rfl ?_
        refine zv_iload dX6_daysOf_59 rfl ?_
        refine zv_ishr dX6_daysOf_61 ?_
        refine zv_iconst (v := 1) dX6_daysOf_62 (by decide) ?_
        refine zv_iand dX6_daysOf_63 ?_
        refine zv_iconst (v := 1) dX6_daysOf_64 (by decide) ?_
        refine zv_icmp_ne (tgt := 71) dX6_daysOf_65 (by decide) (fun c5 => ?_) (fun c5 => ?_)
        · replace hf := (if_neg c5).symm.trans hf
          refine zv_aload_n dX6_daysOf_71 rfl rfl ?_
          refine zv_get zf_X6_29 (wo_31 S) rfl dX6_daysOf_72 ?_
          refine zv_bipush (v := 6) dX6_daysOf_75 (by decide) ?_
          refine zv_iload dX6_daysOf_77 rfl ?_
          refine zv_imul dX6_daysOf_79 ?_
          refine zv_iload dX6_daysOf_80 rfl ?_
          refine zv_iadd dX6_daysOf_82 ?_
          obtain ⟨hb6, hf⟩ := zifb hf
          refine zv_iald hb6 (wo_38 S) dX6_daysOf_83 ?_
          refine zv_istore dX6_daysOf_84 (by decide) ?_
          refine zv_iload dX6_daysOf_86 rfl ?_
          refine zv_sipush (v := 1000) dX6_daysOf_88 (by decide) ?_
          refine zv_icmp_ge (tgt := 108) dX6_daysOf_91 (by decide) (fun c7 => ?_) (fun c7 => ?_)
          · replace hf := (if_pos c7).symm.trans hf
            refine zv_bipush (v := -9) dX6_daysOf_108 (by decide) ?_
            exact zv_iret (ty := .int) dX6_daysOf_110 rfl rfl (zret1 hf)
          · replace hf := (if_neg c7).symm.trans hf
            refine zv_iload dX6_daysOf_94 rfl ?_
            refine zv_aload_n dX6_daysOf_96 rfl rfl ?_
            refine zv_get zf_X6_35 (wo_31 S) rfl dX6_daysOf_97 ?_
            refine zv_iconst (v := 0) dX6_daysOf_100 (by decide) ?_
            refine zv_ialdK (k := 0) (by decide) (by decide) (wo_40 S) dX6_daysOf_101 ?_
            refine zv_iload dX6_daysOf_102 rfl ?_
            refine zv_imul dX6_daysOf_104 ?_
            refine zv_icmp_ge (tgt := 111) dX6_daysOf_105 (by decide) (fun c8 => ?_) (fun c8 => ?_)
            · replace hf := (if_pos c8).symm.trans hf
              refine zv_iload_n dX6_daysOf_111 rfl rfl ?_
              refine zv_iconst (v := 1) dX6_daysOf_112 (by decide) ?_
              refine zv_iload dX6_daysOf_113 rfl ?_
              refine zv_ishl dX6_daysOf_115 ?_
              refine zv_ior dX6_daysOf_116 ?_
              refine zv_istore_n dX6_daysOf_117 rfl (by decide) ?_
              refine zv_iload dX6_daysOf_118 rfl ?_
              refine zv_aload_n dX6_daysOf_120 rfl rfl ?_
              refine zv_iload dX6_daysOf_121 rfl ?_
              obtain ⟨x10, hc9, hf⟩ := zbind hf
              refine zv_callV dX6_daysOf_123 zk_X6_110 zm_X6_spare (c_X6_spare  d S (S.1 43 (a8).toNatClampNeg) x10 hc9) (wo_31 S) rfl rfl rfl (Nat.le_of_ble_eq_true rfl) ?_
              refine zv_aload_n dX6_daysOf_126 rfl rfl ?_
              refine zv_get zf_X6_35 (wo_31 S) rfl dX6_daysOf_127 ?_
              refine zv_iconst (v := 0) dX6_daysOf_130 (by decide) ?_
              refine zv_ialdK (k := 0) (by decide) (by decide) (wo_40 S) dX6_daysOf_131 ?_
              refine zv_iload dX6_daysOf_132 rfl ?_
              refine zv_imul dX6_daysOf_134 ?_
              refine zv_isub dX6_daysOf_135 ?_
              refine zv_iadd dX6_daysOf_136 ?_
              refine zv_istore dX6_daysOf_137 (by decide) ?_
              refine zv_iload dX6_daysOf_139 rfl ?_
              refine zv_aload_n dX6_daysOf_141 rfl rfl ?_
              refine zv_iload dX6_daysOf_142 rfl ?_
              obtain ⟨x12, hc11, hf⟩ := zbind hf
              refine zv_callV dX6_daysOf_144 zk_X6_110 zm_X6_spare (c_X6_spare  d S (S.1 43 (a8).toNatClampNeg) x12 hc11) (wo_31 S) rfl rfl rfl (Nat.le_of_ble_eq_true rfl) ?_
              refine zv_iadd dX6_daysOf_147 ?_
              refine zv_istore dX6_daysOf_148 (by decide) ?_
              refine zv_iload dX6_daysOf_150 rfl ?_
              refine zv_iload dX6_daysOf_152 rfl ?_
              refine zv_iadd dX6_daysOf_154 ?_
              refine zv_istore dX6_daysOf_155 (by decide) ?_
              refine zv_iload dX6_daysOf_157 rfl ?_
              refine zv_istore dX6_daysOf_159 (by decide) ?_
              refine zv_iinc (v := 1) dX6_daysOf_161 rfl (by decide) (by decide) ?_
              refine zv_goto (tgt := 32) dX6_daysOf_164 (by decide) ?_
              exact zV_sub ([(0, .ref 31), (1, .int a1), (2, .int a2), (3, .int (a3 ||| ((1 : Int32) <<< ((S.1 43 (a8).toNatClampNeg) &&& 31)))), (4, .int (S.1 43 (a8).toNatClampNeg)), (5, .int (a5 + (x10 - ((S.1 40 0) * (S.1 38 ((((6 : Int32) * a4) + (S.1 43 (a8).toNatClampNeg))).toNatClampNeg))))), (6, .int (a6 + x12)), (7, .int (a7 + (S.1 38 ((((6 : Int32) * a4) + (S.1 43 (a8).toNatClampNeg))).toNatClampNeg))), (8, .int (a8 + (1 : Int32)))]) ⟨rfl, rfl, rfl, rfl, rfl, rfl, rfl, rfl, rfl, trivial⟩ (ih S a1 a2 (a3 ||| ((1 : Int32) <<< ((S.1 43 (a8).toNatClampNeg) &&& 31))) (S.1 43 (a8).toNatClampNeg) (a5 + (x10 - ((S.1 40 0) * (S.1 38 ((((6 : Int32) * a4) + (S.1 43 (a8).toNatClampNeg))).toNatClampNeg)))) (a6 + x12) (a7 + (S.1 38 ((((6 : Int32) * a4) + (S.1 43 (a8).toNatClampNeg))).toNatClampNeg)) (a8 + (1 : Int32)) _ hf)
            · replace hf := (if_neg c8).symm.trans hf
              refine zv_bipush (v := -9) dX6_daysOf_108 (by decide) ?_
              exact zv_iret (ty := .int) dX6_daysOf_110 rfl rfl (zret1 hf)
        · replace hf := (if_pos c5).symm.trans hf
          refine zv_bipush (v := -9) dX6_daysOf_68 (by decide) ?_
          exact zv_iret (ty := .int) dX6_daysOf_70 rfl rfl (zret1 hf)
def f_X6_daysOf (S : zS) (a1 : Int32) (a2 : Int32) : Option Int32 :=
  f_X6_daysOf_32 zN S a1 a2 (0 : Int32) (S.1 41 0) (S.1 41 2) (S.1 41 2) (0 : Int32) (0 : Int32)
set_option maxRecDepth 100000 in
set_option maxHeartbeats 4000000 in
theorem c_X6_daysOf  (d : Nat) (hd : 1 ≤ d) (S : zS) (a1 : Int32) (a2 : Int32) (v : Int32) (hf : f_X6_daysOf S a1 a2 = (some v)) : zC d yX6_daysOf cX6_daysOf 11 (some .int) [.ref 31, .int a1, .int a2] (wd S) (zq (some (.int v)) (wd S)) := by
  obtain ⟨d, rfl⟩ : ∃ e, d = e + 1 := ⟨d - 1, by omega⟩
  refine zC_intro (by decide) rfl (Nat.le_of_ble_eq_true rfl) ?_
  unfold f_X6_daysOf at hf
  refine zv_iconst (v := 0) dX6_daysOf_0 (by decide) ?_
  refine zv_istore_n dX6_daysOf_1 rfl (by decide) ?_
  refine zv_aload_n dX6_daysOf_2 rfl rfl ?_
  refine zv_get zf_X6_38 (wo_31 S) rfl dX6_daysOf_3 ?_
  refine zv_iconst (v := 0) dX6_daysOf_6 (by decide) ?_
  refine zv_ialdK (k := 0) (by decide) (by decide) (wo_41 S) dX6_daysOf_7 ?_
  refine zv_istore dX6_daysOf_8 (by decide) ?_
  refine zv_aload_n dX6_daysOf_10 rfl rfl ?_
  refine zv_get zf_X6_38 (wo_31 S) rfl dX6_daysOf_11 ?_
  refine zv_iconst (v := 2) dX6_daysOf_14 (by decide) ?_
  refine zv_ialdK (k := 2) (by decide) (by decide) (wo_41 S) dX6_daysOf_15 ?_
  refine zv_istore dX6_daysOf_16 (by decide) ?_
  refine zv_aload_n dX6_daysOf_18 rfl rfl ?_
  refine zv_get zf_X6_38 (wo_31 S) rfl dX6_daysOf_19 ?_
  refine zv_iconst (v := 2) dX6_daysOf_22 (by decide) ?_
  refine zv_ialdK (k := 2) (by decide) (by decide) (wo_41 S) dX6_daysOf_23 ?_
  refine zv_istore dX6_daysOf_24 (by decide) ?_
  refine zv_iconst (v := 0) dX6_daysOf_26 (by decide) ?_
  refine zv_istore dX6_daysOf_27 (by decide) ?_
  refine zv_iconst (v := 0) dX6_daysOf_29 (by decide) ?_
  refine zv_istore dX6_daysOf_30 (by decide) ?_
  exact zV_sub ([(0, .ref 31), (1, .int a1), (2, .int a2), (3, .int (0 : Int32)), (4, .int (S.1 41 0)), (5, .int (S.1 41 2)), (6, .int (S.1 41 2)), (7, .int (0 : Int32)), (8, .int (0 : Int32))]) ⟨rfl, rfl, rfl, rfl, rfl, rfl, rfl, rfl, rfl, trivial⟩ (v_X6_daysOf_32 d (by omega) zN S a1 a2 (0 : Int32) (S.1 41 0) (S.1 41 2) (S.1 41 2) (0 : Int32) (0 : Int32) _ hf)
-- KingPricesModel.findTour(I)V height 2 writes
def f_X6_findTour_95 (k10 : zS → Int32 → Int32 → Int32 → Option zS) (k32 : zS → Int32 → Int32 → Int32 → Int32 → Option zS) (S : zS) (a1 : Int32) (a2 : Int32) (a3 : Int32) (a4 : Int32) : Option zS :=
  k32 S a1 a2 a3 (a4 + (1 : Int32))
set_option maxRecDepth 100000 in
set_option maxHeartbeats 4000000 in
theorem v_X6_findTour_95 (d : Nat) (hd : 1 ≤ d) (k10 : zS → Int32 → Int32 → Int32 → Option zS) (hk10 : ∀ (S : zS) (a1 a2 a3 : Int32) S', k10 S a1 a2 a3 = (some S') → zV none (d + 1) yX6_findTour cX6_findTour 6 none 10 [(0, .ref 31), (1, .int a1), (2, .int a2), (3, .int a3)] [] (wd S) (zq none (wd S'))) (k32 : zS → Int32 → Int32 → Int32 → Int32 → Option zS) (hk32 : ∀ (S : zS) (a1 a2 a3 a4 : Int32) S', k32 S a1 a2 a3 a4 = (some S') → zV none (d + 1) yX6_findTour cX6_findTour 6 none 32 [(0, .ref 31), (1, .int a1), (2, .int a2), (3, .int a3), (4, .int a4)] [] (wd S) (zq none (wd S'))) (S : zS) (a1 : Int32) (a2 : Int32) (a3 : Int32) (a4 : Int32) (S' : zS) (hf : f_X6_findTour_95 k10 k32 S a1 a2 a3 a4 = (some S')) : zV none (d + 1) yX6_findTour cX6_findTour 6 none 95 [(0, .ref 31), (1, .int a1), (2, .int a2), (3, .int a3), (4, .int a4)] [] (wd S) (zq none (wd S')) := by
  unfold f_X6_findTour_95 at hf
  refine zv_iinc (v := 1) dX6_findTour_95 rfl (by decide) (by decide) ?_
  refine zv_goto (tgt := 32) dX6_findTour_98 (by decide) ?_
  exact zV_sub ([(0, .ref 31), (1, .int a1), (2, .int a2), (3, .int a3), (4, .int (a4 + (1 : Int32)))]) ⟨rfl, rfl, rfl, rfl, rfl, trivial⟩ (hk32 S a1 a2 a3 (a4 + (1 : Int32)) _ hf)
def f_X6_findTour_78 (k10 : zS → Int32 → Int32 → Int32 → Option zS) (k32 : zS → Int32 → Int32 → Int32 → Int32 → Option zS) (S : zS) (a1 : Int32) (a2 : Int32) (a3 : Int32) (a4 : Int32) (a5 : Int32) : Option zS :=
  f_X6_findTour_95 k10 k32 (zu (zu (zu S 31 22 a4) 31 21 a5) 31 20 a3) a1 a2 a3 a4
set_option maxRecDepth 100000 in
set_option maxHeartbeats 4000000 in
theorem v_X6_findTour_78 (d : Nat) (hd : 1 ≤ d) (k10 : zS → Int32 → Int32 → Int32 → Option zS) (hk10 : ∀ (S : zS) (a1 a2 a3 : Int32) S', k10 S a1 a2 a3 = (some S') → zV none (d + 1) yX6_findTour cX6_findTour 6 none 10 [(0, .ref 31), (1, .int a1), (2, .int a2), (3, .int a3)] [] (wd S) (zq none (wd S'))) (k32 : zS → Int32 → Int32 → Int32 → Int32 → Option zS) (hk32 : ∀ (S : zS) (a1 a2 a3 a4 : Int32) S', k32 S a1 a2 a3 a4 = (some S') → zV none (d + 1) yX6_findTour cX6_findTour 6 none 32 [(0, .ref 31), (1, .int a1), (2, .int a2), (3, .int a3), (4, .int a4)] [] (wd S) (zq none (wd S'))) (S : zS) (a1 : Int32) (a2 : Int32) (a3 : Int32) (a4 : Int32) (a5 : Int32) (S' : zS) (hf : f_X6_findTour_78 k10 k32 S a1 a2 a3 a4 a5 = (some S')) : zV none (d + 1) yX6_findTour cX6_findTour 6 none 78 [(0, .ref 31), (1, .int a1), (2, .int a2), (3, .int a3), (4, .int a4), (5, .int a5)] [] (wd S) (zq none (wd S')) := by
  unfold f_X6_findTour_78 at hf
  refine zv_aload_n dX6_findTour_78 rfl rfl ?_
  refine zv_iload dX6_findTour_79 rfl ?_
  refine zv_put zp_X6_123 (wo_31 S) rfl (fun _ => ⟨rfl, rfl⟩) (Nat.le_of_ble_eq_true rfl) (wp_31_22 S a4) dX6_findTour_81 ?_
  refine zv_aload_n dX6_findTour_84 rfl rfl ?_
  refine zv_iload dX6_findTour_85 rfl ?_
  refine zv_put zp_X6_133 (wo_31 (zu S 31 22 a4)) rfl (fun _ => ⟨rfl, rfl⟩) (Nat.le_of_ble_eq_true rfl) (wp_31_21 (zu S 31 22 a4) a5) dX6_findTour_87 ?_
  refine zv_aload_n dX6_findTour_90 rfl rfl ?_
  refine zv_iload_n dX6_findTour_91 rfl rfl ?_
  refine zv_put zp_X6_136 (wo_31 (zu (zu S 31 22 a4) 31 21 a5)) rfl (fun _ => ⟨rfl, rfl⟩) (Nat.le_of_ble_eq_true rfl) (wp_31_20 (zu (zu S 31 22 a4) 31 21 a5) a3) dX6_findTour_92 ?_
  exact zV_sub ([(0, .ref 31), (1, .int a1), (2, .int a2), (3, .int a3), (4, .int a4)]) ⟨rfl, rfl, rfl, rfl, rfl, trivial⟩ (v_X6_findTour_95 d (by omega) k10 hk10 k32 hk32 (zu (zu (zu S 31 22 a4) 31 21 a5) 31 20 a3) a1 a2 a3 a4 _ hf)
def f_X6_findTour_32 (k10 : zS → Int32 → Int32 → Int32 → Option zS) : Nat → zS → Int32 → Int32 → Int32 → Int32 → Option zS
  | 0, _, _, _, _, _ => none
  | n + 1, S, a1, a2, a3, a4 => (if a2 ≤ a4 then k10 S a1 (a2 * (6 : Int32)) (a3 + (1 : Int32)) else ((f_X6_takeRow S a4 a3).bind (fun S3 => ((f_X6_daysOf S3 a3 a1).bind (fun x5 => (if x5 = (-9 : Int32) then f_X6_findTour_95 k10 (f_X6_findTour_32 k10 n) S3 a1 a2 a3 a4 else (if (S3.1 31 22) = (-9 : Int32) then f_X6_findTour_78 k10 (f_X6_findTour_32 k10 n) S3 a1 a2 a3 a4 x5 else (if (S3.1 31 21) ≤ x5 then f_X6_findTour_95 k10 (f_X6_findTour_32 k10 n) S3 a1 a2 a3 a4 else f_X6_findTour_78 k10 (f_X6_findTour_32 k10 n) S3 a1 a2 a3 a4 x5))))))))
set_option maxRecDepth 100000 in
set_option maxHeartbeats 4000000 in
theorem v_X6_findTour_32 (d : Nat) (hd : 1 ≤ d) (k10 : zS → Int32 → Int32 → Int32 → Option zS) (hk10 : ∀ (S : zS) (a1 a2 a3 : Int32) S', k10 S a1 a2 a3 = (some S') → zV none (d + 1) yX6_findTour cX6_findTour 6 none 10 [(0, .ref 31), (1, .int a1), (2, .int a2), (3, .int a3)] [] (wd S) (zq none (wd S'))) : ∀ (n : Nat) (S : zS) (a1 : Int32) (a2 : Int32) (a3 : Int32) (a4 : Int32) (S' : zS), f_X6_findTour_32 k10 n S a1 a2 a3 a4 = (some S') → zV none (d + 1) yX6_findTour cX6_findTour 6 none 32 [(0, .ref 31), (1, .int a1), (2, .int a2), (3, .int a3), (4, .int a4)] [] (wd S) (zq none (wd S')) := by
  intro n
  induction n with
  | zero =>
    intro S a1 a2 a3 a4 S' hf
    cases hf
  | succ n ih =>
    intro S a1 a2 a3 a4 S' hf
    rw [f_X6_findTour_32] at hf
    refine zv_iload dX6_findTour_32 rfl ?_
    refine zv_iload_n dX6_findTour_34 rfl rfl ?_
    refine zv_icmp_ge (tgt := 101) dX6_findTour_35 (by decide) (fun c1 => ?_) (fun c1 => ?_)
    · replace hf := (if_pos c1).symm.trans hf
      refine zv_iload_n dX6_findTour_101 rfl rfl ?_
      refine zv_bipush (v := 6) dX6_findTour_102 (by decide) ?_
      refine zv_imul dX6_findTour_104 ?_
      refine zv_istore_n dX6_findTour_105 rfl (by decide) ?_
      refine zv_iinc (v := 1) dX6_findTour_106 rfl (by decide) (by decide) ?_
      refine zv_goto (tgt := 10) dX6_findTour_109 (by decide) ?_
      exact zV_sub ([(0, .ref 31), (1, .int a1), (2, .int (a2 * (6 : Int32))), (3, .int (a3 + (1 : Int32)))]) ⟨rfl, rfl, rfl, rfl, trivial⟩ (hk10 S a1 (a2 * (6 : Int32)) (a3 + (1 : Int32)) _ hf)
    · replace hf := (if_neg c1).symm.trans hf
      refine zv_aload_n dX6_findTour_38 rfl rfl ?_
      refine zv_iload dX6_findTour_39 rfl ?_
      refine zv_iload_n dX6_findTour_41 rfl rfl ?_
      obtain ⟨S3, hc2, hf⟩ := zbind hf
      refine zv_callV dX6_findTour_42 zk_X6_126 zm_X6_takeRow (c_X6_takeRow  d S a4 a3 S3 hc2) (wo_31 S) rfl rfl rfl (Nat.le_of_ble_eq_true rfl) ?_
      refine zv_aload_n dX6_findTour_45 rfl rfl ?_
      refine zv_iload_n dX6_findTour_46 rfl rfl ?_
      refine zv_iload_n dX6_findTour_47 rfl rfl ?_
      obtain ⟨x5, hc4, hf⟩ := zbind hf
      refine zv_callV dX6_findTour_48 zk_X6_130 zm_X6_daysOf (c_X6_daysOf  d (by omega) S3 a3 a1 x5 hc4) (wo_31 S3) rfl rfl rfl (Nat.le_of_ble_eq_true rfl) ?_
      refine zv_istore dX6_findTour_51 (by decide) ?_
      refine zv_iload dX6_findTour_53 rfl ?_
      refine zv_bipush (v := -9) dX6_findTour_55 (by decide) ?_
      refine zv_icmp_eq (tgt := 95) dX6_findTour_57 (by decide) (fun c6 => ?_) (fun c6 => ?_)
      · replace hf := (if_pos c6).symm.trans hf
        exact zV_sub ([(0, .ref 31), (1, .int a1), (2, .int a2), (3, .int a3), (4, .int a4)]) ⟨rfl, rfl, rfl, rfl, rfl, trivial⟩ (v_X6_findTour_95 d (by omega) k10 hk10 (f_X6_findTour_32 k10 n) ih S3 a1 a2 a3 a4 _ hf)
      · replace hf := (if_neg c6).symm.trans hf
        refine zv_aload_n dX6_findTour_60 rfl rfl ?_
        refine zv_get zf_X6_123 (wo_31 S3) rfl dX6_findTour_61 ?_
        refine zv_bipush (v := -9) dX6_findTour_64 (by decide) ?_
        refine zv_icmp_eq (tgt := 78) dX6_findTour_66 (by decide) (fun c7 => ?_) (fun c7 => ?_)
        · replace hf := (if_pos c7).symm.trans hf
          exact zV_sub ([(0, .ref 31), (1, .int a1), (2, .int a2), (3, .int a3), (4, .int a4), (5, .int x5)]) ⟨rfl, rfl, rfl, rfl, rfl, rfl, trivial⟩ (v_X6_findTour_78 d (by omega) k10 hk10 (f_X6_findTour_32 k10 n) ih S3 a1 a2 a3 a4 x5 _ hf)
        · replace hf := (if_neg c7).symm.trans hf
          refine zv_iload dX6_findTour_69 rfl ?_
          refine zv_aload_n dX6_findTour_71 rfl rfl ?_
          refine zv_get zf_X6_133 (wo_31 S3) rfl dX6_findTour_72 ?_
          refine zv_icmp_ge (tgt := 95) dX6_findTour_75 (by decide) (fun c8 => ?_) (fun c8 => ?_)
          · replace hf := (if_pos c8).symm.trans hf
            exact zV_sub ([(0, .ref 31), (1, .int a1), (2, .int a2), (3, .int a3), (4, .int a4)]) ⟨rfl, rfl, rfl, rfl, rfl, trivial⟩ (v_X6_findTour_95 d (by omega) k10 hk10 (f_X6_findTour_32 k10 n) ih S3 a1 a2 a3 a4 _ hf)
          · replace hf := (if_neg c8).symm.trans hf
            exact zV_sub ([(0, .ref 31), (1, .int a1), (2, .int a2), (3, .int a3), (4, .int a4), (5, .int x5)]) ⟨rfl, rfl, rfl, rfl, rfl, rfl, trivial⟩ (v_X6_findTour_78 d (by omega) k10 hk10 (f_X6_findTour_32 k10 n) ih S3 a1 a2 a3 a4 x5 _ hf)
def f_X6_findTour_10  : Nat → zS → Int32 → Int32 → Int32 → Option zS
  | 0, _, _, _, _ => none
  | n + 1, S, a1, a2, a3 => (if (S.1 33 0) < a3 then some S else (if (S.1 31 22) = (-9 : Int32) then f_X6_findTour_32 (f_X6_findTour_10  n) zN S a1 a2 a3 (0 : Int32) else some S))
set_option maxRecDepth 100000 in
set_option maxHeartbeats 4000000 in
theorem v_X6_findTour_10 (d : Nat) (hd : 1 ≤ d) : ∀ (n : Nat) (S : zS) (a1 : Int32) (a2 : Int32) (a3 : Int32) (S' : zS), f_X6_findTour_10  n S a1 a2 a3 = (some S') → zV none (d + 1) yX6_findTour cX6_findTour 6 none 10 [(0, .ref 31), (1, .int a1), (2, .int a2), (3, .int a3)] [] (wd S) (zq none (wd S')) := by
  intro n
  induction n with
  | zero =>
    intro S a1 a2 a3 S' hf
    cases hf
  | succ n ih =>
    intro S a1 a2 a3 S' hf
    rw [f_X6_findTour_10] at hf
    refine zv_iload_n dX6_findTour_10 rfl rfl ?_
    refine zv_aload_n dX6_findTour_11 rfl rfl ?_
    refine zv_get zf_X6_13 (wo_31 S) rfl dX6_findTour_12 ?_
    refine zv_iconst (v := 0) dX6_findTour_15 (by decide) ?_
    refine zv_ialdK (k := 0) (by decide) (by decide) (wo_33 S) dX6_findTour_16 ?_
    refine zv_icmp_gt (tgt := 112) dX6_findTour_17 (by decide) (fun c1 => ?_) (fun c1 => ?_)
    · replace hf := (if_pos c1).symm.trans hf
      exact zv_vret dX6_findTour_112 rfl (zret0 wd hf)
    · replace hf := (if_neg c1).symm.trans hf
      refine zv_aload_n dX6_findTour_20 rfl rfl ?_
      refine zv_get zf_X6_123 (wo_31 S) rfl dX6_findTour_21 ?_
      refine zv_bipush (v := -9) dX6_findTour_24 (by decide) ?_
      refine zv_icmp_ne (tgt := 112) dX6_findTour_26 (by decide) (fun c2 => ?_) (fun c2 => ?_)
      · replace hf := (if_neg c2).symm.trans hf
        exact zv_vret dX6_findTour_112 rfl (zret0 wd hf)
      · replace hf := (if_pos c2).symm.trans hf
        refine zv_iconst (v := 0) dX6_findTour_29 (by decide) ?_
        refine zv_istore dX6_findTour_30 (by decide) ?_
        exact zV_sub ([(0, .ref 31), (1, .int a1), (2, .int a2), (3, .int a3), (4, .int (0 : Int32))]) ⟨rfl, rfl, rfl, rfl, rfl, trivial⟩ (v_X6_findTour_32 d (by omega) (f_X6_findTour_10  n) ih zN S a1 a2 a3 (0 : Int32) _ hf)
def f_X6_findTour (S : zS) (a1 : Int32) : Option zS :=
  f_X6_findTour_10 zN (zu S 31 22 (-9 : Int32)) a1 (1 : Int32) (0 : Int32)
set_option maxRecDepth 100000 in
set_option maxHeartbeats 4000000 in
theorem c_X6_findTour  (d : Nat) (hd : 2 ≤ d) (S : zS) (a1 : Int32) (S' : zS) (hf : f_X6_findTour S a1 = (some S')) : zC d yX6_findTour cX6_findTour 6 none [.ref 31, .int a1] (wd S) (zq none (wd S')) := by
  obtain ⟨d, rfl⟩ : ∃ e, d = e + 1 := ⟨d - 1, by omega⟩
  refine zC_intro (by decide) rfl (Nat.le_of_ble_eq_true rfl) ?_
  unfold f_X6_findTour at hf
  refine zv_aload_n dX6_findTour_0 rfl rfl ?_
  refine zv_bipush (v := -9) dX6_findTour_1 (by decide) ?_
  refine zv_put zp_X6_123 (wo_31 S) rfl (fun _ => ⟨rfl, rfl⟩) (Nat.le_of_ble_eq_true rfl) (wp_31_22 S (-9 : Int32)) dX6_findTour_3 ?_
  refine zv_iconst (v := 1) dX6_findTour_6 (by decide) ?_
  refine zv_istore_n dX6_findTour_7 rfl (by decide) ?_
  refine zv_iconst (v := 0) dX6_findTour_8 (by decide) ?_
  refine zv_istore_n dX6_findTour_9 rfl (by decide) ?_
  exact zV_sub ([(0, .ref 31), (1, .int a1), (2, .int (1 : Int32)), (3, .int (0 : Int32))]) ⟨rfl, rfl, rfl, rfl, trivial⟩ (v_X6_findTour_10 d (by omega) zN (zu S 31 22 (-9 : Int32)) a1 (1 : Int32) (0 : Int32) _ hf)
-- KingPricesModel.tour(II)I height 3 writes
def f_X6_tour (S : zS) (a1 : Int32) (a2 : Int32) : Option (Int32 × zS) :=
  ((f_X6_in a1 (1 : Int32) (60 : Int32)).bind (fun x2 => (if x2 = 0 then some ((-1 : Int32), S) else ((f_X6_in a2 (-2 : Int32) (5 : Int32)).bind (fun x5 => (if x5 = 0 then some ((-1 : Int32), S) else ((f_X6_findTour S ((S.1 40 0) * a1)).bind (fun S8 => (if (S8.1 31 22) = (-9 : Int32) then some ((-9 : Int32), S8) else ((f_X6_takeRow S8 (S8.1 31 22) (S8.1 31 20)).bind (fun S11 => (if a2 = (-1 : Int32) then some ((S11.1 31 20), S11) else (if a2 = (-2 : Int32) then some ((S11.1 31 21), S11) else (if (S11.1 31 20) ≤ a2 then some ((-9 : Int32), S11) else (if zin a2 6 then some ((S11.1 43 (a2).toNatClampNeg), S11) else none)))))))))))))))
set_option maxRecDepth 100000 in
set_option maxHeartbeats 4000000 in
theorem c_X6_tour  (d : Nat) (hd : 3 ≤ d) (S : zS) (a1 : Int32) (a2 : Int32) (v : Int32) (S' : zS) (hf : f_X6_tour S a1 a2 = (some (v, S'))) : zC d yX6_tour cX6_tour 3 (some .int) [.ref 31, .int a1, .int a2] (wd S) (zq (some (.int v)) (wd S')) := by
  obtain ⟨d, rfl⟩ : ∃ e, d = e + 1 := ⟨d - 1, by omega⟩
  refine zC_intro (by decide) rfl (Nat.le_of_ble_eq_true rfl) ?_
  unfold f_X6_tour at hf
  refine zv_iload_n dX6_tour_0 rfl rfl ?_
  refine zv_iconst (v := 1) dX6_tour_1 (by decide) ?_
  refine zv_bipush (v := 60) dX6_tour_2 (by decide) ?_
  obtain ⟨x2, hc1, hf⟩ := zbind hf
  refine zv_callS dX6_tour_4 zk_X6_54 zm_X6_in (c_X6_in  d a1 (1 : Int32) (60 : Int32) x2 hc1) rfl rfl (Nat.le_of_ble_eq_true rfl) ?_
  refine zv_if_eq (tgt := 20) dX6_tour_7 (by decide) (fun c3 => ?_) (fun c3 => ?_)
  · replace hf := (if_pos c3).symm.trans hf
    refine zv_iconst (v := -1) dX6_tour_20 (by decide) ?_
    exact zv_iret (ty := .int) dX6_tour_21 rfl rfl (zret2 wd hf)
  · replace hf := (if_neg c3).symm.trans hf
    refine zv_iload_n dX6_tour_10 rfl rfl ?_
    refine zv_bipush (v := -2) dX6_tour_11 (by decide) ?_
    refine zv_iconst (v := 5) dX6_tour_13 (by decide) ?_
    obtain ⟨x5, hc4, hf⟩ := zbind hf
    refine zv_callS dX6_tour_14 zk_X6_54 zm_X6_in (c_X6_in  d a2 (-2 : Int32) (5 : Int32) x5 hc4) rfl rfl (Nat.le_of_ble_eq_true rfl) ?_
    refine zv_if_ne (tgt := 22) dX6_tour_17 (by decide) (fun c6 => ?_) (fun c6 => ?_)
    · replace hf := (if_neg c6).symm.trans hf
      refine zv_aload_n dX6_tour_22 rfl rfl ?_
      refine zv_aload_n dX6_tour_23 rfl rfl ?_
      refine zv_get zf_X6_35 (wo_31 S) rfl dX6_tour_24 ?_
      refine zv_iconst (v := 0) dX6_tour_27 (by decide) ?_
      refine zv_ialdK (k := 0) (by decide) (by decide) (wo_40 S) dX6_tour_28 ?_
      refine zv_iload_n dX6_tour_29 rfl rfl ?_
      refine zv_imul dX6_tour_30 ?_
      obtain ⟨S8, hc7, hf⟩ := zbind hf
      refine zv_callV dX6_tour_31 zk_X6_139 zm_X6_findTour (c_X6_findTour  d (by omega) S ((S.1 40 0) * a1) S8 hc7) (wo_31 S) rfl rfl rfl (Nat.le_of_ble_eq_true rfl) ?_
      refine zv_aload_n dX6_tour_34 rfl rfl ?_
      refine zv_get zf_X6_123 (wo_31 S8) rfl dX6_tour_35 ?_
      refine zv_bipush (v := -9) dX6_tour_38 (by decide) ?_
      refine zv_icmp_ne (tgt := 46) dX6_tour_40 (by decide) (fun c9 => ?_) (fun c9 => ?_)
      · replace hf := (if_neg c9).symm.trans hf
        refine zv_aload_n dX6_tour_46 rfl rfl ?_
        refine zv_aload_n dX6_tour_47 rfl rfl ?_
        refine zv_get zf_X6_123 (wo_31 S8) rfl dX6_tour_48 ?_
        refine zv_aload_n dX6_tour_51 rfl rfl ?_
        refine zv_get zf_X6_136 (wo_31 S8) rfl dX6_tour_52 ?_
        obtain ⟨S11, hc10, hf⟩ := zbind hf
        refine zv_callV dX6_tour_55 zk_X6_126 zm_X6_takeRow (c_X6_takeRow  d S8 (S8.1 31 22) (S8.1 31 20) S11 hc10) (wo_31 S8) rfl rfl rfl (Nat.le_of_ble_eq_true rfl) ?_
        refine zv_iload_n dX6_tour_58 rfl rfl ?_
        refine zv_iconst (v := -1) dX6_tour_59 (by decide) ?_
        refine zv_icmp_ne (tgt := 70) dX6_tour_60 (by decide) (fun c12 => ?_) (fun c12 => ?_)
        · replace hf := (if_neg c12).symm.trans hf
          refine zv_iload_n dX6_tour_70 rfl rfl ?_
          refine zv_bipush (v := -2) dX6_tour_71 (by decide) ?_
          refine zv_icmp_ne (tgt := 83) dX6_tour_73 (by decide) (fun c13 => ?_) (fun c13 => ?_)
          · replace hf := (if_neg c13).symm.trans hf
            refine zv_iload_n dX6_tour_83 rfl rfl ?_
            refine zv_aload_n dX6_tour_84 rfl rfl ?_
            refine zv_get zf_X6_136 (wo_31 S11) rfl dX6_tour_85 ?_
            refine zv_icmp_ge (tgt := 100) dX6_tour_88 (by decide) (fun c14 => ?_) (fun c14 => ?_)
            · replace hf := (if_pos c14).symm.trans hf
              refine zv_bipush (v := -9) dX6_tour_100 (by decide) ?_
              exact zv_iret (ty := .int) dX6_tour_102 rfl rfl (zret2 wd hf)
            · replace hf := (if_neg c14).symm.trans hf
              refine zv_aload_n dX6_tour_91 rfl rfl ?_
              refine zv_get zf_X6_45 (wo_31 S11) rfl dX6_tour_92 ?_
              refine zv_iload_n dX6_tour_95 rfl rfl ?_
              obtain ⟨hb15, hf⟩ := zifb hf
              refine zv_iald hb15 (wo_43 S11) dX6_tour_96 ?_
              refine zv_goto (tgt := 102) dX6_tour_97 (by decide) ?_
              exact zv_iret (ty := .int) dX6_tour_102 rfl rfl (zret2 wd hf)
          · replace hf := (if_pos c13).symm.trans hf
            refine zv_aload_n dX6_tour_76 rfl rfl ?_
            refine zv_get zf_X6_133 (wo_31 S11) rfl dX6_tour_77 ?_
            refine zv_goto (tgt := 102) dX6_tour_80 (by decide) ?_
            exact zv_iret (ty := .int) dX6_tour_102 rfl rfl (zret2 wd hf)
        · replace hf := (if_pos c12).symm.trans hf
          refine zv_aload_n dX6_tour_63 rfl rfl ?_
          refine zv_get zf_X6_136 (wo_31 S11) rfl dX6_tour_64 ?_
          refine zv_goto (tgt := 102) dX6_tour_67 (by decide) ?_
          exact zv_iret (ty := .int) dX6_tour_102 rfl rfl (zret2 wd hf)
      · replace hf := (if_pos c9).symm.trans hf
        refine zv_bipush (v := -9) dX6_tour_43 (by decide) ?_
        exact zv_iret (ty := .int) dX6_tour_45 rfl rfl (zret2 wd hf)
    · replace hf := (if_pos c6).symm.trans hf
      refine zv_iconst (v := -1) dX6_tour_20 (by decide) ?_
      exact zv_iret (ty := .int) dX6_tour_21 rfl rfl (zret2 wd hf)
-- KingPricesModel.trace()J height 0 reads
def f_X6_trace (S : zS) : Option Int64 :=
  some (S.2.1 1)
set_option maxRecDepth 100000 in
set_option maxHeartbeats 4000000 in
theorem c_X6_trace  (d : Nat) (S : zS) (v : Int64) (hf : f_X6_trace S = (some v)) : zC d yX6_trace cX6_trace 1 (some .long) [.ref 31] (wd S) (zq (some (.long v)) (wd S)) := by
  refine zC_intro (by decide) rfl (Nat.le_of_ble_eq_true rfl) ?_
  unfold f_X6_trace at hf
  refine zv_aload_n dX6_trace_0 rfl rfl ?_
  refine zv_get zf_X6_162 (wo_31 S) rfl dX6_trace_1 ?_
  exact zv_lret dX6_trace_4 rfl (zretl hf)
-- KingPricesModel.type(I)I height 1 writes
def f_X6_type (S : zS) (a1 : Int32) : Option (Int32 × zS) :=
  ((f_X6_in a1 (0 : Int32) (255 : Int32)).bind (fun x2 => (if x2 = 0 then some ((-1 : Int32), S) else (if (S.1 31 2) = (180 : Int32) then some ((-3 : Int32), S) else (if zin (S.1 31 2) 180 then some (((zu (zr S 32 (upd (S.1 32) ((S.1 31 2)).toNatClampNeg (vp_nar .byte (a1).toInt8.toInt32))) 31 2 (((zr S 32 (upd (S.1 32) ((S.1 31 2)).toNatClampNeg (vp_nar .byte (a1).toInt8.toInt32))).1 31 2) + (1 : Int32))).1 31 2), (zu (zr S 32 (upd (S.1 32) ((S.1 31 2)).toNatClampNeg (vp_nar .byte (a1).toInt8.toInt32))) 31 2 (((zr S 32 (upd (S.1 32) ((S.1 31 2)).toNatClampNeg (vp_nar .byte (a1).toInt8.toInt32))).1 31 2) + (1 : Int32)))) else none)))))
set_option maxRecDepth 100000 in
set_option maxHeartbeats 4000000 in
theorem c_X6_type  (d : Nat) (hd : 1 ≤ d) (S : zS) (a1 : Int32) (v : Int32) (S' : zS) (hf : f_X6_type S a1 = (some (v, S'))) : zC d yX6_type cX6_type 2 (some .int) [.ref 31, .int a1] (wd S) (zq (some (.int v)) (wd S')) := by
  obtain ⟨d, rfl⟩ : ∃ e, d = e + 1 := ⟨d - 1, by omega⟩
  refine zC_intro (by decide) rfl (Nat.le_of_ble_eq_true rfl) ?_
  unfold f_X6_type at hf
  refine zv_iload_n dX6_type_0 rfl rfl ?_
  refine zv_iconst (v := 0) dX6_type_1 (by decide) ?_
  refine zv_sipush (v := 255) dX6_type_2 (by decide) ?_
  obtain ⟨x2, hc1, hf⟩ := zbind hf
  refine zv_callS dX6_type_5 zk_X6_54 zm_X6_in (c_X6_in  d a1 (0 : Int32) (255 : Int32) x2 hc1) rfl rfl (Nat.le_of_ble_eq_true rfl) ?_
  refine zv_if_ne (tgt := 13) dX6_type_8 (by decide) (fun c3 => ?_) (fun c3 => ?_)
  · replace hf := (if_neg c3).symm.trans hf
    refine zv_aload_n dX6_type_13 rfl rfl ?_
    refine zv_get zf_X6_58 (wo_31 S) rfl dX6_type_14 ?_
    refine zv_sipush (v := 180) dX6_type_17 (by decide) ?_
    refine zv_icmp_ne (tgt := 26) dX6_type_20 (by decide) (fun c4 => ?_) (fun c4 => ?_)
    · replace hf := (if_neg c4).symm.trans hf
      refine zv_aload_n dX6_type_26 rfl rfl ?_
      refine zv_get zf_X6_7 (wo_31 S) rfl dX6_type_27 ?_
      refine zv_aload_n dX6_type_30 rfl rfl ?_
      refine zv_get zf_X6_58 (wo_31 S) rfl dX6_type_31 ?_
      refine zv_iload_n dX6_type_34 rfl rfl ?_
      refine zv_i2b dX6_type_35 ?_
      obtain ⟨hb5, hf⟩ := zifb hf
      refine zv_bast hb5 (wo_32 S) (ws_32 S (upd (S.1 32) ((S.1 31 2)).toNatClampNeg (vp_nar .byte (a1).toInt8.toInt32))) dX6_type_36 ?_
      refine zv_aload_n dX6_type_37 rfl rfl ?_
      refine zv_dup dX6_type_38 rfl ?_
      refine zv_get zf_X6_58 (wo_31 (zr S 32 (upd (S.1 32) ((S.1 31 2)).toNatClampNeg (vp_nar .byte (a1).toInt8.toInt32)))) rfl dX6_type_39 ?_
      refine zv_iconst (v := 1) dX6_type_42 (by decide) ?_
      refine zv_iadd dX6_type_43 ?_
      refine zv_put zp_X6_58 (wo_31 (zr S 32 (upd (S.1 32) ((S.1 31 2)).toNatClampNeg (vp_nar .byte (a1).toInt8.toInt32)))) rfl (fun _ => ⟨rfl, rfl⟩) (Nat.le_of_ble_eq_true rfl) (wp_31_2 (zr S 32 (upd (S.1 32) ((S.1 31 2)).toNatClampNeg (vp_nar .byte (a1).toInt8.toInt32))) (((zr S 32 (upd (S.1 32) ((S.1 31 2)).toNatClampNeg (vp_nar .byte (a1).toInt8.toInt32))).1 31 2) + (1 : Int32))) dX6_type_44 ?_
      refine zv_aload_n dX6_type_47 rfl rfl ?_
      refine zv_get zf_X6_58 (wo_31 (zu (zr S 32 (upd (S.1 32) ((S.1 31 2)).toNatClampNeg (vp_nar .byte (a1).toInt8.toInt32))) 31 2 (((zr S 32 (upd (S.1 32) ((S.1 31 2)).toNatClampNeg (vp_nar .byte (a1).toInt8.toInt32))).1 31 2) + (1 : Int32)))) rfl dX6_type_48 ?_
      exact zv_iret (ty := .int) dX6_type_51 rfl rfl (zret2 wd hf)
    · replace hf := (if_pos c4).symm.trans hf
      refine zv_bipush (v := -3) dX6_type_23 (by decide) ?_
      exact zv_iret (ty := .int) dX6_type_25 rfl rfl (zret2 wd hf)
  · replace hf := (if_pos c3).symm.trans hf
    refine zv_iconst (v := -1) dX6_type_11 (by decide) ?_
    exact zv_iret (ty := .int) dX6_type_12 rfl rfl (zret2 wd hf)
-- KingPricesModel.undo()I height 0 writes
def f_X6_undo_26  : Nat → zS → Int32 → Option (Int32 × zS)
  | 0, _, _ => none
  | n + 1, S, a1 => (if (28 : Int32) ≤ a1 then some ((S.1 41 28), S) else (if zin (((29 : Int32) + ((28 : Int32) * (S.1 41 28))) + a1) 927 then (if zin a1 927 then f_X6_undo_26  n (zr S 41 (upd (S.1 41) (a1).toNatClampNeg (S.1 41 ((((29 : Int32) + ((28 : Int32) * (S.1 41 28))) + a1)).toNatClampNeg))) (a1 + (1 : Int32)) else none) else none))
set_option maxRecDepth 100000 in
set_option maxHeartbeats 4000000 in
theorem v_X6_undo_26 (d : Nat) : ∀ (n : Nat) (S : zS) (a1 : Int32) (v : Int32) (S' : zS), f_X6_undo_26  n S a1 = (some (v, S')) → zV none d yX6_undo cX6_undo 2 (some .int) 26 [(0, .ref 31), (1, .int a1)] [] (wd S) (zq (some (.int v)) (wd S')) := by
  intro n
  induction n with
  | zero =>
    intro S a1 v S' hf
    cases hf
  | succ n ih =>
    intro S a1 v S' hf
    rw [f_X6_undo_26] at hf
    refine zv_iload_n dX6_undo_26 rfl rfl ?_
    refine zv_bipush (v := 28) dX6_undo_27 (by decide) ?_
    refine zv_icmp_ge (tgt := 64) dX6_undo_29 (by decide) (fun c1 => ?_) (fun c1 => ?_)
    · replace hf := (if_pos c1).symm.trans hf
      refine zv_aload_n dX6_undo_64 rfl rfl ?_
      refine zv_get zf_X6_38 (wo_31 S) rfl dX6_undo_65 ?_
      refine zv_bipush (v := 28) dX6_undo_68 (by decide) ?_
      refine zv_ialdK (k := 28) (by decide) (by decide) (wo_41 S) dX6_undo_70 ?_
      exact zv_iret (ty := .int) dX6_undo_71 rfl rfl (zret2 wd hf)
    · replace hf := (if_neg c1).symm.trans hf
      refine zv_aload_n dX6_undo_32 rfl rfl ?_
      refine zv_get zf_X6_38 (wo_31 S) rfl dX6_undo_33 ?_
      refine zv_iload_n dX6_undo_36 rfl rfl ?_
      refine zv_aload_n dX6_undo_37 rfl rfl ?_
      refine zv_get zf_X6_38 (wo_31 S) rfl dX6_undo_38 ?_
      refine zv_bipush (v := 29) dX6_undo_41 (by decide) ?_
      refine zv_bipush (v := 28) dX6_undo_43 (by decide) ?_
      refine zv_aload_n dX6_undo_45 rfl rfl ?_
      refine zv_get zf_X6_38 (wo_31 S) rfl dX6_undo_46 ?_
      refine zv_bipush (v := 28) dX6_undo_49 (by decide) ?_
      refine zv_ialdK (k := 28) (by decide) (by decide) (wo_41 S) dX6_undo_51 ?_
      refine zv_imul dX6_undo_52 ?_
      refine zv_iadd dX6_undo_53 ?_
      refine zv_iload_n dX6_undo_54 rfl rfl ?_
      refine zv_iadd dX6_undo_55 ?_
      obtain ⟨hb2, hf⟩ := zifb hf
      refine zv_iald hb2 (wo_41 S) dX6_undo_56 ?_
      obtain ⟨hb3, hf⟩ := zifb hf
      refine zv_iast hb3 (wo_41 S) (ws_41 S (upd (S.1 41) (a1).toNatClampNeg (S.1 41 ((((29 : Int32) + ((28 : Int32) * (S.1 41 28))) + a1)).toNatClampNeg))) dX6_undo_57 ?_
      refine zv_iinc (v := 1) dX6_undo_58 rfl (by decide) (by decide) ?_
      refine zv_goto (tgt := 26) dX6_undo_61 (by decide) ?_
      exact zV_sub ([(0, .ref 31), (1, .int (a1 + (1 : Int32)))]) ⟨rfl, rfl, trivial⟩ (ih (zr S 41 (upd (S.1 41) (a1).toNatClampNeg (S.1 41 ((((29 : Int32) + ((28 : Int32) * (S.1 41 28))) + a1)).toNatClampNeg))) (a1 + (1 : Int32)) _ _ hf)
def f_X6_undo (S : zS) : Option (Int32 × zS) :=
  (if (S.1 41 28) = 0 then some ((-2 : Int32), S) else f_X6_undo_26 zN (zr S 41 (upd (S.1 41) 28 ((S.1 41 28) - (1 : Int32)))) (0 : Int32))
set_option maxRecDepth 100000 in
set_option maxHeartbeats 4000000 in
theorem c_X6_undo  (d : Nat) (S : zS) (v : Int32) (S' : zS) (hf : f_X6_undo S = (some (v, S'))) : zC d yX6_undo cX6_undo 2 (some .int) [.ref 31] (wd S) (zq (some (.int v)) (wd S')) := by
  refine zC_intro (by decide) rfl (Nat.le_of_ble_eq_true rfl) ?_
  unfold f_X6_undo at hf
  refine zv_aload_n dX6_undo_0 rfl rfl ?_
  refine zv_get zf_X6_38 (wo_31 S) rfl dX6_undo_1 ?_
  refine zv_bipush (v := 28) dX6_undo_4 (by decide) ?_
  refine zv_ialdK (k := 28) (by decide) (by decide) (wo_41 S) dX6_undo_6 ?_
  refine zv_if_ne (tgt := 13) dX6_undo_7 (by decide) (fun c1 => ?_) (fun c1 => ?_)
  · replace hf := (if_neg c1).symm.trans hf
    refine zv_aload_n dX6_undo_13 rfl rfl ?_
    refine zv_get zf_X6_38 (wo_31 S) rfl dX6_undo_14 ?_
    refine zv_bipush (v := 28) dX6_undo_17 (by decide) ?_
    refine zv_dup2 dX6_undo_19 rfl rfl ?_
    refine zv_ialdK (k := 28) (by decide) (by decide) (wo_41 S) dX6_undo_20 ?_
    refine zv_iconst (v := 1) dX6_undo_21 (by decide) ?_
    refine zv_isub dX6_undo_22 ?_
    refine zv_iastK (k := 28) (by decide) (by decide) (wo_41 S) (ws_41 S (upd (S.1 41) 28 ((S.1 41 28) - (1 : Int32)))) dX6_undo_23 ?_
    refine zv_iconst (v := 0) dX6_undo_24 (by decide) ?_
    refine zv_istore_n dX6_undo_25 rfl (by decide) ?_
    exact zV_sub ([(0, .ref 31), (1, .int (0 : Int32))]) ⟨rfl, rfl, trivial⟩ (v_X6_undo_26 d zN (zr S 41 (upd (S.1 41) 28 ((S.1 41 28) - (1 : Int32)))) (0 : Int32) _ _ hf)
  · replace hf := (if_pos c1).symm.trans hf
    refine zv_bipush (v := -2) dX6_undo_10 (by decide) ?_
    exact zv_iret (ty := .int) dX6_undo_12 rfl rfl (zret2 wd hf)
-- KingPricesModel.village(II)I height 2 reads
def f_X6_village (S : zS) (a1 : Int32) (a2 : Int32) : Option Int32 :=
  ((f_X6_isVillage S a1).bind (fun x2 => (if x2 = 0 then some ((-1 : Int32)) else (if a2 = 0 then (if zin ((4 : Int32) + a1) 927 then some ((S.1 41 (((4 : Int32) + a1)).toNatClampNeg)) else none) else (if a2 = 1 then (if zin ((10 : Int32) + a1) 927 then some ((S.1 41 (((10 : Int32) + a1)).toNatClampNeg)) else none) else (if a2 = 2 then (if zin a1 12 then some ((S.1 35 (a1).toNatClampNeg)) else none) else (if a2 = 3 then (if zin a1 12 then some ((S.1 36 (a1).toNatClampNeg)) else none) else (if a2 = 4 then (if zin ((16 : Int32) + a1) 927 then some ((S.1 41 (((16 : Int32) + a1)).toNatClampNeg)) else none) else (if a2 = 5 then (if zin ((22 : Int32) + a1) 927 then some ((S.1 41 (((22 : Int32) + a1)).toNatClampNeg)) else none) else (if a2 = 6 then ((f_X6_spare S a1).bind (fun x18 => some x18)) else some ((-1 : Int32))))))))))))
set_option maxRecDepth 100000 in
set_option maxHeartbeats 4000000 in
theorem c_X6_village  (d : Nat) (hd : 2 ≤ d) (S : zS) (a1 : Int32) (a2 : Int32) (v : Int32) (hf : f_X6_village S a1 a2 = (some v)) : zC d yX6_village cX6_village 3 (some .int) [.ref 31, .int a1, .int a2] (wd S) (zq (some (.int v)) (wd S)) := by
  obtain ⟨d, rfl⟩ : ∃ e, d = e + 1 := ⟨d - 1, by omega⟩
  refine zC_intro (by decide) rfl (Nat.le_of_ble_eq_true rfl) ?_
  unfold f_X6_village at hf
  refine zv_aload_n dX6_village_0 rfl rfl ?_
  refine zv_iload_n dX6_village_1 rfl rfl ?_
  obtain ⟨x2, hc1, hf⟩ := zbind hf
  refine zv_callV dX6_village_2 zk_X6_107 zm_X6_isVillage (c_X6_isVillage  d (by omega) S a1 x2 hc1) (wo_31 S) rfl rfl rfl (Nat.le_of_ble_eq_true rfl) ?_
  refine zv_if_ne (tgt := 10) dX6_village_5 (by decide) (fun c3 => ?_) (fun c3 => ?_)
  · replace hf := (if_neg c3).symm.trans hf
    refine zv_iload_n dX6_village_10 rfl rfl ?_
    by_cases c4 : a2 = 0
    · replace hf := (if_pos c4).symm.trans hf
      refine zv_tableIn (v := 0) (off := 41) (tgt := 52) dX6_village_11 c4 (by decide) (by decide) (by decide) (by decide) ?_
      refine zv_aload_n dX6_village_52 rfl rfl ?_
      refine zv_get zf_X6_38 (wo_31 S) rfl dX6_village_53 ?_
      refine zv_iconst (v := 4) dX6_village_56 (by decide) ?_
      refine zv_iload_n dX6_village_57 rfl rfl ?_
      refine zv_iadd dX6_village_58 ?_
      obtain ⟨hb5, hf⟩ := zifb hf
      refine zv_iald hb5 (wo_41 S) dX6_village_59 ?_
      exact zv_iret (ty := .int) dX6_village_60 rfl rfl (zret1 hf)
    replace hf := (if_neg c4).symm.trans hf
    by_cases c6 : a2 = 1
    · replace hf := (if_pos c6).symm.trans hf
      refine zv_tableIn (v := 1) (off := 50) (tgt := 61) dX6_village_11 c6 (by decide) (by decide) (by decide) (by decide) ?_
      refine zv_aload_n dX6_village_61 rfl rfl ?_
      refine zv_get zf_X6_38 (wo_31 S) rfl dX6_village_62 ?_
      refine zv_bipush (v := 10) dX6_village_65 (by decide) ?_
      refine zv_iload_n dX6_village_67 rfl rfl ?_
      refine zv_iadd dX6_village_68 ?_
      obtain ⟨hb7, hf⟩ := zifb hf
      refine zv_iald hb7 (wo_41 S) dX6_village_69 ?_
      exact zv_iret (ty := .int) dX6_village_70 rfl rfl (zret1 hf)
    replace hf := (if_neg c6).symm.trans hf
    by_cases c8 : a2 = 2
    · replace hf := (if_pos c8).symm.trans hf
      refine zv_tableIn (v := 2) (off := 60) (tgt := 71) dX6_village_11 c8 (by decide) (by decide) (by decide) (by decide) ?_
      refine zv_aload_n dX6_village_71 rfl rfl ?_
      refine zv_get zf_X6_20 (wo_31 S) rfl dX6_village_72 ?_
      refine zv_iload_n dX6_village_75 rfl rfl ?_
      obtain ⟨hb9, hf⟩ := zifb hf
      refine zv_iald hb9 (wo_35 S) dX6_village_76 ?_
      exact zv_iret (ty := .int) dX6_village_77 rfl rfl (zret1 hf)
    replace hf := (if_neg c8).symm.trans hf
    by_cases c10 : a2 = 3
    · replace hf := (if_pos c10).symm.trans hf
      refine zv_tableIn (v := 3) (off := 67) (tgt := 78) dX6_village_11 c10 (by decide) (by decide) (by decide) (by decide) ?_
      refine zv_aload_n dX6_village_78 rfl rfl ?_
      refine zv_get zf_X6_23 (wo_31 S) rfl dX6_village_79 ?_
      refine zv_iload_n dX6_village_82 rfl rfl ?_
      obtain ⟨hb11, hf⟩ := zifb hf
      refine zv_iald hb11 (wo_36 S) dX6_village_83 ?_
      exact zv_iret (ty := .int) dX6_village_84 rfl rfl (zret1 hf)
    replace hf := (if_neg c10).symm.trans hf
    by_cases c12 : a2 = 4
    · replace hf := (if_pos c12).symm.trans hf
      refine zv_tableIn (v := 4) (off := 74) (tgt := 85) dX6_village_11 c12 (by decide) (by decide) (by decide) (by decide) ?_
      refine zv_aload_n dX6_village_85 rfl rfl ?_
      refine zv_get zf_X6_38 (wo_31 S) rfl dX6_village_86 ?_
      refine zv_bipush (v := 16) dX6_village_89 (by decide) ?_
      refine zv_iload_n dX6_village_91 rfl rfl ?_
      refine zv_iadd dX6_village_92 ?_
      obtain ⟨hb13, hf⟩ := zifb hf
      refine zv_iald hb13 (wo_41 S) dX6_village_93 ?_
      exact zv_iret (ty := .int) dX6_village_94 rfl rfl (zret1 hf)
    replace hf := (if_neg c12).symm.trans hf
    by_cases c14 : a2 = 5
    · replace hf := (if_pos c14).symm.trans hf
      refine zv_tableIn (v := 5) (off := 84) (tgt := 95) dX6_village_11 c14 (by decide) (by decide) (by decide) (by decide) ?_
      refine zv_aload_n dX6_village_95 rfl rfl ?_
      refine zv_get zf_X6_38 (wo_31 S) rfl dX6_village_96 ?_
      refine zv_bipush (v := 22) dX6_village_99 (by decide) ?_
      refine zv_iload_n dX6_village_101 rfl rfl ?_
      refine zv_iadd dX6_village_102 ?_
      obtain ⟨hb15, hf⟩ := zifb hf
      refine zv_iald hb15 (wo_41 S) dX6_village_103 ?_
      exact zv_iret (ty := .int) dX6_village_104 rfl rfl (zret1 hf)
    replace hf := (if_neg c14).symm.trans hf
    by_cases c16 : a2 = 6
    · replace hf := (if_pos c16).symm.trans hf
      refine zv_tableIn (v := 6) (off := 94) (tgt := 105) dX6_village_11 c16 (by decide) (by decide) (by decide) (by decide) ?_
      refine zv_aload_n dX6_village_105 rfl rfl ?_
      refine zv_iload_n dX6_village_106 rfl rfl ?_
      obtain ⟨x18, hc17, hf⟩ := zbind hf
      refine zv_callV dX6_village_107 zk_X6_110 zm_X6_spare (c_X6_spare  d S a1 x18 hc17) (wo_31 S) rfl rfl rfl (Nat.le_of_ble_eq_true rfl) ?_
      exact zv_iret (ty := .int) dX6_village_110 rfl rfl (zret1 hf)
    replace hf := (if_neg c16).symm.trans hf
    refine zv_tableOut (tgt := 111) dX6_village_11 (by have q0 := lv_neT (a := 0) c4 (by decide); have q1 := lv_neT (a := 1) c6 (by decide); have q2 := lv_neT (a := 2) c8 (by decide); have q3 := lv_neT (a := 3) c10 (by decide); have q4 := lv_neT (a := 4) c12 (by decide); have q5 := lv_neT (a := 5) c14 (by decide); have q6 := lv_neT (a := 6) c16 (by decide); omega) (by decide) ?_
    refine zv_iconst (v := -1) dX6_village_111 (by decide) ?_
    exact zv_iret (ty := .int) dX6_village_112 rfl rfl (zret1 hf)
  · replace hf := (if_pos c3).symm.trans hf
    refine zv_iconst (v := -1) dX6_village_8 (by decide) ?_
    exact zv_iret (ty := .int) dX6_village_9 rfl rfl (zret1 hf)
