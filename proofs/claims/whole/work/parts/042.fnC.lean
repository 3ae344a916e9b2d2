-- KingPrices.back(I)I height 2 writes
def f_X5_back (S : zS) (a1 : Int32) : Option (Int32 × zS) :=
  ((f_X5_isWithin a1 (0 : Int32) (1 : Int32)).bind (fun x2 => (if x2 = 0 then some ((-1 : Int32), S) else (if (((S.1 0 8) >>> (a1 &&& 31)) &&& (1 : Int32)) = 0 then some ((-2 : Int32), S) else (if zin a1 2 then (if a1 = 0 then ((f_X2_copyFrom S 3 6).bind (fun S8 => ((f_X2_get S8 3 (1 : Int32)).bind (fun x10 => some (x10, S8))))) else ((f_X2_copyFrom S 3 8).bind (fun S12 => ((f_X2_get S12 3 (1 : Int32)).bind (fun x14 => some (x14, S12)))))) else none)))))
set_option maxRecDepth 100000 in
set_option maxHeartbeats 4000000 in
theorem c_X5_back  (d : Nat) (hd : 2 ≤ d) (S : zS) (a1 : Int32) (v : Int32) (S' : zS) (hf : f_X5_back S a1 = (some (v, S'))) : zC d yX5_back cX5_back 2 (some .int) [.ref 0, .int a1] (wd S) (zq (some (.int v)) (wd S')) := by
  obtain ⟨d, rfl⟩ : ∃ e, d = e + 1 := ⟨d - 1, by omega⟩
  refine zC_intro (by decide) rfl (Nat.le_of_ble_eq_true rfl) ?_
  unfold f_X5_back at hf
  refine zv_iload_n dX5_back_0 rfl rfl ?_
  refine zv_iconst (v := 0) dX5_back_1 (by decide) ?_
  refine zv_iconst (v := 1) dX5_back_2 (by decide) ?_
  obtain ⟨x2, hc1, hf⟩ := zbind hf
  refine zv_callS dX5_back_3 zk_X5_59 zm_X5_isWithin (c_X5_isWithin  d a1 (0 : Int32) (1 : Int32) x2 hc1) rfl rfl (Nat.le_of_ble_eq_true rfl) ?_
  refine zv_if_ne (tgt := 11) dX5_back_6 (by decide) (fun c3 => ?_) (fun c3 => ?_)
  · replace hf := (if_neg c3).symm.trans hf
    refine zv_aload_n dX5_back_11 rfl rfl ?_
    refine zv_get zf_X5_75 (wo_0 S) rfl dX5_back_12 ?_
    refine zv_iload_n dX5_back_15 rfl rfl ?_
    refine zv_ishr dX5_back_16 ?_
    refine zv_iconst (v := 1) dX5_back_17 (by decide) ?_
    refine zv_iand dX5_back_18 ?_
    refine zv_if_ne (tgt := 25) dX5_back_19 (by decide) (fun c4 => ?_) (fun c4 => ?_)
    · replace hf := (if_neg c4).symm.trans hf
      refine zv_aload_n dX5_back_25 rfl rfl ?_
      refine zv_get zf_X5_19 (wo_0 S) rfl dX5_back_26 ?_
      refine zv_aload_n dX5_back_29 rfl rfl ?_
      refine zv_get zf_X5_23 (wo_0 S) rfl dX5_back_30 ?_
      refine zv_iload_n dX5_back_33 rfl rfl ?_
      obtain ⟨hb5, hf⟩ := zifb hf
      by_cases c6 : a1 = 0
      · replace hf := (if_pos c6).symm.trans hf
        refine zv_aald (q := 6) hb5 (wo_5 S) (by rw [c6]; rfl) dX5_back_34 ?_
        obtain ⟨S8, hc7, hf⟩ := zbind hf
        refine zv_callV dX5_back_35 zk_X5_195 zm_X2_copyFrom (c_X2_copyFrom zTwd_3 zTwd_6 d (by omega) S S8 hc7) (zTwd_3.1 S) rfl rfl rfl (Nat.le_of_ble_eq_true rfl) ?_
        refine zv_aload_n dX5_back_38 rfl rfl ?_
        refine zv_get zf_X5_19 (wo_0 S8) rfl dX5_back_39 ?_
        refine zv_iconst (v := 1) dX5_back_42 (by decide) ?_
        obtain ⟨x10, hc9, hf⟩ := zbind hf
        refine zv_callV dX5_back_43 zk_X5_81 zm_X2_get (c_X2_get zTwd_3 d S8 (1 : Int32) x10 hc9) (zTwd_3.1 S8) rfl rfl rfl (Nat.le_of_ble_eq_true rfl) ?_
        exact zv_iret (ty := .int) dX5_back_46 rfl rfl (zret2 wd hf)
      · replace hf := (if_neg c6).symm.trans hf
        refine zv_aald (q := 8) hb5 (wo_5 S) (by rw [zim1 hb5 c6]; rfl) dX5_back_34 ?_
        obtain ⟨S12, hc11, hf⟩ := zbind hf
        refine zv_callV dX5_back_35 zk_X5_195 zm_X2_copyFrom (c_X2_copyFrom zTwd_3 zTwd_8 d (by omega) S S12 hc11) (zTwd_3.1 S) rfl rfl rfl (Nat.le_of_ble_eq_true rfl) ?_
        refine zv_aload_n dX5_back_38 rfl rfl ?_
        refine zv_get zf_X5_19 (wo_0 S12) rfl dX5_back_39 ?_
        refine zv_iconst (v := 1) dX5_back_42 (by decide) ?_
        obtain ⟨x14, hc13, hf⟩ := zbind hf
        refine zv_callV dX5_back_43 zk_X5_81 zm_X2_get (c_X2_get zTwd_3 d S12 (1 : Int32) x14 hc13) (zTwd_3.1 S12) rfl rfl rfl (Nat.le_of_ble_eq_true rfl) ?_
        exact zv_iret (ty := .int) dX5_back_46 rfl rfl (zret2 wd hf)
    · replace hf := (if_pos c4).symm.trans hf
      refine zv_bipush (v := -2) dX5_back_22 (by decide) ?_
      exact zv_iret (ty := .int) dX5_back_24 rfl rfl (zret2 wd hf)
  · replace hf := (if_pos c3).symm.trans hf
    refine zv_iconst (v := -1) dX5_back_9 (by decide) ?_
    exact zv_iret (ty := .int) dX5_back_10 rfl rfl (zret2 wd hf)
-- KingPrices.clear()I height 0 writes
def f_X5_clear (S : zS) : Option (Int32 × zS) :=
  some ((S.1 1 1), (zu S 1 1 (0 : Int32)))
set_option maxRecDepth 100000 in
set_option maxHeartbeats 4000000 in
theorem c_X5_clear  (d : Nat) (S : zS) (v : Int32) (S' : zS) (hf : f_X5_clear S = (some (v, S'))) : zC d yX5_clear cX5_clear 2 (some .int) [.ref 0] (wd S) (zq (some (.int v)) (wd S')) := by
  refine zC_intro (by decide) rfl (Nat.le_of_ble_eq_true rfl) ?_
  unfold f_X5_clear at hf
  refine zv_aload_n dX5_clear_0 rfl rfl ?_
  refine zv_get zf_X5_10 (wo_0 S) rfl dX5_clear_1 ?_
  refine zv_get zf_X5_67 (wo_1 S) rfl dX5_clear_4 ?_
  refine zv_istore_n dX5_clear_7 rfl (by decide) ?_
  refine zv_aload_n dX5_clear_8 rfl rfl ?_
  refine zv_get zf_X5_10 (wo_0 S) rfl dX5_clear_9 ?_
  refine zv_iconst (v := 0) dX5_clear_12 (by decide) ?_
  refine zv_put zp_X5_67 (wo_1 S) rfl (fun _ => ⟨rfl, rfl⟩) (Nat.le_of_ble_eq_true rfl) (wp_1_1 S (0 : Int32)) dX5_clear_13 ?_
  refine zv_iload_n dX5_clear_16 rfl rfl ?_
  exact zv_iret (ty := .int) dX5_clear_17 rfl rfl (zret2 wd hf)
-- KingPrices.count(I)I height 0 reads
def f_X5_count (S : zS) (a1 : Int32) : Option Int32 :=
  (if a1 = 0 then some ((S.1 (lr S.2.2.1) 6)) else (if a1 = 1 then some ((S.1 (lr S.2.2.1) 7)) else (if a1 = 2 then some ((S.1 (lr S.2.2.1) 8)) else (if a1 = 3 then some ((S.1 (lr S.2.2.1) 9)) else (if a1 = 4 then some ((S.1 3 1)) else (if a1 = 5 then some ((S.1 1 1)) else some ((-1 : Int32))))))))
set_option maxRecDepth 100000 in
set_option maxHeartbeats 4000000 in
theorem c_X5_count  (d : Nat) (S : zS) (a1 : Int32) (v : Int32) (hf : f_X5_count S a1 = (some v)) : zC d yX5_count cX5_count 2 (some .int) [.ref 0, .int a1] (wd S) (zq (some (.int v)) (wd S)) := by
  refine zC_intro (by decide) rfl (Nat.le_of_ble_eq_true rfl) ?_
  unfold f_X5_count at hf
  refine zv_iload_n dX5_count_0 rfl rfl ?_
  by_cases c1 : a1 = 0
  · replace hf := (if_pos c1).symm.trans hf
    refine zv_tableIn (v := 0) (off := 39) (tgt := 40) dX5_count_1 c1 (by decide) (by decide) (by decide) (by decide) ?_
    refine zv_aload_n dX5_count_40 rfl rfl ?_
    refine zv_get zf_X5_48 (wo_0 S) rfl dX5_count_41 ?_
    refine zv_get zf_X5_114 ((zLwd S.2.2.1).1 S) rfl dX5_count_44 ?_
    exact zv_iret (ty := .int) dX5_count_47 rfl rfl (zret1 hf)
  replace hf := (if_neg c1).symm.trans hf
  by_cases c2 : a1 = 1
  · replace hf := (if_pos c2).symm.trans hf
    refine zv_tableIn (v := 1) (off := 47) (tgt := 48) dX5_count_1 c2 (by decide) (by decide) (by decide) (by decide) ?_
    refine zv_aload_n dX5_count_48 rfl rfl ?_
    refine zv_get zf_X5_48 (wo_0 S) rfl dX5_count_49 ?_
    refine zv_get zf_X5_199 ((zLwd S.2.2.1).1 S) rfl dX5_count_52 ?_
    exact zv_iret (ty := .int) dX5_count_55 rfl rfl (zret1 hf)
  replace hf := (if_neg c2).symm.trans hf
  by_cases c3 : a1 = 2
  · replace hf := (if_pos c3).symm.trans hf
    refine zv_tableIn (v := 2) (off := 55) (tgt := 56) dX5_count_1 c3 (by decide) (by decide) (by decide) (by decide) ?_
    refine zv_aload_n dX5_count_56 rfl rfl ?_
    refine zv_get zf_X5_48 (wo_0 S) rfl dX5_count_57 ?_
    refine zv_get zf_X5_104 ((zLwd S.2.2.1).1 S) rfl dX5_count_60 ?_
    exact zv_iret (ty := .int) dX5_count_63 rfl rfl (zret1 hf)
  replace hf := (if_neg c3).symm.trans hf
  by_cases c4 : a1 = 3
  · replace hf := (if_pos c4).symm.trans hf
    refine zv_tableIn (v := 3) (off := 63) (tgt := 64) dX5_count_1 c4 (by decide) (by decide) (by decide) (by decide) ?_
    refine zv_aload_n dX5_count_64 rfl rfl ?_
    refine zv_get zf_X5_48 (wo_0 S) rfl dX5_count_65 ?_
    refine zv_get zf_X5_202 ((zLwd S.2.2.1).1 S) rfl dX5_count_68 ?_
    exact zv_iret (ty := .int) dX5_count_71 rfl rfl (zret1 hf)
  replace hf := (if_neg c4).symm.trans hf
  by_cases c5 : a1 = 4
  · replace hf := (if_pos c5).symm.trans hf
    refine zv_tableIn (v := 4) (off := 71) (tgt := 72) dX5_count_1 c5 (by decide) (by decide) (by decide) (by decide) ?_
    refine zv_aload_n dX5_count_72 rfl rfl ?_
    refine zv_get zf_X5_19 (wo_0 S) rfl dX5_count_73 ?_
    refine zv_get zf_X5_131 (zTwd_3.1 S) rfl dX5_count_76 ?_
    exact zv_iret (ty := .int) dX5_count_79 rfl rfl (zret1 hf)
  replace hf := (if_neg c5).symm.trans hf
  by_cases c6 : a1 = 5
  · replace hf := (if_pos c6).symm.trans hf
    refine zv_tableIn (v := 5) (off := 79) (tgt := 80) dX5_count_1 c6 (by decide) (by decide) (by decide) (by decide) ?_
    refine zv_aload_n dX5_count_80 rfl rfl ?_
    refine zv_get zf_X5_10 (wo_0 S) rfl dX5_count_81 ?_
    refine zv_get zf_X5_67 (wo_1 S) rfl dX5_count_84 ?_
    exact zv_iret (ty := .int) dX5_count_87 rfl rfl (zret1 hf)
  replace hf := (if_neg c6).symm.trans hf
  refine zv_tableOut (tgt := 88) dX5_count_1 (by have q0 := lv_neT (a := 0) c1 (by decide); have q1 := lv_neT (a := 1) c2 (by decide); have q2 := lv_neT (a := 2) c3 (by decide); have q3 := lv_neT (a := 3) c4 (by decide); have q4 := lv_neT (a := 4) c5 (by decide); have q5 := lv_neT (a := 5) c6 (by decide); omega) (by decide) ?_
  refine zv_iconst (v := -1) dX5_count_88 (by decide) ?_
  exact zv_iret (ty := .int) dX5_count_89 rfl rfl (zret1 hf)
-- KingPrices.far(II)I height 2 reads
def f_X5_far (S : zS) (a1 : Int32) (a2 : Int32) : Option Int32 :=
  ((f_X0_knows S (lr S.2.2.1) a1).bind (fun x2 => (if x2 = 0 then some ((-1 : Int32)) else ((f_X0_knows S (lr S.2.2.1) a2).bind (fun x5 => (if x5 = 0 then some ((-1 : Int32)) else ((f_X0_daysBetween S (lr S.2.2.1) a1 a2).bind (fun x8 => some x8))))))))
set_option maxRecDepth 100000 in
set_option maxHeartbeats 4000000 in
theorem c_X5_far  (d : Nat) (hd : 2 ≤ d) (S : zS) (a1 : Int32) (a2 : Int32) (v : Int32) (hf : f_X5_far S a1 a2 = (some v)) : zC d yX5_far cX5_far 3 (some .int) [.ref 0, .int a1, .int a2] (wd S) (zq (some (.int v)) (wd S)) := by
  obtain ⟨d, rfl⟩ : ∃ e, d = e + 1 := ⟨d - 1, by omega⟩
  refine zC_intro (by decide) rfl (Nat.le_of_ble_eq_true rfl) ?_
  unfold f_X5_far at hf
  refine zv_aload_n dX5_far_0 rfl rfl ?_
  refine zv_get zf_X5_48 (wo_0 S) rfl dX5_far_1 ?_
  refine zv_iload_n dX5_far_4 rfl rfl ?_
  obtain ⟨x2, hc1, hf⟩ := zbind hf
  refine zv_callV dX5_far_5 zk_X5_78 zm_X0_knows (c_X0_knows (zLwd S.2.2.1) d S a1 x2 hc1) ((zLwd S.2.2.1).1 S) rfl rfl rfl (Nat.le_of_ble_eq_true rfl) ?_
  refine zv_if_eq (tgt := 22) dX5_far_8 (by decide) (fun c3 => ?_) (fun c3 => ?_)
  · replace hf := (if_pos c3).symm.trans hf
    refine zv_iconst (v := -1) dX5_far_22 (by decide) ?_
    exact zv_iret (ty := .int) dX5_far_23 rfl rfl (zret1 hf)
  · replace hf := (if_neg c3).symm.trans hf
    refine zv_aload_n dX5_far_11 rfl rfl ?_
    refine zv_get zf_X5_48 (wo_0 S) rfl dX5_far_12 ?_
    refine zv_iload_n dX5_far_15 rfl rfl ?_
    obtain ⟨x5, hc4, hf⟩ := zbind hf
    refine zv_callV dX5_far_16 zk_X5_78 zm_X0_knows (c_X0_knows (zLwd S.2.2.1) d S a2 x5 hc4) ((zLwd S.2.2.1).1 S) rfl rfl rfl (Nat.le_of_ble_eq_true rfl) ?_
    refine zv_if_ne (tgt := 24) dX5_far_19 (by decide) (fun c6 => ?_) (fun c6 => ?_)
    · replace hf := (if_neg c6).symm.trans hf
      refine zv_aload_n dX5_far_24 rfl rfl ?_
      refine zv_get zf_X5_48 (wo_0 S) rfl dX5_far_25 ?_
      refine zv_iload_n dX5_far_28 rfl rfl ?_
      refine zv_iload_n dX5_far_29 rfl rfl ?_
      obtain ⟨x8, hc7, hf⟩ := zbind hf
      refine zv_callV dX5_far_30 zk_X5_94 zm_X0_daysBetween (c_X0_daysBetween (zLwd S.2.2.1) d (by omega) S a1 a2 x8 hc7) ((zLwd S.2.2.1).1 S) rfl rfl rfl (Nat.le_of_ble_eq_true rfl) ?_
      exact zv_iret (ty := .int) dX5_far_33 rfl rfl (zret1 hf)
    · replace hf := (if_pos c6).symm.trans hf
      refine zv_iconst (v := -1) dX5_far_22 (by decide) ?_
      exact zv_iret (ty := .int) dX5_far_23 rfl rfl (zret1 hf)
-- KingPrices.spareTogether(I)I height 0 reads
def f_X5_spareTogether_27 (k4 : zS → Int32 → Int32 → Int32 → Option Int32) (S : zS) (a1 : Int32) (a2 : Int32) (a3 : Int32) : Option Int32 :=
  k4 S a1 a2 (a3 + (1 : Int32))
set_option maxRecDepth 100000 in
set_option maxHeartbeats 4000000 in
theorem v_X5_spareTogether_27 (d : Nat) (k4 : zS → Int32 → Int32 → Int32 → Option Int32) (hk4 : ∀ (S : zS) (a1 a2 a3 : Int32) v, k4 S a1 a2 a3 = (some v) → zV none d yX5_spareTogether cX5_spareTogether 4 (some .int) 4 [(0, .ref 0), (1, .int a1), (2, .int a2), (3, .int a3)] [] (wd S) (zq (some (.int v)) (wd S))) (S : zS) (a1 : Int32) (a2 : Int32) (a3 : Int32) (v : Int32) (hf : f_X5_spareTogether_27 k4 S a1 a2 a3 = (some v)) : zV none d yX5_spareTogether cX5_spareTogether 4 (some .int) 27 [(0, .ref 0), (1, .int a1), (2, .int a2), (3, .int a3)] [] (wd S) (zq (some (.int v)) (wd S)) := by
  unfold f_X5_spareTogether_27 at hf
  refine zv_iinc (v := 1) dX5_spareTogether_27 rfl (by decide) (by decide) ?_
  refine zv_goto (tgt := 4) dX5_spareTogether_30 (by decide) ?_
  exact zV_sub ([(0, .ref 0), (1, .int a1), (2, .int a2), (3, .int (a3 + (1 : Int32)))]) ⟨rfl, rfl, rfl, rfl, trivial⟩ (hk4 S a1 a2 (a3 + (1 : Int32)) _ hf)
def f_X5_spareTogether_4  : Nat → zS → Int32 → Int32 → Int32 → Option Int32
  | 0, _, _, _, _ => none
  | n + 1, S, a1, a2, a3 => (if (6 : Int32) ≤ a3 then some a2 else (if ((a1 >>> (a3 &&& 31)) &&& (1 : Int32)) = 0 then f_X5_spareTogether_27 (f_X5_spareTogether_4  n) S a1 a2 a3 else (if zin a3 6 then f_X5_spareTogether_27 (f_X5_spareTogether_4  n) S a1 (a2 + (S.1 10 (a3).toNatClampNeg)) a3 else none)))
set_option maxRecDepth 100000 in
set_option maxHeartbeats 4000000 in
theorem v_X5_spareTogether_4 (d : Nat) : ∀ (n : Nat) (S : zS) (a1 : Int32) (a2 : Int32) (a3 : Int32) (v : Int32), f_X5_spareTogether_4  n S a1 a2 a3 = (some v) → zV none d yX5_spareTogether cX5_spareTogether 4 (some .int) 4 [(0, .ref 0), (1, .int a1), (2, .int a2), (3, .int a3)] [] (wd S) (zq (some (.int v)) (wd S)) := by
  intro n
  induction n with
  | zero =>
    intro S a1 a2 a3 v hf
    cases hf
  | succ n ih =>
    intro S a1 a2 a3 v hf
    rw [f_X5_spareTogether_4] at hf
    refine zv_iload_n dX5_spareTogether_4 rfl rfl ?_
    refine zv_bipush (v := 6) dX5_spareTogether_5 (by decide) ?_
    refine zv_icmp_ge (tgt := 33) dX5_spareTogether_7 (by decide) (fun c1 => ?_) (fun c1 => ?_)
    · replace hf := (if_pos c1).symm.trans hf
      refine zv_iload_n dX5_spareTogether_33 rfl rfl ?_
      exact zv_iret (ty := .int) dX5_spareTogether_34 rfl rfl (zret1 hf)
    · replace hf := (if_neg c1).symm.trans hf
      refine zv_iload_n dX5_spareTogether_10 rfl rfl ?_
      refine zv_iload_n dX5_spareTogether_11 rfl rfl ?_
      refine zv_ishr dX5_spareTogether_12 ?_
      refine zv_iconst (v := 1) dX5_spareTogether_13 (by decide) ?_
      refine zv_iand dX5_spareTogether_14 ?_
      refine zv_if_eq (tgt := 27) dX5_spareTogether_15 (by decide) (fun c2 => ?_) (fun c2 => ?_)
      · replace hf := (if_pos c2).symm.trans hf
        exact zV_sub ([(0, .ref 0), (1, .int a1), (2, .int a2), (3, .int a3)]) ⟨rfl, rfl, rfl, rfl, trivial⟩ (v_X5_spareTogether_27 d (f_X5_spareTogether_4  n) ih S a1 a2 a3 _ hf)
      · replace hf := (if_neg c2).symm.trans hf
        refine zv_iload_n dX5_spareTogether_18 rfl rfl ?_
        refine zv_aload_n dX5_spareTogether_19 rfl rfl ?_
        refine zv_get zf_X5_27 (wo_0 S) rfl dX5_spareTogether_20 ?_
        refine zv_iload_n dX5_spareTogether_23 rfl rfl ?_
        obtain ⟨hb3, hf⟩ := zifb hf
        refine zv_iald hb3 (wo_10 S) dX5_spareTogether_24 ?_
        refine zv_iadd dX5_spareTogether_25 ?_
        refine zv_istore_n dX5_spareTogether_26 rfl (by decide) ?_
        exact zV_sub ([(0, .ref 0), (1, .int a1), (2, .int (a2 + (S.1 10 (a3).toNatClampNeg))), (3, .int a3)]) ⟨rfl, rfl, rfl, rfl, trivial⟩ (v_X5_spareTogether_27 d (f_X5_spareTogether_4  n) ih S a1 (a2 + (S.1 10 (a3).toNatClampNeg)) a3 _ hf)
def f_X5_spareTogether (S : zS) (a1 : Int32) : Option Int32 :=
  f_X5_spareTogether_4 zN S a1 (0 : Int32) (0 : Int32)
set_option maxRecDepth 100000 in
set_option maxHeartbeats 4000000 in
theorem c_X5_spareTogether  (d : Nat) (S : zS) (a1 : Int32) (v : Int32) (hf : f_X5_spareTogether S a1 = (some v)) : zC d yX5_spareTogether cX5_spareTogether 4 (some .int) [.ref 0, .int a1] (wd S) (zq (some (.int v)) (wd S)) := by
  refine zC_intro (by decide) rfl (Nat.le_of_ble_eq_true rfl) ?_
  unfold f_X5_spareTogether at hf
  refine zv_iconst (v := 0) dX5_spareTogether_0 (by decide) ?_
  refine zv_istore_n dX5_spareTogether_1 rfl (by decide) ?_
  refine zv_iconst (v := 0) dX5_spareTogether_2 (by decide) ?_
  refine zv_istore_n dX5_spareTogether_3 rfl (by decide) ?_
  exact zV_sub ([(0, .ref 0), (1, .int a1), (2, .int (0 : Int32)), (3, .int (0 : Int32))]) ⟨rfl, rfl, rfl, rfl, trivial⟩ (v_X5_spareTogether_4 d zN S a1 (0 : Int32) (0 : Int32) _ hf)
-- KingPrices.fewestWith(I)I height 1 reads
def f_X5_fewestWith_58 (k5 : zS → Int32 → Int32 → Int32 → Option Int32) (S : zS) (a1 : Int32) (a2 : Int32) (a3 : Int32) : Option Int32 :=
  k5 S a1 a2 (a3 + (1 : Int32))
set_option maxRecDepth 100000 in
set_option maxHeartbeats 4000000 in
theorem v_X5_fewestWith_58 (d : Nat) (hd : 0 ≤ d) (k5 : zS → Int32 → Int32 → Int32 → Option Int32) (hk5 : ∀ (S : zS) (a1 a2 a3 : Int32) v, k5 S a1 a2 a3 = (some v) → zV none (d + 1) yX5_fewestWith cX5_fewestWith 5 (some .int) 5 [(0, .ref 0), (1, .int a1), (2, .int a2), (3, .int a3)] [] (wd S) (zq (some (.int v)) (wd S))) (S : zS) (a1 : Int32) (a2 : Int32) (a3 : Int32) (v : Int32) (hf : f_X5_fewestWith_58 k5 S a1 a2 a3 = (some v)) : zV none (d + 1) yX5_fewestWith cX5_fewestWith 5 (some .int) 58 [(0, .ref 0), (1, .int a1), (2, .int a2), (3, .int a3)] [] (wd S) (zq (some (.int v)) (wd S)) := by
  unfold f_X5_fewestWith_58 at hf
  refine zv_iinc (v := 1) dX5_fewestWith_58 rfl (by decide) (by decide) ?_
  refine zv_goto (tgt := 5) dX5_fewestWith_61 (by decide) ?_
  exact zV_sub ([(0, .ref 0), (1, .int a1), (2, .int a2), (3, .int (a3 + (1 : Int32)))]) ⟨rfl, rfl, rfl, rfl, trivial⟩ (hk5 S a1 a2 (a3 + (1 : Int32)) _ hf)
def f_X5_fewestWith_42 (k5 : zS → Int32 → Int32 → Int32 → Option Int32) (S : zS) (a1 : Int32) (a2 : Int32) (a3 : Int32) (a4 : Int32) : Option Int32 :=
  (if a4 = 0 then f_X5_fewestWith_58 k5 S a1 a2 a3 else ((f_X5_spareTogether S a3).bind (fun x3 => (if x3 < a1 then f_X5_fewestWith_58 k5 S a1 a2 a3 else f_X5_fewestWith_58 k5 S a1 a3 a3))))
set_option maxRecDepth 100000 in
set_option maxHeartbeats 4000000 in
theorem v_X5_fewestWith_42 (d : Nat) (hd : 0 ≤ d) (k5 : zS → Int32 → Int32 → Int32 → Option Int32) (hk5 : ∀ (S : zS) (a1 a2 a3 : Int32) v, k5 S a1 a2 a3 = (some v) → zV none (d + 1) yX5_fewestWith cX5_fewestWith 5 (some .int) 5 [(0, .ref 0), (1, .int a1), (2, .int a2), (3, .int a3)] [] (wd S) (zq (some (.int v)) (wd S))) (S : zS) (a1 : Int32) (a2 : Int32) (a3 : Int32) (a4 : Int32) (v : Int32) (hf : f_X5_fewestWith_42 k5 S a1 a2 a3 a4 = (some v)) : zV none (d + 1) yX5_fewestWith cX5_fewestWith 5 (some .int) 42 [(0, .ref 0), (1, .int a1), (2, .int a2), (3, .int a3), (4, .int a4)] [] (wd S) (zq (some (.int v)) (wd S)) := by
  unfold f_X5_fewestWith_42 at hf
  refine zv_iload dX5_fewestWith_42 rfl ?_
  refine zv_if_eq (tgt := 58) dX5_fewestWith_44 (by decide) (fun c1 => ?_) (fun c1 => ?_)
  · replace hf := (if_pos c1).symm.trans hf
    exact zV_sub ([(0, .ref 0), (1, .int a1), (2, .int a2), (3, .int a3)]) ⟨rfl, rfl, rfl, rfl, trivial⟩ (v_X5_fewestWith_58 d (by omega) k5 hk5 S a1 a2 a3 _ hf)
  · replace hf := (if_neg c1).symm.trans hf
    refine zv_aload_n dX5_fewestWith_47 rfl rfl ?_
    refine zv_iload_n dX5_fewestWith_48 rfl rfl ?_
    obtain ⟨x3, hc2, hf⟩ := zbind hf
    refine zv_callV dX5_fewestWith_49 zk_X5_165 zm_X5_spareTogether (c_X5_spareTogether  d S a3 x3 hc2) (wo_0 S) rfl rfl rfl (Nat.le_of_ble_eq_true rfl) ?_
    refine zv_iload_n dX5_fewestWith_52 rfl rfl ?_
    refine zv_icmp_lt (tgt := 58) dX5_fewestWith_53 (by decide) (fun c4 => ?_) (fun c4 => ?_)
    · replace hf := (if_pos c4).symm.trans hf
      exact zV_sub ([(0, .ref 0), (1, .int a1), (2, .int a2), (3, .int a3)]) ⟨rfl, rfl, rfl, rfl, trivial⟩ (v_X5_fewestWith_58 d (by omega) k5 hk5 S a1 a2 a3 _ hf)
    · replace hf := (if_neg c4).symm.trans hf
      refine zv_iload_n dX5_fewestWith_56 rfl rfl ?_
      refine zv_istore_n dX5_fewestWith_57 rfl (by decide) ?_
      exact zV_sub ([(0, .ref 0), (1, .int a1), (2, .int a3), (3, .int a3)]) ⟨rfl, rfl, rfl, rfl, trivial⟩ (v_X5_fewestWith_58 d (by omega) k5 hk5 S a1 a3 a3 _ hf)
def f_X5_fewestWith_35 (k5 : zS → Int32 → Int32 → Int32 → Option Int32) (S : zS) (a1 : Int32) (a2 : Int32) (a3 : Int32) : Option Int32 :=
  f_X5_fewestWith_42 k5 S a1 a2 a3 (1 : Int32)
set_option maxRecDepth 100000 in
set_option maxHeartbeats 4000000 in
theorem v_X5_fewestWith_35 (d : Nat) (hd : 0 ≤ d) (k5 : zS → Int32 → Int32 → Int32 → Option Int32) (hk5 : ∀ (S : zS) (a1 a2 a3 : Int32) v, k5 S a1 a2 a3 = (some v) → zV none (d + 1) yX5_fewestWith cX5_fewestWith 5 (some .int) 5 [(0, .ref 0), (1, .int a1), (2, .int a2), (3, .int a3)] [] (wd S) (zq (some (.int v)) (wd S))) (S : zS) (a1 : Int32) (a2 : Int32) (a3 : Int32) (v : Int32) (hf : f_X5_fewestWith_35 k5 S a1 a2 a3 = (some v)) : zV none (d + 1) yX5_fewestWith cX5_fewestWith 5 (some .int) 35 [(0, .ref 0), (1, .int a1), (2, .int a2), (3, .int a3)] [] (wd S) (zq (some (.int v)) (wd S)) := by
  unfold f_X5_fewestWith_35 at hf
  refine zv_iconst (v := 1) dX5_fewestWith_35 (by decide) ?_
  refine zv_goto (tgt := 40) dX5_fewestWith_36 (by decide) ?_
  refine zv_istore dX5_fewestWith_40 (by decide) ?_
  exact zV_sub ([(0, .ref 0), (1, .int a1), (2, .int a2), (3, .int a3), (4, .int (1 : Int32))]) ⟨rfl, rfl, rfl, rfl, rfl, trivial⟩ (v_X5_fewestWith_42 d (by omega) k5 hk5 S a1 a2 a3 (1 : Int32) _ hf)
def f_X5_fewestWith_5  : Nat → zS → Int32 → Int32 → Int32 → Option Int32
  | 0, _, _, _, _ => none
  | n + 1, S, a1, a2, a3 => (if ((1 : Int32) <<< ((S.1 (lr S.2.2.1) 6) &&& 31)) ≤ a3 then some a2 else (if a2 = (-9 : Int32) then f_X5_fewestWith_35 (f_X5_fewestWith_5  n) S a1 a2 a3 else ((f_J6_bitCount_0f7a4 a3).bind (fun x4 => ((f_J6_bitCount_0f7a4 a2).bind (fun x6 => (if x6 ≤ x4 then f_X5_fewestWith_42 (f_X5_fewestWith_5  n) S a1 a2 a3 (0 : Int32) else f_X5_fewestWith_35 (f_X5_fewestWith_5  n) S a1 a2 a3)))))))
set_option maxRecDepth 100000 in
set_option maxHeartbeats 4000000 in
theorem v_X5_fewestWith_5 (d : Nat) (hd : 0 ≤ d) : ∀ (n : Nat) (S : zS) (a1 : Int32) (a2 : Int32) (a3 : Int32) (v : Int32), f_X5_fewestWith_5  n S a1 a2 a3 = (some v) → zV none (d + 1) yX5_fewestWith cX5_fewestWith 5 (some .int) 5 [(0, .ref 0), (1, .int a1), (2, .int a2), (3, .int a3)] [] (wd S) (zq (some (.int v)) (wd S)) := by
  intro n
  induction n with
  | zero =>
    intro S a1 a2 a3 v hf
    cases hf
  | succ n ih =>
    intro S a1 a2 a3 v hf
    rw [f_X5_fewestWith_5] at hf
    refine zv_iload_n dX5_fewestWith_5 rfl rfl ?_
    refine zv_iconst (v := 1) dX5_fewestWith_6 (by decide) ?_
    refine zv_aload_n dX5_fewestWith_7 rfl rfl ?_
    refine zv_get zf_X5_48 (wo_0 S) rfl dX5_fewestWith_8 ?_
    refine zv_get zf_X5_114 ((zLwd S.2.2.1).1 S) rfl dX5_fewestWith_11 ?_
    refine zv_ishl dX5_fewestWith_14 ?_
    refine zv_icmp_ge (tgt := 64) dX5_fewestWith_15 (by decide) (fun c1 => ?_) (fun c1 => ?_)
    · replace hf := (if_pos c1).symm.trans hf
      refine zv_iload_n dX5_fewestWith_64 rfl rfl ?_
      exact zv_iret (ty := .int) dX5_fewestWith_65 rfl rfl (zret1 hf)
    · replace hf := (if_neg c1).symm.trans hf
      refine zv_iload_n dX5_fewestWith_18 rfl rfl ?_
      refine zv_bipush (v := -9) dX5_fewestWith_19 (by decide) ?_
      refine zv_icmp_eq (tgt := 35) dX5_fewestWith_21 (by decide) (fun c2 => ?_) (fun c2 => ?_)
      · replace hf := (if_pos c2).symm.trans hf
        exact zV_sub ([(0, .ref 0), (1, .int a1), (2, .int a2), (3, .int a3)]) ⟨rfl, rfl, rfl, rfl, trivial⟩ (v_X5_fewestWith_35 d (by omega) (f_X5_fewestWith_5  n) ih S a1 a2 a3 _ hf)
      · replace hf := (if_neg c2).symm.trans hf
        refine zv_iload_n dX5_fewestWith_24 rfl rfl ?_
        obtain ⟨x4, hc3, hf⟩ := zbind hf
        refine zv_callS dX5_fewestWith_25 zk_X5_147 zm_J6_bitCount_0f7a4 (c_J6_bitCount_0f7a4  d a3 x4 hc3) rfl rfl (Nat.le_of_ble_eq_true rfl) ?_
        refine zv_iload_n dX5_fewestWith_28 rfl rfl ?_
        obtain ⟨x6, hc5, hf⟩ := zbind hf
        refine zv_callS dX5_fewestWith_29 zk_X5_147 zm_J6_bitCount_0f7a4 (c_J6_bitCount_0f7a4  d a2 x6 hc5) rfl rfl (Nat.le_of_ble_eq_true rfl) ?_
        refine zv_icmp_ge (tgt := 39) dX5_fewestWith_32 (by decide) (fun c7 => ?_) (fun c7 => ?_)
        · replace hf := (if_pos c7).symm.trans hf
          refine zv_iconst (v := 0) dX5_fewestWith_39 (by decide) ?_
          refine zv_istore dX5_fewestWith_40 (by decide) ?_
          exact zV_sub ([(0, .ref 0), (1, .int a1), (2, .int a2), (3, .int a3), (4, .int (0 : Int32))]) ⟨rfl, rfl, rfl, rfl, rfl, trivial⟩ (v_X5_fewestWith_42 d (by omega) (f_X5_fewestWith_5  n) ih S a1 a2 a3 (0 : Int32) _ hf)
        · replace hf := (if_neg c7).symm.trans hf
          exact zV_sub ([(0, .ref 0), (1, .int a1), (2, .int a2), (3, .int a3)]) ⟨rfl, rfl, rfl, rfl, trivial⟩ (v_X5_fewestWith_35 d (by omega) (f_X5_fewestWith_5  n) ih S a1 a2 a3 _ hf)
def f_X5_fewestWith (S : zS) (a1 : Int32) : Option Int32 :=
  f_X5_fewestWith_5 zN S a1 (-9 : Int32) (0 : Int32)
set_option maxRecDepth 100000 in
set_option maxHeartbeats 4000000 in
theorem c_X5_fewestWith  (d : Nat) (hd : 1 ≤ d) (S : zS) (a1 : Int32) (v : Int32) (hf : f_X5_fewestWith S a1 = (some v)) : zC d yX5_fewestWith cX5_fewestWith 5 (some .int) [.ref 0, .int a1] (wd S) (zq (some (.int v)) (wd S)) := by
  obtain ⟨d, rfl⟩ : ∃ e, d = e + 1 := ⟨d - 1, by omega⟩
  refine zC_intro (by decide) rfl (Nat.le_of_ble_eq_true rfl) ?_
  unfold f_X5_fewestWith at hf
  refine zv_bipush (v := -9) dX5_fewestWith_0 (by decide) ?_
  refine zv_istore_n dX5_fewestWith_2 rfl (by decide) ?_
  refine zv_iconst (v := 0) dX5_fewestWith_3 (by decide) ?_
  refine zv_istore_n dX5_fewestWith_4 rfl (by decide) ?_
  exact zV_sub ([(0, .ref 0), (1, .int a1), (2, .int (-9 : Int32)), (3, .int (0 : Int32))]) ⟨rfl, rfl, rfl, rfl, trivial⟩ (v_X5_fewestWith_5 d (by omega) zN S a1 (-9 : Int32) (0 : Int32) _ hf)
-- KingPrices.spareOf(I)I height 2 reads
def f_X5_spareOf (S : zS) (a1 : Int32) : Option Int32 :=
  ((f_X0_hasCharter S (lr S.2.2.1) a1).bind (fun x2 => (if x2 = 0 then ((f_X2_get S 3 ((4 : Int32) + a1)).bind (fun x5 => ((f_X2_get S 3 ((10 : Int32) + a1)).bind (fun x7 => ((f_X0_needOf S (lr S.2.2.1) a1).bind (fun x9 => some ((if (0 : Int32) < (if ((x5 + x7) - x9) < x5 then ((x5 + x7) - x9) else x5) then (if ((x5 + x7) - x9) < x5 then ((x5 + x7) - x9) else x5) else (0 : Int32))))))))) else some ((0 : Int32)))))
set_option maxRecDepth 100000 in
set_option maxHeartbeats 4000000 in
theorem c_X5_spareOf  (d : Nat) (hd : 2 ≤ d) (S : zS) (a1 : Int32) (v : Int32) (hf : f_X5_spareOf S a1 = (some v)) : zC d yX5_spareOf cX5_spareOf 4 (some .int) [.ref 0, .int a1] (wd S) (zq (some (.int v)) (wd S)) := by
  obtain ⟨d, rfl⟩ : ∃ e, d = e + 1 := ⟨d - 1, by omega⟩
  refine zC_intro (by decide) rfl (Nat.le_of_ble_eq_true rfl) ?_
  unfold f_X5_spareOf at hf
  refine zv_aload_n dX5_spareOf_0 rfl rfl ?_
  refine zv_get zf_X5_48 (wo_0 S) rfl dX5_spareOf_1 ?_
  refine zv_iload_n dX5_spareOf_4 rfl rfl ?_
  obtain ⟨x2, hc1, hf⟩ := zbind hf
  refine zv_callV dX5_spareOf_5 zk_X5_88 zm_X0_hasCharter (c_X0_hasCharter (zLwd S.2.2.1) d (by omega) S a1 x2 hc1) ((zLwd S.2.2.1).1 S) rfl rfl rfl (Nat.le_of_ble_eq_true rfl) ?_
  refine zv_if_eq (tgt := 13) dX5_spareOf_8 (by decide) (fun c3 => ?_) (fun c3 => ?_)
  · replace hf := (if_pos c3).symm.trans hf
    refine zv_aload_n dX5_spareOf_13 rfl rfl ?_
    refine zv_get zf_X5_19 (wo_0 S) rfl dX5_spareOf_14 ?_
    refine zv_iconst (v := 4) dX5_spareOf_17 (by decide) ?_
    refine zv_iload_n dX5_spareOf_18 rfl rfl ?_
    refine zv_iadd dX5_spareOf_19 ?_
    obtain ⟨x5, hc4, hf⟩ := zbind hf
    refine zv_callV dX5_spareOf_20 zk_X5_81 zm_X2_get (c_X2_get zTwd_3 d S ((4 : Int32) + a1) x5 hc4) (zTwd_3.1 S) rfl rfl rfl (Nat.le_of_ble_eq_true rfl) ?_
    refine zv_istore_n dX5_spareOf_23 rfl (by decide) ?_
    refine zv_iload_n dX5_spareOf_24 rfl rfl ?_
    refine zv_aload_n dX5_spareOf_25 rfl rfl ?_
    refine zv_get zf_X5_19 (wo_0 S) rfl dX5_spareOf_26 ?_
    refine zv_bipush (v := 10) dX5_spareOf_29 (by decide) ?_
    refine zv_iload_n dX5_spareOf_31 rfl rfl ?_
    refine zv_iadd dX5_spareOf_32 ?_
    obtain ⟨x7, hc6, hf⟩ := zbind hf
    refine zv_callV dX5_spareOf_33 zk_X5_81 zm_X2_get (c_X2_get zTwd_3 d S ((10 : Int32) + a1) x7 hc6) (zTwd_3.1 S) rfl rfl rfl (Nat.le_of_ble_eq_true rfl) ?_
    refine zv_iadd dX5_spareOf_36 ?_
    refine zv_aload_n dX5_spareOf_37 rfl rfl ?_
    refine zv_get zf_X5_48 (wo_0 S) rfl dX5_spareOf_38 ?_
    refine zv_iload_n dX5_spareOf_41 rfl rfl ?_
    obtain ⟨x9, hc8, hf⟩ := zbind hf
    refine zv_callV dX5_spareOf_42 zk_X5_85 zm_X0_needOf (c_X0_needOf (zLwd S.2.2.1) d (by omega) S a1 x9 hc8) ((zLwd S.2.2.1).1 S) rfl rfl rfl (Nat.le_of_ble_eq_true rfl) ?_
    refine zv_isub dX5_spareOf_45 ?_
    refine zv_istore_n dX5_spareOf_46 rfl (by decide) ?_
    refine zv_iconst (v := 0) dX5_spareOf_47 (by decide) ?_
    refine zv_iload_n dX5_spareOf_48 rfl rfl ?_
    refine zv_iload_n dX5_spareOf_49 rfl rfl ?_
    refine zv_min zk_X5_209 (Nat.le_of_ble_eq_true rfl) dX5_spareOf_50 ?_
    refine zv_max zk_X5_214 (Nat.le_of_ble_eq_true rfl) dX5_spareOf_53 ?_
    exact zv_iret (ty := .int) dX5_spareOf_56 rfl rfl (zret1 hf)
  · replace hf := (if_neg c3).symm.trans hf
    refine zv_iconst (v := 0) dX5_spareOf_11 (by decide) ?_
    exact zv_iret (ty := .int) dX5_spareOf_12 rfl rfl (zret1 hf)
-- KingPrices.fillSpares()V height 3 writes
def f_X5_fillSpares_34 (k2 : zS → Int32 → Option zS) (S : zS) (a1 : Int32) : Option zS :=
  k2 S (a1 + (1 : Int32))
set_option maxRecDepth 100000 in
set_option maxHeartbeats 4000000 in
theorem v_X5_fillSpares_34 (d : Nat) (hd : 2 ≤ d) (k2 : zS → Int32 → Option zS) (hk2 : ∀ (S : zS) (a1 : Int32) S', k2 S a1 = (some S') → zV none (d + 1) yX5_fillSpares cX5_fillSpares 2 none 2 [(0, .ref 0), (1, .int a1)] [] (wd S) (zq none (wd S'))) (S : zS) (a1 : Int32) (S' : zS) (hf : f_X5_fillSpares_34 k2 S a1 = (some S')) : zV none (d + 1) yX5_fillSpares cX5_fillSpares 2 none 34 [(0, .ref 0), (1, .int a1)] [] (wd S) (zq none (wd S')) := by
  unfold f_X5_fillSpares_34 at hf
  refine zv_iinc (v := 1) dX5_fillSpares_34 rfl (by decide) (by decide) ?_
  refine zv_goto (tgt := 2) dX5_fillSpares_37 (by decide) ?_
  exact zV_sub ([(0, .ref 0), (1, .int (a1 + (1 : Int32)))]) ⟨rfl, rfl, trivial⟩ (hk2 S (a1 + (1 : Int32)) _ hf)
def f_X5_fillSpares_2  : Nat → zS → Int32 → Option zS
  | 0, _, _ => none
  | n + 1, S, a1 => (if (6 : Int32) ≤ a1 then some S else (if (S.1 (lr S.2.2.1) 6) ≤ a1 then (if zin a1 6 then f_X5_fillSpares_34 (f_X5_fillSpares_2  n) (zr S 10 (upd (S.1 10) (a1).toNatClampNeg (0 : Int32))) a1 else none) else ((f_X5_spareOf S a1).bind (fun x5 => (if zin a1 6 then f_X5_fillSpares_34 (f_X5_fillSpares_2  n) (zr S 10 (upd (S.1 10) (a1).toNatClampNeg x5)) a1 else none)))))
set_option maxRecDepth 100000 in
set_option maxHeartbeats 4000000 in
theorem v_X5_fillSpares_2 (d : Nat) (hd : 2 ≤ d) : ∀ (n : Nat) (S : zS) (a1 : Int32) (S' : zS), f_X5_fillSpares_2  n S a1 = (some S') → zV none (d + 1) yX5_fillSpares cX5_fillSpares 2 none 2 [(0, .ref 0), (1, .int a1)] [] (wd S) (zq none (wd S')) := by
  intro n
  induction n with
  | zero =>
    intro S a1 S' hf
    cases hf
  | succ n ih =>
    intro S a1 S' hf
    rw [f_X5_fillSpares_2] at hf
    refine zv_iload_n dX5_fillSpares_2 rfl rfl ?_
    refine zv_bipush (v := 6) dX5_fillSpares_3 (by decide) ?_
    refine zv_icmp_ge (tgt := 40) dX5_fillSpares_5 (by decide) (fun c1 => ?_) (fun c1 => ?_)
    · replace hf := (if_pos c1).symm.trans hf
      exact zv_vret dX5_fillSpares_40 rfl (zret0 wd hf)
    · replace hf := (if_neg c1).symm.trans hf
      refine zv_aload_n dX5_fillSpares_8 rfl rfl ?_
      refine zv_get zf_X5_27 (wo_0 S) rfl dX5_fillSpares_9 ?_
      refine zv_iload_n dX5_fillSpares_12 rfl rfl ?_
      refine zv_iload_n dX5_fillSpares_13 rfl rfl ?_
      refine zv_aload_n dX5_fillSpares_14 rfl rfl ?_
      refine zv_get zf_X5_48 (wo_0 S) rfl dX5_fillSpares_15 ?_
      refine zv_get zf_X5_114 ((zLwd S.2.2.1).1 S) rfl dX5_fillSpares_18 ?_
      refine zv_icmp_ge (tgt := 32) dX5_fillSpares_21 (by decide) (fun c2 => ?_) (fun c2 => ?_)
      · replace hf := (if_pos c2).symm.trans hf
        refine zv_iconst (v := 0) dX5_fillSpares_32 (by decide) ?_
        obtain ⟨hb3, hf⟩ := zifb hf
        refine zv_iast hb3 (wo_10 S) (ws_10 S (upd (S.1 10) (a1).toNatClampNeg (0 : Int32))) dX5_fillSpares_33 ?_
        exact zV_sub ([(0, .ref 0), (1, .int a1)]) ⟨rfl, rfl, trivial⟩ (v_X5_fillSpares_34 d (by omega) (f_X5_fillSpares_2  n) ih (zr S 10 (upd (S.1 10) (a1).toNatClampNeg (0 : Int32))) a1 _ hf)
      · replace hf := (if_neg c2).symm.trans hf
        refine zv_aload_n dX5_fillSpares_24 rfl rfl ?_
        refine zv_iload_n dX5_fillSpares_25 rfl rfl ?_
        obtain ⟨x5, hc4, hf⟩ := zbind hf
        refine zv_callV dX5_fillSpares_26 zk_X5_91 zm_X5_spareOf (c_X5_spareOf  d (by omega) S a1 x5 hc4) (wo_0 S) rfl rfl rfl (Nat.le_of_ble_eq_true rfl) ?_
        refine zv_goto (tgt := 33) dX5_fillSpares_29 (by decide) ?_
        obtain ⟨hb6, hf⟩ := zifb hf
        refine zv_iast hb6 (wo_10 S) (ws_10 S (upd (S.1 10) (a1).toNatClampNeg x5)) dX5_fillSpares_33 ?_
        exact zV_sub ([(0, .ref 0), (1, .int a1)]) ⟨rfl, rfl, trivial⟩ (v_X5_fillSpares_34 d (by omega) (f_X5_fillSpares_2  n) ih (zr S 10 (upd (S.1 10) (a1).toNatClampNeg x5)) a1 _ hf)
def f_X5_fillSpares (S : zS) : Option zS :=
  f_X5_fillSpares_2 zN S (0 : Int32)
set_option maxRecDepth 100000 in
set_option maxHeartbeats 4000000 in
theorem c_X5_fillSpares  (d : Nat) (hd : 3 ≤ d) (S : zS) (S' : zS) (hf : f_X5_fillSpares S = (some S')) : zC d yX5_fillSpares cX5_fillSpares 2 none [.ref 0] (wd S) (zq none (wd S')) := by
  obtain ⟨d, rfl⟩ : ∃ e, d = e + 1 := ⟨d - 1, by omega⟩
  refine zC_intro (by decide) rfl (Nat.le_of_ble_eq_true rfl) ?_
  unfold f_X5_fillSpares at hf
  refine zv_iconst (v := 0) dX5_fillSpares_0 (by decide) ?_
  refine zv_istore_n dX5_fillSpares_1 rfl (by decide) ?_
  exact zV_sub ([(0, .ref 0), (1, .int (0 : Int32))]) ⟨rfl, rfl, trivial⟩ (v_X5_fillSpares_2 d (by omega) zN S (0 : Int32) _ hf)
-- KingPrices.from(I)I height 4 writes
def f_X5_from (S : zS) (a1 : Int32) : Option (Int32 × zS) :=
  ((f_X5_isWithin a1 (0 : Int32) (360 : Int32)).bind (fun x2 => (if x2 = 0 then some ((-1 : Int32), S) else ((f_X5_fillSpares S).bind (fun S5 => ((f_X5_fewestWith S5 a1).bind (fun x7 => some (x7, S5))))))))
set_option maxRecDepth 100000 in
set_option maxHeartbeats 4000000 in
theorem c_X5_from  (d : Nat) (hd : 4 ≤ d) (S : zS) (a1 : Int32) (v : Int32) (S' : zS) (hf : f_X5_from S a1 = (some (v, S'))) : zC d yX5_from cX5_from 2 (some .int) [.ref 0, .int a1] (wd S) (zq (some (.int v)) (wd S')) := by
  obtain ⟨d, rfl⟩ : ∃ e, d = e + 1 := ⟨d - 1, by omega⟩
  refine zC_intro (by decide) rfl (Nat.le_of_ble_eq_true rfl) ?_
  unfold f_X5_from at hf
  refine zv_iload_n dX5_from_0 rfl rfl ?_
  refine zv_iconst (v := 0) dX5_from_1 (by decide) ?_
  refine zv_sipush (v := 360) dX5_from_2 (by decide) ?_
  obtain ⟨x2, hc1, hf⟩ := zbind hf
  refine zv_callS dX5_from_5 zk_X5_59 zm_X5_isWithin (c_X5_isWithin  d a1 (0 : Int32) (360 : Int32) x2 hc1) rfl rfl (Nat.le_of_ble_eq_true rfl) ?_
  refine zv_if_ne (tgt := 13) dX5_from_8 (by decide) (fun c3 => ?_) (fun c3 => ?_)
  · replace hf := (if_neg c3).symm.trans hf
    refine zv_aload_n dX5_from_13 rfl rfl ?_
    obtain ⟨S5, hc4, hf⟩ := zbind hf
    refine zv_callV dX5_from_14 zk_X5_141 zm_X5_fillSpares (c_X5_fillSpares  d (by omega) S S5 hc4) (wo_0 S) rfl rfl rfl (Nat.le_of_ble_eq_true rfl) ?_
    refine zv_aload_n dX5_from_17 rfl rfl ?_
    refine zv_iload_n dX5_from_18 rfl rfl ?_
    obtain ⟨x7, hc6, hf⟩ := zbind hf
    refine zv_callV dX5_from_19 zk_X5_144 zm_X5_fewestWith (c_X5_fewestWith  d (by omega) S5 a1 x7 hc6) (wo_0 S5) rfl rfl rfl (Nat.le_of_ble_eq_true rfl) ?_
    exact zv_iret (ty := .int) dX5_from_22 rfl rfl (zret2 wd hf)
  · replace hf := (if_pos c3).symm.trans hf
    refine zv_iconst (v := -1) dX5_from_11 (by decide) ?_
    exact zv_iret (ty := .int) dX5_from_12 rfl rfl (zret2 wd hf)
-- KingPrices.goes(I)I height 3 writes
def f_X5_goes (S : zS) (a1 : Int32) : Option (Int32 × zS) :=
  ((f_X0_knows S (lr S.2.2.1) a1).bind (fun x2 => (if x2 = 0 then some ((-1 : Int32), S) else ((f_X2_get S 3 (0 : Int32)).bind (fun x5 => ((f_X0_daysBetween S (lr S.2.2.1) x5 a1).bind (fun x7 => (if x7 = (-9 : Int32) then some ((-2 : Int32), S) else (if x7 = 0 then some ((-2 : Int32), S) else ((f_X2_get S 3 (1 : Int32)).bind (fun x11 => (if (x11 + x7) ≤ (999 : Int32) then ((f_X2_remember S 3).bind (fun S14 => ((f_X2_letDaysPass S14 3 x7 (S14.1 (lr S14.2.2.1) 8)).bind (fun S16 => ((f_X2_put S16 3 (0 : Int32) a1).bind (fun S18 => ((f_X2_get S18 3 (1 : Int32)).bind (fun x20 => some (x20, S18))))))))) else some ((-2 : Int32), S)))))))))))))
set_option maxRecDepth 100000 in
set_option maxHeartbeats 4000000 in
theorem c_X5_goes  (d : Nat) (hd : 3 ≤ d) (S : zS) (a1 : Int32) (v : Int32) (S' : zS) (hf : f_X5_goes S a1 = (some (v, S'))) : zC d yX5_goes cX5_goes 3 (some .int) [.ref 0, .int a1] (wd S) (zq (some (.int v)) (wd S')) := by
  obtain ⟨d, rfl⟩ : ∃ e, d = e + 1 := ⟨d - 1, by omega⟩
  refine zC_intro (by decide) rfl (Nat.le_of_ble_eq_true rfl) ?_
  unfold f_X5_goes at hf
  refine zv_aload_n dX5_goes_0 rfl rfl ?_
  refine zv_get zf_X5_48 (wo_0 S) rfl dX5_goes_1 ?_
  refine zv_iload_n dX5_goes_4 rfl rfl ?_
  obtain ⟨x2, hc1, hf⟩ := zbind hf
  refine zv_callV dX5_goes_5 zk_X5_78 zm_X0_knows (c_X0_knows (zLwd S.2.2.1) d S a1 x2 hc1) ((zLwd S.2.2.1).1 S) rfl rfl rfl (Nat.le_of_ble_eq_true rfl) ?_
  refine zv_if_ne (tgt := 13) dX5_goes_8 (by decide) (fun c3 => ?_) (fun c3 => ?_)
  · replace hf := (if_neg c3).symm.trans hf
    refine zv_aload_n dX5_goes_13 rfl rfl ?_
    refine zv_get zf_X5_48 (wo_0 S) rfl dX5_goes_14 ?_
    refine zv_aload_n dX5_goes_17 rfl rfl ?_
    refine zv_get zf_X5_19 (wo_0 S) rfl dX5_goes_18 ?_
    refine zv_iconst (v := 0) dX5_goes_21 (by decide) ?_
    obtain ⟨x5, hc4, hf⟩ := zbind hf
    refine zv_callV dX5_goes_22 zk_X5_81 zm_X2_get (c_X2_get zTwd_3 d S (0 : Int32) x5 hc4) (zTwd_3.1 S) rfl rfl rfl (Nat.le_of_ble_eq_true rfl) ?_
    refine zv_iload_n dX5_goes_25 rfl rfl ?_
    obtain ⟨x7, hc6, hf⟩ := zbind hf
    refine zv_callV dX5_goes_26 zk_X5_94 zm_X0_daysBetween (c_X0_daysBetween (zLwd S.2.2.1) d (by omega) S x5 a1 x7 hc6) ((zLwd S.2.2.1).1 S) rfl rfl rfl (Nat.le_of_ble_eq_true rfl) ?_
    refine zv_istore_n dX5_goes_29 rfl (by decide) ?_
    refine zv_iload_n dX5_goes_30 rfl rfl ?_
    refine zv_bipush (v := -9) dX5_goes_31 (by decide) ?_
    refine zv_icmp_eq (tgt := 56) dX5_goes_33 (by decide) (fun c8 => ?_) (fun c8 => ?_)
    · replace hf := (if_pos c8).symm.trans hf
      refine zv_bipush (v := -2) dX5_goes_56 (by decide) ?_
      exact zv_iret (ty := .int) dX5_goes_58 rfl rfl (zret2 wd hf)
    · replace hf := (if_neg c8).symm.trans hf
      refine zv_iload_n dX5_goes_36 rfl rfl ?_
      refine zv_if_eq (tgt := 56) dX5_goes_37 (by decide) (fun c9 => ?_) (fun c9 => ?_)
      · replace hf := (if_pos c9).symm.trans hf
        refine zv_bipush (v := -2) dX5_goes_56 (by decide) ?_
        exact zv_iret (ty := .int) dX5_goes_58 rfl rfl (zret2 wd hf)
      · replace hf := (if_neg c9).symm.trans hf
        refine zv_aload_n dX5_goes_40 rfl rfl ?_
        refine zv_get zf_X5_19 (wo_0 S) rfl dX5_goes_41 ?_
        refine zv_iconst (v := 1) dX5_goes_44 (by decide) ?_
        obtain ⟨x11, hc10, hf⟩ := zbind hf
        refine zv_callV dX5_goes_45 zk_X5_81 zm_X2_get (c_X2_get zTwd_3 d S (1 : Int32) x11 hc10) (zTwd_3.1 S) rfl rfl rfl (Nat.le_of_ble_eq_true rfl) ?_
        refine zv_iload_n dX5_goes_48 rfl rfl ?_
        refine zv_iadd dX5_goes_49 ?_
        refine zv_sipush (v := 999) dX5_goes_50 (by decide) ?_
        refine zv_icmp_le (tgt := 59) dX5_goes_53 (by decide) (fun c12 => ?_) (fun c12 => ?_)
        · replace hf := (if_pos c12).symm.trans hf
          refine zv_aload_n dX5_goes_59 rfl rfl ?_
          refine zv_get zf_X5_19 (wo_0 S) rfl dX5_goes_60 ?_
          obtain ⟨S14, hc13, hf⟩ := zbind hf
          refine zv_callV dX5_goes_63 zk_X5_101 zm_X2_remember (c_X2_remember zTwd_3 d (by omega) S S14 hc13) (zTwd_3.1 S) rfl rfl rfl (Nat.le_of_ble_eq_true rfl) ?_
          refine zv_aload_n dX5_goes_66 rfl rfl ?_
          refine zv_get zf_X5_19 (wo_0 S14) rfl dX5_goes_67 ?_
          refine zv_iload_n dX5_goes_70 rfl rfl ?_
          refine zv_aload_n dX5_goes_71 rfl rfl ?_
          refine zv_get zf_X5_48 (wo_0 S14) rfl dX5_goes_72 ?_
          refine zv_get zf_X5_104 ((zLwd S14.2.2.1).1 S14) rfl dX5_goes_75 ?_
          obtain ⟨S16, hc15, hf⟩ := zbind hf
          refine zv_callV dX5_goes_78 zk_X5_107 zm_X2_letDaysPass (c_X2_letDaysPass zTwd_3 d (by omega) S14 x7 (S14.1 (lr S14.2.2.1) 8) S16 hc15) (zTwd_3.1 S14) rfl rfl rfl (Nat.le_of_ble_eq_true rfl) ?_
          refine zv_aload_n dX5_goes_81 rfl rfl ?_
          refine zv_get zf_X5_19 (wo_0 S16) rfl dX5_goes_82 ?_
          refine zv_iconst (v := 0) dX5_goes_85 (by decide) ?_
          refine zv_iload_n dX5_goes_86 rfl rfl ?_
          obtain ⟨S18, hc17, hf⟩ := zbind hf
          refine zv_callV dX5_goes_87 zk_X5_111 zm_X2_put (c_X2_put zTwd_3 d S16 (0 : Int32) a1 S18 hc17) (zTwd_3.1 S16) rfl rfl rfl (Nat.le_of_ble_eq_true rfl) ?_
          refine zv_aload_n dX5_goes_90 rfl rfl ?_
          refine zv_get zf_X5_19 (wo_0 S18) rfl dX5_goes_91 ?_
          refine zv_iconst (v := 1) dX5_goes_94 (by decide) ?_
          obtain ⟨x20, hc19, hf⟩ := zbind hf
          refine zv_callV dX5_goes_95 zk_X5_81 zm_X2_get (c_X2_get zTwd_3 d S18 (1 : Int32) x20 hc19) (zTwd_3.1 S18) rfl rfl rfl (Nat.le_of_ble_eq_true rfl) ?_
          exact zv_iret (ty := .int) dX5_goes_98 rfl rfl (zret2 wd hf)
        · replace hf := (if_neg c12).symm.trans hf
          refine zv_bipush (v := -2) dX5_goes_56 (by decide) ?_
          exact zv_iret (ty := .int) dX5_goes_58 rfl rfl (zret2 wd hf)
  · replace hf := (if_pos c3).symm.trans hf
    refine zv_iconst (v := -1) dX5_goes_11 (by decide) ?_
    exact zv_iret (ty := .int) dX5_goes_12 rfl rfl (zret2 wd hf)
-- KingPrices.had(II)I height 1 reads
def f_X5_had_61 (k27 : zS → Int32 → Int32 → Int32 → Int32 → Option Int32) (S : zS) (a1 : Int32) (a2 : Int32) (a3 : Int32) (a4 : Int32) : Option Int32 :=
  k27 S a1 a2 a3 (a4 + (1 : Int32))
set_option maxRecDepth 100000 in
set_option maxHeartbeats 4000000 in
theorem v_X5_had_61 (d : Nat) (hd : 0 ≤ d) (k27 : zS → Int32 → Int32 → Int32 → Int32 → Option Int32) (hk27 : ∀ (S : zS) (a1 a2 a3 a4 : Int32) v, k27 S a1 a2 a3 a4 = (some v) → zV none (d + 1) yX5_had cX5_had 5 (some .int) 27 [(0, .ref 0), (1, .int a1), (2, .int a2), (3, .int a3), (4, .int a4)] [] (wd S) (zq (some (.int v)) (wd S))) (S : zS) (a1 : Int32) (a2 : Int32) (a3 : Int32) (a4 : Int32) (v : Int32) (hf : f_X5_had_61 k27 S a1 a2 a3 a4 = (some v)) : zV none (d + 1) yX5_had cX5_had 5 (some .int) 61 [(0, .ref 0), (1, .int a1), (2, .int a2), (3, .int a3), (4, .int a4)] [] (wd S) (zq (some (.int v)) (wd S)) := by
  unfold f_X5_had_61 at hf
  refine zv_iinc (v := 1) dX5_had_61 rfl (by decide) (by decide) ?_
  refine zv_goto (tgt := 27) dX5_had_64 (by decide) ?_
  exact zV_sub ([(0, .ref 0), (1, .int a1), (2, .int a2), (3, .int a3), (4, .int (a4 + (1 : Int32)))]) ⟨rfl, rfl, rfl, rfl, rfl, trivial⟩ (hk27 S a1 a2 a3 (a4 + (1 : Int32)) _ hf)
def f_X5_had_58 (k27 : zS → Int32 → Int32 → Int32 → Int32 → Option Int32) (S : zS) (a1 : Int32) (a2 : Int32) (a4 : Int32) : Option Int32 :=
  f_X5_had_61 k27 S a1 a2 a4 a4
set_option maxRecDepth 100000 in
set_option maxHeartbeats 4000000 in
theorem v_X5_had_58 (d : Nat) (hd : 0 ≤ d) (k27 : zS → Int32 → Int32 → Int32 → Int32 → Option Int32) (hk27 : ∀ (S : zS) (a1 a2 a3 a4 : Int32) v, k27 S a1 a2 a3 a4 = (some v) → zV none (d + 1) yX5_had cX5_had 5 (some .int) 27 [(0, .ref 0), (1, .int a1), (2, .int a2), (3, .int a3), (4, .int a4)] [] (wd S) (zq (some (.int v)) (wd S))) (S : zS) (a1 : Int32) (a2 : Int32) (a4 : Int32) (v : Int32) (hf : f_X5_had_58 k27 S a1 a2 a4 = (some v)) : zV none (d + 1) yX5_had cX5_had 5 (some .int) 58 [(0, .ref 0), (1, .int a1), (2, .int a2), (4, .int a4)] [] (wd S) (zq (some (.int v)) (wd S)) := by
  unfold f_X5_had_58 at hf
  refine zv_iload dX5_had_58 rfl ?_
  refine zv_istore_n dX5_had_60 rfl (by decide) ?_
  exact zV_sub ([(0, .ref 0), (1, .int a1), (2, .int a2), (3, .int a4), (4, .int a4)]) ⟨rfl, rfl, rfl, rfl, rfl, trivial⟩ (v_X5_had_61 d (by omega) k27 hk27 S a1 a2 a4 a4 _ hf)
def f_X5_had_27  : Nat → zS → Int32 → Int32 → Int32 → Int32 → Option Int32
  | 0, _, _, _, _, _ => none
  | n + 1, S, a1, a2, a3, a4 => (if (60 : Int32) < a4 then some a3 else ((f_X0_writtenFor S (lr S.2.2.1) a4).bind (fun x3 => (if x3 = a1 then (if a2 = (1 : Int32) then f_X5_had_58 (f_X5_had_27  n) S a1 a2 a4 else (if a3 = (-9 : Int32) then f_X5_had_58 (f_X5_had_27  n) S a1 a2 a4 else f_X5_had_61 (f_X5_had_27  n) S a1 a2 a3 a4)) else f_X5_had_61 (f_X5_had_27  n) S a1 a2 a3 a4))))
set_option maxRecDepth 100000 in
set_option maxHeartbeats 4000000 in
theorem v_X5_had_27 (d : Nat) (hd : 0 ≤ d) : ∀ (n : Nat) (S : zS) (a1 : Int32) (a2 : Int32) (a3 : Int32) (a4 : Int32) (v : Int32), f_X5_had_27  n S a1 a2 a3 a4 = (some v) → zV none (d + 1) yX5_had cX5_had 5 (some .int) 27 [(0, .ref 0), (1, .int a1), (2, .int a2), (3, .int a3), (4, .int a4)] [] (wd S) (zq (some (.int v)) (wd S)) := by
  intro n
  induction n with
  | zero =>
    intro S a1 a2 a3 a4 v hf
    cases hf
  | succ n ih =>
    intro S a1 a2 a3 a4 v hf
    rw [f_X5_had_27] at hf
    refine zv_iload dX5_had_27 rfl ?_
    refine zv_bipush (v := 60) dX5_had_29 (by decide) ?_
    refine zv_icmp_gt (tgt := 67) dX5_had_31 (by decide) (fun c1 => ?_) (fun c1 => ?_)
    · replace hf := (if_pos c1).symm.trans hf
      refine zv_iload_n dX5_had_67 rfl rfl ?_
      exact zv_iret (ty := .int) dX5_had_68 rfl rfl (zret1 hf)
    · replace hf := (if_neg c1).symm.trans hf
      refine zv_aload_n dX5_had_34 rfl rfl ?_
      refine zv_get zf_X5_48 (wo_0 S) rfl dX5_had_35 ?_
      refine zv_iload dX5_had_38 rfl ?_
      obtain ⟨x3, hc2, hf⟩ := zbind hf
      refine zv_callV dX5_had_40 zk_X5_117 zm_X0_writtenFor (c_X0_writtenFor (zLwd S.2.2.1) d S a4 x3 hc2) ((zLwd S.2.2.1).1 S) rfl rfl rfl (Nat.le_of_ble_eq_true rfl) ?_
      refine zv_iload_n dX5_had_43 rfl rfl ?_
      refine zv_icmp_ne (tgt := 61) dX5_had_44 (by decide) (fun c4 => ?_) (fun c4 => ?_)
      · replace hf := (if_neg c4).symm.trans hf
        exact zV_sub ([(0, .ref 0), (1, .int a1), (2, .int a2), (3, .int a3), (4, .int a4)]) ⟨rfl, rfl, rfl, rfl, rfl, trivial⟩ (v_X5_had_61 d (by omega) (f_X5_had_27  n) ih S a1 a2 a3 a4 _ hf)
      · replace hf := (if_pos c4).symm.trans hf
        refine zv_iload_n dX5_had_47 rfl rfl ?_
        refine zv_iconst (v := 1) dX5_had_48 (by decide) ?_
        refine zv_icmp_eq (tgt := 58) dX5_had_49 (by decide) (fun c5 => ?_) (fun c5 => ?_)
        · replace hf := (if_pos c5).symm.trans hf
          exact zV_sub ([(0, .ref 0), (1, .int a1), (2, .int a2), (4, .int a4)]) ⟨rfl, rfl, rfl, rfl, trivial⟩ (v_X5_had_58 d (by omega) (f_X5_had_27  n) ih S a1 a2 a4 _ hf)
        · replace hf := (if_neg c5).symm.trans hf
          refine zv_iload_n dX5_had_52 rfl rfl ?_
          refine zv_bipush (v := -9) dX5_had_53 (by decide) ?_
          refine zv_icmp_ne (tgt := 61) dX5_had_55 (by decide) (fun c6 => ?_) (fun c6 => ?_)
          · replace hf := (if_neg c6).symm.trans hf
            exact zV_sub ([(0, .ref 0), (1, .int a1), (2, .int a2), (3, .int a3), (4, .int a4)]) ⟨rfl, rfl, rfl, rfl, rfl, trivial⟩ (v_X5_had_61 d (by omega) (f_X5_had_27  n) ih S a1 a2 a3 a4 _ hf)
          · replace hf := (if_pos c6).symm.trans hf
            exact zV_sub ([(0, .ref 0), (1, .int a1), (2, .int a2), (4, .int a4)]) ⟨rfl, rfl, rfl, rfl, trivial⟩ (v_X5_had_58 d (by omega) (f_X5_had_27  n) ih S a1 a2 a4 _ hf)
def f_X5_had (S : zS) (a1 : Int32) (a2 : Int32) : Option Int32 :=
  ((f_X5_isWithin a1 (0 : Int32) (60 : Int32)).bind (fun x2 => (if x2 = 0 then some ((-1 : Int32)) else ((f_X5_isWithin a2 (0 : Int32) (1 : Int32)).bind (fun x5 => (if x5 = 0 then some ((-1 : Int32)) else f_X5_had_27 zN S a1 a2 (-9 : Int32) (1 : Int32)))))))
set_option maxRecDepth 100000 in
set_option maxHeartbeats 4000000 in
theorem c_X5_had  (d : Nat) (hd : 1 ≤ d) (S : zS) (a1 : Int32) (a2 : Int32) (v : Int32) (hf : f_X5_had S a1 a2 = (some v)) : zC d yX5_had cX5_had 5 (some .int) [.ref 0, .int a1, .int a2] (wd S) (zq (some (.int v)) (wd S)) := by
  obtain ⟨d, rfl⟩ : ∃ e, d = e + 1 := ⟨d - 1, by omega⟩
  refine zC_intro (by decide) rfl (Nat.le_of_ble_eq_true rfl) ?_
  unfold f_X5_had at hf
  refine zv_iload_n dX5_had_0 rfl rfl ?_
  refine zv_iconst (v := 0) dX5_had_1 (by decide) ?_
  refine zv_bipush (v := 60) dX5_had_2 (by decide) ?_
  obtain ⟨x2, hc1, hf⟩ := zbind hf
  refine zv_callS dX5_had_4 zk_X5_59 zm_X5_isWithin (c_X5_isWithin  d a1 (0 : Int32) (60 : Int32) x2 hc1) rfl rfl (Nat.le_of_ble_eq_true rfl) ?_
  refine zv_if_eq (tgt := 19) dX5_had_7 (by decide) (fun c3 => ?_) (fun c3 => ?_)
  · replace hf := (if_pos c3).symm.trans hf
    refine zv_iconst (v := -1) dX5_had_19 (by decide) ?_
    exact zv_iret (ty := .int) dX5_had_20 rfl rfl (zret1 hf)
  · replace hf := (if_neg c3).symm.trans hf
    refine zv_iload_n dX5_had_10 rfl rfl ?_
    refine zv_iconst (v := 0) dX5_had_11 (by decide) ?_
    refine zv_iconst (v := 1) dX5_had_12 (by decide) ?_
    obtain ⟨x5, hc4, hf⟩ := zbind hf
    refine zv_callS dX5_had_13 zk_X5_59 zm_X5_isWithin (c_X5_isWithin  d a2 (0 : Int32) (1 : Int32) x5 hc4) rfl rfl (Nat.le_of_ble_eq_true rfl) ?_
    refine zv_if_ne (tgt := 21) dX5_had_16 (by decide) (fun c6 => ?_) (fun c6 => ?_)
    · replace hf := (if_neg c6).symm.trans hf
      refine zv_bipush (v := -9) dX5_had_21 (by decide) ?_
      refine zv_istore_n dX5_had_23 rfl (by decide) ?_
      refine zv_iconst (v := 1) dX5_had_24 (by decide) ?_
      refine zv_istore dX5_had_25 (by decide) ?_
      exact zV_sub ([(0, .ref 0), (1, .int a1), (2, .int a2), (3, .int (-9 : Int32)), (4, .int (1 : Int32))]) ⟨rfl, rfl, rfl, rfl, rfl, trivial⟩ (v_X5_had_27 d (by omega) zN S a1 a2 (-9 : Int32) (1 : Int32) _ hf)
    · replace hf := (if_pos c6).symm.trans hf
      refine zv_iconst (v := -1) dX5_had_19 (by decide) ?_
      exact zv_iret (ty := .int) dX5_had_20 rfl rfl (zret1 hf)
-- KingPrices.moveHens(IIII)I height 2 writes
def f_X5_moveHens (S : zS) (a1 : Int32) (a2 : Int32) (a3 : Int32) (a4 : Int32) : Option (Int32 × zS) :=
  ((f_X0_knows S (lr S.2.2.1) a1).bind (fun x2 => (if x2 = 0 then some ((-1 : Int32), S) else ((f_X5_isWithin a2 (1 : Int32) (60 : Int32)).bind (fun x5 => (if x5 = 0 then some ((-1 : Int32), S) else ((f_X2_get S 3 (a3 + a1)).bind (fun x8 => (if a2 ≤ x8 then ((f_X2_remember S 3).bind (fun S11 => ((f_X2_add S11 3 (a3 + a1) (-a2)).bind (fun S13 => ((f_X2_add S13 3 (a4 + a1) a2).bind (fun S15 => ((f_X2_get S15 3 (a4 + a1)).bind (fun x17 => some (x17, S15))))))))) else some ((-2 : Int32), S))))))))))
set_option maxRecDepth 100000 in
set_option maxHeartbeats 4000000 in
theorem c_X5_moveHens  (d : Nat) (hd : 2 ≤ d) (S : zS) (a1 : Int32) (a2 : Int32) (a3 : Int32) (a4 : Int32) (v : Int32) (S' : zS) (hf : f_X5_moveHens S a1 a2 a3 a4 = (some (v, S'))) : zC d yX5_moveHens cX5_moveHens 5 (some .int) [.ref 0, .int a1, .int a2, .int a3, .int a4] (wd S) (zq (some (.int v)) (wd S')) := by
  obtain ⟨d, rfl⟩ : ∃ e, d = e + 1 := ⟨d - 1, by omega⟩
  refine zC_intro (by decide) rfl (Nat.le_of_ble_eq_true rfl) ?_
  unfold f_X5_moveHens at hf
  refine zv_aload_n dX5_moveHens_0 rfl rfl ?_
  refine zv_get zf_X5_48 (wo_0 S) rfl dX5_moveHens_1 ?_
  refine zv_iload_n dX5_moveHens_4 rfl rfl ?_
  obtain ⟨x2, hc1, hf⟩ := zbind hf
  refine zv_callV dX5_moveHens_5 zk_X5_78 zm_X0_knows (c_X0_knows (zLwd S.2.2.1) d S a1 x2 hc1) ((zLwd S.2.2.1).1 S) rfl rfl rfl (Nat.le_of_ble_eq_true rfl) ?_
  refine zv_if_eq (tgt := 21) dX5_moveHens_8 (by decide) (fun c3 => ?_) (fun c3 => ?_)
  · replace hf := (if_pos c3).symm.trans hf
    refine zv_iconst (v := -1) dX5_moveHens_21 (by decide) ?_
    exact zv_iret (ty := .int) dX5_moveHens_22 rfl rfl (zret2 wd hf)
  · replace hf := (if_neg c3).symm.trans hf
    refine zv_iload_n dX5_moveHens_11 rfl rfl ?_
    refine zv_iconst (v := 1) dX5_moveHens_12 (by decide) ?_
    refine zv_bipush (v := 60) dX5_moveHens_13 (by decide) ?_
    obtain ⟨x5, hc4, hf⟩ := zbind hf
    refine zv_callS dX5_moveHens_15 zk_X5_59 zm_X5_isWithin (c_X5_isWithin  d a2 (1 : Int32) (60 : Int32) x5 hc4) rfl rfl (Nat.le_of_ble_eq_true rfl) ?_
    refine zv_if_ne (tgt := 23) dX5_moveHens_18 (by decide) (fun c6 => ?_) (fun c6 => ?_)
    · replace hf := (if_neg c6).symm.trans hf
      refine zv_aload_n dX5_moveHens_23 rfl rfl ?_
      refine zv_get zf_X5_19 (wo_0 S) rfl dX5_moveHens_24 ?_
      refine zv_iload_n dX5_moveHens_27 rfl rfl ?_
      refine zv_iload_n dX5_moveHens_28 rfl rfl ?_
      refine zv_iadd dX5_moveHens_29 ?_
      obtain ⟨x8, hc7, hf⟩ := zbind hf
      refine zv_callV dX5_moveHens_30 zk_X5_81 zm_X2_get (c_X2_get zTwd_3 d S (a3 + a1) x8 hc7) (zTwd_3.1 S) rfl rfl rfl (Nat.le_of_ble_eq_true rfl) ?_
      refine zv_iload_n dX5_moveHens_33 rfl rfl ?_
      refine zv_icmp_ge (tgt := 40) dX5_moveHens_34 (by decide) (fun c9 => ?_) (fun c9 => ?_)
      · replace hf := (if_pos c9).symm.trans hf
        refine zv_aload_n dX5_moveHens_40 rfl rfl ?_
        refine zv_get zf_X5_19 (wo_0 S) rfl dX5_moveHens_41 ?_
        obtain ⟨S11, hc10, hf⟩ := zbind hf
        refine zv_callV dX5_moveHens_44 zk_X5_101 zm_X2_remember (c_X2_remember zTwd_3 d (by omega) S S11 hc10) (zTwd_3.1 S) rfl rfl rfl (Nat.le_of_ble_eq_true rfl) ?_
        refine zv_aload_n dX5_moveHens_47 rfl rfl ?_
        refine zv_get zf_X5_19 (wo_0 S11) rfl dX5_moveHens_48 ?_
        refine zv_iload_n dX5_moveHens_51 rfl rfl ?_
        refine zv_iload_n dX5_moveHens_52 rfl rfl ?_
        refine zv_iadd dX5_moveHens_53 ?_
        refine zv_iload_n dX5_moveHens_54 rfl rfl ?_
        refine zv_ineg dX5_moveHens_55 ?_
        obtain ⟨S13, hc12, hf⟩ := zbind hf
        refine zv_callV dX5_moveHens_56 zk_X5_120 zm_X2_add (c_X2_add zTwd_3 d (by omega) S11 (a3 + a1) (-a2) S13 hc12) (zTwd_3.1 S11) rfl rfl rfl (Nat.le_of_ble_eq_true rfl) ?_
        refine zv_aload_n dX5_moveHens_59 rfl rfl ?_
        refine zv_get zf_X5_19 (wo_0 S13) rfl dX5_moveHens_60 ?_
        refine zv_iload dX5_moveHens_63 rfl ?_
        refine zv_iload_n dX5_moveHens_65 rfl rfl ?_
        refine zv_iadd dX5_moveHens_66 ?_
        refine zv_iload_n dX5_moveHens_67 rfl rfl ?_
        obtain ⟨S15, hc14, hf⟩ := zbind hf
        refine zv_callV dX5_moveHens_68 zk_X5_120 zm_X2_add (c_X2_add zTwd_3 d (by omega) S13 (a4 + a1) a2 S15 hc14) (zTwd_3.1 S13) rfl rfl rfl (Nat.le_of_ble_eq_true rfl) ?_
        refine zv_aload_n dX5_moveHens_71 rfl rfl ?_
        refine zv_get zf_X5_19 (wo_0 S15) rfl dX5_moveHens_72 ?_
        refine zv_iload dX5_moveHens_75 rfl ?_
        refine zv_iload_n dX5_moveHens_77 rfl rfl ?_
        refine zv_iadd dX5_moveHens_78 ?_
        obtain ⟨x17, hc16, hf⟩ := zbind hf
        refine zv_callV dX5_moveHens_79 zk_X5_81 zm_X2_get (c_X2_get zTwd_3 d S15 (a4 + a1) x17 hc16) (zTwd_3.1 S15) rfl rfl rfl (Nat.le_of_ble_eq_true rfl) ?_
        exact zv_iret (ty := .int) dX5_moveHens_82 rfl rfl (zret2 wd hf)
      · replace hf := (if_neg c9).symm.trans hf
        refine zv_bipush (v := -2) dX5_moveHens_37 (by decide) ?_
        exact zv_iret (ty := .int) dX5_moveHens_39 rfl rfl (zret2 wd hf)
    · replace hf := (if_pos c6).symm.trans hf
      refine zv_iconst (v := -1) dX5_moveHens_21 (by decide) ?_
      exact zv_iret (ty := .int) dX5_moveHens_22 rfl rfl (zret2 wd hf)
-- KingPrices.hides(II)I height 3 writes
def f_X5_hides (S : zS) (a1 : Int32) (a2 : Int32) : Option (Int32 × zS) :=
  (zb2 (f_X5_moveHens S a1 a2 (4 : Int32) (10 : Int32)) (fun x2 S3 => some (x2, S3)))
set_option maxRecDepth 100000 in
set_option maxHeartbeats 4000000 in
theorem c_X5_hides  (d : Nat) (hd : 3 ≤ d) (S : zS) (a1 : Int32) (a2 : Int32) (v : Int32) (S' : zS) (hf : f_X5_hides S a1 a2 = (some (v, S'))) : zC d yX5_hides cX5_hides 3 (some .int) [.ref 0, .int a1, .int a2] (wd S) (zq (some (.int v)) (wd S')) := by
  obtain ⟨d, rfl⟩ : ∃ e, d = e + 1 := ⟨d - 1, by omega⟩
  refine zC_intro (by decide) rfl (Nat.le_of_ble_eq_true rfl) ?_
  unfold f_X5_hides at hf
  refine zv_aload_n dX5_hides_0 rfl rfl ?_
  refine zv_iload_n dX5_hides_1 rfl rfl ?_
  refine zv_iload_n dX5_hides_2 rfl rfl ?_
  refine zv_iconst (v := 4) dX5_hides_3 (by decide) ?_
  refine zv_bipush (v := 10) dX5_hides_4 (by decide) ?_
  obtain ⟨x2, S3, hc1, hf⟩ := zbind2 hf
  refine zv_callV dX5_hides_6 zk_X5_123 zm_X5_moveHens (c_X5_moveHens  d (by omega) S a1 a2 (4 : Int32) (10 : Int32) x2 S3 hc1) (wo_0 S) rfl rfl rfl (Nat.le_of_ble_eq_true rfl) ?_
  exact zv_iret (ty := .int) dX5_hides_9 rfl rfl (zret2 wd hf)
-- KingPrices.keep(I)I height 2 writes
def f_X5_keep (S : zS) (a1 : Int32) : Option (Int32 × zS) :=
  ((f_X5_isWithin a1 (0 : Int32) (1 : Int32)).bind (fun x2 => (if x2 = 0 then some ((-1 : Int32), S) else (if zin a1 2 then (if a1 = 0 then ((f_X2_copyFrom S 6 3).bind (fun S7 => ((f_X2_get (zu S7 0 8 ((S7.1 0 8) ||| ((1 : Int32) <<< (a1 &&& 31)))) 3 (1 : Int32)).bind (fun x9 => some (x9, (zu S7 0 8 ((S7.1 0 8) ||| ((1 : Int32) <<< (a1 &&& 31))))))))) else ((f_X2_copyFrom S 8 3).bind (fun S11 => ((f_X2_get (zu S11 0 8 ((S11.1 0 8) ||| ((1 : Int32) <<< (a1 &&& 31)))) 3 (1 : Int32)).bind (fun x13 => some (x13, (zu S11 0 8 ((S11.1 0 8) ||| ((1 : Int32) <<< (a1 &&& 31)))))))))) else none))))
set_option maxRecDepth 100000 in
set_option maxHeartbeats 4000000 in
theorem c_X5_keep  (d : Nat) (hd : 2 ≤ d) (S : zS) (a1 : Int32) (v : Int32) (S' : zS) (hf : f_X5_keep S a1 = (some (v, S'))) : zC d yX5_keep cX5_keep 2 (some .int) [.ref 0, .int a1] (wd S) (zq (some (.int v)) (wd S')) := by
  obtain ⟨d, rfl⟩ : ∃ e, d = e + 1 := ⟨d - 1, by omega⟩
  refine zC_intro (by decide) rfl (Nat.le_of_ble_eq_true rfl) ?_
  unfold f_X5_keep at hf
  refine zv_iload_n dX5_keep_0 rfl rfl ?_
  refine zv_iconst (v := 0) dX5_keep_1 (by decide) ?_
  refine zv_iconst (v := 1) dX5_keep_2 (by decide) ?_
  obtain ⟨x2, hc1, hf⟩ := zbind hf
  refine zv_callS dX5_keep_3 zk_X5_59 zm_X5_isWithin (c_X5_isWithin  d a1 (0 : Int32) (1 : Int32) x2 hc1) rfl rfl (Nat.le_of_ble_eq_true rfl) ?_
  refine zv_if_ne (tgt := 11) dX5_keep_6 (by decide) (fun c3 => ?_) (fun c3 => ?_)
  · replace hf := (if_neg c3).symm.trans hf
    refine zv_aload_n dX5_keep_11 rfl rfl ?_
    refine zv_get zf_X5_23 (wo_0 S) rfl dX5_keep_12 ?_
    refine zv_iload_n dX5_keep_15 rfl rfl ?_
    obtain ⟨hb4, hf⟩ := zifb hf
    by_cases c5 : a1 = 0
    · replace hf := (if_pos c5).symm.trans hf
      refine zv_aald (q := 6) hb4 (wo_5 S) (by rw [c5]; rfl) dX5_keep_16 ?_
      refine zv_aload_n dX5_keep_17 rfl rfl ?_
      refine zv_get zf_X5_19 (wo_0 S) rfl dX5_keep_18 ?_
      obtain ⟨S7, hc6, hf⟩ := zbind hf
      refine zv_callV dX5_keep_21 zk_X5_195 zm_X2_copyFrom (c_X2_copyFrom zTwd_6 zTwd_3 d (by omega) S S7 hc6) (zTwd_6.1 S) rfl rfl rfl (Nat.le_of_ble_eq_true rfl) ?_
      refine zv_aload_n dX5_keep_24 rfl rfl ?_
      refine zv_dup dX5_keep_25 rfl ?_
      refine zv_get zf_X5_75 (wo_0 S7) rfl dX5_keep_26 ?_
      refine zv_iconst (v := 1) dX5_keep_29 (by decide) ?_
      refine zv_iload_n dX5_keep_30 rfl rfl ?_
      refine zv_ishl dX5_keep_31 ?_
      refine zv_ior dX5_keep_32 ?_
      refine zv_put zp_X5_75 (wo_0 S7) rfl (fun _ => ⟨rfl, rfl⟩) (Nat.le_of_ble_eq_true rfl) (wp_0_8 S7 ((S7.1 0 8) ||| ((1 : Int32) <<< (a1 &&& 31)))) dX5_keep_33 ?_
      refine zv_aload_n dX5_keep_36 rfl rfl ?_
      refine zv_get zf_X5_19 (wo_0 (zu S7 0 8 ((S7.1 0 8) ||| ((1 : Int32) <<< (a1 &&& 31))))) rfl dX5_keep_37 ?_
      refine zv_iconst (v := 1) dX5_keep_40 (by decide) ?_
      obtain ⟨x9, hc8, hf⟩ := zbind hf
      refine zv_callV dX5_keep_41 zk_X5_81 zm_X2_get (c_X2_get zTwd_3 d (zu S7 0 8 ((S7.1 0 8) ||| ((1 : Int32) <<< (a1 &&& 31)))) (1 : Int32) x9 hc8) (zTwd_3.1 (zu S7 0 8 ((S7.1 0 8) ||| ((1 : Int32) <<< (a1 &&& 31))))) rfl rfl rfl (Nat.le_of_ble_eq_true rfl) ?_
      exact zv_iret (ty := .int) dX5_keep_44 rfl rfl (zret2 wd hf)
    · replace hf := (if_neg c5).symm.trans hf
      refine zv_aald (q := 8) hb4 (wo_5 S) (by rw [zim1 hb4 c5]; rfl) dX5_keep_16 ?_
      refine zv_aload_n dX5_keep_17 rfl rfl ?_
      refine zv_get zf_X5_19 (wo_0 S) rfl dX5_keep_18 ?_
      obtain ⟨S11, hc10, hf⟩ := zbind hf
      refine zv_callV dX5_keep_21 zk_X5_195 zm_X2_copyFrom (c_X2_copyFrom zTwd_8 zTwd_3 d (by omega) S S11 hc10) (zTwd_8.1 S) rfl rfl rfl (Nat.le_of_ble_eq_true rfl) ?_
      refine zv_aload_n dX5_keep_24 rfl rfl ?_
      refine zv_dup dX5_keep_25 rfl ?_
      refine zv_get zf_X5_75 (wo_0 S11) rfl dX5_keep_26 ?_
      refine zv_iconst (v := 1) dX5_keep_29 (by decide) ?_
      refine zv_iload_n dX5_keep_30 rfl rfl ?_
      refine zv_ishl dX5_keep_31 ?_
      refine zv_ior dX5_keep_32 ?_
      refine zv_put zp_X5_75 (wo_0 S11) rfl (fun _ => ⟨rfl, rfl⟩) (Nat.le_of_ble_eq_true rfl) (wp_0_8 S11 ((S11.1 0 8) ||| ((1 : Int32) <<< (a1 &&& 31)))) dX5_keep_33 ?_
      refine zv_aload_n dX5_keep_36 rfl rfl ?_
      refine zv_get zf_X5_19 (wo_0 (zu S11 0 8 ((S11.1 0 8) ||| ((1 : Int32) <<< (a1 &&& 31))))) rfl dX5_keep_37 ?_
      refine zv_iconst (v := 1) dX5_keep_40 (by decide) ?_
      obtain ⟨x13, hc12, hf⟩ := zbind hf
      refine zv_callV dX5_keep_41 zk_X5_81 zm_X2_get (c_X2_get zTwd_3 d (zu S11 0 8 ((S11.1 0 8) ||| ((1 : Int32) <<< (a1 &&& 31)))) (1 : Int32) x13 hc12) (zTwd_3.1 (zu S11 0 8 ((S11.1 0 8) ||| ((1 : Int32) <<< (a1 &&& 31))))) rfl rfl rfl (Nat.le_of_ble_eq_true rfl) ?_
      exact zv_iret (ty := .int) dX5_keep_44 rfl rfl (zret2 wd hf)
  · replace hf := (if_pos c3).symm.trans hf
    refine zv_iconst (v := -1) dX5_keep_9 (by decide) ?_
    exact zv_iret (ty := .int) dX5_keep_10 rfl rfl (zret2 wd hf)
-- KingPrices.land()I height 6 writes
def f_X5_land (S : zS) : Option (Int32 × zS) :=
  (zb2 (f_X0_readAll S (lr S.2.2.2)) (fun x2 S3 => (if 0 ≤ x2 then ((f_X2_begin (zu (zbd (zbt S3 S3.2.2.2) S3.2.2.1) 1 1 (0 : Int32)) 3 (lr (zu (zbd (zbt S3 S3.2.2.2) S3.2.2.1) 1 1 (0 : Int32)).2.2.1)).bind (fun S6 => some (x2, (zu S6 0 8 (0 : Int32))))) else some (x2, S3))))
set_option maxRecDepth 100000 in
set_option maxHeartbeats 4000000 in
theorem c_X5_land  (d : Nat) (hd : 6 ≤ d) (S : zS) (v : Int32) (S' : zS) (hf : f_X5_land S = (some (v, S'))) : zC d yX5_land cX5_land 3 (some .int) [.ref 0] (wd S) (zq (some (.int v)) (wd S')) := by
  obtain ⟨d, rfl⟩ : ∃ e, d = e + 1 := ⟨d - 1, by omega⟩
  refine zC_intro (by decide) rfl (Nat.le_of_ble_eq_true rfl) ?_
  unfold f_X5_land at hf
  refine zv_aload_n dX5_land_0 rfl rfl ?_
  refine zv_get zf_X5_52 (wo_0 S) rfl dX5_land_1 ?_
  refine zv_aload_n dX5_land_4 rfl rfl ?_
  refine zv_get zf_X5_10 (wo_0 S) rfl dX5_land_5 ?_
  obtain ⟨x2, S3, hc1, hf⟩ := zbind2 hf
  refine zv_callV dX5_land_8 zk_X5_71 zm_X0_readAll (c_X0_readAll (zLwd S.2.2.2) d (by omega) S x2 S3 hc1) ((zLwd S.2.2.2).1 S) rfl rfl rfl (Nat.le_of_ble_eq_true rfl) ?_
  refine zv_istore_n dX5_land_11 rfl (by decide) ?_
  refine zv_iload_n dX5_land_12 rfl rfl ?_
  refine zv_if_ge (tgt := 18) dX5_land_13 (by decide) (fun c4 => ?_) (fun c4 => ?_)
  · replace hf := (if_pos c4).symm.trans hf
    refine zv_aload_n dX5_land_18 rfl rfl ?_
    refine zv_get zf_X5_48 (wo_0 S3) rfl dX5_land_19 ?_
    refine zv_astore_n dX5_land_22 rfl (by decide) ?_
    refine zv_aload_n dX5_land_23 rfl rfl ?_
    refine zv_aload_n dX5_land_24 rfl rfl ?_
    refine zv_get zf_X5_52 (wo_0 S3) rfl dX5_land_25 ?_
    refine zv_put zp_X5_48 (wo_0 S3) rfl (fun _ => ⟨rfl, rfl⟩) (Nat.le_of_ble_eq_true rfl) (wp_0_6 S3 S3.2.2.2) dX5_land_28 ?_
    refine zv_aload_n dX5_land_31 rfl rfl ?_
    refine zv_aload_n dX5_land_32 rfl rfl ?_
    refine zv_put zp_X5_52 (wo_0 (zbt S3 S3.2.2.2)) rfl (fun _ => ⟨rfl, rfl⟩) (Nat.le_of_ble_eq_true rfl) (wp_0_7 (zbt S3 S3.2.2.2) S3.2.2.1) dX5_land_33 ?_
    refine zv_aload_n dX5_land_36 rfl rfl ?_
    refine zv_get zf_X5_10 (wo_0 (zbd (zbt S3 S3.2.2.2) S3.2.2.1)) rfl dX5_land_37 ?_
    refine zv_iconst (v := 0) dX5_land_40 (by decide) ?_
    refine zv_put zp_X5_67 (wo_1 (zbd (zbt S3 S3.2.2.2) S3.2.2.1)) rfl (fun _ => ⟨rfl, rfl⟩) (Nat.le_of_ble_eq_true rfl) (wp_1_1 (zbd (zbt S3 S3.2.2.2) S3.2.2.1) (0 : Int32)) dX5_land_41 ?_
    refine zv_aload_n dX5_land_44 rfl rfl ?_
    refine zv_get zf_X5_19 (wo_0 (zu (zbd (zbt S3 S3.2.2.2) S3.2.2.1) 1 1 (0 : Int32))) rfl dX5_land_45 ?_
    refine zv_aload_n dX5_land_48 rfl rfl ?_
    refine zv_get zf_X5_48 (wo_0 (zu (zbd (zbt S3 S3.2.2.2) S3.2.2.1) 1 1 (0 : Int32))) rfl dX5_land_49 ?_
    obtain ⟨S6, hc5, hf⟩ := zbind hf
    refine zv_callV dX5_land_52 zk_X5_55 zm_X2_begin (c_X2_begin zTwd_3 (zLwd (zu (zbd (zbt S3 S3.2.2.2) S3.2.2.1) 1 1 (0 : Int32)).2.2.1) d (by omega) (zu (zbd (zbt S3 S3.2.2.2) S3.2.2.1) 1 1 (0 : Int32)) S6 hc5) (zTwd_3.1 (zu (zbd (zbt S3 S3.2.2.2) S3.2.2.1) 1 1 (0 : Int32))) rfl rfl rfl (Nat.le_of_ble_eq_true rfl) ?_
    refine zv_aload_n dX5_land_55 rfl rfl ?_
    refine zv_iconst (v := 0) dX5_land_56 (by decide) ?_
    refine zv_put zp_X5_75 (wo_0 S6) rfl (fun _ => ⟨rfl, rfl⟩) (Nat.le_of_ble_eq_true rfl) (wp_0_8 S6 (0 : Int32)) dX5_land_57 ?_
    refine zv_iload_n dX5_land_60 rfl rfl ?_
    exact zv_iret (ty := .int) dX5_land_61 rfl rfl (zret2 wd hf)
  · replace hf := (if_neg c4).symm.trans hf
    refine zv_iload_n dX5_land_16 rfl rfl ?_
    exact zv_iret (ty := .int) dX5_land_17 rfl rfl (zret2 wd hf)
-- KingPrices.askKind(III)I height 2 writes
def f_X5_askKind_e (g : zS → Int32 → Int32 → Int32 → Option (Int32 × zS)) (S : zS) (a1 : Int32) (a2 : Int32) (a3 : Int32) : Option (Int32 × zS) :=
  ((f_X5_isWithin a1 (0 : Int32) (5 : Int32)).bind (fun x2 => (if x2 = 0 then some ((0 : Int32), S) else (if a3 ≤ (5 : Int32) then (if zin a1 6 then (if a1 = 0 then ((f_X2_get (zT S 0 ((S.2.1 0) + ((zkt (a1).toNatClampNeg)).toInt64)) 3 ((4 : Int32) + a2)).bind (fun x24 => some (x24, (zT S 0 ((S.2.1 0) + ((zkt (a1).toNatClampNeg)).toInt64))))) else (if zin a1 6 then (zb2 (g (zT S 0 ((S.2.1 0) + ((zkt (a1).toNatClampNeg)).toInt64)) (zka (a1).toNatClampNeg) a2 (a3 + (1 : Int32))) (fun x9 S10 => (if a1 = 1 then ((f_X2_get S10 3 ((10 : Int32) + a2)).bind (fun x13 => some ((x9 + x13), S10))) else (if a1 = 2 then ((f_X0_needOf S10 (lr S10.2.2.1) a2).bind (fun x16 => some ((x9 - x16), S10))) else (if a1 = 3 then some ((x9 * (2 : Int32)), S10) else (if a1 = 4 then ((f_X2_get S10 3 ((22 : Int32) + a2)).bind (fun x20 => some ((x9 + x20), S10))) else ((f_X2_get S10 3 ((16 : Int32) + a2)).bind (fun x22 => some ((x9 + x22), S10))))))))) else none)) else none) else some ((0 : Int32), S)))))
def f_X5_askKind : Nat → zS → Int32 → Int32 → Int32 → Option (Int32 × zS)
  | 0 => fun _ _ _ _ => none
  | n + 1 => f_X5_askKind_e (f_X5_askKind n)
set_option maxRecDepth 100000 in
set_option maxHeartbeats 4000000 in
theorem c_X5_askKind  : ∀ (n d : Nat), 2 + n ≤ d → ∀ (S : zS) (a1 : Int32) (a2 : Int32) (a3 : Int32) (v : Int32) (S' : zS), f_X5_askKind n S a1 a2 a3 = (some (v, S')) → zC d yX5_askKind cX5_askKind 5 (some .int) [.ref 0, .int a1, .int a2, .int a3] (wd S) (zq (some (.int v)) (wd S')) := by
  intro n
  induction n with
  | zero =>
    intro d hd S a1 a2 a3 v S' hf
    cases hf
  | succ n ihm =>
    intro d hd S a1 a2 a3 v S' hf
    obtain ⟨d, rfl⟩ : ∃ e, d = e + 1 := ⟨d - 1, by omega⟩
    refine zC_intro (by decide) rfl (Nat.le_of_ble_eq_true rfl) ?_
    have hg := ihm d (by omega)
    replace hf : f_X5_askKind_e (f_X5_askKind n) S a1 a2 a3 = (some (v, S')) := hf
    generalize f_X5_askKind n = g at hg hf
    unfold f_X5_askKind_e at hf
    refine zv_iload_n dX5_askKind_0 rfl rfl ?_
    refine zv_iconst (v := 0) dX5_askKind_1 (by decide) ?_
    refine zv_iconst (v := 5) dX5_askKind_2 (by decide) ?_
    obtain ⟨x2, hc1, hf⟩ := zbind hf
    refine zv_callS dX5_askKind_3 zk_X5_59 zm_X5_isWithin (c_X5_isWithin  d a1 (0 : Int32) (5 : Int32) x2 hc1) rfl rfl (Nat.le_of_ble_eq_true rfl) ?_
    refine zv_if_eq (tgt := 14) dX5_askKind_6 (by decide) (fun c3 => ?_) (fun c3 => ?_)
    · replace hf := (if_pos c3).symm.trans hf
      refine zv_iconst (v := 0) dX5_askKind_14 (by decide) ?_
      exact zv_iret (ty := .int) dX5_askKind_15 rfl rfl (zret2 wd hf)
    · replace hf := (if_neg c3).symm.trans hf
      refine zv_iload_n dX5_askKind_9 rfl rfl ?_
      refine zv_iconst (v := 5) dX5_askKind_10 (by decide) ?_
      refine zv_icmp_le (tgt := 16) dX5_askKind_11 (by decide) (fun c4 => ?_) (fun c4 => ?_)
      · replace hf := (if_pos c4).symm.trans hf
        refine zv_aload_n dX5_askKind_16 rfl rfl ?_
        refine zv_dup dX5_askKind_17 rfl ?_
        refine zv_get zf_X5_205 (wo_0 S) rfl dX5_askKind_18 ?_
        refine zv_gkt zs_X5_220 dX5_askKind_21 ?_
        refine zv_iload_n dX5_askKind_24 rfl rfl ?_
        obtain ⟨hb5, hf⟩ := zifb hf
        refine zv_ktld hb5 dX5_askKind_25 ?_
        refine zv_i2l dX5_askKind_26 ?_
        refine zv_ladd dX5_askKind_27 ?_
        refine zv_put zp_X5_205 (wo_0 S) rfl (fun _ => ⟨rfl, rfl⟩) (Nat.le_of_ble_eq_true rfl) (wp_0_9 S ((S.2.1 0) + ((zkt (a1).toNatClampNeg)).toInt64)) dX5_askKind_28 ?_
        refine zv_iload_n dX5_askKind_31 rfl rfl ?_
        refine zv_if_ne (tgt := 46) dX5_askKind_32 (by decide) (fun c6 => ?_) (fun c6 => ?_)
        · replace hf := (if_neg c6).symm.trans hf
          refine zv_aload_n dX5_askKind_46 rfl rfl ?_
          refine zv_gka zs_X5_223 dX5_askKind_47 ?_
          refine zv_iload_n dX5_askKind_50 rfl rfl ?_
          obtain ⟨hb7, hf⟩ := zifb hf
          refine zv_kald hb7 dX5_askKind_51 ?_
          refine zv_iload_n dX5_askKind_52 rfl rfl ?_
          refine zv_iload_n dX5_askKind_53 rfl rfl ?_
          refine zv_iconst (v := 1) dX5_askKind_54 (by decide) ?_
          refine zv_iadd dX5_askKind_55 ?_
          obtain ⟨x9, S10, hc8, hf⟩ := zbind2 hf
          refine zv_callV dX5_askKind_56 zk_X5_192 zm_X5_askKind (hg (zT S 0 ((S.2.1 0) + ((zkt (a1).toNatClampNeg)).toInt64)) (zka (a1).toNatClampNeg) a2 (a3 + (1 : Int32)) x9 S10 hc8) (wo_0 (zT S 0 ((S.2.1 0) + ((zkt (a1).toNatClampNeg)).toInt64))) rfl rfl rfl (Nat.le_of_ble_eq_true rfl) ?_
          refine zv_istore dX5_askKind_59 (by decide) ?_
          refine zv_iload_n dX5_askKind_61 rfl rfl ?_
          by_cases c11 : a1 = 1
          · replace hf := (if_pos c11).symm.trans hf
            refine zv_tableIn (v := 1) (off := 30) (tgt := 92) dX5_askKind_62 c11 (by decide) (by decide) (by decide) (by decide) ?_
            refine zv_iload dX5_askKind_92 rfl ?_
            refine zv_aload_n dX5_askKind_94 rfl rfl ?_
            refine zv_get zf_X5_19 (wo_0 S10) rfl dX5_askKind_95 ?_
            refine zv_bipush (v := 10) dX5_askKind_98 (by decide) ?_
            refine zv_iload_n dX5_askKind_100 rfl rfl ?_
            refine zv_iadd dX5_askKind_101 ?_
            obtain ⟨x13, hc12, hf⟩ := zbind hf
            refine zv_callV dX5_askKind_102 zk_X5_81 zm_X2_get (c_X2_get zTwd_3 d S10 ((10 : Int32) + a2) x13 hc12) (zTwd_3.1 S10) rfl rfl rfl (Nat.le_of_ble_eq_true rfl) ?_
            refine zv_iadd dX5_askKind_105 ?_
            exact zv_iret (ty := .int) dX5_askKind_106 rfl rfl (zret2 wd hf)
          replace hf := (if_neg c11).symm.trans hf
          by_cases c14 : a1 = 2
          · replace hf := (if_pos c14).symm.trans hf
            refine zv_tableIn (v := 2) (off := 45) (tgt := 107) dX5_askKind_62 c14 (by decide) (by decide) (by decide) (by decide) ?_
            refine zv_iload dX5_askKind_107 rfl ?_
            refine zv_aload_n dX5_askKind_109 rfl rfl ?_
            refine zv_get zf_X5_48 (wo_0 S10) rfl dX5_askKind_110 ?_
            refine zv_iload_n dX5_askKind_113 rfl rfl ?_
            obtain ⟨x16, hc15, hf⟩ := zbind hf
            refine zv_callV dX5_askKind_114 zk_X5_85 zm_X0_needOf (c_X0_needOf (zLwd S10.2.2.1) d (by omega) S10 a2 x16 hc15) ((zLwd S10.2.2.1).1 S10) rfl rfl rfl (Nat.le_of_ble_eq_true rfl) ?_
            refine zv_isub dX5_askKind_117 ?_
            exact zv_iret (ty := .int) dX5_askKind_118 rfl rfl (zret2 wd hf)
          replace hf := (if_neg c14).symm.trans hf
          by_cases c17 : a1 = 3
          · replace hf := (if_pos c17).symm.trans hf
            refine zv_tableIn (v := 3) (off := 57) (tgt := 119) dX5_askKind_62 c17 (by decide) (by decide) (by decide) (by decide) ?_
            refine zv_iload dX5_askKind_119 rfl ?_
            refine zv_iconst (v := 2) dX5_askKind_121 (by decide) ?_
            refine zv_imul dX5_askKind_122 ?_
            exact zv_iret (ty := .int) dX5_askKind_123 rfl rfl (zret2 wd hf)
          replace hf := (if_neg c17).symm.trans hf
          by_cases c18 : a1 = 4
          · replace hf := (if_pos c18).symm.trans hf
            refine zv_tableIn (v := 4) (off := 62) (tgt := 124) dX5_askKind_62 c18 (by decide) (by decide) (by decide) (by decide) ?_
            refine zv_iload dX5_askKind_124 rfl ?_
            refine zv_aload_n dX5_askKind_126 rfl rfl ?_
            refine zv_get zf_X5_19 (wo_0 S10) rfl dX5_askKind_127 ?_
            refine zv_bipush (v := 22) dX5_askKind_130 (by decide) ?_
            refine zv_iload_n dX5_askKind_132 rfl rfl ?_
            refine zv_iadd dX5_askKind_133 ?_
            obtain ⟨x20, hc19, hf⟩ := zbind hf
            refine zv_callV dX5_askKind_134 zk_X5_81 zm_X2_get (c_X2_get zTwd_3 d S10 ((22 : Int32) + a2) x20 hc19) (zTwd_3.1 S10) rfl rfl rfl (Nat.le_of_ble_eq_true rfl) ?_
            refine zv_iadd dX5_askKind_137 ?_
            exact zv_iret (ty := .int) dX5_askKind_138 rfl rfl (zret2 wd hf)
          replace hf := (if_neg c18).symm.trans hf
          refine zv_tableOut (tgt := 139) dX5_askKind_62 (by have q0 := lv_neT (a := 1) c11 (by decide); have q1 := lv_neT (a := 2) c14 (by decide); have q2 := lv_neT (a := 3) c17 (by decide); have q3 := lv_neT (a := 4) c18 (by decide); omega) (by decide) ?_
          refine zv_iload dX5_askKind_139 rfl ?_
          refine zv_aload_n dX5_askKind_141 rfl rfl ?_
          refine zv_get zf_X5_19 (wo_0 S10) rfl dX5_askKind_142 ?_
          refine zv_bipush (v := 16) dX5_askKind_145 (by decide) ?_
          refine zv_iload_n dX5_askKind_147 rfl rfl ?_
          refine zv_iadd dX5_askKind_148 ?_
          obtain ⟨x22, hc21, hf⟩ := zbind hf
          refine zv_callV dX5_askKind_149 zk_X5_81 zm_X2_get (c_X2_get zTwd_3 d S10 ((16 : Int32) + a2) x22 hc21) (zTwd_3.1 S10) rfl rfl rfl (Nat.le_of_ble_eq_true rfl) ?_
          refine zv_iadd dX5_askKind_152 ?_
          exact zv_iret (ty := .int) dX5_askKind_153 rfl rfl (zret2 wd hf)
        · replace hf := (if_pos c6).symm.trans hf
          refine zv_aload_n dX5_askKind_35 rfl rfl ?_
          refine zv_get zf_X5_19 (wo_0 (zT S 0 ((S.2.1 0) + ((zkt (a1).toNatClampNeg)).toInt64))) rfl dX5_askKind_36 ?_
          refine zv_iconst (v := 4) dX5_askKind_39 (by decide) ?_
          refine zv_iload_n dX5_askKind_40 rfl rfl ?_
          refine zv_iadd dX5_askKind_41 ?_
          obtain ⟨x24, hc23, hf⟩ := zbind hf
          refine zv_callV dX5_askKind_42 zk_X5_81 zm_X2_get (c_X2_get zTwd_3 d (zT S 0 ((S.2.1 0) + ((zkt (a1).toNatClampNeg)).toInt64)) ((4 : Int32) + a2) x24 hc23) (zTwd_3.1 (zT S 0 ((S.2.1 0) + ((zkt (a1).toNatClampNeg)).toInt64))) rfl rfl rfl (Nat.le_of_ble_eq_true rfl) ?_
          exact zv_iret (ty := .int) dX5_askKind_45 rfl rfl (zret2 wd hf)
      · replace hf := (if_neg c4).symm.trans hf
        refine zv_iconst (v := 0) dX5_askKind_14 (by decide) ?_
        exact zv_iret (ty := .int) dX5_askKind_15 rfl rfl (zret2 wd hf)
-- KingPrices.mark(II)I height 13 writes
def f_X5_mark (S : zS) (a1 : Int32) (a2 : Int32) : Option (Int32 × zS) :=
  ((f_X5_isWithin a1 (0 : Int32) (5 : Int32)).bind (fun x2 => (if x2 = 0 then some ((-1000000 : Int32), S) else ((f_X0_knows S (lr S.2.2.1) a2).bind (fun x5 => (if x5 = 0 then some ((-1000000 : Int32), S) else (zb2 (f_X5_askKind 10 S a1 a2 (0 : Int32)) (fun x8 S9 => some (x8, S9)))))))))
set_option maxRecDepth 100000 in
set_option maxHeartbeats 4000000 in
theorem c_X5_mark  (d : Nat) (hd : 13 ≤ d) (S : zS) (a1 : Int32) (a2 : Int32) (v : Int32) (S' : zS) (hf : f_X5_mark S a1 a2 = (some (v, S'))) : zC d yX5_mark cX5_mark 3 (some .int) [.ref 0, .int a1, .int a2] (wd S) (zq (some (.int v)) (wd S')) := by
  obtain ⟨d, rfl⟩ : ∃ e, d = e + 1 := ⟨d - 1, by omega⟩
  refine zC_intro (by decide) rfl (Nat.le_of_ble_eq_true rfl) ?_
  unfold f_X5_mark at hf
  refine zv_iload_n dX5_mark_0 rfl rfl ?_
  refine zv_iconst (v := 0) dX5_mark_1 (by decide) ?_
  refine zv_iconst (v := 5) dX5_mark_2 (by decide) ?_
  obtain ⟨x2, hc1, hf⟩ := zbind hf
  refine zv_callS dX5_mark_3 zk_X5_59 zm_X5_isWithin (c_X5_isWithin  d a1 (0 : Int32) (5 : Int32) x2 hc1) rfl rfl (Nat.le_of_ble_eq_true rfl) ?_
  refine zv_if_eq (tgt := 20) dX5_mark_6 (by decide) (fun c3 => ?_) (fun c3 => ?_)
  · replace hf := (if_pos c3).symm.trans hf
    refine zv_ldc rfl zcn_X5_191 dX5_mark_20 ?_
    exact zv_iret (ty := .int) dX5_mark_22 rfl rfl (zret2 wd hf)
  · replace hf := (if_neg c3).symm.trans hf
    refine zv_aload_n dX5_mark_9 rfl rfl ?_
    refine zv_get zf_X5_48 (wo_0 S) rfl dX5_mark_10 ?_
    refine zv_iload_n dX5_mark_13 rfl rfl ?_
    obtain ⟨x5, hc4, hf⟩ := zbind hf
    refine zv_callV dX5_mark_14 zk_X5_78 zm_X0_knows (c_X0_knows (zLwd S.2.2.1) d S a2 x5 hc4) ((zLwd S.2.2.1).1 S) rfl rfl rfl (Nat.le_of_ble_eq_true rfl) ?_
    refine zv_if_ne (tgt := 23) dX5_mark_17 (by decide) (fun c6 => ?_) (fun c6 => ?_)
    · replace hf := (if_neg c6).symm.trans hf
      refine zv_aload_n dX5_mark_23 rfl rfl ?_
      refine zv_iload_n dX5_mark_24 rfl rfl ?_
      refine zv_iload_n dX5_mark_25 rfl rfl ?_
      refine zv_iconst (v := 0) dX5_mark_26 (by decide) ?_
      obtain ⟨x8, S9, hc7, hf⟩ := zbind2 hf
      refine zv_callV dX5_mark_27 zk_X5_192 zm_X5_askKind (c_X5_askKind  10 d (by omega) S a1 a2 (0 : Int32) x8 S9 hc7) (wo_0 S) rfl rfl rfl (Nat.le_of_ble_eq_true rfl) ?_
      exact zv_iret (ty := .int) dX5_mark_30 rfl rfl (zret2 wd hf)
    · replace hf := (if_pos c6).symm.trans hf
      refine zv_ldc rfl zcn_X5_191 dX5_mark_20 ?_
      exact zv_iret (ty := .int) dX5_mark_22 rfl rfl (zret2 wd hf)
-- KingPrices.mixed(III)I height 2 reads
def f_X5_mixed (S : zS) (a1 : Int32) (a2 : Int32) (a3 : Int32) : Option Int32 :=
  ((f_X5_isWithin a1 (1 : Int32) (60 : Int32)).bind (fun x2 => (if x2 = 0 then some ((-1 : Int32)) else ((f_X5_isWithin a2 (0 : Int32) (60 : Int32)).bind (fun x5 => (if x5 = 0 then some ((-1 : Int32)) else ((f_X5_isWithin a3 (0 : Int32) (1 : Int32)).bind (fun x8 => (if x8 = 0 then some ((-1 : Int32)) else ((f_X5_partOfFraction a1 (a1 + a2) a3).bind (fun x11 => some x11)))))))))))
set_option maxRecDepth 100000 in
set_option maxHeartbeats 4000000 in
theorem c_X5_mixed  (d : Nat) (hd : 2 ≤ d) (S : zS) (a1 : Int32) (a2 : Int32) (a3 : Int32) (v : Int32) (hf : f_X5_mixed S a1 a2 a3 = (some v)) : zC d yX5_mixed cX5_mixed 4 (some .int) [.ref 0, .int a1, .int a2, .int a3] (wd S) (zq (some (.int v)) (wd S)) := by
  obtain ⟨d, rfl⟩ : ∃ e, d = e + 1 := ⟨d - 1, by omega⟩
  refine zC_intro (by decide) rfl (Nat.le_of_ble_eq_true rfl) ?_
  unfold f_X5_mixed at hf
  refine zv_iload_n dX5_mixed_0 rfl rfl ?_
  refine zv_iconst (v := 1) dX5_mixed_1 (by decide) ?_
  refine zv_bipush (v := 60) dX5_mixed_2 (by decide) ?_
  obtain ⟨x2, hc1, hf⟩ := zbind hf
  refine zv_callS dX5_mixed_4 zk_X5_59 zm_X5_isWithin (c_X5_isWithin  d a1 (1 : Int32) (60 : Int32) x2 hc1) rfl rfl (Nat.le_of_ble_eq_true rfl) ?_
  refine zv_if_eq (tgt := 29) dX5_mixed_7 (by decide) (fun c3 => ?_) (fun c3 => ?_)
  · replace hf := (if_pos c3).symm.trans hf
    refine zv_iconst (v := -1) dX5_mixed_29 (by decide) ?_
    exact zv_iret (ty := .int) dX5_mixed_30 rfl rfl (zret1 hf)
  · replace hf := (if_neg c3).symm.trans hf
    refine zv_iload_n dX5_mixed_10 rfl rfl ?_
    refine zv_iconst (v := 0) dX5_mixed_11 (by decide) ?_
    refine zv_bipush (v := 60) dX5_mixed_12 (by decide) ?_
    obtain ⟨x5, hc4, hf⟩ := zbind hf
    refine zv_callS dX5_mixed_14 zk_X5_59 zm_X5_isWithin (c_X5_isWithin  d a2 (0 : Int32) (60 : Int32) x5 hc4) rfl rfl (Nat.le_of_ble_eq_true rfl) ?_
    refine zv_if_eq (tgt := 29) dX5_mixed_17 (by decide) (fun c6 => ?_) (fun c6 => ?_)
    · replace hf := (if_pos c6).symm.trans hf
      refine zv_iconst (v := -1) dX5_mixed_29 (by decide) ?_
      exact zv_iret (ty := .int) dX5_mixed_30 rfl rfl (zret1 hf)
    · replace hf := (if_neg c6).symm.trans hf
      refine zv_iload_n dX5_mixed_20 rfl rfl ?_
      refine zv_iconst (v := 0) dX5_mixed_21 (by decide) ?_
      refine zv_iconst (v := 1) dX5_mixed_22 (by decide) ?_
      obtain ⟨x8, hc7, hf⟩ := zbind hf
      refine zv_callS dX5_mixed_23 zk_X5_59 zm_X5_isWithin (c_X5_isWithin  d a3 (0 : Int32) (1 : Int32) x8 hc7) rfl rfl (Nat.le_of_ble_eq_true rfl) ?_
      refine zv_if_ne (tgt := 31) dX5_mixed_26 (by decide) (fun c9 => ?_) (fun c9 => ?_)
      · replace hf := (if_neg c9).symm.trans hf
        refine zv_iload_n dX5_mixed_31 rfl rfl ?_
        refine zv_iload_n dX5_mixed_32 rfl rfl ?_
        refine zv_iload_n dX5_mixed_33 rfl rfl ?_
        refine zv_iadd dX5_mixed_34 ?_
        refine zv_iload_n dX5_mixed_35 rfl rfl ?_
        obtain ⟨x11, hc10, hf⟩ := zbind hf
        refine zv_callS dX5_mixed_36 zk_X5_171 zm_X5_partOfFraction (c_X5_partOfFraction  d (by omega) a1 (a1 + a2) a3 x11 hc10) rfl rfl (Nat.le_of_ble_eq_true rfl) ?_
        exact zv_iret (ty := .int) dX5_mixed_39 rfl rfl (zret1 hf)
      · replace hf := (if_pos c9).symm.trans hf
        refine zv_iconst (v := -1) dX5_mixed_29 (by decide) ?_
        exact zv_iret (ty := .int) dX5_mixed_30 rfl rfl (zret1 hf)
-- KingPrices.net(I)I height 2 reads
def f_X5_net_18  : Nat → zS → Int32 → Int32 → Int32 → Option Int32
  | 0, _, _, _, _ => none
  | n + 1, S, a1, a2, a3 => (if (S.1 (lr S.2.2.1) 6) ≤ a3 then some a2 else ((f_X0_debt S (lr S.2.2.1) a3 a1).bind (fun x3 => ((f_X0_debt S (lr S.2.2.1) a1 a3).bind (fun x5 => f_X5_net_18  n S a1 (a2 + (x3 - x5)) (a3 + (1 : Int32)))))))
set_option maxRecDepth 100000 in
set_option maxHeartbeats 4000000 in
theorem v_X5_net_18 (d : Nat) (hd : 1 ≤ d) : ∀ (n : Nat) (S : zS) (a1 : Int32) (a2 : Int32) (a3 : Int32) (v : Int32), f_X5_net_18  n S a1 a2 a3 = (some v) → zV none (d + 1) yX5_net cX5_net 4 (some .int) 18 [(0, .ref 0), (1, .int a1), (2, .int a2), (3, .int a3)] [] (wd S) (zq (some (.int v)) (wd S)) := by
  intro n
  induction n with
  | zero =>
    intro S a1 a2 a3 v hf
    cases hf
  | succ n ih =>
    intro S a1 a2 a3 v hf
    rw [f_X5_net_18] at hf
    refine zv_iload_n dX5_net_18 rfl rfl ?_
    refine zv_aload_n dX5_net_19 rfl rfl ?_
    refine zv_get zf_X5_48 (wo_0 S) rfl dX5_net_20 ?_
    refine zv_get zf_X5_114 ((zLwd S.2.2.1).1 S) rfl dX5_net_23 ?_
    refine zv_icmp_ge (tgt := 57) dX5_net_26 (by decide) (fun c1 => ?_) (fun c1 => ?_)
    · replace hf := (if_pos c1).symm.trans hf
      refine zv_iload_n dX5_net_57 rfl rfl ?_
      exact zv_iret (ty := .int) dX5_net_58 rfl rfl (zret1 hf)
    · replace hf := (if_neg c1).symm.trans hf
      refine zv_iload_n dX5_net_29 rfl rfl ?_
      refine zv_aload_n dX5_net_30 rfl rfl ?_
      refine zv_get zf_X5_48 (wo_0 S) rfl dX5_net_31 ?_
      refine zv_iload_n dX5_net_34 rfl rfl ?_
      refine zv_iload_n dX5_net_35 rfl rfl ?_
      obtain ⟨x3, hc2, hf⟩ := zbind hf
      refine zv_callV dX5_net_36 zk_X5_98 zm_X0_debt (c_X0_debt (zLwd S.2.2.1) d (by omega) S a3 a1 x3 hc2) ((zLwd S.2.2.1).1 S) rfl rfl rfl (Nat.le_of_ble_eq_true rfl) ?_
      refine zv_aload_n dX5_net_39 rfl rfl ?_
      refine zv_get zf_X5_48 (wo_0 S) rfl dX5_net_40 ?_
      refine zv_iload_n dX5_net_43 rfl rfl ?_
      refine zv_iload_n dX5_net_44 rfl rfl ?_
      obtain ⟨x5, hc4, hf⟩ := zbind hf
      refine zv_callV dX5_net_45 zk_X5_98 zm_X0_debt (c_X0_debt (zLwd S.2.2.1) d (by omega) S a1 a3 x5 hc4) ((zLwd S.2.2.1).1 S) rfl rfl rfl (Nat.le_of_ble_eq_true rfl) ?_
      refine zv_isub dX5_net_48 ?_
      refine zv_iadd dX5_net_49 ?_
      refine zv_istore_n dX5_net_50 rfl (by decide) ?_
      refine zv_iinc (v := 1) dX5_net_51 rfl (by decide) (by decide) ?_
      refine zv_goto (tgt := 18) dX5_net_54 (by decide) ?_
      exact zV_sub ([(0, .ref 0), (1, .int a1), (2, .int (a2 + (x3 - x5))), (3, .int (a3 + (1 : Int32)))]) ⟨rfl, rfl, rfl, rfl, trivial⟩ (ih S a1 (a2 + (x3 - x5)) (a3 + (1 : Int32)) _ hf)
def f_X5_net (S : zS) (a1 : Int32) : Option Int32 :=
  ((f_X0_knows S (lr S.2.2.1) a1).bind (fun x2 => (if x2 = 0 then some ((-1000000 : Int32)) else f_X5_net_18 zN S a1 (0 : Int32) (0 : Int32))))
set_option maxRecDepth 100000 in
set_option maxHeartbeats 4000000 in
theorem c_X5_net  (d : Nat) (hd : 2 ≤ d) (S : zS) (a1 : Int32) (v : Int32) (hf : f_X5_net S a1 = (some v)) : zC d yX5_net cX5_net 4 (some .int) [.ref 0, .int a1] (wd S) (zq (some (.int v)) (wd S)) := by
  obtain ⟨d, rfl⟩ : ∃ e, d = e + 1 := ⟨d - 1, by omega⟩
  refine zC_intro (by decide) rfl (Nat.le_of_ble_eq_true rfl) ?_
  unfold f_X5_net at hf
  refine zv_aload_n dX5_net_0 rfl rfl ?_
  refine zv_get zf_X5_48 (wo_0 S) rfl dX5_net_1 ?_
  refine zv_iload_n dX5_net_4 rfl rfl ?_
  obtain ⟨x2, hc1, hf⟩ := zbind hf
  refine zv_callV dX5_net_5 zk_X5_78 zm_X0_knows (c_X0_knows (zLwd S.2.2.1) d S a1 x2 hc1) ((zLwd S.2.2.1).1 S) rfl rfl rfl (Nat.le_of_ble_eq_true rfl) ?_
  refine zv_if_ne (tgt := 14) dX5_net_8 (by decide) (fun c3 => ?_) (fun c3 => ?_)
  · replace hf := (if_neg c3).symm.trans hf
    refine zv_iconst (v := 0) dX5_net_14 (by decide) ?_
    refine zv_istore_n dX5_net_15 rfl (by decide) ?_
    refine zv_iconst (v := 0) dX5_net_16 (by decide) ?_
    refine zv_istore_n dX5_net_17 rfl (by decide) ?_
    exact zV_sub ([(0, .ref 0), (1, .int a1), (2, .int (0 : Int32)), (3, .int (0 : Int32))]) ⟨rfl, rfl, rfl, rfl, trivial⟩ (v_X5_net_18 d (by omega) zN S a1 (0 : Int32) (0 : Int32) _ hf)
  · replace hf := (if_pos c3).symm.trans hf
    refine zv_ldc rfl zcn_X5_191 dX5_net_11 ?_
    exact zv_iret (ty := .int) dX5_net_13 rfl rfl (zret1 hf)
-- KingPrices.allSpare()I height 3 reads
def f_X5_allSpare_4  : Nat → zS → Int32 → Int32 → Option Int32
  | 0, _, _, _ => none
  | n + 1, S, a1, a2 => (if (S.1 (lr S.2.2.1) 6) ≤ a2 then some a1 else ((f_X5_spareOf S a2).bind (fun x3 => f_X5_allSpare_4  n S (a1 + x3) (a2 + (1 : Int32)))))
set_option maxRecDepth 100000 in
set_option maxHeartbeats 4000000 in
theorem v_X5_allSpare_4 (d : Nat) (hd : 2 ≤ d) : ∀ (n : Nat) (S : zS) (a1 : Int32) (a2 : Int32) (v : Int32), f_X5_allSpare_4  n S a1 a2 = (some v) → zV none (d + 1) yX5_allSpare cX5_allSpare 3 (some .int) 4 [(0, .ref 0), (1, .int a1), (2, .int a2)] [] (wd S) (zq (some (.int v)) (wd S)) := by
  intro n
  induction n with
  | zero =>
    intro S a1 a2 v hf
    cases hf
  | succ n ih =>
    intro S a1 a2 v hf
    rw [f_X5_allSpare_4] at hf
    refine zv_iload_n dX5_allSpare_4 rfl rfl ?_
    refine zv_aload_n dX5_allSpare_5 rfl rfl ?_
    refine zv_get zf_X5_48 (wo_0 S) rfl dX5_allSpare_6 ?_
    refine zv_get zf_X5_114 ((zLwd S.2.2.1).1 S) rfl dX5_allSpare_9 ?_
    refine zv_icmp_ge (tgt := 29) dX5_allSpare_12 (by decide) (fun c1 => ?_) (fun c1 => ?_)
    · replace hf := (if_pos c1).symm.trans hf
      refine zv_iload_n dX5_allSpare_29 rfl rfl ?_
      exact zv_iret (ty := .int) dX5_allSpare_30 rfl rfl (zret1 hf)
    · replace hf := (if_neg c1).symm.trans hf
      refine zv_iload_n dX5_allSpare_15 rfl rfl ?_
      refine zv_aload_n dX5_allSpare_16 rfl rfl ?_
      refine zv_iload_n dX5_allSpare_17 rfl rfl ?_
      obtain ⟨x3, hc2, hf⟩ := zbind hf
      refine zv_callV dX5_allSpare_18 zk_X5_91 zm_X5_spareOf (c_X5_spareOf  d (by omega) S a2 x3 hc2) (wo_0 S) rfl rfl rfl (Nat.le_of_ble_eq_true rfl) ?_
      refine zv_iadd dX5_allSpare_21 ?_
      refine zv_istore_n dX5_allSpare_22 rfl (by decide) ?_
      refine zv_iinc (v := 1) dX5_allSpare_23 rfl (by decide) (by decide) ?_
      refine zv_goto (tgt := 4) dX5_allSpare_26 (by decide) ?_
      exact zV_sub ([(0, .ref 0), (1, .int (a1 + x3)), (2, .int (a2 + (1 : Int32)))]) ⟨rfl, rfl, rfl, trivial⟩ (ih S (a1 + x3) (a2 + (1 : Int32)) _ hf)
def f_X5_allSpare (S : zS) : Option Int32 :=
  f_X5_allSpare_4 zN S (0 : Int32) (0 : Int32)
set_option maxRecDepth 100000 in
set_option maxHeartbeats 4000000 in
theorem c_X5_allSpare  (d : Nat) (hd : 3 ≤ d) (S : zS) (v : Int32) (hf : f_X5_allSpare S = (some v)) : zC d yX5_allSpare cX5_allSpare 3 (some .int) [.ref 0] (wd S) (zq (some (.int v)) (wd S)) := by
  obtain ⟨d, rfl⟩ : ∃ e, d = e + 1 := ⟨d - 1, by omega⟩
  refine zC_intro (by decide) rfl (Nat.le_of_ble_eq_true rfl) ?_
  unfold f_X5_allSpare at hf
  refine zv_iconst (v := 0) dX5_allSpare_0 (by decide) ?_
  refine zv_istore_n dX5_allSpare_1 rfl (by decide) ?_
  refine zv_iconst (v := 0) dX5_allSpare_2 (by decide) ?_
  refine zv_istore_n dX5_allSpare_3 rfl (by decide) ?_
  exact zV_sub ([(0, .ref 0), (1, .int (0 : Int32)), (2, .int (0 : Int32))]) ⟨rfl, rfl, rfl, trivial⟩ (v_X5_allSpare_4 d (by omega) zN S (0 : Int32) (0 : Int32) _ hf)
-- KingPrices.allTallies()I height 1 reads
def f_X5_allTallies_4  : Nat → zS → Int32 → Int32 → Option Int32
  | 0, _, _, _ => none
  | n + 1, S, a1, a2 => (if (S.1 (lr S.2.2.1) 6) ≤ a2 then some a1 else ((f_X2_get S 3 ((16 : Int32) + a2)).bind (fun x3 => f_X5_allTallies_4  n S (a1 + x3) (a2 + (1 : Int32)))))
set_option maxRecDepth 100000 in
set_option maxHeartbeats 4000000 in
theorem v_X5_allTallies_4 (d : Nat) (hd : 0 ≤ d) : ∀ (n : Nat) (S : zS) (a1 : Int32) (a2 : Int32) (v : Int32), f_X5_allTallies_4  n S a1 a2 = (some v) → zV none (d + 1) yX5_allTallies cX5_allTallies 3 (some .int) 4 [(0, .ref 0), (1, .int a1), (2, .int a2)] [] (wd S) (zq (some (.int v)) (wd S)) := by
  intro n
  induction n with
  | zero =>
    intro S a1 a2 v hf
    cases hf
  | succ n ih =>
    intro S a1 a2 v hf
    rw [f_X5_allTallies_4] at hf
    refine zv_iload_n dX5_allTallies_4 rfl rfl ?_
    refine zv_aload_n dX5_allTallies_5 rfl rfl ?_
    refine zv_get zf_X5_48 (wo_0 S) rfl dX5_allTallies_6 ?_
    refine zv_get zf_X5_114 ((zLwd S.2.2.1).1 S) rfl dX5_allTallies_9 ?_
    refine zv_icmp_ge (tgt := 35) dX5_allTallies_12 (by decide) (fun c1 => ?_) (fun c1 => ?_)
    · replace hf := (if_pos c1).symm.trans hf
      refine zv_iload_n dX5_allTallies_35 rfl rfl ?_
      exact zv_iret (ty := .int) dX5_allTallies_36 rfl rfl (zret1 hf)
    · replace hf := (if_neg c1).symm.trans hf
      refine zv_iload_n dX5_allTallies_15 rfl rfl ?_
      refine zv_aload_n dX5_allTallies_16 rfl rfl ?_
      refine zv_get zf_X5_19 (wo_0 S) rfl dX5_allTallies_17 ?_
      refine zv_bipush (v := 16) dX5_allTallies_20 (by decide) ?_
      refine zv_iload_n dX5_allTallies_22 rfl rfl ?_
      refine zv_iadd dX5_allTallies_23 ?_
      obtain ⟨x3, hc2, hf⟩ := zbind hf
      refine zv_callV dX5_allTallies_24 zk_X5_81 zm_X2_get (c_X2_get zTwd_3 d S ((16 : Int32) + a2) x3 hc2) (zTwd_3.1 S) rfl rfl rfl (Nat.le_of_ble_eq_true rfl) ?_
      refine zv_iadd dX5_allTallies_27 ?_
      refine zv_istore_n dX5_allTallies_28 rfl (by decide) ?_
      refine zv_iinc (v := 1) dX5_allTallies_29 rfl (by decide) (by decide) ?_
      refine zv_goto (tgt := 4) dX5_allTallies_32 (by decide) ?_
      exact zV_sub ([(0, .ref 0), (1, .int (a1 + x3)), (2, .int (a2 + (1 : Int32)))]) ⟨rfl, rfl, rfl, trivial⟩ (ih S (a1 + x3) (a2 + (1 : Int32)) _ hf)
def f_X5_allTallies (S : zS) : Option Int32 :=
  f_X5_allTallies_4 zN S (0 : Int32) (0 : Int32)
set_option maxRecDepth 100000 in
set_option maxHeartbeats 4000000 in
theorem c_X5_allTallies  (d : Nat) (hd : 1 ≤ d) (S : zS) (v : Int32) (hf : f_X5_allTallies S = (some v)) : zC d yX5_allTallies cX5_allTallies 3 (some .int) [.ref 0] (wd S) (zq (some (.int v)) (wd S)) := by
  obtain ⟨d, rfl⟩ : ∃ e, d = e + 1 := ⟨d - 1, by omega⟩
  refine zC_intro (by decide) rfl (Nat.le_of_ble_eq_true rfl) ?_
  unfold f_X5_allTallies at hf
  refine zv_iconst (v := 0) dX5_allTallies_0 (by decide) ?_
  refine zv_istore_n dX5_allTallies_1 rfl (by decide) ?_
  refine zv_iconst (v := 0) dX5_allTallies_2 (by decide) ?_
  refine zv_istore_n dX5_allTallies_3 rfl (by decide) ?_
  exact zV_sub ([(0, .ref 0), (1, .int (0 : Int32)), (2, .int (0 : Int32))]) ⟨rfl, rfl, rfl, trivial⟩ (v_X5_allTallies_4 d (by omega) zN S (0 : Int32) (0 : Int32) _ hf)
-- KingPrices.now(I)I height 4 reads
def f_X5_now (S : zS) (a1 : Int32) : Option Int32 :=
  (if a1 = 0 then ((f_X2_get S 3 (0 : Int32)).bind (fun x3 => some x3)) else (if a1 = 1 then ((f_X2_get S 3 (1 : Int32)).bind (fun x6 => some x6)) else (if a1 = 2 then ((f_X2_get S 3 (2 : Int32)).bind (fun x9 => some x9)) else (if a1 = 3 then ((f_X2_get S 3 (3 : Int32)).bind (fun x12 => some x12)) else (if a1 = 4 then (if (1 : Int32) ≤ (S.1 (lr S.2.2.1) 8) then ((f_X2_get S 3 (2 : Int32)).bind (fun x16 => (if (S.1 (lr S.2.2.1) 8) = 0 then none else some ((x16 / (S.1 (lr S.2.2.1) 8)))))) else some ((0 : Int32))) else (if a1 = 5 then ((f_X5_allTallies S).bind (fun x20 => some x20)) else (if a1 = 6 then ((f_X5_allSpare S).bind (fun x23 => some x23)) else some ((-1 : Int32)))))))))
set_option maxRecDepth 100000 in
set_option maxHeartbeats 4000000 in
theorem c_X5_now  (d : Nat) (hd : 4 ≤ d) (S : zS) (a1 : Int32) (v : Int32) (hf : f_X5_now S a1 = (some v)) : zC d yX5_now cX5_now 2 (some .int) [.ref 0, .int a1] (wd S) (zq (some (.int v)) (wd S)) := by
  obtain ⟨d, rfl⟩ : ∃ e, d = e + 1 := ⟨d - 1, by omega⟩
  refine zC_intro (by decide) rfl (Nat.le_of_ble_eq_true rfl) ?_
  unfold f_X5_now at hf
  refine zv_iload_n dX5_now_0 rfl rfl ?_
  by_cases c1 : a1 = 0
  · replace hf := (if_pos c1).symm.trans hf
    refine zv_tableIn (v := 0) (off := 43) (tgt := 44) dX5_now_1 c1 (by decide) (by decide) (by decide) (by decide) ?_
    refine zv_aload_n dX5_now_44 rfl rfl ?_
    refine zv_get zf_X5_19 (wo_0 S) rfl dX5_now_45 ?_
    refine zv_iconst (v := 0) dX5_now_48 (by decide) ?_
    obtain ⟨x3, hc2, hf⟩ := zbind hf
    refine zv_callV dX5_now_49 zk_X5_81 zm_X2_get (c_X2_get zTwd_3 d S (0 : Int32) x3 hc2) (zTwd_3.1 S) rfl rfl rfl (Nat.le_of_ble_eq_true rfl) ?_
    exact zv_iret (ty := .int) dX5_now_52 rfl rfl (zret1 hf)
  replace hf := (if_neg c1).symm.trans hf
  by_cases c4 : a1 = 1
  · replace hf := (if_pos c4).symm.trans hf
    refine zv_tableIn (v := 1) (off := 52) (tgt := 53) dX5_now_1 c4 (by decide) (by decide) (by decide) (by decide) ?_
    refine zv_aload_n dX5_now_53 rfl rfl ?_
    refine zv_get zf_X5_19 (wo_0 S) rfl dX5_now_54 ?_
    refine zv_iconst (v := 1) dX5_now_57 (by decide) ?_
    obtain ⟨x6, hc5, hf⟩ := zbind hf
    refine zv_callV dX5_now_58 zk_X5_81 zm_X2_get (c_X2_get zTwd_3 d S (1 : Int32) x6 hc5) (zTwd_3.1 S) rfl rfl rfl (Nat.le_of_ble_eq_true rfl) ?_
    exact zv_iret (ty := .int) dX5_now_61 rfl rfl (zret1 hf)
  replace hf := (if_neg c4).symm.trans hf
  by_cases c7 : a1 = 2
  · replace hf := (if_pos c7).symm.trans hf
    refine zv_tableIn (v := 2) (off := 61) (tgt := 62) dX5_now_1 c7 (by decide) (by decide) (by decide) (by decide) ?_
    refine zv_aload_n dX5_now_62 rfl rfl ?_
    refine zv_get zf_X5_19 (wo_0 S) rfl dX5_now_63 ?_
    refine zv_iconst (v := 2) dX5_now_66 (by decide) ?_
    obtain ⟨x9, hc8, hf⟩ := zbind hf
    refine zv_callV dX5_now_67 zk_X5_81 zm_X2_get (c_X2_get zTwd_3 d S (2 : Int32) x9 hc8) (zTwd_3.1 S) rfl rfl rfl (Nat.le_of_ble_eq_true rfl) ?_
    exact zv_iret (ty := .int) dX5_now_70 rfl rfl (zret1 hf)
  replace hf := (if_neg c7).symm.trans hf
  by_cases c10 : a1 = 3
  · replace hf := (if_pos c10).symm.trans hf
    refine zv_tableIn (v := 3) (off := 70) (tgt := 71) dX5_now_1 c10 (by decide) (by decide) (by decide) (by decide) ?_
    refine zv_aload_n dX5_now_71 rfl rfl ?_
    refine zv_get zf_X5_19 (wo_0 S) rfl dX5_now_72 ?_
    refine zv_iconst (v := 3) dX5_now_75 (by decide) ?_
    obtain ⟨x12, hc11, hf⟩ := zbind hf
    refine zv_callV dX5_now_76 zk_X5_81 zm_X2_get (c_X2_get zTwd_3 d S (3 : Int32) x12 hc11) (zTwd_3.1 S) rfl rfl rfl (Nat.le_of_ble_eq_true rfl) ?_
    exact zv_iret (ty := .int) dX5_now_79 rfl rfl (zret1 hf)
  replace hf := (if_neg c10).symm.trans hf
  by_cases c13 : a1 = 4
  · replace hf := (if_pos c13).symm.trans hf
    refine zv_tableIn (v := 4) (off := 79) (tgt := 80) dX5_now_1 c13 (by decide) (by decide) (by decide) (by decide) ?_
    refine zv_aload_n dX5_now_80 rfl rfl ?_
    refine zv_get zf_X5_48 (wo_0 S) rfl dX5_now_81 ?_
    refine zv_get zf_X5_104 ((zLwd S.2.2.1).1 S) rfl dX5_now_84 ?_
    refine zv_iconst (v := 1) dX5_now_87 (by decide) ?_
    refine zv_icmp_ge (tgt := 95) dX5_now_88 (by decide) (fun c14 => ?_) (fun c14 => ?_)
    · replace hf := (if_pos c14).symm.trans hf
      refine zv_aload_n dX5_now_95 rfl rfl ?_
      refine zv_get zf_X5_19 (wo_0 S) rfl dX5_now_96 ?_
      refine zv_iconst (v := 2) dX5_now_99 (by decide) ?_
      obtain ⟨x16, hc15, hf⟩ := zbind hf
      refine zv_callV dX5_now_100 zk_X5_81 zm_X2_get (c_X2_get zTwd_3 d S (2 : Int32) x16 hc15) (zTwd_3.1 S) rfl rfl rfl (Nat.le_of_ble_eq_true rfl) ?_
      refine zv_aload_n dX5_now_103 rfl rfl ?_
      refine zv_get zf_X5_48 (wo_0 S) rfl dX5_now_104 ?_
      refine zv_get zf_X5_104 ((zLwd S.2.2.1).1 S) rfl dX5_now_107 ?_
      obtain ⟨hz17, hf⟩ := zifn hf
      refine zv_idiv hz17 dX5_now_110 ?_
      exact zv_iret (ty := .int) dX5_now_111 rfl rfl (zret1 hf)
    · replace hf := (if_neg c14).symm.trans hf
      refine zv_iconst (v := 0) dX5_now_91 (by decide) ?_
      refine zv_goto (tgt := 111) dX5_now_92 (by decide) ?_
      exact zv_iret (ty := .int) dX5_now_111 rfl rfl (zret1 hf)
  replace hf := (if_neg c13).symm.trans hf
  by_cases c18 : a1 = 5
  · replace hf := (if_pos c18).symm.trans hf
    refine zv_tableIn (v := 5) (off := 111) (tgt := 112) dX5_now_1 c18 (by decide) (by decide) (by decide) (by decide) ?_
    refine zv_aload_n dX5_now_112 rfl rfl ?_
    obtain ⟨x20, hc19, hf⟩ := zbind hf
    refine zv_callV dX5_now_113 zk_X5_134 zm_X5_allTallies (c_X5_allTallies  d (by omega) S x20 hc19) (wo_0 S) rfl rfl rfl (Nat.le_of_ble_eq_true rfl) ?_
    exact zv_iret (ty := .int) dX5_now_116 rfl rfl (zret1 hf)
  replace hf := (if_neg c18).symm.trans hf
  by_cases c21 : a1 = 6
  · replace hf := (if_pos c21).symm.trans hf
    refine zv_tableIn (v := 6) (off := 116) (tgt := 117) dX5_now_1 c21 (by decide) (by decide) (by decide) (by decide) ?_
    refine zv_aload_n dX5_now_117 rfl rfl ?_
    obtain ⟨x23, hc22, hf⟩ := zbind hf
    refine zv_callV dX5_now_118 zk_X5_138 zm_X5_allSpare (c_X5_allSpare  d (by omega) S x23 hc22) (wo_0 S) rfl rfl rfl (Nat.le_of_ble_eq_true rfl) ?_
    exact zv_iret (ty := .int) dX5_now_121 rfl rfl (zret1 hf)
  replace hf := (if_neg c21).symm.trans hf
  refine zv_tableOut (tgt := 122) dX5_now_1 (by have q0 := lv_neT (a := 0) c1 (by decide); have q1 := lv_neT (a := 1) c4 (by decide); have q2 := lv_neT (a := 2) c7 (by decide); have q3 := lv_neT (a := 3) c10 (by decide); have q4 := lv_neT (a := 4) c13 (by decide); have q5 := lv_neT (a := 5) c18 (by decide); have q6 := lv_neT (a := 6) c21 (by decide); omega) (by decide) ?_
  refine zv_iconst (v := -1) dX5_now_122 (by decide) ?_
  exact zv_iret (ty := .int) dX5_now_123 rfl rfl (zret1 hf)
-- KingPrices.chanceOf(II)I height 0 reads
def f_X5_chanceOf_37 (k5 : zS → Int32 → Int32 → Int32 → Int32 → Option Int32) (S : zS) (a1 : Int32) (a2 : Int32) (a3 : Int32) (a4 : Int32) : Option Int32 :=
  k5 S a1 a2 a3 (a4 + (1 : Int32))
set_option maxRecDepth 100000 in
set_option maxHeartbeats 4000000 in
theorem v_X5_chanceOf_37 (d : Nat) (k5 : zS → Int32 → Int32 → Int32 → Int32 → Option Int32) (hk5 : ∀ (S : zS) (a1 a2 a3 a4 : Int32) v, k5 S a1 a2 a3 a4 = (some v) → zV none d yX5_chanceOf cX5_chanceOf 5 (some .int) 5 [(0, .ref 0), (1, .int a1), (2, .int a2), (3, .int a3), (4, .int a4)] [] (wd S) (zq (some (.int v)) (wd S))) (S : zS) (a1 : Int32) (a2 : Int32) (a3 : Int32) (a4 : Int32) (v : Int32) (hf : f_X5_chanceOf_37 k5 S a1 a2 a3 a4 = (some v)) : zV none d yX5_chanceOf cX5_chanceOf 5 (some .int) 37 [(0, .ref 0), (1, .int a1), (2, .int a2), (3, .int a3), (4, .int a4)] [] (wd S) (zq (some (.int v)) (wd S)) := by
  unfold f_X5_chanceOf_37 at hf
  refine zv_iinc (v := 1) dX5_chanceOf_37 rfl (by decide) (by decide) ?_
  refine zv_goto (tgt := 5) dX5_chanceOf_40 (by decide) ?_
  exact zV_sub ([(0, .ref 0), (1, .int a1), (2, .int a2), (3, .int a3), (4, .int (a4 + (1 : Int32)))]) ⟨rfl, rfl, rfl, rfl, rfl, trivial⟩ (hk5 S a1 a2 a3 (a4 + (1 : Int32)) _ hf)
def f_X5_chanceOf_5  : Nat → zS → Int32 → Int32 → Int32 → Int32 → Option Int32
  | 0, _, _, _, _, _ => none
  | n + 1, S, a1, a2, a3, a4 => (if (S.1 (lr S.2.2.1) 6) ≤ a4 then some a3 else (if ((a1 >>> (a4 &&& 31)) &&& (1 : Int32)) = 0 then f_X5_chanceOf_37 (f_X5_chanceOf_5  n) S a1 a2 (a3 * a2) a4 else f_X5_chanceOf_37 (f_X5_chanceOf_5  n) S a1 a2 (a3 * ((10 : Int32) - a2)) a4))
set_option maxRecDepth 100000 in
set_option maxHeartbeats 4000000 in
theorem v_X5_chanceOf_5 (d : Nat) : ∀ (n : Nat) (S : zS) (a1 : Int32) (a2 : Int32) (a3 : Int32) (a4 : Int32) (v : Int32), f_X5_chanceOf_5  n S a1 a2 a3 a4 = (some v) → zV none d yX5_chanceOf cX5_chanceOf 5 (some .int) 5 [(0, .ref 0), (1, .int a1), (2, .int a2), (3, .int a3), (4, .int a4)] [] (wd S) (zq (some (.int v)) (wd S)) := by
  intro n
  induction n with
  | zero =>
    intro S a1 a2 a3 a4 v hf
    cases hf
  | succ n ih =>
    intro S a1 a2 a3 a4 v hf
    rw [f_X5_chanceOf_5] at hf
    refine zv_iload dX5_chanceOf_5 rfl ?_
    refine zv_aload_n dX5_chanceOf_7 rfl rfl ?_
    refine zv_get zf_X5_48 (wo_0 S) rfl dX5_chanceOf_8 ?_
    refine zv_get zf_X5_114 ((zLwd S.2.2.1).1 S) rfl dX5_chanceOf_11 ?_
    refine zv_icmp_ge (tgt := 43) dX5_chanceOf_14 (by decide) (fun c1 => ?_) (fun c1 => ?_)
    · replace hf := (if_pos c1).symm.trans hf
      refine zv_iload_n dX5_chanceOf_43 rfl rfl ?_
      exact zv_iret (ty := .int) dX5_chanceOf_44 rfl rfl (zret1 hf)
    · replace hf := (if_neg c1).symm.trans hf
      refine zv_iload_n dX5_chanceOf_17 rfl rfl ?_
      refine zv_iload_n dX5_chanceOf_18 rfl rfl ?_
      refine zv_iload dX5_chanceOf_19 rfl ?_
      refine zv_ishr dX5_chanceOf_21 ?_
      refine zv_iconst (v := 1) dX5_chanceOf_22 (by decide) ?_
      refine zv_iand dX5_chanceOf_23 ?_
      refine zv_if_eq (tgt := 34) dX5_chanceOf_24 (by decide) (fun c2 => ?_) (fun c2 => ?_)
      · replace hf := (if_pos c2).symm.trans hf
        refine zv_iload_n dX5_chanceOf_34 rfl rfl ?_
        refine zv_imul dX5_chanceOf_35 ?_
        refine zv_istore_n dX5_chanceOf_36 rfl (by decide) ?_
        exact zV_sub ([(0, .ref 0), (1, .int a1), (2, .int a2), (3, .int (a3 * a2)), (4, .int a4)]) ⟨rfl, rfl, rfl, rfl, rfl, trivial⟩ (v_X5_chanceOf_37 d (f_X5_chanceOf_5  n) ih S a1 a2 (a3 * a2) a4 _ hf)
      · replace hf := (if_neg c2).symm.trans hf
        refine zv_bipush (v := 10) dX5_chanceOf_27 (by decide) ?_
        refine zv_iload_n dX5_chanceOf_29 rfl rfl ?_
        refine zv_isub dX5_chanceOf_30 ?_
        refine zv_goto (tgt := 35) dX5_chanceOf_31 (by decide) ?_
        refine zv_imul dX5_chanceOf_35 ?_
        refine zv_istore_n dX5_chanceOf_36 rfl (by decide) ?_
        exact zV_sub ([(0, .ref 0), (1, .int a1), (2, .int a2), (3, .int (a3 * ((10 : Int32) - a2))), (4, .int a4)]) ⟨rfl, rfl, rfl, rfl, rfl, trivial⟩ (v_X5_chanceOf_37 d (f_X5_chanceOf_5  n) ih S a1 a2 (a3 * ((10 : Int32) - a2)) a4 _ hf)
def f_X5_chanceOf (S : zS) (a1 : Int32) (a2 : Int32) : Option Int32 :=
  f_X5_chanceOf_5 zN S a1 a2 (1 : Int32) (0 : Int32)
set_option maxRecDepth 100000 in
set_option maxHeartbeats 4000000 in
theorem c_X5_chanceOf  (d : Nat) (S : zS) (a1 : Int32) (a2 : Int32) (v : Int32) (hf : f_X5_chanceOf S a1 a2 = (some v)) : zC d yX5_chanceOf cX5_chanceOf 5 (some .int) [.ref 0, .int a1, .int a2] (wd S) (zq (some (.int v)) (wd S)) := by
  refine zC_intro (by decide) rfl (Nat.le_of_ble_eq_true rfl) ?_
  unfold f_X5_chanceOf at hf
  refine zv_iconst (v := 1) dX5_chanceOf_0 (by decide) ?_
  refine zv_istore_n dX5_chanceOf_1 rfl (by decide) ?_
  refine zv_iconst (v := 0) dX5_chanceOf_2 (by decide) ?_
  refine zv_istore dX5_chanceOf_3 (by decide) ?_
  exact zV_sub ([(0, .ref 0), (1, .int a1), (2, .int a2), (3, .int (1 : Int32)), (4, .int (0 : Int32))]) ⟨rfl, rfl, rfl, rfl, rfl, trivial⟩ (v_X5_chanceOf_5 d zN S a1 a2 (1 : Int32) (0 : Int32) _ hf)
-- KingPrices.odds(III)I height 4 writes
def f_X5_odds_109 (k73 : zS → Int32 → Int32 → Int32 → Int32 → Int32 → Int32 → Option (Int32 × zS)) (S : zS) (a1 : Int32) (a2 : Int32) (a3 : Int32) (a4 : Int32) (a5 : Int32) (a6 : Int32) : Option (Int32 × zS) :=
  k73 S a1 a2 a3 a4 a5 (a6 + (1 : Int32))
set_option maxRecDepth 100000 in
set_option maxHeartbeats 4000000 in
theorem v_X5_odds_109 (d : Nat) (hd : 3 ≤ d) (k73 : zS → Int32 → Int32 → Int32 → Int32 → Int32 → Int32 → Option (Int32 × zS)) (hk73 : ∀ (S : zS) (a1 a2 a3 a4 a5 a6 : Int32) v S', k73 S a1 a2 a3 a4 a5 a6 = (some (v, S')) → zV none (d + 1) yX5_odds cX5_odds 7 (some .int) 73 [(0, .ref 0), (1, .int a1), (2, .int a2), (3, .int a3), (4, .int a4), (5, .int a5), (6, .int a6)] [] (wd S) (zq (some (.int v)) (wd S'))) (S : zS) (a1 : Int32) (a2 : Int32) (a3 : Int32) (a4 : Int32) (a5 : Int32) (a6 : Int32) (v : Int32) (S' : zS) (hf : f_X5_odds_109 k73 S a1 a2 a3 a4 a5 a6 = (some (v, S'))) : zV none (d + 1) yX5_odds cX5_odds 7 (some .int) 109 [(0, .ref 0), (1, .int a1), (2, .int a2), (3, .int a3), (4, .int a4), (5, .int a5), (6, .int a6)] [] (wd S) (zq (some (.int v)) (wd S')) := by
  unfold f_X5_odds_109 at hf
  refine zv_iinc (v := 1) dX5_odds_109 rfl (by decide) (by decide) ?_
  refine zv_goto (tgt := 73) dX5_odds_112 (by decide) ?_
  exact zV_sub ([(0, .ref 0), (1, .int a1), (2, .int a2), (3, .int a3), (4, .int a4), (5, .int a5), (6, .int (a6 + (1 : Int32)))]) ⟨rfl, rfl, rfl, rfl, rfl, rfl, rfl, trivial⟩ (hk73 S a1 a2 a3 a4 a5 (a6 + (1 : Int32)) _ _ hf)
def f_X5_odds_73  : Nat → zS → Int32 → Int32 → Int32 → Int32 → Int32 → Int32 → Option (Int32 × zS)
  | 0, _, _, _, _, _, _, _ => none
  | n + 1, S, a1, a2, a3, a4, a5, a6 => (if ((1 : Int32) <<< ((S.1 (lr S.2.2.1) 6) &&& 31)) ≤ a6 then ((f_X5_partOfFraction a4 a5 a3).bind (fun x3 => some (x3, S))) else ((f_X5_spareTogether S a6).bind (fun x5 => (if x5 < a2 then f_X5_odds_109 (f_X5_odds_73  n) S a1 a2 a3 a4 a5 a6 else ((f_X5_chanceOf S a6 a1).bind (fun x8 => f_X5_odds_109 (f_X5_odds_73  n) S a1 a2 a3 (a4 + x8) a5 a6))))))
set_option maxRecDepth 100000 in
set_option maxHeartbeats 4000000 in
theorem v_X5_odds_73 (d : Nat) (hd : 3 ≤ d) : ∀ (n : Nat) (S : zS) (a1 : Int32) (a2 : Int32) (a3 : Int32) (a4 : Int32) (a5 : Int32) (a6 : Int32) (v : Int32) (S' : zS), f_X5_odds_73  n S a1 a2 a3 a4 a5 a6 = (some (v, S')) → zV none (d + 1) yX5_odds cX5_odds 7 (some .int) 73 [(0, .ref 0), (1, .int a1), (2, .int a2), (3, .int a3), (4, .int a4), (5, .int a5), (6, .int a6)] [] (wd S) (zq (some (.int v)) (wd S')) := by
  intro n
  induction n with
  | zero =>
    intro S a1 a2 a3 a4 a5 a6 v S' hf
    cases hf
  | succ n ih =>
    intro S a1 a2 a3 a4 a5 a6 v S' hf
    rw [f_X5_odds_73] at hf
    refine zv_iload dX5_odds_73 rfl ?_
    refine zv_iconst (v := 1) dX5_odds_75 (by decide) ?_
    refine zv_aload_n dX5_odds_76 rfl rfl ?_
    refine zv_get zf_X5_48 (wo_0 S) rfl dX5_odds_77 ?_
    refine zv_get zf_X5_114 ((zLwd S.2.2.1).1 S) rfl dX5_odds_80 ?_
    refine zv_ishl dX5_odds_83 ?_
    refine zv_icmp_ge (tgt := 115) dX5_odds_84 (by decide) (fun c1 => ?_) (fun c1 => ?_)
    · replace hf := (if_pos c1).symm.trans hf
      refine zv_iload dX5_odds_115 rfl ?_
      refine zv_iload dX5_odds_117 rfl ?_
      refine zv_iload_n dX5_odds_119 rfl rfl ?_
      obtain ⟨x3, hc2, hf⟩ := zbind hf
      refine zv_callS dX5_odds_120 zk_X5_171 zm_X5_partOfFraction (c_X5_partOfFraction  d (by omega) a4 a5 a3 x3 hc2) rfl rfl (Nat.le_of_ble_eq_true rfl) ?_
      exact zv_iret (ty := .int) dX5_odds_123 rfl rfl (zret2 wd hf)
    · replace hf := (if_neg c1).symm.trans hf
      refine zv_aload_n dX5_odds_87 rfl rfl ?_
      refine zv_iload dX5_odds_88 rfl ?_
      obtain ⟨x5, hc4, hf⟩ := zbind hf
      refine zv_callV dX5_odds_90 zk_X5_165 zm_X5_spareTogether (c_X5_spareTogether  d S a6 x5 hc4) (wo_0 S) rfl rfl rfl (Nat.le_of_ble_eq_true rfl) ?_
      refine zv_iload_n dX5_odds_93 rfl rfl ?_
      refine zv_icmp_lt (tgt := 109) dX5_odds_94 (by decide) (fun c6 => ?_) (fun c6 => ?_)
      · replace hf := (if_pos c6).symm.trans hf
        exact zV_sub ([(0, .ref 0), (1, .int a1), (2, .int a2), (3, .int a3), (4, .int a4), (5, .int a5), (6, .int a6)]) ⟨rfl, rfl, rfl, rfl, rfl, rfl, rfl, trivial⟩ (v_X5_odds_109 d (by omega) (f_X5_odds_73  n) ih S a1 a2 a3 a4 a5 a6 _ _ hf)
      · replace hf := (if_neg c6).symm.trans hf
        refine zv_iload dX5_odds_97 rfl ?_
        refine zv_aload_n dX5_odds_99 rfl rfl ?_
        refine zv_iload dX5_odds_100 rfl ?_
        refine zv_iload_n dX5_odds_102 rfl rfl ?_
        obtain ⟨x8, hc7, hf⟩ := zbind hf
        refine zv_callV dX5_odds_103 zk_X5_168 zm_X5_chanceOf (c_X5_chanceOf  d S a6 a1 x8 hc7) (wo_0 S) rfl rfl rfl (Nat.le_of_ble_eq_true rfl) ?_
        refine zv_iadd dX5_odds_106 ?_
        refine zv_istore dX5_odds_107 (by decide) ?_
        exact zV_sub ([(0, .ref 0), (1, .int a1), (2, .int a2), (3, .int a3), (4, .int (a4 + x8)), (5, .int a5), (6, .int a6)]) ⟨rfl, rfl, rfl, rfl, rfl, rfl, rfl, trivial⟩ (v_X5_odds_109 d (by omega) (f_X5_odds_73  n) ih S a1 a2 a3 (a4 + x8) a5 a6 _ _ hf)
def f_X5_odds_45  : Nat → zS → Int32 → Int32 → Int32 → Int32 → Int32 → Int32 → Option (Int32 × zS)
  | 0, _, _, _, _, _, _, _ => none
  | n + 1, S, a1, a2, a3, a4, a5, a6 => (if (S.1 (lr S.2.2.1) 6) ≤ a6 then f_X5_odds_73 zN S a1 a2 a3 a4 a5 (0 : Int32) else f_X5_odds_45  n S a1 a2 a3 a4 (a5 * (10 : Int32)) (a6 + (1 : Int32)))
set_option maxRecDepth 100000 in
set_option maxHeartbeats 4000000 in
theorem v_X5_odds_45 (d : Nat) (hd : 3 ≤ d) : ∀ (n : Nat) (S : zS) (a1 : Int32) (a2 : Int32) (a3 : Int32) (a4 : Int32) (a5 : Int32) (a6 : Int32) (v : Int32) (S' : zS), f_X5_odds_45  n S a1 a2 a3 a4 a5 a6 = (some (v, S')) → zV none (d + 1) yX5_odds cX5_odds 7 (some .int) 45 [(0, .ref 0), (1, .int a1), (2, .int a2), (3, .int a3), (4, .int a4), (5, .int a5), (6, .int a6)] [] (wd S) (zq (some (.int v)) (wd S')) := by
  intro n
  induction n with
  | zero =>
    intro S a1 a2 a3 a4 a5 a6 v S' hf
    cases hf
  | succ n ih =>
    intro S a1 a2 a3 a4 a5 a6 v S' hf
    rw [f_X5_odds_45] at hf
    refine zv_iload dX5_odds_45 rfl ?_
    refine zv_aload_n dX5_odds_47 rfl rfl ?_
    refine zv_get zf_X5_48 (wo_0 S) rfl dX5_odds_48 ?_
    refine zv_get zf_X5_114 ((zLwd S.2.2.1).1 S) rfl dX5_odds_51 ?_
    refine zv_icmp_ge (tgt := 70) dX5_odds_54 (by decide) (fun c1 => ?_) (fun c1 => ?_)
    · replace hf := (if_pos c1).symm.trans hf
      refine zv_iconst (v := 0) dX5_odds_70 (by decide) ?_
      refine zv_istore dX5_odds_71 (by decide) ?_
      exact zV_sub ([(0, .ref 0), (1, .int a1), (2, .int a2), (3, .int a3), (4, .int a4), (5, .int a5), (6, .int (0 : Int32))]) ⟨rfl, rfl, rfl, rfl, rfl, rfl, rfl, trivial⟩ (v_X5_odds_73 d (by omega) zN S a1 a2 a3 a4 a5 (0 : Int32) _ _ hf)
    · replace hf := (if_neg c1).symm.trans hf
      refine zv_iload dX5_odds_57 rfl ?_
      refine zv_bipush (v := 10) dX5_odds_59 (by decide) ?_
      refine zv_imul dX5_odds_61 ?_
      refine zv_istore dX5_odds_62 (by decide) ?_
      refine zv_iinc (v := 1) dX5_odds_64 rfl (by decide) (by decide) ?_
      refine zv_goto (tgt := 45) dX5_odds_67 (by decide) ?_
      exact zV_sub ([(0, .ref 0), (1, .int a1), (2, .int a2), (3, .int a3), (4, .int a4), (5, .int (a5 * (10 : Int32))), (6, .int (a6 + (1 : Int32)))]) ⟨rfl, rfl, rfl, rfl, rfl, rfl, rfl, trivial⟩ (ih S a1 a2 a3 a4 (a5 * (10 : Int32)) (a6 + (1 : Int32)) _ _ hf)
def f_X5_odds (S : zS) (a1 : Int32) (a2 : Int32) (a3 : Int32) : Option (Int32 × zS) :=
  ((f_X5_isWithin a1 (0 : Int32) (10 : Int32)).bind (fun x2 => (if x2 = 0 then some ((-1 : Int32), S) else ((f_X5_isWithin a2 (0 : Int32) (360 : Int32)).bind (fun x5 => (if x5 = 0 then some ((-1 : Int32), S) else ((f_X5_isWithin a3 (0 : Int32) (1 : Int32)).bind (fun x8 => (if x8 = 0 then some ((-1 : Int32), S) else ((f_X5_fillSpares S).bind (fun S11 => f_X5_odds_45 zN S11 a1 a2 a3 (0 : Int32) (1 : Int32) (0 : Int32))))))))))))
set_option maxRecDepth 100000 in
set_option maxHeartbeats 4000000 in
theorem c_X5_odds  (d : Nat) (hd : 4 ≤ d) (S : zS) (a1 : Int32) (a2 : Int32) (a3 : Int32) (v : Int32) (S' : zS) (hf : f_X5_odds S a1 a2 a3 = (some (v, S'))) : zC d yX5_odds cX5_odds 7 (some .int) [.ref 0, .int a1, .int a2, .int a3] (wd S) (zq (some (.int v)) (wd S')) := by
  obtain ⟨d, rfl⟩ : ∃ e, d = e + 1 := ⟨d - 1, by omega⟩
  refine zC_intro (by decide) rfl (Nat.le_of_ble_eq_true rfl) ?_
  unfold f_X5_odds at hf
  refine zv_iload_n dX5_odds_0 rfl rfl ?_
  refine zv_iconst (v := 0) dX5_odds_1 (by decide) ?_
  refine zv_bipush (v := 10) dX5_odds_2 (by decide) ?_
  obtain ⟨x2, hc1, hf⟩ := zbind hf
  refine zv_callS dX5_odds_4 zk_X5_59 zm_X5_isWithin (c_X5_isWithin  d a1 (0 : Int32) (10 : Int32) x2 hc1) rfl rfl (Nat.le_of_ble_eq_true rfl) ?_
  refine zv_if_eq (tgt := 30) dX5_odds_7 (by decide) (fun c3 => ?_) (fun c3 => ?_)
  · replace hf := (if_pos c3).symm.trans hf
    refine zv_iconst (v := -1) dX5_odds_30 (by decide) ?_
    exact zv_iret (ty := .int) dX5_odds_31 rfl rfl (zret2 wd hf)
  · replace hf := (if_neg c3).symm.trans hf
    refine zv_iload_n dX5_odds_10 rfl rfl ?_
    refine zv_iconst (v := 0) dX5_odds_11 (by decide) ?_
    refine zv_sipush (v := 360) dX5_odds_12 (by decide) ?_
    obtain ⟨x5, hc4, hf⟩ := zbind hf
    refine zv_callS dX5_odds_15 zk_X5_59 zm_X5_isWithin (c_X5_isWithin  d a2 (0 : Int32) (360 : Int32) x5 hc4) rfl rfl (Nat.le_of_ble_eq_true rfl) ?_
    refine zv_if_eq (tgt := 30) dX5_odds_18 (by decide) (fun c6 => ?_) (fun c6 => ?_)
    · replace hf := (if_pos c6).symm.trans hf
      refine zv_iconst (v := -1) dX5_odds_30 (by decide) ?_
      exact zv_iret (ty := .int) dX5_odds_31 rfl rfl (zret2 wd hf)
    · replace hf := (if_neg c6).symm.trans hf
      refine zv_iload_n dX5_odds_21 rfl rfl ?_
      refine zv_iconst (v := 0) dX5_odds_22 (by decide) ?_
      refine zv_iconst (v := 1) dX5_odds_23 (by decide) ?_
      obtain ⟨x8, hc7, hf⟩ := zbind hf
      refine zv_callS dX5_odds_24 zk_X5_59 zm_X5_isWithin (c_X5_isWithin  d a3 (0 : Int32) (1 : Int32) x8 hc7) rfl rfl (Nat.le_of_ble_eq_true rfl) ?_
      refine zv_if_ne (tgt := 32) dX5_odds_27 (by decide) (fun c9 => ?_) (fun c9 => ?_)
      · replace hf := (if_neg c9).symm.trans hf
        refine zv_aload_n dX5_odds_32 rfl rfl ?_
        obtain ⟨S11, hc10, hf⟩ := zbind hf
        refine zv_callV dX5_odds_33 zk_X5_141 zm_X5_fillSpares (c_X5_fillSpares  d (by omega) S S11 hc10) (wo_0 S) rfl rfl rfl (Nat.le_of_ble_eq_true rfl) ?_
        refine zv_iconst (v := 0) dX5_odds_36 (by decide) ?_
        refine zv_istore dX5_odds_37 (by decide) ?_
        refine zv_iconst (v := 1) dX5_odds_39 (by decide) ?_
        refine zv_istore dX5_odds_40 (by decide) ?_
        refine zv_iconst (v := 0) dX5_odds_42 (by decide) ?_
        refine zv_istore dX5_odds_43 (by decide) ?_
        exact zV_sub ([(0, .ref 0), (1, .int a1), (2, .int a2), (3, .int a3), (4, .int (0 : Int32)), (5, .int (1 : Int32)), (6, .int (0 : Int32))]) ⟨rfl, rfl, rfl, rfl, rfl, rfl, rfl, trivial⟩ (v_X5_odds_45 d (by omega) zN S11 a1 a2 a3 (0 : Int32) (1 : Int32) (0 : Int32) _ _ hf)
      · replace hf := (if_pos c9).symm.trans hf
        refine zv_iconst (v := -1) dX5_odds_30 (by decide) ?_
        exact zv_iret (ty := .int) dX5_odds_31 rfl rfl (zret2 wd hf)
-- KingPrices.owes(II)I height 2 reads
def f_X5_owes (S : zS) (a1 : Int32) (a2 : Int32) : Option Int32 :=
  ((f_X0_knows S (lr S.2.2.1) a1).bind (fun x2 => (if x2 = 0 then some ((-1 : Int32)) else ((f_X0_knows S (lr S.2.2.1) a2).bind (fun x5 => (if x5 = 0 then some ((-1 : Int32)) else (if a1 = a2 then some ((-1 : Int32)) else ((f_X0_debt S (lr S.2.2.1) a1 a2).bind (fun x9 => some x9)))))))))
set_option maxRecDepth 100000 in
set_option maxHeartbeats 4000000 in
theorem c_X5_owes  (d : Nat) (hd : 2 ≤ d) (S : zS) (a1 : Int32) (a2 : Int32) (v : Int32) (hf : f_X5_owes S a1 a2 = (some v)) : zC d yX5_owes cX5_owes 3 (some .int) [.ref 0, .int a1, .int a2] (wd S) (zq (some (.int v)) (wd S)) := by
  obtain ⟨d, rfl⟩ : ∃ e, d = e + 1 := ⟨d - 1, by omega⟩
  refine zC_intro (by decide) rfl (Nat.le_of_ble_eq_true rfl) ?_
  unfold f_X5_owes at hf
  refine zv_aload_n dX5_owes_0 rfl rfl ?_
  refine zv_get zf_X5_48 (wo_0 S) rfl dX5_owes_1 ?_
  refine zv_iload_n dX5_owes_4 rfl rfl ?_
  obtain ⟨x2, hc1, hf⟩ := zbind hf
  refine zv_callV dX5_owes_5 zk_X5_78 zm_X0_knows (c_X0_knows (zLwd S.2.2.1) d S a1 x2 hc1) ((zLwd S.2.2.1).1 S) rfl rfl rfl (Nat.le_of_ble_eq_true rfl) ?_
  refine zv_if_eq (tgt := 27) dX5_owes_8 (by decide) (fun c3 => ?_) (fun c3 => ?_)
  · replace hf := (if_pos c3).symm.trans hf
    refine zv_iconst (v := -1) dX5_owes_27 (by decide) ?_
    exact zv_iret (ty := .int) dX5_owes_28 rfl rfl (zret1 hf)
  · replace hf := (if_neg c3).symm.trans hf
    refine zv_aload_n dX5_owes_11 rfl rfl ?_
    refine zv_get zf_X5_48 (wo_0 S) rfl dX5_owes_12 ?_
    refine zv_iload_n dX5_owes_15 rfl rfl ?_
    obtain ⟨x5, hc4, hf⟩ := zbind hf
    refine zv_callV dX5_owes_16 zk_X5_78 zm_X0_knows (c_X0_knows (zLwd S.2.2.1) d S a2 x5 hc4) ((zLwd S.2.2.1).1 S) rfl rfl rfl (Nat.le_of_ble_eq_true rfl) ?_
    refine zv_if_eq (tgt := 27) dX5_owes_19 (by decide) (fun c6 => ?_) (fun c6 => ?_)
    · replace hf := (if_pos c6).symm.trans hf
      refine zv_iconst (v := -1) dX5_owes_27 (by decide) ?_
      exact zv_iret (ty := .int) dX5_owes_28 rfl rfl (zret1 hf)
    · replace hf := (if_neg c6).symm.trans hf
      refine zv_iload_n dX5_owes_22 rfl rfl ?_
      refine zv_iload_n dX5_owes_23 rfl rfl ?_
      refine zv_icmp_ne (tgt := 29) dX5_owes_24 (by decide) (fun c7 => ?_) (fun c7 => ?_)
      · replace hf := (if_neg c7).symm.trans hf
        refine zv_aload_n dX5_owes_29 rfl rfl ?_
        refine zv_get zf_X5_48 (wo_0 S) rfl dX5_owes_30 ?_
        refine zv_iload_n dX5_owes_33 rfl rfl ?_
        refine zv_iload_n dX5_owes_34 rfl rfl ?_
        obtain ⟨x9, hc8, hf⟩ := zbind hf
        refine zv_callV dX5_owes_35 zk_X5_98 zm_X0_debt (c_X0_debt (zLwd S.2.2.1) d (by omega) S a1 a2 x9 hc8) ((zLwd S.2.2.1).1 S) rfl rfl rfl (Nat.le_of_ble_eq_true rfl) ?_
        exact zv_iret (ty := .int) dX5_owes_38 rfl rfl (zret1 hf)
      · replace hf := (if_pos c7).symm.trans hf
        refine zv_iconst (v := -1) dX5_owes_27 (by decide) ?_
        exact zv_iret (ty := .int) dX5_owes_28 rfl rfl (zret1 hf)
-- KingPrices.pays(I)I height 2 writes
def f_X5_pays (S : zS) (a1 : Int32) : Option (Int32 × zS) :=
  ((f_X0_knows S (lr S.2.2.1) a1).bind (fun x2 => (if x2 = 0 then some ((-1 : Int32), S) else ((f_X2_get S 3 ((16 : Int32) + a1)).bind (fun x5 => ((f_X2_remember S 3).bind (fun S7 => ((f_X2_put S7 3 ((16 : Int32) + a1) (0 : Int32)).bind (fun S9 => some (x5, S9))))))))))
set_option maxRecDepth 100000 in
set_option maxHeartbeats 4000000 in
theorem c_X5_pays  (d : Nat) (hd : 2 ≤ d) (S : zS) (a1 : Int32) (v : Int32) (S' : zS) (hf : f_X5_pays S a1 = (some (v, S'))) : zC d yX5_pays cX5_pays 3 (some .int) [.ref 0, .int a1] (wd S) (zq (some (.int v)) (wd S')) := by
  obtain ⟨d, rfl⟩ : ∃ e, d = e + 1 := ⟨d - 1, by omega⟩
  refine zC_intro (by decide) rfl (Nat.le_of_ble_eq_true rfl) ?_
  unfold f_X5_pays at hf
  refine zv_aload_n dX5_pays_0 rfl rfl ?_
  refine zv_get zf_X5_48 (wo_0 S) rfl dX5_pays_1 ?_
  refine zv_iload_n dX5_pays_4 rfl rfl ?_
  obtain ⟨x2, hc1, hf⟩ := zbind hf
  refine zv_callV dX5_pays_5 zk_X5_78 zm_X0_knows (c_X0_knows (zLwd S.2.2.1) d S a1 x2 hc1) ((zLwd S.2.2.1).1 S) rfl rfl rfl (Nat.le_of_ble_eq_true rfl) ?_
  refine zv_if_ne (tgt := 13) dX5_pays_8 (by decide) (fun c3 => ?_) (fun c3 => ?_)
  · replace hf := (if_neg c3).symm.trans hf
    refine zv_aload_n dX5_pays_13 rfl rfl ?_
    refine zv_get zf_X5_19 (wo_0 S) rfl dX5_pays_14 ?_
    refine zv_bipush (v := 16) dX5_pays_17 (by decide) ?_
    refine zv_iload_n dX5_pays_19 rfl rfl ?_
    refine zv_iadd dX5_pays_20 ?_
    obtain ⟨x5, hc4, hf⟩ := zbind hf
    refine zv_callV dX5_pays_21 zk_X5_81 zm_X2_get (c_X2_get zTwd_3 d S ((16 : Int32) + a1) x5 hc4) (zTwd_3.1 S) rfl rfl rfl (Nat.le_of_ble_eq_true rfl) ?_
    refine zv_istore_n dX5_pays_24 rfl (by decide) ?_
    refine zv_aload_n dX5_pays_25 rfl rfl ?_
    refine zv_get zf_X5_19 (wo_0 S) rfl dX5_pays_26 ?_
    obtain ⟨S7, hc6, hf⟩ := zbind hf
    refine zv_callV dX5_pays_29 zk_X5_101 zm_X2_remember (c_X2_remember zTwd_3 d (by omega) S S7 hc6) (zTwd_3.1 S) rfl rfl rfl (Nat.le_of_ble_eq_true rfl) ?_
    refine zv_aload_n dX5_pays_32 rfl rfl ?_
    refine zv_get zf_X5_19 (wo_0 S7) rfl dX5_pays_33 ?_
    refine zv_bipush (v := 16) dX5_pays_36 (by decide) ?_
    refine zv_iload_n dX5_pays_38 rfl rfl ?_
    refine zv_iadd dX5_pays_39 ?_
    refine zv_iconst (v := 0) dX5_pays_40 (by decide) ?_
    obtain ⟨S9, hc8, hf⟩ := zbind hf
    refine zv_callV dX5_pays_41 zk_X5_111 zm_X2_put (c_X2_put zTwd_3 d S7 ((16 : Int32) + a1) (0 : Int32) S9 hc8) (zTwd_3.1 S7) rfl rfl rfl (Nat.le_of_ble_eq_true rfl) ?_
    refine zv_iload_n dX5_pays_44 rfl rfl ?_
    exact zv_iret (ty := .int) dX5_pays_45 rfl rfl (zret2 wd hf)
  · replace hf := (if_pos c3).symm.trans hf
    refine zv_iconst (v := -1) dX5_pays_11 (by decide) ?_
    exact zv_iret (ty := .int) dX5_pays_12 rfl rfl (zret2 wd hf)
-- KingPrices.rests(III)I height 1 reads
def f_X5_rests_163 (k38 : zS → Int32 → Int32 → Int32 → Int32 → Int32 → Option Int32) (S : zS) (a1 : Int32) (a2 : Int32) (a3 : Int32) (a4 : Int32) (a5 : Int32) : Option Int32 :=
  k38 S a1 a2 a3 a4 (a5 + (1 : Int32))
set_option maxRecDepth 100000 in
set_option maxHeartbeats 4000000 in
theorem v_X5_rests_163 (d : Nat) (hd : 0 ≤ d) (k38 : zS → Int32 → Int32 → Int32 → Int32 → Int32 → Option Int32) (hk38 : ∀ (S : zS) (a1 a2 a3 a4 a5 : Int32) v, k38 S a1 a2 a3 a4 a5 = (some v) → zV none (d + 1) yX5_rests cX5_rests 10 (some .int) 38 [(1, .int a1), (2, .int a2), (3, .int a3), (4, .int a4), (5, .int a5)] [] (wd S) (zq (some (.int v)) (wd S))) (S : zS) (a1 : Int32) (a2 : Int32) (a3 : Int32) (a4 : Int32) (a5 : Int32) (v : Int32) (hf : f_X5_rests_163 k38 S a1 a2 a3 a4 a5 = (some v)) : zV none (d + 1) yX5_rests cX5_rests 10 (some .int) 163 [(1, .int a1), (2, .int a2), (3, .int a3), (4, .int a4), (5, .int a5)] [] (wd S) (zq (some (.int v)) (wd S)) := by
  unfold f_X5_rests_163 at hf
  refine zv_iinc (v := 1) dX5_rests_163 rfl (by decide) (by decide) ?_
  refine zv_goto (tgt := 38) dX5_rests_166 (by decide) ?_
  exact zV_sub ([(1, .int a1), (2, .int a2), (3, .int a3), (4, .int a4), (5, .int (a5 + (1 : Int32)))]) ⟨rfl, rfl, rfl, rfl, rfl, trivial⟩ (hk38 S a1 a2 a3 a4 (a5 + (1 : Int32)) _ hf)
def f_X5_rests_144 (k38 : zS → Int32 → Int32 → Int32 → Int32 → Int32 → Option Int32) (S : zS) (a1 : Int32) (a2 : Int32) (a3 : Int32) (a4 : Int32) (a5 : Int32) (a8 : Int32) (a9 : Int32) : Option Int32 :=
  (if a8 = 0 then f_X5_rests_163 k38 S a1 a2 a3 a4 a5 else (if a9 = 0 then f_X5_rests_163 k38 S a1 a2 a3 a4 a5 else f_X5_rests_163 k38 S a1 a2 a3 (a4 ||| ((1 : Int32) <<< (a5 &&& 31))) a5))
set_option maxRecDepth 100000 in
set_option maxHeartbeats 4000000 in
theorem v_X5_rests_144 (d : Nat) (hd : 0 ≤ d) (k38 : zS → Int32 → Int32 → Int32 → Int32 → Int32 → Option Int32) (hk38 : ∀ (S : zS) (a1 a2 a3 a4 a5 : Int32) v, k38 S a1 a2 a3 a4 a5 = (some v) → zV none (d + 1) yX5_rests cX5_rests 10 (some .int) 38 [(1, .int a1), (2, .int a2), (3, .int a3), (4, .int a4), (5, .int a5)] [] (wd S) (zq (some (.int v)) (wd S))) (S : zS) (a1 : Int32) (a2 : Int32) (a3 : Int32) (a4 : Int32) (a5 : Int32) (a8 : Int32) (a9 : Int32) (v : Int32) (hf : f_X5_rests_144 k38 S a1 a2 a3 a4 a5 a8 a9 = (some v)) : zV none (d + 1) yX5_rests cX5_rests 10 (some .int) 144 [(1, .int a1), (2, .int a2), (3, .int a3), (4, .int a4), (5, .int a5), (8, .int a8), (9, .int a9)] [] (wd S) (zq (some (.int v)) (wd S)) := by
  unfold f_X5_rests_144 at hf
  refine zv_iload dX5_rests_144 rfl ?_
  refine zv_if_eq (tgt := 163) dX5_rests_146 (by decide) (fun c1 => ?_) (fun c1 => ?_)
  · replace hf := (if_pos c1).symm.trans hf
    exact zV_sub ([(1, .int a1), (2, .int a2), (3, .int a3), (4, .int a4), (5, .int a5)]) ⟨rfl, rfl, rfl, rfl, rfl, trivial⟩ (v_X5_rests_163 d (by omega) k38 hk38 S a1 a2 a3 a4 a5 _ hf)
  · replace hf := (if_neg c1).symm.trans hf
    refine zv_iload dX5_rests_149 rfl ?_
    refine zv_if_eq (tgt := 163) dX5_rests_151 (by decide) (fun c2 => ?_) (fun c2 => ?_)
    · replace hf := (if_pos c2).symm.trans hf
      exact zV_sub ([(1, .int a1), (2, .int a2), (3, .int a3), (4, .int a4), (5, .int a5)]) ⟨rfl, rfl, rfl, rfl, rfl, trivial⟩ (v_X5_rests_163 d (by omega) k38 hk38 S a1 a2 a3 a4 a5 _ hf)
    · replace hf := (if_neg c2).symm.trans hf
      refine zv_iload dX5_rests_154 rfl ?_
      refine zv_iconst (v := 1) dX5_rests_156 (by decide) ?_
      refine zv_iload dX5_rests_157 rfl ?_
      refine zv_ishl dX5_rests_159 ?_
      refine zv_ior dX5_rests_160 ?_
      refine zv_istore dX5_rests_161 (by decide) ?_
      exact zV_sub ([(1, .int a1), (2, .int a2), (3, .int a3), (4, .int (a4 ||| ((1 : Int32) <<< (a5 &&& 31)))), (5, .int a5)]) ⟨rfl, rfl, rfl, rfl, rfl, trivial⟩ (v_X5_rests_163 d (by omega) k38 hk38 S a1 a2 a3 (a4 ||| ((1 : Int32) <<< (a5 &&& 31))) a5 _ hf)
def f_X5_rests_137 (k38 : zS → Int32 → Int32 → Int32 → Int32 → Int32 → Option Int32) (S : zS) (a1 : Int32) (a2 : Int32) (a3 : Int32) (a4 : Int32) (a5 : Int32) (a8 : Int32) : Option Int32 :=
  f_X5_rests_144 k38 S a1 a2 a3 a4 a5 a8 (1 : Int32)
set_option maxRecDepth 100000 in
set_option maxHeartbeats 4000000 in
theorem v_X5_rests_137 (d : Nat) (hd : 0 ≤ d) (k38 : zS → Int32 → Int32 → Int32 → Int32 → Int32 → Option Int32) (hk38 : ∀ (S : zS) (a1 a2 a3 a4 a5 : Int32) v, k38 S a1 a2 a3 a4 a5 = (some v) → zV none (d + 1) yX5_rests cX5_rests 10 (some .int) 38 [(1, .int a1), (2, .int a2), (3, .int a3), (4, .int a4), (5, .int a5)] [] (wd S) (zq (some (.int v)) (wd S))) (S : zS) (a1 : Int32) (a2 : Int32) (a3 : Int32) (a4 : Int32) (a5 : Int32) (a8 : Int32) (v : Int32) (hf : f_X5_rests_137 k38 S a1 a2 a3 a4 a5 a8 = (some v)) : zV none (d + 1) yX5_rests cX5_rests 10 (some .int) 137 [(1, .int a1), (2, .int a2), (3, .int a3), (4, .int a4), (5, .int a5), (8, .int a8)] [] (wd S) (zq (some (.int v)) (wd S)) := by
  unfold f_X5_rests_137 at hf
  refine zv_iconst (v := 1) dX5_rests_137 (by decide) ?_
  refine zv_goto (tgt := 142) dX5_rests_138 (by decide) ?_
  refine zv_istore dX5_rests_142 (by decide) ?_
  exact zV_sub ([(1, .int a1), (2, .int a2), (3, .int a3), (4, .int a4), (5, .int a5), (8, .int a8), (9, .int (1 : Int32))]) ⟨rfl, rfl, rfl, rfl, rfl, rfl, rfl, trivial⟩ (v_X5_rests_144 d (by omega) k38 hk38 S a1 a2 a3 a4 a5 a8 (1 : Int32) _ hf)
def f_X5_rests_141 (k38 : zS → Int32 → Int32 → Int32 → Int32 → Int32 → Option Int32) (S : zS) (a1 : Int32) (a2 : Int32) (a3 : Int32) (a4 : Int32) (a5 : Int32) (a8 : Int32) : Option Int32 :=
  f_X5_rests_144 k38 S a1 a2 a3 a4 a5 a8 (0 : Int32)
set_option maxRecDepth 100000 in
set_option maxHeartbeats 4000000 in
theorem v_X5_rests_141 (d : Nat) (hd : 0 ≤ d) (k38 : zS → Int32 → Int32 → Int32 → Int32 → Int32 → Option Int32) (hk38 : ∀ (S : zS) (a1 a2 a3 a4 a5 : Int32) v, k38 S a1 a2 a3 a4 a5 = (some v) → zV none (d + 1) yX5_rests cX5_rests 10 (some .int) 38 [(1, .int a1), (2, .int a2), (3, .int a3), (4, .int a4), (5, .int a5)] [] (wd S) (zq (some (.int v)) (wd S))) (S : zS) (a1 : Int32) (a2 : Int32) (a3 : Int32) (a4 : Int32) (a5 : Int32) (a8 : Int32) (v : Int32) (hf : f_X5_rests_141 k38 S a1 a2 a3 a4 a5 a8 = (some v)) : zV none (d + 1) yX5_rests cX5_rests 10 (some .int) 141 [(1, .int a1), (2, .int a2), (3, .int a3), (4, .int a4), (5, .int a5), (8, .int a8)] [] (wd S) (zq (some (.int v)) (wd S)) := by
  unfold f_X5_rests_141 at hf
  refine zv_iconst (v := 0) dX5_rests_141 (by decide) ?_
  refine zv_istore dX5_rests_142 (by decide) ?_
  exact zV_sub ([(1, .int a1), (2, .int a2), (3, .int a3), (4, .int a4), (5, .int a5), (8, .int a8), (9, .int (0 : Int32))]) ⟨rfl, rfl, rfl, rfl, rfl, rfl, rfl, trivial⟩ (v_X5_rests_144 d (by omega) k38 hk38 S a1 a2 a3 a4 a5 a8 (0 : Int32) _ hf)
def f_X5_rests_108 (k38 : zS → Int32 → Int32 → Int32 → Int32 → Int32 → Option Int32) (S : zS) (a1 : Int32) (a2 : Int32) (a3 : Int32) (a4 : Int32) (a5 : Int32) (a6 : Int32) (a7 : Int32) (a8 : Int32) : Option Int32 :=
  ((f_X5_buyerHas a6 a7 a1 a2).bind (fun x2 => (if a7 = 0 then ((f_X5_buyerHas a6 (1 : Int32) a1 a2).bind (fun x8 => (if x2 < x8 then f_X5_rests_141 k38 S a1 a2 a3 a4 a5 a8 else f_X5_rests_137 k38 S a1 a2 a3 a4 a5 a8))) else ((f_X5_buyerHas a6 (0 : Int32) a1 a2).bind (fun x5 => (if x2 < x5 then f_X5_rests_141 k38 S a1 a2 a3 a4 a5 a8 else f_X5_rests_137 k38 S a1 a2 a3 a4 a5 a8))))))
set_option maxRecDepth 100000 in
set_option maxHeartbeats 4000000 in
theorem v_X5_rests_108 (d : Nat) (hd : 0 ≤ d) (k38 : zS → Int32 → Int32 → Int32 → Int32 → Int32 → Option Int32) (hk38 : ∀ (S : zS) (a1 a2 a3 a4 a5 : Int32) v, k38 S a1 a2 a3 a4 a5 = (some v) → zV none (d + 1) yX5_rests cX5_rests 10 (some .int) 38 [(1, .int a1), (2, .int a2), (3, .int a3), (4, .int a4), (5, .int a5)] [] (wd S) (zq (some (.int v)) (wd S))) (S : zS) (a1 : Int32) (a2 : Int32) (a3 : Int32) (a4 : Int32) (a5 : Int32) (a6 : Int32) (a7 : Int32) (a8 : Int32) (v : Int32) (hf : f_X5_rests_108 k38 S a1 a2 a3 a4 a5 a6 a7 a8 = (some v)) : zV none (d + 1) yX5_rests cX5_rests 10 (some .int) 108 [(1, .int a1), (2, .int a2), (3, .int a3), (4, .int a4), (5, .int a5), (6, .int a6), (7, .int a7), (8, .int a8)] [] (wd S) (zq (some (.int v)) (wd S)) := by
  unfold f_X5_rests_108 at hf
  refine zv_iload dX5_rests_108 rfl ?_
  refine zv_iload dX5_rests_110 rfl ?_
  refine zv_iload_n dX5_rests_112 rfl rfl ?_
  refine zv_iload_n dX5_rests_113 rfl rfl ?_
  obtain ⟨x2, hc1, hf⟩ := zbind hf
  refine zv_callS dX5_rests_114 zk_X5_179 zm_X5_buyerHas (c_X5_buyerHas  d a6 a7 a1 a2 x2 hc1) rfl rfl (Nat.le_of_ble_eq_true rfl) ?_
  refine zv_iload dX5_rests_117 rfl ?_
  refine zv_iload dX5_rests_119 rfl ?_
  refine zv_if_ne (tgt := 128) dX5_rests_121 (by decide) (fun c3 => ?_) (fun c3 => ?_)
  · replace hf := (if_neg c3).symm.trans hf
    refine zv_iconst (v := 0) dX5_rests_128 (by decide) ?_
    refine zv_iload_n dX5_rests_129 rfl rfl ?_
    refine zv_iload_n dX5_rests_130 rfl rfl ?_
    obtain ⟨x5, hc4, hf⟩ := zbind hf
    refine zv_callS dX5_rests_131 zk_X5_179 zm_X5_buyerHas (c_X5_buyerHas  d a6 (0 : Int32) a1 a2 x5 hc4) rfl rfl (Nat.le_of_ble_eq_true rfl) ?_
    refine zv_icmp_lt (tgt := 141) dX5_rests_134 (by decide) (fun c6 => ?_) (fun c6 => ?_)
    · replace hf := (if_pos c6).symm.trans hf
      exact zV_sub ([(1, .int a1), (2, .int a2), (3, .int a3), (4, .int a4), (5, .int a5), (8, .int a8)]) ⟨rfl, rfl, rfl, rfl, rfl, rfl, trivial⟩ (v_X5_rests_141 d (by omega) k38 hk38 S a1 a2 a3 a4 a5 a8 _ hf)
    · replace hf := (if_neg c6).symm.trans hf
      exact zV_sub ([(1, .int a1), (2, .int a2), (3, .int a3), (4, .int a4), (5, .int a5), (8, .int a8)]) ⟨rfl, rfl, rfl, rfl, rfl, rfl, trivial⟩ (v_X5_rests_137 d (by omega) k38 hk38 S a1 a2 a3 a4 a5 a8 _ hf)
  · replace hf := (if_pos c3).symm.trans hf
    refine zv_iconst (v := 1) dX5_rests_124 (by decide) ?_
    refine zv_goto (tgt := 129) dX5_rests_125 (by decide) ?_
    refine zv_iload_n dX5_rests_129 rfl rfl ?_
    refine zv_iload_n dX5_rests_130 rfl rfl ?_
    obtain ⟨x8, hc7, hf⟩ := zbind hf
    refine zv_callS dX5_rests_131 zk_X5_179 zm_X5_buyerHas (c_X5_buyerHas  d a6 (1 : Int32) a1 a2 x8 hc7) rfl rfl (Nat.le_of_ble_eq_true rfl) ?_
    refine zv_icmp_lt (tgt := 141) dX5_rests_134 (by decide) (fun c9 => ?_) (fun c9 => ?_)
    · replace hf := (if_pos c9).symm.trans hf
      exact zV_sub ([(1, .int a1), (2, .int a2), (3, .int a3), (4, .int a4), (5, .int a5), (8, .int a8)]) ⟨rfl, rfl, rfl, rfl, rfl, rfl, trivial⟩ (v_X5_rests_141 d (by omega) k38 hk38 S a1 a2 a3 a4 a5 a8 _ hf)
    · replace hf := (if_neg c9).symm.trans hf
      exact zV_sub ([(1, .int a1), (2, .int a2), (3, .int a3), (4, .int a4), (5, .int a5), (8, .int a8)]) ⟨rfl, rfl, rfl, rfl, rfl, rfl, trivial⟩ (v_X5_rests_137 d (by omega) k38 hk38 S a1 a2 a3 a4 a5 a8 _ hf)
def f_X5_rests_101 (k38 : zS → Int32 → Int32 → Int32 → Int32 → Int32 → Option Int32) (S : zS) (a1 : Int32) (a2 : Int32) (a3 : Int32) (a4 : Int32) (a5 : Int32) (a6 : Int32) (a7 : Int32) : Option Int32 :=
  f_X5_rests_108 k38 S a1 a2 a3 a4 a5 a6 a7 (1 : Int32)
set_option maxRecDepth 100000 in
set_option maxHeartbeats 4000000 in
theorem v_X5_rests_101 (d : Nat) (hd : 0 ≤ d) (k38 : zS → Int32 → Int32 → Int32 → Int32 → Int32 → Option Int32) (hk38 : ∀ (S : zS) (a1 a2 a3 a4 a5 : Int32) v, k38 S a1 a2 a3 a4 a5 = (some v) → zV none (d + 1) yX5_rests cX5_rests 10 (some .int) 38 [(1, .int a1), (2, .int a2), (3, .int a3), (4, .int a4), (5, .int a5)] [] (wd S) (zq (some (.int v)) (wd S))) (S : zS) (a1 : Int32) (a2 : Int32) (a3 : Int32) (a4 : Int32) (a5 : Int32) (a6 : Int32) (a7 : Int32) (v : Int32) (hf : f_X5_rests_101 k38 S a1 a2 a3 a4 a5 a6 a7 = (some v)) : zV none (d + 1) yX5_rests cX5_rests 10 (some .int) 101 [(1, .int a1), (2, .int a2), (3, .int a3), (4, .int a4), (5, .int a5), (6, .int a6), (7, .int a7)] [] (wd S) (zq (some (.int v)) (wd S)) := by
  unfold f_X5_rests_101 at hf
  refine zv_iconst (v := 1) dX5_rests_101 (by decide) ?_
  refine zv_goto (tgt := 106) dX5_rests_102 (by decide) ?_
  refine zv_istore dX5_rests_106 (by decide) ?_
  exact zV_sub ([(1, .int a1), (2, .int a2), (3, .int a3), (4, .int a4), (5, .int a5), (6, .int a6), (7, .int a7), (8, .int (1 : Int32))]) ⟨rfl, rfl, rfl, rfl, rfl, rfl, rfl, rfl, trivial⟩ (v_X5_rests_108 d (by omega) k38 hk38 S a1 a2 a3 a4 a5 a6 a7 (1 : Int32) _ hf)
def f_X5_rests_105 (k38 : zS → Int32 → Int32 → Int32 → Int32 → Int32 → Option Int32) (S : zS) (a1 : Int32) (a2 : Int32) (a3 : Int32) (a4 : Int32) (a5 : Int32) (a6 : Int32) (a7 : Int32) : Option Int32 :=
  f_X5_rests_108 k38 S a1 a2 a3 a4 a5 a6 a7 (0 : Int32)
set_option maxRecDepth 100000 in
set_option maxHeartbeats 4000000 in
theorem v_X5_rests_105 (d : Nat) (hd : 0 ≤ d) (k38 : zS → Int32 → Int32 → Int32 → Int32 → Int32 → Option Int32) (hk38 : ∀ (S : zS) (a1 a2 a3 a4 a5 : Int32) v, k38 S a1 a2 a3 a4 a5 = (some v) → zV none (d + 1) yX5_rests cX5_rests 10 (some .int) 38 [(1, .int a1), (2, .int a2), (3, .int a3), (4, .int a4), (5, .int a5)] [] (wd S) (zq (some (.int v)) (wd S))) (S : zS) (a1 : Int32) (a2 : Int32) (a3 : Int32) (a4 : Int32) (a5 : Int32) (a6 : Int32) (a7 : Int32) (v : Int32) (hf : f_X5_rests_105 k38 S a1 a2 a3 a4 a5 a6 a7 = (some v)) : zV none (d + 1) yX5_rests cX5_rests 10 (some .int) 105 [(1, .int a1), (2, .int a2), (3, .int a3), (4, .int a4), (5, .int a5), (6, .int a6), (7, .int a7)] [] (wd S) (zq (some (.int v)) (wd S)) := by
  unfold f_X5_rests_105 at hf
  refine zv_iconst (v := 0) dX5_rests_105 (by decide) ?_
  refine zv_istore dX5_rests_106 (by decide) ?_
  exact zV_sub ([(1, .int a1), (2, .int a2), (3, .int a3), (4, .int a4), (5, .int a5), (6, .int a6), (7, .int a7), (8, .int (0 : Int32))]) ⟨rfl, rfl, rfl, rfl, rfl, rfl, rfl, rfl, trivial⟩ (v_X5_rests_108 d (by omega) k38 hk38 S a1 a2 a3 a4 a5 a6 a7 (0 : Int32) _ hf)
def f_X5_rests_72 (k38 : zS → Int32 → Int32 → Int32 → Int32 → Int32 → Option Int32) (S : zS) (a1 : Int32) (a2 : Int32) (a3 : Int32) (a4 : Int32) (a5 : Int32) (a6 : Int32) (a7 : Int32) : Option Int32 :=
  ((f_X5_villageHas a6 a7 a1 a3).bind (fun x2 => (if a6 = 0 then ((f_X5_villageHas (1 : Int32) a7 a1 a3).bind (fun x8 => (if x2 < x8 then f_X5_rests_105 k38 S a1 a2 a3 a4 a5 a6 a7 else f_X5_rests_101 k38 S a1 a2 a3 a4 a5 a6 a7))) else ((f_X5_villageHas (0 : Int32) a7 a1 a3).bind (fun x5 => (if x2 < x5 then f_X5_rests_105 k38 S a1 a2 a3 a4 a5 a6 a7 else f_X5_rests_101 k38 S a1 a2 a3 a4 a5 a6 a7))))))
set_option maxRecDepth 100000 in
set_option maxHeartbeats 4000000 in
theorem v_X5_rests_72 (d : Nat) (hd : 0 ≤ d) (k38 : zS → Int32 → Int32 → Int32 → Int32 → Int32 → Option Int32) (hk38 : ∀ (S : zS) (a1 a2 a3 a4 a5 : Int32) v, k38 S a1 a2 a3 a4 a5 = (some v) → zV none (d + 1) yX5_rests cX5_rests 10 (some .int) 38 [(1, .int a1), (2, .int a2), (3, .int a3), (4, .int a4), (5, .int a5)] [] (wd S) (zq (some (.int v)) (wd S))) (S : zS) (a1 : Int32) (a2 : Int32) (a3 : Int32) (a4 : Int32) (a5 : Int32) (a6 : Int32) (a7 : Int32) (v : Int32) (hf : f_X5_rests_72 k38 S a1 a2 a3 a4 a5 a6 a7 = (some v)) : zV none (d + 1) yX5_rests cX5_rests 10 (some .int) 72 [(1, .int a1), (2, .int a2), (3, .int a3), (4, .int a4), (5, .int a5), (6, .int a6), (7, .int a7)] [] (wd S) (zq (some (.int v)) (wd S)) := by
  unfold f_X5_rests_72 at hf
  refine zv_iload dX5_rests_72 rfl ?_
  refine zv_iload dX5_rests_74 rfl ?_
  refine zv_iload_n dX5_rests_76 rfl rfl ?_
  refine zv_iload_n dX5_rests_77 rfl rfl ?_
  obtain ⟨x2, hc1, hf⟩ := zbind hf
  refine zv_callS dX5_rests_78 zk_X5_175 zm_X5_villageHas (c_X5_villageHas  d a6 a7 a1 a3 x2 hc1) rfl rfl (Nat.le_of_ble_eq_true rfl) ?_
  refine zv_iload dX5_rests_81 rfl ?_
  refine zv_if_ne (tgt := 90) dX5_rests_83 (by decide) (fun c3 => ?_) (fun c3 => ?_)
  · replace hf := (if_neg c3).symm.trans hf
    refine zv_iconst (v := 0) dX5_rests_90 (by decide) ?_
    refine zv_iload dX5_rests_91 rfl ?_
    refine zv_iload_n dX5_rests_93 rfl rfl ?_
    refine zv_iload_n dX5_rests_94 rfl rfl ?_
    obtain ⟨x5, hc4, hf⟩ := zbind hf
    refine zv_callS dX5_rests_95 zk_X5_175 zm_X5_villageHas (c_X5_villageHas  d (0 : Int32) a7 a1 a3 x5 hc4) rfl rfl (Nat.le_of_ble_eq_true rfl) ?_
    refine zv_icmp_lt (tgt := 105) dX5_rests_98 (by decide) (fun c6 => ?_) (fun c6 => ?_)
    · replace hf := (if_pos c6).symm.trans hf
      exact zV_sub ([(1, .int a1), (2, .int a2), (3, .int a3), (4, .int a4), (5, .int a5), (6, .int a6), (7, .int a7)]) ⟨rfl, rfl, rfl, rfl, rfl, rfl, rfl, trivial⟩ (v_X5_rests_105 d (by omega) k38 hk38 S a1 a2 a3 a4 a5 a6 a7 _ hf)
    · replace hf := (if_neg c6).symm.trans hf
      exact zV_sub ([(1, .int a1), (2, .int a2), (3, .int a3), (4, .int a4), (5, .int a5), (6, .int a6), (7, .int a7)]) ⟨rfl, rfl, rfl, rfl, rfl, rfl, rfl, trivial⟩ (v_X5_rests_101 d (by omega) k38 hk38 S a1 a2 a3 a4 a5 a6 a7 _ hf)
  · replace hf := (if_pos c3).symm.trans hf
    refine zv_iconst (v := 1) dX5_rests_86 (by decide) ?_
    refine zv_goto (tgt := 91) dX5_rests_87 (by decide) ?_
    refine zv_iload dX5_rests_91 rfl ?_
    refine zv_iload_n dX5_rests_93 rfl rfl ?_
    refine zv_iload_n dX5_rests_94 rfl rfl ?_
    obtain ⟨x8, hc7, hf⟩ := zbind hf
    refine zv_callS dX5_rests_95 zk_X5_175 zm_X5_villageHas (c_X5_villageHas  d (1 : Int32) a7 a1 a3 x8 hc7) rfl rfl (Nat.le_of_ble_eq_true rfl) ?_
    refine zv_icmp_lt (tgt := 105) dX5_rests_98 (by decide) (fun c9 => ?_) (fun c9 => ?_)
    · replace hf := (if_pos c9).symm.trans hf
      exact zV_sub ([(1, .int a1), (2, .int a2), (3, .int a3), (4, .int a4), (5, .int a5), (6, .int a6), (7, .int a7)]) ⟨rfl, rfl, rfl, rfl, rfl, rfl, rfl, trivial⟩ (v_X5_rests_105 d (by omega) k38 hk38 S a1 a2 a3 a4 a5 a6 a7 _ hf)
    · replace hf := (if_neg c9).symm.trans hf
      exact zV_sub ([(1, .int a1), (2, .int a2), (3, .int a3), (4, .int a4), (5, .int a5), (6, .int a6), (7, .int a7)]) ⟨rfl, rfl, rfl, rfl, rfl, rfl, rfl, trivial⟩ (v_X5_rests_101 d (by omega) k38 hk38 S a1 a2 a3 a4 a5 a6 a7 _ hf)
def f_X5_rests_58 (k38 : zS → Int32 → Int32 → Int32 → Int32 → Int32 → Option Int32) (S : zS) (a1 : Int32) (a2 : Int32) (a3 : Int32) (a4 : Int32) (a5 : Int32) (a6 : Int32) : Option Int32 :=
  (if (a5 &&& (1 : Int32)) = 0 then f_X5_rests_72 k38 S a1 a2 a3 a4 a5 a6 (0 : Int32) else f_X5_rests_72 k38 S a1 a2 a3 a4 a5 a6 (1 : Int32))
set_option maxRecDepth 100000 in
set_option maxHeartbeats 4000000 in
theorem v_X5_rests_58 (d : Nat) (hd : 0 ≤ d) (k38 : zS → Int32 → Int32 → Int32 → Int32 → Int32 → Option Int32) (hk38 : ∀ (S : zS) (a1 a2 a3 a4 a5 : Int32) v, k38 S a1 a2 a3 a4 a5 = (some v) → zV none (d + 1) yX5_rests cX5_rests 10 (some .int) 38 [(1, .int a1), (2, .int a2), (3, .int a3), (4, .int a4), (5, .int a5)] [] (wd S) (zq (some (.int v)) (wd S))) (S : zS) (a1 : Int32) (a2 : Int32) (a3 : Int32) (a4 : Int32) (a5 : Int32) (a6 : Int32) (v : Int32) (hf : f_X5_rests_58 k38 S a1 a2 a3 a4 a5 a6 = (some v)) : zV none (d + 1) yX5_rests cX5_rests 10 (some .int) 58 [(1, .int a1), (2, .int a2), (3, .int a3), (4, .int a4), (5, .int a5), (6, .int a6)] [] (wd S) (zq (some (.int v)) (wd S)) := by
  unfold f_X5_rests_58 at hf
  refine zv_iload dX5_rests_58 rfl ?_
  refine zv_iconst (v := 1) dX5_rests_60 (by decide) ?_
  refine zv_iand dX5_rests_61 ?_
  refine zv_if_eq (tgt := 69) dX5_rests_62 (by decide) (fun c1 => ?_) (fun c1 => ?_)
  · replace hf := (if_pos c1).symm.trans hf
    refine zv_iconst (v := 0) dX5_rests_69 (by decide) ?_
    refine zv_istore dX5_rests_70 (by decide) ?_
    exact zV_sub ([(1, .int a1), (2, .int a2), (3, .int a3), (4, .int a4), (5, .int a5), (6, .int a6), (7, .int (0 : Int32))]) ⟨rfl, rfl, rfl, rfl, rfl, rfl, rfl, trivial⟩ (v_X5_rests_72 d (by omega) k38 hk38 S a1 a2 a3 a4 a5 a6 (0 : Int32) _ hf)
  · replace hf := (if_neg c1).symm.trans hf
    refine zv_iconst (v := 1) dX5_rests_65 (by decide) ?_
    refine zv_goto (tgt := 70) dX5_rests_66 (by decide) ?_
    refine zv_istore dX5_rests_70 (by decide) ?_
    exact zV_sub ([(1, .int a1), (2, .int a2), (3, .int a3), (4, .int a4), (5, .int a5), (6, .int a6), (7, .int (1 : Int32))]) ⟨rfl, rfl, rfl, rfl, rfl, rfl, rfl, trivial⟩ (v_X5_rests_72 d (by omega) k38 hk38 S a1 a2 a3 a4 a5 a6 (1 : Int32) _ hf)
def f_X5_rests_38  : Nat → zS → Int32 → Int32 → Int32 → Int32 → Int32 → Option Int32
  | 0, _, _, _, _, _, _ => none
  | n + 1, S, a1, a2, a3, a4, a5 => (if (4 : Int32) ≤ a5 then some a4 else (if (a5 &&& (2 : Int32)) = 0 then f_X5_rests_58 (f_X5_rests_38  n) S a1 a2 a3 a4 a5 (0 : Int32) else f_X5_rests_58 (f_X5_rests_38  n) S a1 a2 a3 a4 a5 (1 : Int32)))
set_option maxRecDepth 100000 in
set_option maxHeartbeats 4000000 in
theorem v_X5_rests_38 (d : Nat) (hd : 0 ≤ d) : ∀ (n : Nat) (S : zS) (a1 : Int32) (a2 : Int32) (a3 : Int32) (a4 : Int32) (a5 : Int32) (v : Int32), f_X5_rests_38  n S a1 a2 a3 a4 a5 = (some v) → zV none (d + 1) yX5_rests cX5_rests 10 (some .int) 38 [(1, .int a1), (2, .int a2), (3, .int a3), (4, .int a4), (5, .int a5)] [] (wd S) (zq (some (.int v)) (wd S)) := by
  intro n
  induction n with
  | zero =>
    intro S a1 a2 a3 a4 a5 v hf
    cases hf
  | succ n ih =>
    intro S a1 a2 a3 a4 a5 v hf
    rw [f_X5_rests_38] at hf
    refine zv_iload dX5_rests_38 rfl ?_
    refine zv_iconst (v := 4) dX5_rests_40 (by decide) ?_
    refine zv_icmp_ge (tgt := 169) dX5_rests_41 (by decide) (fun c1 => ?_) (fun c1 => ?_)
    · replace hf := (if_pos c1).symm.trans hf
      refine zv_iload dX5_rests_169 rfl ?_
      exact zv_iret (ty := .int) dX5_rests_171 rfl rfl (zret1 hf)
    · replace hf := (if_neg c1).symm.trans hf
      refine zv_iload dX5_rests_44 rfl ?_
      refine zv_iconst (v := 2) dX5_rests_46 (by decide) ?_
      refine zv_iand dX5_rests_47 ?_
      refine zv_if_eq (tgt := 55) dX5_rests_48 (by decide) (fun c2 => ?_) (fun c2 => ?_)
      · replace hf := (if_pos c2).symm.trans hf
        refine zv_iconst (v := 0) dX5_rests_55 (by decide) ?_
        refine zv_istore dX5_rests_56 (by decide) ?_
        exact zV_sub ([(1, .int a1), (2, .int a2), (3, .int a3), (4, .int a4), (5, .int a5), (6, .int (0 : Int32))]) ⟨rfl, rfl, rfl, rfl, rfl, rfl, trivial⟩ (v_X5_rests_58 d (by omega) (f_X5_rests_38  n) ih S a1 a2 a3 a4 a5 (0 : Int32) _ hf)
      · replace hf := (if_neg c2).symm.trans hf
        refine zv_iconst (v := 1) dX5_rests_51 (by decide) ?_
        refine zv_goto (tgt := 56) dX5_rests_52 (by decide) ?_
        refine zv_istore dX5_rests_56 (by decide) ?_
        exact zV_sub ([(1, .int a1), (2, .int a2), (3, .int a3), (4, .int a4), (5, .int a5), (6, .int (1 : Int32))]) ⟨rfl, rfl, rfl, rfl, rfl, rfl, trivial⟩ (v_X5_rests_58 d (by omega) (f_X5_rests_38  n) ih S a1 a2 a3 a4 a5 (1 : Int32) _ hf)
def f_X5_rests (S : zS) (a1 : Int32) (a2 : Int32) (a3 : Int32) : Option Int32 :=
  ((f_X5_isWithin a1 (1 : Int32) (60 : Int32)).bind (fun x2 => (if x2 = 0 then some ((-1 : Int32)) else ((f_X5_isWithin a2 (0 : Int32) (60 : Int32)).bind (fun x5 => (if x5 = 0 then some ((-1 : Int32)) else ((f_X5_isWithin a3 (0 : Int32) (60 : Int32)).bind (fun x8 => (if x8 = 0 then some ((-1 : Int32)) else f_X5_rests_38 zN S a1 a2 a3 (0 : Int32) (0 : Int32))))))))))
set_option maxRecDepth 100000 in
set_option maxHeartbeats 4000000 in
theorem c_X5_rests  (d : Nat) (hd : 1 ≤ d) (S : zS) (a1 : Int32) (a2 : Int32) (a3 : Int32) (v : Int32) (hf : f_X5_rests S a1 a2 a3 = (some v)) : zC d yX5_rests cX5_rests 10 (some .int) [.ref 0, .int a1, .int a2, .int a3] (wd S) (zq (some (.int v)) (wd S)) := by
  obtain ⟨d, rfl⟩ : ∃ e, d = e + 1 := ⟨d - 1, by omega⟩
  refine zC_intro (by decide) rfl (Nat.le_of_ble_eq_true rfl) ?_
  unfold f_X5_rests at hf
  refine zv_iload_n dX5_rests_0 rfl rfl ?_
  refine zv_iconst (v := 1) dX5_rests_1 (by decide) ?_
  refine zv_bipush (v := 60) dX5_rests_2 (by decide) ?_
  obtain ⟨x2, hc1, hf⟩ := zbind hf
  refine zv_callS dX5_rests_4 zk_X5_59 zm_X5_isWithin (c_X5_isWithin  d a1 (1 : Int32) (60 : Int32) x2 hc1) rfl rfl (Nat.le_of_ble_eq_true rfl) ?_
  refine zv_if_eq (tgt := 30) dX5_rests_7 (by decide) (fun c3 => ?_) (fun c3 => ?_)
  · replace hf := (if_pos c3).symm.trans hf
    refine zv_iconst (v := -1) dX5_rests_30 (by decide) ?_
    exact zv_iret (ty := .int) dX5_rests_31 rfl rfl (zret1 hf)
  · replace hf := (if_neg c3).symm.trans hf
    refine zv_iload_n dX5_rests_10 rfl rfl ?_
    refine zv_iconst (v := 0) dX5_rests_11 (by decide) ?_
    refine zv_bipush (v := 60) dX5_rests_12 (by decide) ?_
    obtain ⟨x5, hc4, hf⟩ := zbind hf
    refine zv_callS dX5_rests_14 zk_X5_59 zm_X5_isWithin (c_X5_isWithin  d a2 (0 : Int32) (60 : Int32) x5 hc4) rfl rfl (Nat.le_of_ble_eq_true rfl) ?_
    refine zv_if_eq (tgt := 30) dX5_rests_17 (by decide) (fun c6 => ?_) (fun c6 => ?_)
    · replace hf := (if_pos c6).symm.trans hf
      refine zv_iconst (v := -1) dX5_rests_30 (by decide) ?_
      exact zv_iret (ty := .int) dX5_rests_31 rfl rfl (zret1 hf)
    · replace hf := (if_neg c6).symm.trans hf
      refine zv_iload_n dX5_rests_20 rfl rfl ?_
      refine zv_iconst (v := 0) dX5_rests_21 (by decide) ?_
      refine zv_bipush (v := 60) dX5_rests_22 (by decide) ?_
      obtain ⟨x8, hc7, hf⟩ := zbind hf
      refine zv_callS dX5_rests_24 zk_X5_59 zm_X5_isWithin (c_X5_isWithin  d a3 (0 : Int32) (60 : Int32) x8 hc7) rfl rfl (Nat.le_of_ble_eq_true rfl) ?_
      refine zv_if_ne (tgt := 32) dX5_rests_27 (by decide) (fun c9 => ?_) (fun c9 => ?_)
      · replace hf := (if_neg c9).symm.trans hf
        refine zv_iconst (v := 0) dX5_rests_32 (by decide) ?_
        refine zv_istore dX5_rests_33 (by decide) ?_
        refine zv_iconst (v := 0) dX5_rests_35 (by decide) ?_
        refine zv_istore dX5_rests_36 (by decide) ?_
        exact zV_sub ([(1, .int a1), (2, .int a2), (3, .int a3), (4, .int (0 : Int32)), (5, .int (0 : Int32))]) ⟨rfl, rfl, rfl, rfl, rfl, trivial⟩ (v_X5_rests_38 d (by omega) zN S a1 a2 a3 (0 : Int32) (0 : Int32) _ hf)
      · replace hf := (if_pos c9).symm.trans hf
        refine zv_iconst (v := -1) dX5_rests_30 (by decide) ?_
        exact zv_iret (ty := .int) dX5_rests_31 rfl rfl (zret1 hf)
-- KingPrices.ring(I)I height 14 writes
def f_X5_ring (S : zS) (a1 : Int32) : Option (Int32 × zS) :=
  ((f_X5_isWithin a1 (-2 : Int32) (5 : Int32)).bind (fun x2 => (if x2 = 0 then some ((-1 : Int32), S) else (zb2 (f_X1_find S (lr S.2.2.1)) (fun x5 S6 => (if x5 = 0 then some ((-9 : Int32), S6) else (if a1 = (-2 : Int32) then ((f_X1_leastDebt S6 (lr S6.2.2.1)).bind (fun x13 => some (x13, S6))) else (if a1 = (-1 : Int32) then some ((S6.1 15 1), S6) else ((f_X1_at S6 a1).bind (fun x11 => some (x11, S6)))))))))))
set_option maxRecDepth 100000 in
set_option maxHeartbeats 4000000 in
theorem c_X5_ring  (d : Nat) (hd : 14 ≤ d) (S : zS) (a1 : Int32) (v : Int32) (S' : zS) (hf : f_X5_ring S a1 = (some (v, S'))) : zC d yX5_ring cX5_ring 2 (some .int) [.ref 0, .int a1] (wd S) (zq (some (.int v)) (wd S')) := by
  obtain ⟨d, rfl⟩ : ∃ e, d = e + 1 := ⟨d - 1, by omega⟩
  refine zC_intro (by decide) rfl (Nat.le_of_ble_eq_true rfl) ?_
  unfold f_X5_ring at hf
  refine zv_iload_n dX5_ring_0 rfl rfl ?_
  refine zv_bipush (v := -2) dX5_ring_1 (by decide) ?_
  refine zv_iconst (v := 5) dX5_ring_3 (by decide) ?_
  obtain ⟨x2, hc1, hf⟩ := zbind hf
  refine zv_callS dX5_ring_4 zk_X5_59 zm_X5_isWithin (c_X5_isWithin  d a1 (-2 : Int32) (5 : Int32) x2 hc1) rfl rfl (Nat.le_of_ble_eq_true rfl) ?_
  refine zv_if_ne (tgt := 12) dX5_ring_7 (by decide) (fun c3 => ?_) (fun c3 => ?_)
  · replace hf := (if_neg c3).symm.trans hf
    refine zv_aload_n dX5_ring_12 rfl rfl ?_
    refine zv_get zf_X5_41 (wo_0 S) rfl dX5_ring_13 ?_
    refine zv_aload_n dX5_ring_16 rfl rfl ?_
    refine zv_get zf_X5_48 (wo_0 S) rfl dX5_ring_17 ?_
    obtain ⟨x5, S6, hc4, hf⟩ := zbind2 hf
    refine zv_callV dX5_ring_20 zk_X5_182 zm_X1_find (c_X1_find (zLwd S.2.2.1) d (by omega) S x5 S6 hc4) (wo_15 S) rfl rfl rfl (Nat.le_of_ble_eq_true rfl) ?_
    refine zv_if_ne (tgt := 29) dX5_ring_23 (by decide) (fun c7 => ?_) (fun c7 => ?_)
    · replace hf := (if_neg c7).symm.trans hf
      refine zv_iload_n dX5_ring_29 rfl rfl ?_
      refine zv_bipush (v := -2) dX5_ring_30 (by decide) ?_
      refine zv_icmp_ne (tgt := 47) dX5_ring_32 (by decide) (fun c8 => ?_) (fun c8 => ?_)
      · replace hf := (if_neg c8).symm.trans hf
        refine zv_iload_n dX5_ring_47 rfl rfl ?_
        refine zv_iconst (v := -1) dX5_ring_48 (by decide) ?_
        refine zv_icmp_ne (tgt := 62) dX5_ring_49 (by decide) (fun c9 => ?_) (fun c9 => ?_)
        · replace hf := (if_neg c9).symm.trans hf
          refine zv_aload_n dX5_ring_62 rfl rfl ?_
          refine zv_get zf_X5_41 (wo_0 S6) rfl dX5_ring_63 ?_
          refine zv_iload_n dX5_ring_66 rfl rfl ?_
          obtain ⟨x11, hc10, hf⟩ := zbind hf
          refine zv_callV dX5_ring_67 zk_X5_190 zm_X1_at (c_X1_at  d S6 a1 x11 hc10) (wo_15 S6) rfl rfl rfl (Nat.le_of_ble_eq_true rfl) ?_
          exact zv_iret (ty := .int) dX5_ring_70 rfl rfl (zret2 wd hf)
        · replace hf := (if_pos c9).symm.trans hf
          refine zv_aload_n dX5_ring_52 rfl rfl ?_
          refine zv_get zf_X5_41 (wo_0 S6) rfl dX5_ring_53 ?_
          refine zv_get zf_X5_189 (wo_15 S6) rfl dX5_ring_56 ?_
          refine zv_goto (tgt := 70) dX5_ring_59 (by decide) ?_
          exact zv_iret (ty := .int) dX5_ring_70 rfl rfl (zret2 wd hf)
      · replace hf := (if_pos c8).symm.trans hf
        refine zv_aload_n dX5_ring_35 rfl rfl ?_
        refine zv_get zf_X5_41 (wo_0 S6) rfl dX5_ring_36 ?_
        refine zv_aload_n dX5_ring_39 rfl rfl ?_
        refine zv_get zf_X5_48 (wo_0 S6) rfl dX5_ring_40 ?_
        obtain ⟨x13, hc12, hf⟩ := zbind hf
        refine zv_callV dX5_ring_43 zk_X5_185 zm_X1_leastDebt (c_X1_leastDebt (zLwd S6.2.2.1) d (by omega) S6 x13 hc12) (wo_15 S6) rfl rfl rfl (Nat.le_of_ble_eq_true rfl) ?_
        exact zv_iret (ty := .int) dX5_ring_46 rfl rfl (zret2 wd hf)
    · replace hf := (if_pos c7).symm.trans hf
      refine zv_bipush (v := -9) dX5_ring_26 (by decide) ?_
      exact zv_iret (ty := .int) dX5_ring_28 rfl rfl (zret2 wd hf)
  · replace hf := (if_pos c3).symm.trans hf
    refine zv_iconst (v := -1) dX5_ring_10 (by decide) ?_
    exact zv_iret (ty := .int) dX5_ring_11 rfl rfl (zret2 wd hf)
-- KingPrices.sells(II)I height 2 writes
def f_X5_sells (S : zS) (a1 : Int32) (a2 : Int32) : Option (Int32 × zS) :=
  ((f_X0_knows S (lr S.2.2.1) a1).bind (fun x2 => (if x2 = 0 then some ((-1 : Int32), S) else ((f_X5_isWithin a2 (1 : Int32) (99 : Int32)).bind (fun x5 => (if x5 = 0 then some ((-1 : Int32), S) else ((f_X2_get S 3 ((16 : Int32) + a1)).bind (fun x8 => (if a2 ≤ x8 then ((f_X2_remember S 3).bind (fun S11 => ((f_X2_add S11 3 ((16 : Int32) + a1) (-a2)).bind (fun S13 => ((f_X2_add S13 3 ((22 : Int32) + a1) (a2 / (3 : Int32))).bind (fun S15 => ((f_X2_get S15 3 ((22 : Int32) + a1)).bind (fun x17 => some (x17, S15))))))))) else some ((-2 : Int32), S))))))))))
set_option maxRecDepth 100000 in
set_option maxHeartbeats 4000000 in
theorem c_X5_sells  (d : Nat) (hd : 2 ≤ d) (S : zS) (a1 : Int32) (a2 : Int32) (v : Int32) (S' : zS) (hf : f_X5_sells S a1 a2 = (some (v, S'))) : zC d yX5_sells cX5_sells 3 (some .int) [.ref 0, .int a1, .int a2] (wd S) (zq (some (.int v)) (wd S')) := by
  obtain ⟨d, rfl⟩ : ∃ e, d = e + 1 := ⟨d - 1, by omega⟩
  refine zC_intro (by decide) rfl (Nat.le_of_ble_eq_true rfl) ?_
  unfold f_X5_sells at hf
  refine zv_aload_n dX5_sells_0 rfl rfl ?_
  refine zv_get zf_X5_48 (wo_0 S) rfl dX5_sells_1 ?_
  refine zv_iload_n dX5_sells_4 rfl rfl ?_
  obtain ⟨x2, hc1, hf⟩ := zbind hf
  refine zv_callV dX5_sells_5 zk_X5_78 zm_X0_knows (c_X0_knows (zLwd S.2.2.1) d S a1 x2 hc1) ((zLwd S.2.2.1).1 S) rfl rfl rfl (Nat.le_of_ble_eq_true rfl) ?_
  refine zv_if_eq (tgt := 21) dX5_sells_8 (by decide) (fun c3 => ?_) (fun c3 => ?_)
  · replace hf := (if_pos c3).symm.trans hf
    refine zv_iconst (v := -1) dX5_sells_21 (by decide) ?_
    exact zv_iret (ty := .int) dX5_sells_22 rfl rfl (zret2 wd hf)
  · replace hf := (if_neg c3).symm.trans hf
    refine zv_iload_n dX5_sells_11 rfl rfl ?_
    refine zv_iconst (v := 1) dX5_sells_12 (by decide) ?_
    refine zv_bipush (v := 99) dX5_sells_13 (by decide) ?_
    obtain ⟨x5, hc4, hf⟩ := zbind hf
    refine zv_callS dX5_sells_15 zk_X5_59 zm_X5_isWithin (c_X5_isWithin  d a2 (1 : Int32) (99 : Int32) x5 hc4) rfl rfl (Nat.le_of_ble_eq_true rfl) ?_
    refine zv_if_ne (tgt := 23) dX5_sells_18 (by decide) (fun c6 => ?_) (fun c6 => ?_)
    · replace hf := (if_neg c6).symm.trans hf
      refine zv_aload_n dX5_sells_23 rfl rfl ?_
      refine zv_get zf_X5_19 (wo_0 S) rfl dX5_sells_24 ?_
      refine zv_bipush (v := 16) dX5_sells_27 (by decide) ?_
      refine zv_iload_n dX5_sells_29 rfl rfl ?_
      refine zv_iadd dX5_sells_30 ?_
      obtain ⟨x8, hc7, hf⟩ := zbind hf
      refine zv_callV dX5_sells_31 zk_X5_81 zm_X2_get (c_X2_get zTwd_3 d S ((16 : Int32) + a1) x8 hc7) (zTwd_3.1 S) rfl rfl rfl (Nat.le_of_ble_eq_true rfl) ?_
      refine zv_iload_n dX5_sells_34 rfl rfl ?_
      refine zv_icmp_ge (tgt := 41) dX5_sells_35 (by decide) (fun c9 => ?_) (fun c9 => ?_)
      · replace hf := (if_pos c9).symm.trans hf
        refine zv_aload_n dX5_sells_41 rfl rfl ?_
        refine zv_get zf_X5_19 (wo_0 S) rfl dX5_sells_42 ?_
        obtain ⟨S11, hc10, hf⟩ := zbind hf
        refine zv_callV dX5_sells_45 zk_X5_101 zm_X2_remember (c_X2_remember zTwd_3 d (by omega) S S11 hc10) (zTwd_3.1 S) rfl rfl rfl (Nat.le_of_ble_eq_true rfl) ?_
        refine zv_aload_n dX5_sells_48 rfl rfl ?_
        refine zv_get zf_X5_19 (wo_0 S11) rfl dX5_sells_49 ?_
        refine zv_bipush (v := 16) dX5_sells_52 (by decide) ?_
        refine zv_iload_n dX5_sells_54 rfl rfl ?_
        refine zv_iadd dX5_sells_55 ?_
        refine zv_iload_n dX5_sells_56 rfl rfl ?_
        refine zv_ineg dX5_sells_57 ?_
        obtain ⟨S13, hc12, hf⟩ := zbind hf
        refine zv_callV dX5_sells_58 zk_X5_120 zm_X2_add (c_X2_add zTwd_3 d (by omega) S11 ((16 : Int32) + a1) (-a2) S13 hc12) (zTwd_3.1 S11) rfl rfl rfl (Nat.le_of_ble_eq_true rfl) ?_
        refine zv_aload_n dX5_sells_61 rfl rfl ?_
        refine zv_get zf_X5_19 (wo_0 S13) rfl dX5_sells_62 ?_
        refine zv_bipush (v := 22) dX5_sells_65 (by decide) ?_
        refine zv_iload_n dX5_sells_67 rfl rfl ?_
        refine zv_iadd dX5_sells_68 ?_
        refine zv_iload_n dX5_sells_69 rfl rfl ?_
        refine zv_iconst (v := 3) dX5_sells_70 (by decide) ?_
        refine zv_idiv (by decide) dX5_sells_71 ?_
        obtain ⟨S15, hc14, hf⟩ := zbind hf
        refine zv_callV dX5_sells_72 zk_X5_120 zm_X2_add (c_X2_add zTwd_3 d (by omega) S13 ((22 : Int32) + a1) (a2 / (3 : Int32)) S15 hc14) (zTwd_3.1 S13) rfl rfl rfl (Nat.le_of_ble_eq_true rfl) ?_
        refine zv_aload_n dX5_sells_75 rfl rfl ?_
        refine zv_get zf_X5_19 (wo_0 S15) rfl dX5_sells_76 ?_
        refine zv_bipush (v := 22) dX5_sells_79 (by decide) ?_
        refine zv_iload_n dX5_sells_81 rfl rfl ?_
        refine zv_iadd dX5_sells_82 ?_
        obtain ⟨x17, hc16, hf⟩ := zbind hf
        refine zv_callV dX5_sells_83 zk_X5_81 zm_X2_get (c_X2_get zTwd_3 d S15 ((22 : Int32) + a1) x17 hc16) (zTwd_3.1 S15) rfl rfl rfl (Nat.le_of_ble_eq_true rfl) ?_
        exact zv_iret (ty := .int) dX5_sells_86 rfl rfl (zret2 wd hf)
      · replace hf := (if_neg c9).symm.trans hf
        refine zv_bipush (v := -2) dX5_sells_38 (by decide) ?_
        exact zv_iret (ty := .int) dX5_sells_40 rfl rfl (zret2 wd hf)
    · replace hf := (if_pos c6).symm.trans hf
      refine zv_iconst (v := -1) dX5_sells_21 (by decide) ?_
      exact zv_iret (ty := .int) dX5_sells_22 rfl rfl (zret2 wd hf)
-- KingPrices.shows(II)I height 3 writes
def f_X5_shows (S : zS) (a1 : Int32) (a2 : Int32) : Option (Int32 × zS) :=
  (zb2 (f_X5_moveHens S a1 a2 (10 : Int32) (4 : Int32)) (fun x2 S3 => some (x2, S3)))
set_option maxRecDepth 100000 in
set_option maxHeartbeats 4000000 in
theorem c_X5_shows  (d : Nat) (hd : 3 ≤ d) (S : zS) (a1 : Int32) (a2 : Int32) (v : Int32) (S' : zS) (hf : f_X5_shows S a1 a2 = (some (v, S'))) : zC d yX5_shows cX5_shows 3 (some .int) [.ref 0, .int a1, .int a2] (wd S) (zq (some (.int v)) (wd S')) := by
  obtain ⟨d, rfl⟩ : ∃ e, d = e + 1 := ⟨d - 1, by omega⟩
  refine zC_intro (by decide) rfl (Nat.le_of_ble_eq_true rfl) ?_
  unfold f_X5_shows at hf
  refine zv_aload_n dX5_shows_0 rfl rfl ?_
  refine zv_iload_n dX5_shows_1 rfl rfl ?_
  refine zv_iload_n dX5_shows_2 rfl rfl ?_
  refine zv_bipush (v := 10) dX5_shows_3 (by decide) ?_
  refine zv_iconst (v := 4) dX5_shows_5 (by decide) ?_
  obtain ⟨x2, S3, hc1, hf⟩ := zbind2 hf
  refine zv_callV dX5_shows_6 zk_X5_123 zm_X5_moveHens (c_X5_moveHens  d (by omega) S a1 a2 (10 : Int32) (4 : Int32) x2 S3 hc1) (wo_0 S) rfl rfl rfl (Nat.le_of_ble_eq_true rfl) ?_
  exact zv_iret (ty := .int) dX5_shows_9 rfl rfl (zret2 wd hf)
-- KingPrices.stays()I height 3 writes
def f_X5_stays (S : zS) : Option (Int32 × zS) :=
  (if (S.1 (lr S.2.2.1) 6) = 0 then some ((-2 : Int32), S) else ((f_X2_get S 3 (1 : Int32)).bind (fun x3 => (if x3 < (999 : Int32) then ((f_X2_remember S 3).bind (fun S6 => ((f_X2_letDaysPass S6 3 (1 : Int32) (S6.1 (lr S6.2.2.1) 8)).bind (fun S8 => ((f_X2_get S8 3 (1 : Int32)).bind (fun x10 => some (x10, S8))))))) else some ((-2 : Int32), S)))))
set_option maxRecDepth 100000 in
set_option maxHeartbeats 4000000 in
theorem c_X5_stays  (d : Nat) (hd : 3 ≤ d) (S : zS) (v : Int32) (S' : zS) (hf : f_X5_stays S = (some (v, S'))) : zC d yX5_stays cX5_stays 1 (some .int) [.ref 0] (wd S) (zq (some (.int v)) (wd S')) := by
  obtain ⟨d, rfl⟩ : ∃ e, d = e + 1 := ⟨d - 1, by omega⟩
  refine zC_intro (by decide) rfl (Nat.le_of_ble_eq_true rfl) ?_
  unfold f_X5_stays at hf
  refine zv_aload_n dX5_stays_0 rfl rfl ?_
  refine zv_get zf_X5_48 (wo_0 S) rfl dX5_stays_1 ?_
  refine zv_get zf_X5_114 ((zLwd S.2.2.1).1 S) rfl dX5_stays_4 ?_
  refine zv_if_eq (tgt := 24) dX5_stays_7 (by decide) (fun c1 => ?_) (fun c1 => ?_)
  · replace hf := (if_pos c1).symm.trans hf
    refine zv_bipush (v := -2) dX5_stays_24 (by decide) ?_
    exact zv_iret (ty := .int) dX5_stays_26 rfl rfl (zret2 wd hf)
  · replace hf := (if_neg c1).symm.trans hf
    refine zv_aload_n dX5_stays_10 rfl rfl ?_
    refine zv_get zf_X5_19 (wo_0 S) rfl dX5_stays_11 ?_
    refine zv_iconst (v := 1) dX5_stays_14 (by decide) ?_
    obtain ⟨x3, hc2, hf⟩ := zbind hf
    refine zv_callV dX5_stays_15 zk_X5_81 zm_X2_get (c_X2_get zTwd_3 d S (1 : Int32) x3 hc2) (zTwd_3.1 S) rfl rfl rfl (Nat.le_of_ble_eq_true rfl) ?_
    refine zv_sipush (v := 999) dX5_stays_18 (by decide) ?_
    refine zv_icmp_lt (tgt := 27) dX5_stays_21 (by decide) (fun c4 => ?_) (fun c4 => ?_)
    · replace hf := (if_pos c4).symm.trans hf
      refine zv_aload_n dX5_stays_27 rfl rfl ?_
      refine zv_get zf_X5_19 (wo_0 S) rfl dX5_stays_28 ?_
      obtain ⟨S6, hc5, hf⟩ := zbind hf
      refine zv_callV dX5_stays_31 zk_X5_101 zm_X2_remember (c_X2_remember zTwd_3 d (by omega) S S6 hc5) (zTwd_3.1 S) rfl rfl rfl (Nat.le_of_ble_eq_true rfl) ?_
      refine zv_aload_n dX5_stays_34 rfl rfl ?_
      refine zv_get zf_X5_19 (wo_0 S6) rfl dX5_stays_35 ?_
      refine zv_iconst (v := 1) dX5_stays_38 (by decide) ?_
      refine zv_aload_n dX5_stays_39 rfl rfl ?_
      refine zv_get zf_X5_48 (wo_0 S6) rfl dX5_stays_40 ?_
      refine zv_get zf_X5_104 ((zLwd S6.2.2.1).1 S6) rfl dX5_stays_43 ?_
      obtain ⟨S8, hc7, hf⟩ := zbind hf
      refine zv_callV dX5_stays_46 zk_X5_107 zm_X2_letDaysPass (c_X2_letDaysPass zTwd_3 d (by omega) S6 (1 : Int32) (S6.1 (lr S6.2.2.1) 8) S8 hc7) (zTwd_3.1 S6) rfl rfl rfl (Nat.le_of_ble_eq_true rfl) ?_
      refine zv_aload_n dX5_stays_49 rfl rfl ?_
      refine zv_get zf_X5_19 (wo_0 S8) rfl dX5_stays_50 ?_
      refine zv_iconst (v := 1) dX5_stays_53 (by decide) ?_
      obtain ⟨x10, hc9, hf⟩ := zbind hf
      refine zv_callV dX5_stays_54 zk_X5_81 zm_X2_get (c_X2_get zTwd_3 d S8 (1 : Int32) x10 hc9) (zTwd_3.1 S8) rfl rfl rfl (Nat.le_of_ble_eq_true rfl) ?_
      exact zv_iret (ty := .int) dX5_stays_57 rfl rfl (zret2 wd hf)
    · replace hf := (if_neg c4).symm.trans hf
      refine zv_bipush (v := -2) dX5_stays_24 (by decide) ?_
      exact zv_iret (ty := .int) dX5_stays_26 rfl rfl (zret2 wd hf)
-- KingPrices.takes(I)I height 2 writes
def f_X5_takes (S : zS) (a1 : Int32) : Option (Int32 × zS) :=
  ((f_X5_isWithin a1 (1 : Int32) (60 : Int32)).bind (fun x2 => (if x2 = 0 then some ((-1 : Int32), S) else ((f_X2_get S 3 (0 : Int32)).bind (fun x5 => ((f_X0_writtenFor S (lr S.2.2.1) a1).bind (fun x7 => ((f_X0_knows S (lr S.2.2.1) x5).bind (fun x9 => (if x9 = 0 then some ((-2 : Int32), S) else ((f_X0_hasCharter S (lr S.2.2.1) x5).bind (fun x12 => (if x12 = 0 then ((f_X2_get S 3 ((4 : Int32) + x5)).bind (fun x15 => (if a1 ≤ x15 then ((f_X2_get S 3 (2 : Int32)).bind (fun x18 => (if (999 : Int32) < (x18 + a1) then some ((-2 : Int32), S) else ((f_X2_get S 3 ((16 : Int32) + x5)).bind (fun x21 => (if (x21 + x7) ≤ (999 : Int32) then ((f_X2_remember S 3).bind (fun S24 => ((f_X2_add S24 3 ((4 : Int32) + x5) (-a1)).bind (fun S26 => ((f_X2_add S26 3 (2 : Int32) a1).bind (fun S28 => ((f_X2_add S28 3 ((16 : Int32) + x5) x7).bind (fun S30 => some (x7, S30))))))))) else some ((-2 : Int32), S))))))) else some ((-2 : Int32), S)))) else some ((-2 : Int32), S))))))))))))))
set_option maxRecDepth 100000 in
set_option maxHeartbeats 4000000 in
theorem c_X5_takes  (d : Nat) (hd : 2 ≤ d) (S : zS) (a1 : Int32) (v : Int32) (S' : zS) (hf : f_X5_takes S a1 = (some (v, S'))) : zC d yX5_takes cX5_takes 4 (some .int) [.ref 0, .int a1] (wd S) (zq (some (.int v)) (wd S')) := by
  obtain ⟨d, rfl⟩ : ∃ e, d = e + 1 := ⟨d - 1, by omega⟩
  refine zC_intro (by decide) rfl (Nat.le_of_ble_eq_true rfl) ?_
  unfold f_X5_takes at hf
  refine zv_iload_n dX5_takes_0 rfl rfl ?_
  refine zv_iconst (v := 1) dX5_takes_1 (by decide) ?_
  refine zv_bipush (v := 60) dX5_takes_2 (by decide) ?_
  obtain ⟨x2, hc1, hf⟩ := zbind hf
  refine zv_callS dX5_takes_4 zk_X5_59 zm_X5_isWithin (c_X5_isWithin  d a1 (1 : Int32) (60 : Int32) x2 hc1) rfl rfl (Nat.le_of_ble_eq_true rfl) ?_
  refine zv_if_ne (tgt := 12) dX5_takes_7 (by decide) (fun c3 => ?_) (fun c3 => ?_)
  · replace hf := (if_neg c3).symm.trans hf
    refine zv_aload_n dX5_takes_12 rfl rfl ?_
    refine zv_get zf_X5_19 (wo_0 S) rfl dX5_takes_13 ?_
    refine zv_iconst (v := 0) dX5_takes_16 (by decide) ?_
    obtain ⟨x5, hc4, hf⟩ := zbind hf
    refine zv_callV dX5_takes_17 zk_X5_81 zm_X2_get (c_X2_get zTwd_3 d S (0 : Int32) x5 hc4) (zTwd_3.1 S) rfl rfl rfl (Nat.le_of_ble_eq_true rfl) ?_
    refine zv_istore_n dX5_takes_20 rfl (by decide) ?_
    refine zv_aload_n dX5_takes_21 rfl rfl ?_
    refine zv_get zf_X5_48 (wo_0 S) rfl dX5_takes_22 ?_
    refine zv_iload_n dX5_takes_25 rfl rfl ?_
    obtain ⟨x7, hc6, hf⟩ := zbind hf
    refine zv_callV dX5_takes_26 zk_X5_117 zm_X0_writtenFor (c_X0_writtenFor (zLwd S.2.2.1) d S a1 x7 hc6) ((zLwd S.2.2.1).1 S) rfl rfl rfl (Nat.le_of_ble_eq_true rfl) ?_
    refine zv_istore_n dX5_takes_29 rfl (by decide) ?_
    refine zv_aload_n dX5_takes_30 rfl rfl ?_
    refine zv_get zf_X5_48 (wo_0 S) rfl dX5_takes_31 ?_
    refine zv_iload_n dX5_takes_34 rfl rfl ?_
    obtain ⟨x9, hc8, hf⟩ := zbind hf
    refine zv_callV dX5_takes_35 zk_X5_78 zm_X0_knows (c_X0_knows (zLwd S.2.2.1) d S x5 x9 hc8) ((zLwd S.2.2.1).1 S) rfl rfl rfl (Nat.le_of_ble_eq_true rfl) ?_
    refine zv_if_eq (tgt := 66) dX5_takes_38 (by decide) (fun c10 => ?_) (fun c10 => ?_)
    · replace hf := (if_pos c10).symm.trans hf
      refine zv_bipush (v := -2) dX5_takes_66 (by decide) ?_
      exact zv_iret (ty := .int) dX5_takes_68 rfl rfl (zret2 wd hf)
    · replace hf := (if_neg c10).symm.trans hf
      refine zv_aload_n dX5_takes_41 rfl rfl ?_
      refine zv_get zf_X5_48 (wo_0 S) rfl dX5_takes_42 ?_
      refine zv_iload_n dX5_takes_45 rfl rfl ?_
      obtain ⟨x12, hc11, hf⟩ := zbind hf
      refine zv_callV dX5_takes_46 zk_X5_88 zm_X0_hasCharter (c_X0_hasCharter (zLwd S.2.2.1) d (by omega) S x5 x12 hc11) ((zLwd S.2.2.1).1 S) rfl rfl rfl (Nat.le_of_ble_eq_true rfl) ?_
      refine zv_if_ne (tgt := 66) dX5_takes_49 (by decide) (fun c13 => ?_) (fun c13 => ?_)
      · replace hf := (if_neg c13).symm.trans hf
        refine zv_bipush (v := -2) dX5_takes_66 (by decide) ?_
        exact zv_iret (ty := .int) dX5_takes_68 rfl rfl (zret2 wd hf)
      · replace hf := (if_pos c13).symm.trans hf
        refine zv_aload_n dX5_takes_52 rfl rfl ?_
        refine zv_get zf_X5_19 (wo_0 S) rfl dX5_takes_53 ?_
        refine zv_iconst (v := 4) dX5_takes_56 (by decide) ?_
        refine zv_iload_n dX5_takes_57 rfl rfl ?_
        refine zv_iadd dX5_takes_58 ?_
        obtain ⟨x15, hc14, hf⟩ := zbind hf
        refine zv_callV dX5_takes_59 zk_X5_81 zm_X2_get (c_X2_get zTwd_3 d S ((4 : Int32) + x5) x15 hc14) (zTwd_3.1 S) rfl rfl rfl (Nat.le_of_ble_eq_true rfl) ?_
        refine zv_iload_n dX5_takes_62 rfl rfl ?_
        refine zv_icmp_ge (tgt := 69) dX5_takes_63 (by decide) (fun c16 => ?_) (fun c16 => ?_)
        · replace hf := (if_pos c16).symm.trans hf
          refine zv_aload_n dX5_takes_69 rfl rfl ?_
          refine zv_get zf_X5_19 (wo_0 S) rfl dX5_takes_70 ?_
          refine zv_iconst (v := 2) dX5_takes_73 (by decide) ?_
          obtain ⟨x18, hc17, hf⟩ := zbind hf
          refine zv_callV dX5_takes_74 zk_X5_81 zm_X2_get (c_X2_get zTwd_3 d S (2 : Int32) x18 hc17) (zTwd_3.1 S) rfl rfl rfl (Nat.le_of_ble_eq_true rfl) ?_
          refine zv_iload_n dX5_takes_77 rfl rfl ?_
          refine zv_iadd dX5_takes_78 ?_
          refine zv_sipush (v := 999) dX5_takes_79 (by decide) ?_
          refine zv_icmp_gt (tgt := 104) dX5_takes_82 (by decide) (fun c19 => ?_) (fun c19 => ?_)
          · replace hf := (if_pos c19).symm.trans hf
            refine zv_bipush (v := -2) dX5_takes_104 (by decide) ?_
            exact zv_iret (ty := .int) dX5_takes_106 rfl rfl (zret2 wd hf)
          · replace hf := (if_neg c19).symm.trans hf
            refine zv_aload_n dX5_takes_85 rfl rfl ?_
            refine zv_get zf_X5_19 (wo_0 S) rfl dX5_takes_86 ?_
            refine zv_bipush (v := 16) dX5_takes_89 (by decide) ?_
            refine zv_iload_n dX5_takes_91 rfl rfl ?_
            refine zv_iadd dX5_takes_92 ?_
            obtain ⟨x21, hc20, hf⟩ := zbind hf
            refine zv_callV dX5_takes_93 zk_X5_81 zm_X2_get (c_X2_get zTwd_3 d S ((16 : Int32) + x5) x21 hc20) (zTwd_3.1 S) rfl rfl rfl (Nat.le_of_ble_eq_true rfl) ?_
            refine zv_iload_n dX5_takes_96 rfl rfl ?_
            refine zv_iadd dX5_takes_97 ?_
            refine zv_sipush (v := 999) dX5_takes_98 (by decide) ?_
            refine zv_icmp_le (tgt := 107) dX5_takes_101 (by decide) (fun c22 => ?_) (fun c22 => ?_)
            · replace hf := (if_pos c22).symm.trans hf
              refine zv_aload_n dX5_takes_107 rfl rfl ?_
              refine zv_get zf_X5_19 (wo_0 S) rfl dX5_takes_108 ?_
              obtain ⟨S24, hc23, hf⟩ := zbind hf
              refine zv_callV dX5_takes_111 zk_X5_101 zm_X2_remember (c_X2_remember zTwd_3 d (by omega) S S24 hc23) (zTwd_3.1 S) rfl rfl rfl (Nat.le_of_ble_eq_true rfl) ?_
              refine zv_aload_n dX5_takes_114 rfl rfl ?_
              refine zv_get zf_X5_19 (wo_0 S24) rfl dX5_takes_115 ?_
              refine zv_iconst (v := 4) dX5_takes_118 (by decide) ?_
              refine zv_iload_n dX5_takes_119 rfl rfl ?_
              refine zv_iadd dX5_takes_120 ?_
              refine zv_iload_n dX5_takes_121 rfl rfl ?_
              refine zv_ineg dX5_takes_122 ?_
              obtain ⟨S26, hc25, hf⟩ := zbind hf
              refine zv_callV dX5_takes_123 zk_X5_120 zm_X2_add (c_X2_add zTwd_3 d (by omega) S24 ((4 : Int32) + x5) (-a1) S26 hc25) (zTwd_3.1 S24) rfl rfl rfl (Nat.le_of_ble_eq_true rfl) ?_
              refine zv_aload_n dX5_takes_126 rfl rfl ?_
              refine zv_get zf_X5_19 (wo_0 S26) rfl dX5_takes_127 ?_
              refine zv_iconst (v := 2) dX5_takes_130 (by decide) ?_
              refine zv_iload_n dX5_takes_131 rfl rfl ?_
              obtain ⟨S28, hc27, hf⟩ := zbind hf
              refine zv_callV dX5_takes_132 zk_X5_120 zm_X2_add (c_X2_add zTwd_3 d (by omega) S26 (2 : Int32) a1 S28 hc27) (zTwd_3.1 S26) rfl rfl rfl (Nat.le_of_ble_eq_true rfl) ?_
              refine zv_aload_n dX5_takes_135 rfl rfl ?_
              refine zv_get zf_X5_19 (wo_0 S28) rfl dX5_takes_136 ?_
              refine zv_bipush (v := 16) dX5_takes_139 (by decide) ?_
              refine zv_iload_n dX5_takes_141 rfl rfl ?_
              refine zv_iadd dX5_takes_142 ?_
              refine zv_iload_n dX5_takes_143 rfl rfl ?_
              obtain ⟨S30, hc29, hf⟩ := zbind hf
              refine zv_callV dX5_takes_144 zk_X5_120 zm_X2_add (c_X2_add zTwd_3 d (by omega) S28 ((16 : Int32) + x5) x7 S30 hc29) (zTwd_3.1 S28) rfl rfl rfl (Nat.le_of_ble_eq_true rfl) ?_
              refine zv_iload_n dX5_takes_147 rfl rfl ?_
              exact zv_iret (ty := .int) dX5_takes_148 rfl rfl (zret2 wd hf)
            · replace hf := (if_neg c22).symm.trans hf
              refine zv_bipush (v := -2) dX5_takes_104 (by decide) ?_
              exact zv_iret (ty := .int) dX5_takes_106 rfl rfl (zret2 wd hf)
        · replace hf := (if_neg c16).symm.trans hf
          refine zv_bipush (v := -2) dX5_takes_66 (by decide) ?_
          exact zv_iret (ty := .int) dX5_takes_68 rfl rfl (zret2 wd hf)
  · replace hf := (if_pos c3).symm.trans hf
    refine zv_iconst (v := -1) dX5_takes_10 (by decide) ?_
    exact zv_iret (ty := .int) dX5_takes_11 rfl rfl (zret2 wd hf)
-- KingPrices.tour(II)I height 14 writes
def f_X5_tour (S : zS) (a1 : Int32) (a2 : Int32) : Option (Int32 × zS) :=
  ((f_X5_isWithin a1 (1 : Int32) (60 : Int32)).bind (fun x2 => (if x2 = 0 then some ((-1 : Int32), S) else ((f_X5_isWithin a2 (-2 : Int32) (5 : Int32)).bind (fun x5 => (if x5 = 0 then some ((-1 : Int32), S) else ((f_X5_fillSpares S).bind (fun S8 => ((f_X2_get S8 3 (2 : Int32)).bind (fun x10 => ((f_X5_fewestWith S8 (((S8.1 (lr S8.2.2.1) 8) * a1) - x10)).bind (fun x12 => (if x12 = (-9 : Int32) then some ((-9 : Int32), S8) else ((f_J6_bitCount_0f7a4 x12).bind (fun x15 => ((f_X2_get S8 3 (0 : Int32)).bind (fun x17 => (zb2 (f_X4_find S8 (lr S8.2.2.1) x15 x17 x10 ((S8.1 (lr S8.2.2.1) 8) * a1)) (fun x19 S20 => (if x19 = 0 then some ((-9 : Int32), S20) else (if a2 = (-2 : Int32) then some ((S20.1 11 6), S20) else (if a2 = (-1 : Int32) then some ((S20.1 11 3), S20) else ((f_X4_at S20 a2).bind (fun x25 => some (x25, S20)))))))))))))))))))))))))
set_option maxRecDepth 100000 in
set_option maxHeartbeats 4000000 in
theorem c_X5_tour  (d : Nat) (hd : 14 ≤ d) (S : zS) (a1 : Int32) (a2 : Int32) (v : Int32) (S' : zS) (hf : f_X5_tour S a1 a2 = (some (v, S'))) : zC d yX5_tour cX5_tour 6 (some .int) [.ref 0, .int a1, .int a2] (wd S) (zq (some (.int v)) (wd S')) := by
  obtain ⟨d, rfl⟩ : ∃ e, d = e + 1 := ⟨d - 1, by omega⟩
  refine zC_intro (by decide) rfl (Nat.le_of_ble_eq_true rfl) ?_
  unfold f_X5_tour at hf
  refine zv_iload_n dX5_tour_0 rfl rfl ?_
  refine zv_iconst (v := 1) dX5_tour_1 (by decide) ?_
  refine zv_bipush (v := 60) dX5_tour_2 (by decide) ?_
  obtain ⟨x2, hc1, hf⟩ := zbind hf
  refine zv_callS dX5_tour_4 zk_X5_59 zm_X5_isWithin (c_X5_isWithin  d a1 (1 : Int32) (60 : Int32) x2 hc1) rfl rfl (Nat.le_of_ble_eq_true rfl) ?_
  refine zv_if_eq (tgt := 20) dX5_tour_7 (by decide) (fun c3 => ?_) (fun c3 => ?_)
  · replace hf := (if_pos c3).symm.trans hf
    refine zv_iconst (v := -1) dX5_tour_20 (by decide) ?_
    exact zv_iret (ty := .int) dX5_tour_21 rfl rfl (zret2 wd hf)
  · replace hf := (if_neg c3).symm.trans hf
    refine zv_iload_n dX5_tour_10 rfl rfl ?_
    refine zv_bipush (v := -2) dX5_tour_11 (by decide) ?_
    refine zv_iconst (v := 5) dX5_tour_13 (by decide) ?_
    obtain ⟨x5, hc4, hf⟩ := zbind hf
    refine zv_callS dX5_tour_14 zk_X5_59 zm_X5_isWithin (c_X5_isWithin  d a2 (-2 : Int32) (5 : Int32) x5 hc4) rfl rfl (Nat.le_of_ble_eq_true rfl) ?_
    refine zv_if_ne (tgt := 22) dX5_tour_17 (by decide) (fun c6 => ?_) (fun c6 => ?_)
    · replace hf := (if_neg c6).symm.trans hf
      refine zv_aload_n dX5_tour_22 rfl rfl ?_
      obtain ⟨S8, hc7, hf⟩ := zbind hf
      refine zv_callV dX5_tour_23 zk_X5_141 zm_X5_fillSpares (c_X5_fillSpares  d (by omega) S S8 hc7) (wo_0 S) rfl rfl rfl (Nat.le_of_ble_eq_true rfl) ?_
      refine zv_aload_n dX5_tour_26 rfl rfl ?_
      refine zv_get zf_X5_19 (wo_0 S8) rfl dX5_tour_27 ?_
      refine zv_iconst (v := 2) dX5_tour_30 (by decide) ?_
      obtain ⟨x10, hc9, hf⟩ := zbind hf
      refine zv_callV dX5_tour_31 zk_X5_81 zm_X2_get (c_X2_get zTwd_3 d S8 (2 : Int32) x10 hc9) (zTwd_3.1 S8) rfl rfl rfl (Nat.le_of_ble_eq_true rfl) ?_
      refine zv_istore_n dX5_tour_34 rfl (by decide) ?_
      refine zv_aload_n dX5_tour_35 rfl rfl ?_
      refine zv_get zf_X5_48 (wo_0 S8) rfl dX5_tour_36 ?_
      refine zv_get zf_X5_104 ((zLwd S8.2.2.1).1 S8) rfl dX5_tour_39 ?_
      refine zv_iload_n dX5_tour_42 rfl rfl ?_
      refine zv_imul dX5_tour_43 ?_
      refine zv_istore dX5_tour_44 (by decide) ?_
      refine zv_aload_n dX5_tour_46 rfl rfl ?_
      refine zv_iload dX5_tour_47 rfl ?_
      refine zv_iload_n dX5_tour_49 rfl rfl ?_
      refine zv_isub dX5_tour_50 ?_
      obtain ⟨x12, hc11, hf⟩ := zbind hf
      refine zv_callV dX5_tour_51 zk_X5_144 zm_X5_fewestWith (c_X5_fewestWith  d (by omega) S8 (((S8.1 (lr S8.2.2.1) 8) * a1) - x10) x12 hc11) (wo_0 S8) rfl rfl rfl (Nat.le_of_ble_eq_true rfl) ?_
      refine zv_istore dX5_tour_54 (by decide) ?_
      refine zv_iload dX5_tour_56 rfl ?_
      refine zv_bipush (v := -9) dX5_tour_58 (by decide) ?_
      refine zv_icmp_ne (tgt := 66) dX5_tour_60 (by decide) (fun c13 => ?_) (fun c13 => ?_)
      · replace hf := (if_neg c13).symm.trans hf
        refine zv_aload_n dX5_tour_66 rfl rfl ?_
        refine zv_get zf_X5_34 (wo_0 S8) rfl dX5_tour_67 ?_
        refine zv_aload_n dX5_tour_70 rfl rfl ?_
        refine zv_get zf_X5_48 (wo_0 S8) rfl dX5_tour_71 ?_
        refine zv_aload_n dX5_tour_74 rfl rfl ?_
        refine zv_get zf_X5_27 (wo_0 S8) rfl dX5_tour_75 ?_
        refine zv_iload dX5_tour_78 rfl ?_
        obtain ⟨x15, hc14, hf⟩ := zbind hf
        refine zv_callS dX5_tour_80 zk_X5_147 zm_J6_bitCount_0f7a4 (c_J6_bitCount_0f7a4  d x12 x15 hc14) rfl rfl (Nat.le_of_ble_eq_true rfl) ?_
        refine zv_aload_n dX5_tour_83 rfl rfl ?_
        refine zv_get zf_X5_19 (wo_0 S8) rfl dX5_tour_84 ?_
        refine zv_iconst (v := 0) dX5_tour_87 (by decide) ?_
        obtain ⟨x17, hc16, hf⟩ := zbind hf
        refine zv_callV dX5_tour_88 zk_X5_81 zm_X2_get (c_X2_get zTwd_3 d S8 (0 : Int32) x17 hc16) (zTwd_3.1 S8) rfl rfl rfl (Nat.le_of_ble_eq_true rfl) ?_
        refine zv_iload_n dX5_tour_91 rfl rfl ?_
        refine zv_iload dX5_tour_92 rfl ?_
        obtain ⟨x19, S20, hc18, hf⟩ := zbind2 hf
        refine zv_callV dX5_tour_94 zk_X5_152 zm_X4_find (c_X4_find (zLwd S8.2.2.1) d (by omega) S8 x15 x17 x10 ((S8.1 (lr S8.2.2.1) 8) * a1) x19 S20 hc18) (wo_11 S8) rfl rfl rfl (Nat.le_of_ble_eq_true rfl) ?_
        refine zv_if_ne (tgt := 103) dX5_tour_97 (by decide) (fun c21 => ?_) (fun c21 => ?_)
        · replace hf := (if_neg c21).symm.trans hf
          refine zv_iload_n dX5_tour_103 rfl rfl ?_
          refine zv_bipush (v := -2) dX5_tour_104 (by decide) ?_
          refine zv_icmp_ne (tgt := 117) dX5_tour_106 (by decide) (fun c22 => ?_) (fun c22 => ?_)
          · replace hf := (if_neg c22).symm.trans hf
            refine zv_iload_n dX5_tour_117 rfl rfl ?_
            refine zv_iconst (v := -1) dX5_tour_118 (by decide) ?_
            refine zv_icmp_ne (tgt := 132) dX5_tour_119 (by decide) (fun c23 => ?_) (fun c23 => ?_)
            · replace hf := (if_neg c23).symm.trans hf
              refine zv_aload_n dX5_tour_132 rfl rfl ?_
              refine zv_get zf_X5_34 (wo_0 S20) rfl dX5_tour_133 ?_
              refine zv_iload_n dX5_tour_136 rfl rfl ?_
              obtain ⟨x25, hc24, hf⟩ := zbind hf
              refine zv_callV dX5_tour_137 zk_X5_162 zm_X4_at (c_X4_at  d S20 a2 x25 hc24) (wo_11 S20) rfl rfl rfl (Nat.le_of_ble_eq_true rfl) ?_
              exact zv_iret (ty := .int) dX5_tour_140 rfl rfl (zret2 wd hf)
            · replace hf := (if_pos c23).symm.trans hf
              refine zv_aload_n dX5_tour_122 rfl rfl ?_
              refine zv_get zf_X5_34 (wo_0 S20) rfl dX5_tour_123 ?_
              refine zv_get zf_X5_159 (wo_11 S20) rfl dX5_tour_126 ?_
              refine zv_goto (tgt := 140) dX5_tour_129 (by decide) ?_
              exact zv_iret (ty := .int) dX5_tour_140 rfl rfl (zret2 wd hf)
          · replace hf := (if_pos c22).symm.trans hf
            refine zv_aload_n dX5_tour_109 rfl rfl ?_
            refine zv_get zf_X5_34 (wo_0 S20) rfl dX5_tour_110 ?_
            refine zv_get zf_X5_156 (wo_11 S20) rfl dX5_tour_113 ?_
            exact zv_iret (ty := .int) dX5_tour_116 rfl rfl (zret2 wd hf)
        · replace hf := (if_pos c21).symm.trans hf
          refine zv_bipush (v := -9) dX5_tour_100 (by decide) ?_
          exact zv_iret (ty := .int) dX5_tour_102 rfl rfl (zret2 wd hf)
      · replace hf := (if_pos c13).symm.trans hf
        refine zv_bipush (v := -9) dX5_tour_63 (by decide) ?_
        exact zv_iret (ty := .int) dX5_tour_65 rfl rfl (zret2 wd hf)
    · replace hf := (if_pos c6).symm.trans hf
      refine zv_iconst (v := -1) dX5_tour_20 (by decide) ?_
      exact zv_iret (ty := .int) dX5_tour_21 rfl rfl (zret2 wd hf)
-- KingPrices.trace()J height 0 reads
def f_X5_trace (S : zS) : Option Int64 :=
  some (S.2.1 0)
set_option maxRecDepth 100000 in
set_option maxHeartbeats 4000000 in
theorem c_X5_trace  (d : Nat) (S : zS) (v : Int64) (hf : f_X5_trace S = (some v)) : zC d yX5_trace cX5_trace 1 (some .long) [.ref 0] (wd S) (zq (some (.long v)) (wd S)) := by
  refine zC_intro (by decide) rfl (Nat.le_of_ble_eq_true rfl) ?_
  unfold f_X5_trace at hf
  refine zv_aload_n dX5_trace_0 rfl rfl ?_
  refine zv_get zf_X5_205 (wo_0 S) rfl dX5_trace_1 ?_
  exact zv_lret dX5_trace_4 rfl (zretl hf)
-- KingPrices.type(I)I height 1 writes
def f_X5_type (S : zS) (a1 : Int32) : Option (Int32 × zS) :=
  ((f_X5_isWithin a1 (0 : Int32) (255 : Int32)).bind (fun x2 => (if x2 = 0 then some ((-1 : Int32), S) else (zb2 (f_X3_append S a1) (fun x5 S6 => (if x5 = 0 then some ((-3 : Int32), S6) else some ((S6.1 1 1), S6)))))))
set_option maxRecDepth 100000 in
set_option maxHeartbeats 4000000 in
theorem c_X5_type  (d : Nat) (hd : 1 ≤ d) (S : zS) (a1 : Int32) (v : Int32) (S' : zS) (hf : f_X5_type S a1 = (some (v, S'))) : zC d yX5_type cX5_type 2 (some .int) [.ref 0, .int a1] (wd S) (zq (some (.int v)) (wd S')) := by
  obtain ⟨d, rfl⟩ : ∃ e, d = e + 1 := ⟨d - 1, by omega⟩
  refine zC_intro (by decide) rfl (Nat.le_of_ble_eq_true rfl) ?_
  unfold f_X5_type at hf
  refine zv_iload_n dX5_type_0 rfl rfl ?_
  refine zv_iconst (v := 0) dX5_type_1 (by decide) ?_
  refine zv_sipush (v := 255) dX5_type_2 (by decide) ?_
  obtain ⟨x2, hc1, hf⟩ := zbind hf
  refine zv_callS dX5_type_5 zk_X5_59 zm_X5_isWithin (c_X5_isWithin  d a1 (0 : Int32) (255 : Int32) x2 hc1) rfl rfl (Nat.le_of_ble_eq_true rfl) ?_
  refine zv_if_ne (tgt := 13) dX5_type_8 (by decide) (fun c3 => ?_) (fun c3 => ?_)
  · replace hf := (if_neg c3).symm.trans hf
    refine zv_aload_n dX5_type_13 rfl rfl ?_
    refine zv_get zf_X5_10 (wo_0 S) rfl dX5_type_14 ?_
    refine zv_iload_n dX5_type_17 rfl rfl ?_
    obtain ⟨x5, S6, hc4, hf⟩ := zbind2 hf
    refine zv_callV dX5_type_18 zk_X5_63 zm_X3_append (c_X3_append  d S a1 x5 S6 hc4) (wo_1 S) rfl rfl rfl (Nat.le_of_ble_eq_true rfl) ?_
    refine zv_if_eq (tgt := 34) dX5_type_21 (by decide) (fun c7 => ?_) (fun c7 => ?_)
    · replace hf := (if_pos c7).symm.trans hf
      refine zv_bipush (v := -3) dX5_type_34 (by decide) ?_
      exact zv_iret (ty := .int) dX5_type_36 rfl rfl (zret2 wd hf)
    · replace hf := (if_neg c7).symm.trans hf
      refine zv_aload_n dX5_type_24 rfl rfl ?_
      refine zv_get zf_X5_10 (wo_0 S6) rfl dX5_type_25 ?_
      refine zv_get zf_X5_67 (wo_1 S6) rfl dX5_type_28 ?_
      refine zv_goto (tgt := 36) dX5_type_31 (by decide) ?_
      exact zv_iret (ty := .int) dX5_type_36 rfl rfl (zret2 wd hf)
  · replace hf := (if_pos c3).symm.trans hf
    refine zv_iconst (v := -1) dX5_type_11 (by decide) ?_
    exact zv_iret (ty := .int) dX5_type_12 rfl rfl (zret2 wd hf)
-- KingPrices.undo()I height 2 writes
def f_X5_undo (S : zS) : Option (Int32 × zS) :=
  (zb2 (f_X2_goBack S 3) (fun x2 S3 => (if x2 = 0 then some ((-2 : Int32), S3) else some ((S3.1 3 1), S3))))
set_option maxRecDepth 100000 in
set_option maxHeartbeats 4000000 in
theorem c_X5_undo  (d : Nat) (hd : 2 ≤ d) (S : zS) (v : Int32) (S' : zS) (hf : f_X5_undo S = (some (v, S'))) : zC d yX5_undo cX5_undo 1 (some .int) [.ref 0] (wd S) (zq (some (.int v)) (wd S')) := by
  obtain ⟨d, rfl⟩ : ∃ e, d = e + 1 := ⟨d - 1, by omega⟩
  refine zC_intro (by decide) rfl (Nat.le_of_ble_eq_true rfl) ?_
  unfold f_X5_undo at hf
  refine zv_aload_n dX5_undo_0 rfl rfl ?_
  refine zv_get zf_X5_19 (wo_0 S) rfl dX5_undo_1 ?_
  obtain ⟨x2, S3, hc1, hf⟩ := zbind2 hf
  refine zv_callV dX5_undo_4 zk_X5_127 zm_X2_goBack (c_X2_goBack zTwd_3 d (by omega) S x2 S3 hc1) (zTwd_3.1 S) rfl rfl rfl (Nat.le_of_ble_eq_true rfl) ?_
  refine zv_if_eq (tgt := 20) dX5_undo_7 (by decide) (fun c4 => ?_) (fun c4 => ?_)
  · replace hf := (if_pos c4).symm.trans hf
    refine zv_bipush (v := -2) dX5_undo_20 (by decide) ?_
    exact zv_iret (ty := .int) dX5_undo_22 rfl rfl (zret2 wd hf)
  · replace hf := (if_neg c4).symm.trans hf
    refine zv_aload_n dX5_undo_10 rfl rfl ?_
    refine zv_get zf_X5_19 (wo_0 S3) rfl dX5_undo_11 ?_
    refine zv_get zf_X5_131 (zTwd_3.1 S3) rfl dX5_undo_14 ?_
    refine zv_goto (tgt := 22) dX5_undo_17 (by decide) ?_
    exact zv_iret (ty := .int) dX5_undo_22 rfl rfl (zret2 wd hf)
-- KingPrices.village(II)I height 3 reads
def f_X5_village (S : zS) (a1 : Int32) (a2 : Int32) : Option Int32 :=
  ((f_X0_knows S (lr S.2.2.1) a1).bind (fun x2 => (if x2 = 0 then some ((-1 : Int32)) else (if a2 = 0 then ((f_X2_get S 3 ((4 : Int32) + a1)).bind (fun x6 => some x6)) else (if a2 = 1 then ((f_X2_get S 3 ((10 : Int32) + a1)).bind (fun x9 => some x9)) else (if a2 = 2 then ((f_X0_needOf S (lr S.2.2.1) a1).bind (fun x12 => some x12)) else (if a2 = 3 then ((f_X0_hasCharter S (lr S.2.2.1) a1).bind (fun x15 => (if x15 = 0 then some ((0 : Int32)) else some ((1 : Int32))))) else (if a2 = 4 then ((f_X2_get S 3 ((16 : Int32) + a1)).bind (fun x19 => some x19)) else (if a2 = 5 then ((f_X2_get S 3 ((22 : Int32) + a1)).bind (fun x22 => some x22)) else (if a2 = 6 then ((f_X5_spareOf S a1).bind (fun x25 => some x25)) else some ((-1 : Int32))))))))))))
set_option maxRecDepth 100000 in
set_option maxHeartbeats 4000000 in
theorem c_X5_village  (d : Nat) (hd : 3 ≤ d) (S : zS) (a1 : Int32) (a2 : Int32) (v : Int32) (hf : f_X5_village S a1 a2 = (some v)) : zC d yX5_village cX5_village 3 (some .int) [.ref 0, .int a1, .int a2] (wd S) (zq (some (.int v)) (wd S)) := by
  obtain ⟨d, rfl⟩ : ∃ e, d = e + 1 := ⟨d - 1, by omega⟩
  refine zC_intro (by decide) rfl (Nat.le_of_ble_eq_true rfl) ?_
  unfold f_X5_village at hf
  refine zv_aload_n dX5_village_0 rfl rfl ?_
  refine zv_get zf_X5_48 (wo_0 S) rfl dX5_village_1 ?_
  refine zv_iload_n dX5_village_4 rfl rfl ?_
  obtain ⟨x2, hc1, hf⟩ := zbind hf
  refine zv_callV dX5_village_5 zk_X5_78 zm_X0_knows (c_X0_knows (zLwd S.2.2.1) d S a1 x2 hc1) ((zLwd S.2.2.1).1 S) rfl rfl rfl (Nat.le_of_ble_eq_true rfl) ?_
  refine zv_if_ne (tgt := 13) dX5_village_8 (by decide) (fun c3 => ?_) (fun c3 => ?_)
  · replace hf := (if_neg c3).symm.trans hf
    refine zv_iload_n dX5_village_13 rfl rfl ?_
    by_cases c4 : a2 = 0
    · replace hf := (if_pos c4).symm.trans hf
      refine zv_tableIn (v := 0) (off := 42) (tgt := 56) dX5_village_14 c4 (by decide) (by decide) (by decide) (by decide) ?_
      refine zv_aload_n dX5_village_56 rfl rfl ?_
      refine zv_get zf_X5_19 (wo_0 S) rfl dX5_village_57 ?_
      refine zv_iconst (v := 4) dX5_village_60 (by decide) ?_
      refine zv_iload_n dX5_village_61 rfl rfl ?_
      refine zv_iadd dX5_village_62 ?_
      obtain ⟨x6, hc5, hf⟩ := zbind hf
      refine zv_callV dX5_village_63 zk_X5_81 zm_X2_get (c_X2_get zTwd_3 d S ((4 : Int32) + a1) x6 hc5) (zTwd_3.1 S) rfl rfl rfl (Nat.le_of_ble_eq_true rfl) ?_
      exact zv_iret (ty := .int) dX5_village_66 rfl rfl (zret1 hf)
    replace hf := (if_neg c4).symm.trans hf
    by_cases c7 : a2 = 1
    · replace hf := (if_pos c7).symm.trans hf
      refine zv_tableIn (v := 1) (off := 53) (tgt := 67) dX5_village_14 c7 (by decide) (by decide) (by decide) (by decide) ?_
      refine zv_aload_n dX5_village_67 rfl rfl ?_
      refine zv_get zf_X5_19 (wo_0 S) rfl dX5_village_68 ?_
      refine zv_bipush (v := 10) dX5_village_71 (by decide) ?_
      refine zv_iload_n dX5_village_73 rfl rfl ?_
      refine zv_iadd dX5_village_74 ?_
      obtain ⟨x9, hc8, hf⟩ := zbind hf
      refine zv_callV dX5_village_75 zk_X5_81 zm_X2_get (c_X2_get zTwd_3 d S ((10 : Int32) + a1) x9 hc8) (zTwd_3.1 S) rfl rfl rfl (Nat.le_of_ble_eq_true rfl) ?_
      exact zv_iret (ty := .int) dX5_village_78 rfl rfl (zret1 hf)
    replace hf := (if_neg c7).symm.trans hf
    by_cases c10 : a2 = 2
    · replace hf := (if_pos c10).symm.trans hf
      refine zv_tableIn (v := 2) (off := 65) (tgt := 79) dX5_village_14 c10 (by decide) (by decide) (by decide) (by decide) ?_
      refine zv_aload_n dX5_village_79 rfl rfl ?_
      refine zv_get zf_X5_48 (wo_0 S) rfl dX5_village_80 ?_
      refine zv_iload_n dX5_village_83 rfl rfl ?_
      obtain ⟨x12, hc11, hf⟩ := zbind hf
      refine zv_callV dX5_village_84 zk_X5_85 zm_X0_needOf (c_X0_needOf (zLwd S.2.2.1) d (by omega) S a1 x12 hc11) ((zLwd S.2.2.1).1 S) rfl rfl rfl (Nat.le_of_ble_eq_true rfl) ?_
      exact zv_iret (ty := .int) dX5_village_87 rfl rfl (zret1 hf)
    replace hf := (if_neg c10).symm.trans hf
    by_cases c13 : a2 = 3
    · replace hf := (if_pos c13).symm.trans hf
      refine zv_tableIn (v := 3) (off := 74) (tgt := 88) dX5_village_14 c13 (by decide) (by decide) (by decide) (by decide) ?_
      refine zv_aload_n dX5_village_88 rfl rfl ?_
      refine zv_get zf_X5_48 (wo_0 S) rfl dX5_village_89 ?_
      refine zv_iload_n dX5_village_92 rfl rfl ?_
      obtain ⟨x15, hc14, hf⟩ := zbind hf
      refine zv_callV dX5_village_93 zk_X5_88 zm_X0_hasCharter (c_X0_hasCharter (zLwd S.2.2.1) d (by omega) S a1 x15 hc14) ((zLwd S.2.2.1).1 S) rfl rfl rfl (Nat.le_of_ble_eq_true rfl) ?_
      refine zv_if_eq (tgt := 103) dX5_village_96 (by decide) (fun c16 => ?_) (fun c16 => ?_)
      · replace hf := (if_pos c16).symm.trans hf
        refine zv_iconst (v := 0) dX5_village_103 (by decide) ?_
        exact zv_iret (ty := .int) dX5_village_104 rfl rfl (zret1 hf)
      · replace hf := (if_neg c16).symm.trans hf
        refine zv_iconst (v := 1) dX5_village_99 (by decide) ?_
        refine zv_goto (tgt := 104) dX5_village_100 (by decide) ?_
        exact zv_iret (ty := .int) dX5_village_104 rfl rfl (zret1 hf)
    replace hf := (if_neg c13).symm.trans hf
    by_cases c17 : a2 = 4
    · replace hf := (if_pos c17).symm.trans hf
      refine zv_tableIn (v := 4) (off := 91) (tgt := 105) dX5_village_14 c17 (by decide) (by decide) (by decide) (by decide) ?_
      refine zv_aload_n dX5_village_105 rfl rfl ?_
      refine zv_get zf_X5_19 (wo_0 S) rfl dX5_village_106 ?_
      refine zv_bipush (v := 16) dX5_village_109 (by decide) ?_
      refine zv_iload_n dX5_village_111 rfl rfl ?_
      refine zv_iadd dX5_village_112 ?_
      obtain ⟨x19, hc18, hf⟩ := zbind hf
      refine zv_callV dX5_village_113 zk_X5_81 zm_X2_get (c_X2_get zTwd_3 d S ((16 : Int32) + a1) x19 hc18) (zTwd_3.1 S) rfl rfl rfl (Nat.le_of_ble_eq_true rfl) ?_
      exact zv_iret (ty := .int) dX5_village_116 rfl rfl (zret1 hf)
    replace hf := (if_neg c17).symm.trans hf
    by_cases c20 : a2 = 5
    · replace hf := (if_pos c20).symm.trans hf
      refine zv_tableIn (v := 5) (off := 103) (tgt := 117) dX5_village_14 c20 (by decide) (by decide) (by decide) (by decide) ?_
      refine zv_aload_n dX5_village_117 rfl rfl ?_
      refine zv_get zf_X5_19 (wo_0 S) rfl dX5_village_118 ?_
      refine zv_bipush (v := 22) dX5_village_121 (by decide) ?_
      refine zv_iload_n dX5_village_123 rfl rfl ?_
      refine zv_iadd dX5_village_124 ?_
      obtain ⟨x22, hc21, hf⟩ := zbind hf
      refine zv_callV dX5_village_125 zk_X5_81 zm_X2_get (c_X2_get zTwd_3 d S ((22 : Int32) + a1) x22 hc21) (zTwd_3.1 S) rfl rfl rfl (Nat.le_of_ble_eq_true rfl) ?_
      exact zv_iret (ty := .int) dX5_village_128 rfl rfl (zret1 hf)
    replace hf := (if_neg c20).symm.trans hf
    by_cases c23 : a2 = 6
    · replace hf := (if_pos c23).symm.trans hf
      refine zv_tableIn (v := 6) (off := 115) (tgt := 129) dX5_village_14 c23 (by decide) (by decide) (by decide) (by decide) ?_
      refine zv_aload_n dX5_village_129 rfl rfl ?_
      refine zv_iload_n dX5_village_130 rfl rfl ?_
      obtain ⟨x25, hc24, hf⟩ := zbind hf
      refine zv_callV dX5_village_131 zk_X5_91 zm_X5_spareOf (c_X5_spareOf  d (by omega) S a1 x25 hc24) (wo_0 S) rfl rfl rfl (Nat.le_of_ble_eq_true rfl) ?_
      exact zv_iret (ty := .int) dX5_village_134 rfl rfl (zret1 hf)
    replace hf := (if_neg c23).symm.trans hf
    refine zv_tableOut (tgt := 135) dX5_village_14 (by have q0 := lv_neT (a := 0) c4 (by decide); have q1 := lv_neT (a := 1) c7 (by decide); have q2 := lv_neT (a := 2) c10 (by decide); have q3 := lv_neT (a := 3) c13 (by decide); have q4 := lv_neT (a := 4) c17 (by decide); have q5 := lv_neT (a := 5) c20 (by decide); have q6 := lv_neT (a := 6) c23 (by decide); omega) (by decide) ?_
    refine zv_iconst (v := -1) dX5_village_135 (by decide) ?_
    exact zv_iret (ty := .int) dX5_village_136 rfl rfl (zret1 hf)
  · replace hf := (if_pos c3).symm.trans hf
    refine zv_iconst (v := -1) dX5_village_11 (by decide) ?_
    exact zv_iret (ty := .int) dX5_village_12 rfl rfl (zret1 hf)
