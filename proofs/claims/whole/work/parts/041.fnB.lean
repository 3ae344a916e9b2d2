-- KingPrices$RingSearch.at(I)I height 0 reads
def f_X1_at (S : zS) (a1 : Int32) : Option Int32 :=
  (if a1 < (0 : Int32) then some ((-9 : Int32)) else (if (S.1 15 1) ≤ a1 then some ((-9 : Int32)) else (if (6 : Int32) ≤ a1 then some ((-9 : Int32)) else (if zin a1 6 then some ((S.1 16 (a1).toNatClampNeg)) else none))))
set_option maxRecDepth 100000 in
set_option maxHeartbeats 4000000 in
theorem c_X1_at  (d : Nat) (S : zS) (a1 : Int32) (v : Int32) (hf : f_X1_at S a1 = (some v)) : zC d yX1_at cX1_at 2 (some .int) [.ref 15, .int a1] (wd S) (zq (some (.int v)) (wd S)) := by
  refine zC_intro (by decide) rfl (Nat.le_of_ble_eq_true rfl) ?_
  unfold f_X1_at at hf
  refine zv_iconst (v := 0) dX1_at_0 (by decide) ?_
  refine zv_iload_n dX1_at_1 rfl rfl ?_
  refine zv_icmp_gt (tgt := 31) dX1_at_2 (by decide) (fun c1 => ?_) (fun c1 => ?_)
  · replace hf := (if_pos c1).symm.trans hf
    refine zv_bipush (v := -9) dX1_at_31 (by decide) ?_
    exact zv_iret (ty := .int) dX1_at_33 rfl rfl (zret1 hf)
  · replace hf := (if_neg c1).symm.trans hf
    refine zv_iload_n dX1_at_5 rfl rfl ?_
    refine zv_aload_n dX1_at_6 rfl rfl ?_
    refine zv_get zf_X1_21 (wo_15 S) rfl dX1_at_7 ?_
    refine zv_icmp_ge (tgt := 31) dX1_at_10 (by decide) (fun c2 => ?_) (fun c2 => ?_)
    · replace hf := (if_pos c2).symm.trans hf
      refine zv_bipush (v := -9) dX1_at_31 (by decide) ?_
      exact zv_iret (ty := .int) dX1_at_33 rfl rfl (zret1 hf)
    · replace hf := (if_neg c2).symm.trans hf
      refine zv_iload_n dX1_at_13 rfl rfl ?_
      refine zv_aload_n dX1_at_14 rfl rfl ?_
      refine zv_get zf_X1_9 (wo_15 S) rfl dX1_at_15 ?_
      refine zv_alen (v := 6) (t := 0) (by decide) (by decide) (wo_16 S) dX1_at_18 ?_
      refine zv_icmp_ge (tgt := 31) dX1_at_19 (by decide) (fun c3 => ?_) (fun c3 => ?_)
      · replace hf := (if_pos c3).symm.trans hf
        refine zv_bipush (v := -9) dX1_at_31 (by decide) ?_
        exact zv_iret (ty := .int) dX1_at_33 rfl rfl (zret1 hf)
      · replace hf := (if_neg c3).symm.trans hf
        refine zv_aload_n dX1_at_22 rfl rfl ?_
        refine zv_get zf_X1_9 (wo_15 S) rfl dX1_at_23 ?_
        refine zv_iload_n dX1_at_26 rfl rfl ?_
        obtain ⟨hb4, hf⟩ := zifb hf
        refine zv_iald hb4 (wo_16 S) dX1_at_27 ?_
        refine zv_goto (tgt := 33) dX1_at_28 (by decide) ?_
        exact zv_iret (ty := .int) dX1_at_33 rfl rfl (zret1 hf)
-- KingPrices$RingSearch.goOn(LKingPrices$Land;II)Z height 2 writes
def f_X1_goOn_51 (g : zS → Nat → Int32 → Int32 → Option (Int32 × zS)) (q : Nat) (S : zS) (a4 : Int32) : Option (Int32 × zS) :=
  ((f_X0_debt S q a4 (S.1 16 0)).bind (fun x2 => (if x2 ≤ 0 then some ((0 : Int32), S) else some ((1 : Int32), S))))
set_option maxRecDepth 100000 in
set_option maxHeartbeats 4000000 in
theorem v_X1_goOn_51 {q : Nat} (hL : zLand wd q) (d : Nat) (hd : 1 ≤ d) (g : zS → Nat → Int32 → Int32 → Option (Int32 × zS)) (hg : ∀ (S : zS) (a2 a3 : Int32) v S', g S q a2 a3 = (some (v, S')) → zC d yX1_goOn cX1_goOn 6 (some .boolean) [.ref 15, .ref q, .int a2, .int a3] (wd S) (zq (some (.int v)) (wd S'))) (S : zS) (a4 : Int32) (v : Int32) (S' : zS) (hf : f_X1_goOn_51 g q S a4 = (some (v, S'))) : zV none (d + 1) yX1_goOn cX1_goOn 6 (some .boolean) 51 [(0, .ref 15), (1, .ref q), (4, .int a4)] [] (wd S) (zq (some (.int v)) (wd S')) := by
  unfold f_X1_goOn_51 at hf
  refine zv_aload_n dX1_goOn_51 rfl rfl ?_
  refine zv_iload dX1_goOn_52 rfl ?_
  refine zv_aload_n dX1_goOn_54 rfl rfl ?_
  refine zv_get zf_X1_9 (wo_15 S) rfl dX1_goOn_55 ?_
  refine zv_iconst (v := 0) dX1_goOn_58 (by decide) ?_
  refine zv_ialdK (k := 0) (by decide) (by decide) (wo_16 S) dX1_goOn_59 ?_
  obtain ⟨x2, hc1, hf⟩ := zbind hf
  refine zv_callV dX1_goOn_60 zk_X1_32 zm_X0_debt (c_X0_debt hL d (by omega) S a4 (S.1 16 0) x2 hc1) (hL.1 S) rfl rfl rfl (Nat.le_of_ble_eq_true rfl) ?_
  refine zv_if_le (tgt := 70) dX1_goOn_63 (by decide) (fun c3 => ?_) (fun c3 => ?_)
  · replace hf := (if_pos c3).symm.trans hf
    refine zv_iconst (v := 0) dX1_goOn_70 (by decide) ?_
    exact zv_iret (ty := .boolean) dX1_goOn_71 rfl rfl (zret2 wd hf)
  · replace hf := (if_neg c3).symm.trans hf
    refine zv_iconst (v := 1) dX1_goOn_66 (by decide) ?_
    refine zv_goto (tgt := 71) dX1_goOn_67 (by decide) ?_
    exact zv_iret (ty := .boolean) dX1_goOn_71 rfl rfl (zret2 wd hf)
def f_X1_goOn_138 (g : zS → Nat → Int32 → Int32 → Option (Int32 × zS)) (k82 : zS → Int32 → Int32 → Int32 → Int32 → Option (Int32 × zS)) (q : Nat) (S : zS) (a2 : Int32) (a3 : Int32) (a4 : Int32) (a5 : Int32) : Option (Int32 × zS) :=
  k82 S a2 a3 a4 (a5 + (1 : Int32))
set_option maxRecDepth 100000 in
set_option maxHeartbeats 4000000 in
theorem v_X1_goOn_138 {q : Nat} (hL : zLand wd q) (d : Nat) (hd : 1 ≤ d) (g : zS → Nat → Int32 → Int32 → Option (Int32 × zS)) (hg : ∀ (S : zS) (a2 a3 : Int32) v S', g S q a2 a3 = (some (v, S')) → zC d yX1_goOn cX1_goOn 6 (some .boolean) [.ref 15, .ref q, .int a2, .int a3] (wd S) (zq (some (.int v)) (wd S'))) (k82 : zS → Int32 → Int32 → Int32 → Int32 → Option (Int32 × zS)) (hk82 : ∀ (S : zS) (a2 a3 a4 a5 : Int32) v S', k82 S a2 a3 a4 a5 = (some (v, S')) → zV none (d + 1) yX1_goOn cX1_goOn 6 (some .boolean) 82 [(0, .ref 15), (1, .ref q), (2, .int a2), (3, .int a3), (4, .int a4), (5, .int a5)] [] (wd S) (zq (some (.int v)) (wd S'))) (S : zS) (a2 : Int32) (a3 : Int32) (a4 : Int32) (a5 : Int32) (v : Int32) (S' : zS) (hf : f_X1_goOn_138 g k82 q S a2 a3 a4 a5 = (some (v, S'))) : zV none (d + 1) yX1_goOn cX1_goOn 6 (some .boolean) 138 [(0, .ref 15), (1, .ref q), (2, .int a2), (3, .int a3), (4, .int a4), (5, .int a5)] [] (wd S) (zq (some (.int v)) (wd S')) := by
  unfold f_X1_goOn_138 at hf
  refine zv_iinc (v := 1) dX1_goOn_138 rfl (by decide) (by decide) ?_
  refine zv_goto (tgt := 82) dX1_goOn_141 (by decide) ?_
  exact zV_sub ([(0, .ref 15), (1, .ref q), (2, .int a2), (3, .int a3), (4, .int a4), (5, .int (a5 + (1 : Int32)))]) ⟨rfl, rfl, rfl, rfl, rfl, rfl, trivial⟩ (hk82 S a2 a3 a4 (a5 + (1 : Int32)) _ _ hf)
def f_X1_goOn_82 (g : zS → Nat → Int32 → Int32 → Option (Int32 × zS)) (q : Nat) : Nat → zS → Int32 → Int32 → Int32 → Int32 → Option (Int32 × zS)
  | 0, _, _, _, _, _ => none
  | n + 1, S, a2, a3, a4, a5 => (if (S.1 q 6) ≤ a5 then some ((0 : Int32), S) else (if ((a3 >>> (a5 &&& 31)) &&& (1 : Int32)) = 0 then ((f_X0_debt S q a4 a5).bind (fun x4 => (if x4 ≤ 0 then f_X1_goOn_138 g (f_X1_goOn_82 g q n) q S a2 a3 a4 a5 else (if zin a2 6 then (zb2 (g (zr S 16 (upd (S.1 16) (a2).toNatClampNeg a5)) q (a2 + (1 : Int32)) (a3 ||| ((1 : Int32) <<< (a5 &&& 31)))) (fun x8 S9 => (if x8 = 0 then f_X1_goOn_138 g (f_X1_goOn_82 g q n) q S9 a2 a3 a4 a5 else some ((1 : Int32), S9)))) else none)))) else f_X1_goOn_138 g (f_X1_goOn_82 g q n) q S a2 a3 a4 a5))
set_option maxRecDepth 100000 in
set_option maxHeartbeats 4000000 in
theorem v_X1_goOn_82 {q : Nat} (hL : zLand wd q) (d : Nat) (hd : 1 ≤ d) (g : zS → Nat → Int32 → Int32 → Option (Int32 × zS)) (hg : ∀ (S : zS) (a2 a3 : Int32) v S', g S q a2 a3 = (some (v, S')) → zC d yX1_goOn cX1_goOn 6 (some .boolean) [.ref 15, .ref q, .int a2, .int a3] (wd S) (zq (some (.int v)) (wd S'))) : ∀ (n : Nat) (S : zS) (a2 : Int32) (a3 : Int32) (a4 : Int32) (a5 : Int32) (v : Int32) (S' : zS), f_X1_goOn_82 g q n S a2 a3 a4 a5 = (some (v, S')) → zV none (d + 1) yX1_goOn cX1_goOn 6 (some .boolean) 82 [(0, .ref 15), (1, .ref q), (2, .int a2), (3, .int a3), (4, .int a4), (5, .int a5)] [] (wd S) (zq (some (.int v)) (wd S')) := by
  intro n
  induction n with
  | zero =>
    intro S a2 a3 a4 a5 v S' hf
    cases hf
  | succ n ih =>
    intro S a2 a3 a4 a5 v S' hf
    rw [f_X1_goOn_82] at hf
    refine zv_iload dX1_goOn_82 rfl ?_
    refine zv_aload_n dX1_goOn_84 rfl rfl ?_
    refine zv_get zf_X1_15 (hL.1 S) rfl dX1_goOn_85 ?_
    refine zv_icmp_ge (tgt := 144) dX1_goOn_88 (by decide) (fun c1 => ?_) (fun c1 => ?_)
    · replace hf := (if_pos c1).symm.trans hf
      refine zv_iconst (v := 0) dX1_goOn_144 (by decide) ?_
      exact zv_iret (ty := .boolean) dX1_goOn_145 rfl rfl (zret2 wd hf)
    · replace hf := (if_neg c1).symm.trans hf
      refine zv_iload_n dX1_goOn_91 rfl rfl ?_
      refine zv_iload dX1_goOn_92 rfl ?_
      refine zv_ishr dX1_goOn_94 ?_
      refine zv_iconst (v := 1) dX1_goOn_95 (by decide) ?_
      refine zv_iand dX1_goOn_96 ?_
      refine zv_if_ne (tgt := 138) dX1_goOn_97 (by decide) (fun c2 => ?_) (fun c2 => ?_)
      · replace hf := (if_neg c2).symm.trans hf
        exact zV_sub ([(0, .ref 15), (1, .ref q), (2, .int a2), (3, .int a3), (4, .int a4), (5, .int a5)]) ⟨rfl, rfl, rfl, rfl, rfl, rfl, trivial⟩ (v_X1_goOn_138 hL d (by omega) g hg (f_X1_goOn_82 g q n) ih S a2 a3 a4 a5 _ _ hf)
      · replace hf := (if_pos c2).symm.trans hf
        refine zv_aload_n dX1_goOn_100 rfl rfl ?_
        refine zv_iload dX1_goOn_101 rfl ?_
        refine zv_iload dX1_goOn_103 rfl ?_
        obtain ⟨x4, hc3, hf⟩ := zbind hf
        refine zv_callV dX1_goOn_105 zk_X1_32 zm_X0_debt (c_X0_debt hL d (by omega) S a4 a5 x4 hc3) (hL.1 S) rfl rfl rfl (Nat.le_of_ble_eq_true rfl) ?_
        refine zv_if_le (tgt := 138) dX1_goOn_108 (by decide) (fun c5 => ?_) (fun c5 => ?_)
        · replace hf := (if_pos c5).symm.trans hf
          exact zV_sub ([(0, .ref 15), (1, .ref q), (2, .int a2), (3, .int a3), (4, .int a4), (5, .int a5)]) ⟨rfl, rfl, rfl, rfl, rfl, rfl, trivial⟩ (v_X1_goOn_138 hL d (by omega) g hg (f_X1_goOn_82 g q n) ih S a2 a3 a4 a5 _ _ hf)
        · replace hf := (if_neg c5).symm.trans hf
          refine zv_aload_n dX1_goOn_111 rfl rfl ?_
          refine zv_get zf_X1_9 (wo_15 S) rfl dX1_goOn_112 ?_
          refine zv_iload_n dX1_goOn_115 rfl rfl ?_
          refine zv_iload dX1_goOn_116 rfl ?_
          obtain ⟨hb6, hf⟩ := zifb hf
          refine zv_iast hb6 (wo_16 S) (ws_16 S (upd (S.1 16) (a2).toNatClampNeg a5)) dX1_goOn_118 ?_
          refine zv_aload_n dX1_goOn_119 rfl rfl ?_
          refine zv_aload_n dX1_goOn_120 rfl rfl ?_
          refine zv_iload_n dX1_goOn_121 rfl rfl ?_
          refine zv_iconst (v := 1) dX1_goOn_122 (by decide) ?_
          refine zv_iadd dX1_goOn_123 ?_
          refine zv_iload_n dX1_goOn_124 rfl rfl ?_
          refine zv_iconst (v := 1) dX1_goOn_125 (by decide) ?_
          refine zv_iload dX1_goOn_126 rfl ?_
          refine zv_ishl dX1_goOn_128 ?_
          refine zv_ior dX1_goOn_129 ?_
          obtain ⟨x8, S9, hc7, hf⟩ := zbind2 hf
          refine zv_callV dX1_goOn_130 zk_X1_24 zm_X1_goOn (hg (zr S 16 (upd (S.1 16) (a2).toNatClampNeg a5)) (a2 + (1 : Int32)) (a3 ||| ((1 : Int32) <<< (a5 &&& 31))) x8 S9 hc7) (wo_15 (zr S 16 (upd (S.1 16) (a2).toNatClampNeg a5))) rfl rfl rfl (Nat.le_of_ble_eq_true rfl) ?_
          refine zv_if_eq (tgt := 138) dX1_goOn_133 (by decide) (fun c10 => ?_) (fun c10 => ?_)
          · replace hf := (if_pos c10).symm.trans hf
            exact zV_sub ([(0, .ref 15), (1, .ref q), (2, .int a2), (3, .int a3), (4, .int a4), (5, .int a5)]) ⟨rfl, rfl, rfl, rfl, rfl, rfl, trivial⟩ (v_X1_goOn_138 hL d (by omega) g hg (f_X1_goOn_82 g q n) ih S9 a2 a3 a4 a5 _ _ hf)
          · replace hf := (if_neg c10).symm.trans hf
            refine zv_iconst (v := 1) dX1_goOn_136 (by decide) ?_
            exact zv_iret (ty := .boolean) dX1_goOn_137 rfl rfl (zret2 wd hf)
def f_X1_goOn_e (g : zS → Nat → Int32 → Int32 → Option (Int32 × zS)) (S : zS) (q : Nat) (a2 : Int32) (a3 : Int32) : Option (Int32 × zS) :=
  (if a2 < (1 : Int32) then some ((0 : Int32), S) else (if (S.1 15 1) < a2 then some ((0 : Int32), S) else (if a2 ≤ (6 : Int32) then (if zin (a2 - (1 : Int32)) 6 then (if a2 = (S.1 15 1) then f_X1_goOn_51 g q S (S.1 16 ((a2 - (1 : Int32))).toNatClampNeg) else (if a2 = (6 : Int32) then f_X1_goOn_51 g q S (S.1 16 ((a2 - (1 : Int32))).toNatClampNeg) else f_X1_goOn_82 g q zN S a2 a3 (S.1 16 ((a2 - (1 : Int32))).toNatClampNeg) ((S.1 16 0) + (1 : Int32)))) else none) else some ((0 : Int32), S))))
def f_X1_goOn : Nat → zS → Nat → Int32 → Int32 → Option (Int32 × zS)
  | 0 => fun _ _ _ _ => none
  | n + 1 => f_X1_goOn_e (f_X1_goOn n)
set_option maxRecDepth 100000 in
set_option maxHeartbeats 4000000 in
theorem c_X1_goOn {q : Nat} (hL : zLand wd q) : ∀ (n d : Nat), 2 + n ≤ d → ∀ (S : zS) (a2 : Int32) (a3 : Int32) (v : Int32) (S' : zS), f_X1_goOn n S q a2 a3 = (some (v, S')) → zC d yX1_goOn cX1_goOn 6 (some .boolean) [.ref 15, .ref q, .int a2, .int a3] (wd S) (zq (some (.int v)) (wd S')) := by
  intro n
  induction n with
  | zero =>
    intro d hd S a2 a3 v S' hf
    cases hf
  | succ n ihm =>
    intro d hd S a2 a3 v S' hf
    obtain ⟨d, rfl⟩ : ∃ e, d = e + 1 := ⟨d - 1, by omega⟩
    refine zC_intro (by decide) rfl (Nat.le_of_ble_eq_true rfl) ?_
    have hg := ihm d (by omega)
    replace hf : f_X1_goOn_e (f_X1_goOn n) S q a2 a3 = (some (v, S')) := hf
    generalize f_X1_goOn n = g at hg hf
    unfold f_X1_goOn_e at hf
    refine zv_iload_n dX1_goOn_0 rfl rfl ?_
    refine zv_iconst (v := 1) dX1_goOn_1 (by decide) ?_
    refine zv_icmp_lt (tgt := 22) dX1_goOn_2 (by decide) (fun c1 => ?_) (fun c1 => ?_)
    · replace hf := (if_pos c1).symm.trans hf
      refine zv_iconst (v := 0) dX1_goOn_22 (by decide) ?_
      exact zv_iret (ty := .boolean) dX1_goOn_23 rfl rfl (zret2 wd hf)
    · replace hf := (if_neg c1).symm.trans hf
      refine zv_iload_n dX1_goOn_5 rfl rfl ?_
      refine zv_aload_n dX1_goOn_6 rfl rfl ?_
      refine zv_get zf_X1_21 (wo_15 S) rfl dX1_goOn_7 ?_
      refine zv_icmp_gt (tgt := 22) dX1_goOn_10 (by decide) (fun c2 => ?_) (fun c2 => ?_)
      · replace hf := (if_pos c2).symm.trans hf
        refine zv_iconst (v := 0) dX1_goOn_22 (by decide) ?_
        exact zv_iret (ty := .boolean) dX1_goOn_23 rfl rfl (zret2 wd hf)
      · replace hf := (if_neg c2).symm.trans hf
        refine zv_iload_n dX1_goOn_13 rfl rfl ?_
        refine zv_aload_n dX1_goOn_14 rfl rfl ?_
        refine zv_get zf_X1_9 (wo_15 S) rfl dX1_goOn_15 ?_
        refine zv_alen (v := 6) (t := 0) (by decide) (by decide) (wo_16 S) dX1_goOn_18 ?_
        refine zv_icmp_le (tgt := 24) dX1_goOn_19 (by decide) (fun c3 => ?_) (fun c3 => ?_)
        · replace hf := (if_pos c3).symm.trans hf
          refine zv_aload_n dX1_goOn_24 rfl rfl ?_
          refine zv_get zf_X1_9 (wo_15 S) rfl dX1_goOn_25 ?_
          refine zv_iload_n dX1_goOn_28 rfl rfl ?_
          refine zv_iconst (v := 1) dX1_goOn_29 (by decide) ?_
          refine zv_isub dX1_goOn_30 ?_
          obtain ⟨hb4, hf⟩ := zifb hf
          refine zv_iald hb4 (wo_16 S) dX1_goOn_31 ?_
          refine zv_istore dX1_goOn_32 (by decide) ?_
          refine zv_iload_n dX1_goOn_34 rfl rfl ?_
          refine zv_aload_n dX1_goOn_35 rfl rfl ?_
          refine zv_get zf_X1_21 (wo_15 S) rfl dX1_goOn_36 ?_
          refine zv_icmp_eq (tgt := 51) dX1_goOn_39 (by decide) (fun c5 => ?_) (fun c5 => ?_)
          · replace hf := (if_pos c5).symm.trans hf
            exact zV_sub ([(0, .ref 15), (1, .ref q), (4, .int (S.1 16 ((a2 - (1 : Int32))).toNatClampNeg))]) ⟨rfl, rfl, rfl, trivial⟩ (v_X1_goOn_51 hL d (by omega) g hg S (S.1 16 ((a2 - (1 : Int32))).toNatClampNeg) _ _ hf)
          · replace hf := (if_neg c5).symm.trans hf
            refine zv_iload_n dX1_goOn_42 rfl rfl ?_
            refine zv_aload_n dX1_goOn_43 rfl rfl ?_
            refine zv_get zf_X1_9 (wo_15 S) rfl dX1_goOn_44 ?_
            refine zv_alen (v := 6) (t := 0) (by decide) (by decide) (wo_16 S) dX1_goOn_47 ?_
            refine zv_icmp_ne (tgt := 72) dX1_goOn_48 (by decide) (fun c6 => ?_) (fun c6 => ?_)
            · replace hf := (if_neg c6).symm.trans hf
              refine zv_aload_n dX1_goOn_72 rfl rfl ?_
              refine zv_get zf_X1_9 (wo_15 S) rfl dX1_goOn_73 ?_
              refine zv_iconst (v := 0) dX1_goOn_76 (by decide) ?_
              refine zv_ialdK (k := 0) (by decide) (by decide) (wo_16 S) dX1_goOn_77 ?_
              refine zv_iconst (v := 1) dX1_goOn_78 (by decide) ?_
              refine zv_iadd dX1_goOn_79 ?_
              refine zv_istore dX1_goOn_80 (by decide) ?_
              exact zV_sub ([(0, .ref 15), (1, .ref q), (2, .int a2), (3, .int a3), (4, .int (S.1 16 ((a2 - (1 : Int32))).toNatClampNeg)), (5, .int ((S.1 16 0) + (1 : Int32)))]) ⟨rfl, rfl, rfl, rfl, rfl, rfl, trivial⟩ (v_X1_goOn_82 hL d (by omega) g hg zN S a2 a3 (S.1 16 ((a2 - (1 : Int32))).toNatClampNeg) ((S.1 16 0) + (1 : Int32)) _ _ hf)
            · replace hf := (if_pos c6).symm.trans hf
              exact zV_sub ([(0, .ref 15), (1, .ref q), (4, .int (S.1 16 ((a2 - (1 : Int32))).toNatClampNeg))]) ⟨rfl, rfl, rfl, trivial⟩ (v_X1_goOn_51 hL d (by omega) g hg S (S.1 16 ((a2 - (1 : Int32))).toNatClampNeg) _ _ hf)
        · replace hf := (if_neg c3).symm.trans hf
          refine zv_iconst (v := 0) dX1_goOn_22 (by decide) ?_
          exact zv_iret (ty := .boolean) dX1_goOn_23 rfl rfl (zret2 wd hf)
-- KingPrices$RingSearch.find(LKingPrices$Land;)Z height 13 writes
def f_X1_find_17 (k2 : zS → Int32 → Option (Int32 × zS)) (q : Nat) : Nat → zS → Int32 → Int32 → Option (Int32 × zS)
  | 0, _, _, _ => none
  | n + 1, S, a2, a3 => (if (S.1 q 6) ≤ a3 then k2 S (a2 + (1 : Int32)) else (zb2 (f_X1_goOn 10 (zr S 16 (upd (S.1 16) 0 a3)) q (1 : Int32) ((1 : Int32) <<< (a3 &&& 31))) (fun x3 S4 => (if x3 = 0 then f_X1_find_17 k2 q n S4 a2 (a3 + (1 : Int32)) else some ((1 : Int32), S4)))))
set_option maxRecDepth 100000 in
set_option maxHeartbeats 4000000 in
theorem v_X1_find_17 {q : Nat} (hL : zLand wd q) (d : Nat) (hd : 12 ≤ d) (k2 : zS → Int32 → Option (Int32 × zS)) (hk2 : ∀ (S : zS) (a2 : Int32) v S', k2 S a2 = (some (v, S')) → zV none (d + 1) yX1_find cX1_find 4 (some .boolean) 2 [(0, .ref 15), (1, .ref q), (2, .int a2)] [] (wd S) (zq (some (.int v)) (wd S'))) : ∀ (n : Nat) (S : zS) (a2 : Int32) (a3 : Int32) (v : Int32) (S' : zS), f_X1_find_17 k2 q n S a2 a3 = (some (v, S')) → zV none (d + 1) yX1_find cX1_find 4 (some .boolean) 17 [(0, .ref 15), (1, .ref q), (2, .int a2), (3, .int a3)] [] (wd S) (zq (some (.int v)) (wd S')) := by
  intro n
  induction n with
  | zero =>
    intro S a2 a3 v S' hf
    cases hf
  | succ n ih =>
    intro S a2 a3 v S' hf
    rw [f_X1_find_17] at hf
    refine zv_iload_n dX1_find_17 rfl rfl ?_
    refine zv_aload_n dX1_find_18 rfl rfl ?_
    refine zv_get zf_X1_15 (hL.1 S) rfl dX1_find_19 ?_
    refine zv_icmp_ge (tgt := 52) dX1_find_22 (by decide) (fun c1 => ?_) (fun c1 => ?_)
    · replace hf := (if_pos c1).symm.trans hf
      refine zv_iinc (v := 1) dX1_find_52 rfl (by decide) (by decide) ?_
      refine zv_goto (tgt := 2) dX1_find_55 (by decide) ?_
      exact zV_sub ([(0, .ref 15), (1, .ref q), (2, .int (a2 + (1 : Int32)))]) ⟨rfl, rfl, rfl, trivial⟩ (hk2 S (a2 + (1 : Int32)) _ _ hf)
    · replace hf := (if_neg c1).symm.trans hf
      refine zv_aload_n dX1_find_25 rfl rfl ?_
      refine zv_get zf_X1_9 (wo_15 S) rfl dX1_find_26 ?_
      refine zv_iconst (v := 0) dX1_find_29 (by decide) ?_
      refine zv_iload_n dX1_find_30 rfl rfl ?_
      refine zv_iastK (k := 0) (by decide) (by decide) (wo_16 S) (ws_16 S (upd (S.1 16) 0 a3)) dX1_find_31 ?_
      refine zv_aload_n dX1_find_32 rfl rfl ?_
      refine zv_aload_n dX1_find_33 rfl rfl ?_
      refine zv_iconst (v := 1) dX1_find_34 (by decide) ?_
      refine zv_iconst (v := 1) dX1_find_35 (by decide) ?_
      refine zv_iload_n dX1_find_36 rfl rfl ?_
      refine zv_ishl dX1_find_37 ?_
      obtain ⟨x3, S4, hc2, hf⟩ := zbind2 hf
      refine zv_callV dX1_find_38 zk_X1_24 zm_X1_goOn (c_X1_goOn hL 10 d (by omega) (zr S 16 (upd (S.1 16) 0 a3)) (1 : Int32) ((1 : Int32) <<< (a3 &&& 31)) x3 S4 hc2) (wo_15 (zr S 16 (upd (S.1 16) 0 a3))) rfl rfl rfl (Nat.le_of_ble_eq_true rfl) ?_
      refine zv_if_eq (tgt := 46) dX1_find_41 (by decide) (fun c5 => ?_) (fun c5 => ?_)
      · replace hf := (if_pos c5).symm.trans hf
        refine zv_iinc (v := 1) dX1_find_46 rfl (by decide) (by decide) ?_
        refine zv_goto (tgt := 17) dX1_find_49 (by decide) ?_
        exact zV_sub ([(0, .ref 15), (1, .ref q), (2, .int a2), (3, .int (a3 + (1 : Int32)))]) ⟨rfl, rfl, rfl, rfl, trivial⟩ (ih S4 a2 (a3 + (1 : Int32)) _ _ hf)
      · replace hf := (if_neg c5).symm.trans hf
        refine zv_iconst (v := 1) dX1_find_44 (by decide) ?_
        exact zv_iret (ty := .boolean) dX1_find_45 rfl rfl (zret2 wd hf)
def f_X1_find_2 (q : Nat) : Nat → zS → Int32 → Option (Int32 × zS)
  | 0, _, _ => none
  | n + 1, S, a2 => (if (S.1 q 6) < a2 then some ((0 : Int32), S) else f_X1_find_17 (f_X1_find_2 q n) q zN (zu S 15 1 a2) a2 (0 : Int32))
set_option maxRecDepth 100000 in
set_option maxHeartbeats 4000000 in
theorem v_X1_find_2 {q : Nat} (hL : zLand wd q) (d : Nat) (hd : 12 ≤ d) : ∀ (n : Nat) (S : zS) (a2 : Int32) (v : Int32) (S' : zS), f_X1_find_2 q n S a2 = (some (v, S')) → zV none (d + 1) yX1_find cX1_find 4 (some .boolean) 2 [(0, .ref 15), (1, .ref q), (2, .int a2)] [] (wd S) (zq (some (.int v)) (wd S')) := by
  intro n
  induction n with
  | zero =>
    intro S a2 v S' hf
    cases hf
  | succ n ih =>
    intro S a2 v S' hf
    rw [f_X1_find_2] at hf
    refine zv_iload_n dX1_find_2 rfl rfl ?_
    refine zv_aload_n dX1_find_3 rfl rfl ?_
    refine zv_get zf_X1_15 (hL.1 S) rfl dX1_find_4 ?_
    refine zv_icmp_gt (tgt := 58) dX1_find_7 (by decide) (fun c1 => ?_) (fun c1 => ?_)
    · replace hf := (if_pos c1).symm.trans hf
      refine zv_iconst (v := 0) dX1_find_58 (by decide) ?_
      exact zv_iret (ty := .boolean) dX1_find_59 rfl rfl (zret2 wd hf)
    · replace hf := (if_neg c1).symm.trans hf
      refine zv_aload_n dX1_find_10 rfl rfl ?_
      refine zv_iload_n dX1_find_11 rfl rfl ?_
      refine zv_put zp_X1_21 (wo_15 S) rfl (fun _ => ⟨rfl, rfl⟩) (Nat.le_of_ble_eq_true rfl) (wp_15_1 S a2) dX1_find_12 ?_
      refine zv_iconst (v := 0) dX1_find_15 (by decide) ?_
      refine zv_istore_n dX1_find_16 rfl (by decide) ?_
      exact zV_sub ([(0, .ref 15), (1, .ref q), (2, .int a2), (3, .int (0 : Int32))]) ⟨rfl, rfl, rfl, rfl, trivial⟩ (v_X1_find_17 hL d (by omega) (f_X1_find_2 q n) ih zN (zu S 15 1 a2) a2 (0 : Int32) _ _ hf)
def f_X1_find (S : zS) (q : Nat) : Option (Int32 × zS) :=
  f_X1_find_2 q zN S (2 : Int32)
set_option maxRecDepth 100000 in
set_option maxHeartbeats 4000000 in
theorem c_X1_find {q : Nat} (hL : zLand wd q) (d : Nat) (hd : 13 ≤ d) (S : zS) (v : Int32) (S' : zS) (hf : f_X1_find S q = (some (v, S'))) : zC d yX1_find cX1_find 4 (some .boolean) [.ref 15, .ref q] (wd S) (zq (some (.int v)) (wd S')) := by
  obtain ⟨d, rfl⟩ : ∃ e, d = e + 1 := ⟨d - 1, by omega⟩
  refine zC_intro (by decide) rfl (Nat.le_of_ble_eq_true rfl) ?_
  unfold f_X1_find at hf
  refine zv_iconst (v := 2) dX1_find_0 (by decide) ?_
  refine zv_istore_n dX1_find_1 rfl (by decide) ?_
  exact zV_sub ([(0, .ref 15), (1, .ref q), (2, .int (2 : Int32))]) ⟨rfl, rfl, rfl, trivial⟩ (v_X1_find_2 hL d (by omega) zN S (2 : Int32) _ _ hf)
-- KingPrices$RingSearch.leastDebt(LKingPrices$Land;)I height 2 reads
def f_X1_leastDebt_33 (k6 : zS → Int32 → Int32 → Option Int32) (q : Nat) (S : zS) (a2 : Int32) (a3 : Int32) (a4 : Int32) : Option Int32 :=
  ((f_X1_at S a3).bind (fun x2 => ((f_X1_at S a4).bind (fun x4 => ((f_X0_debt S q x2 x4).bind (fun x6 => k6 S (if x6 < a2 then x6 else a2) (a3 + (1 : Int32))))))))
set_option maxRecDepth 100000 in
set_option maxHeartbeats 4000000 in
theorem v_X1_leastDebt_33 {q : Nat} (hL : zLand wd q) (d : Nat) (hd : 1 ≤ d) (k6 : zS → Int32 → Int32 → Option Int32) (hk6 : ∀ (S : zS) (a2 a3 : Int32) v, k6 S a2 a3 = (some v) → zV none (d + 1) yX1_leastDebt cX1_leastDebt 5 (some .int) 6 [(0, .ref 15), (1, .ref q), (2, .int a2), (3, .int a3)] [] (wd S) (zq (some (.int v)) (wd S))) (S : zS) (a2 : Int32) (a3 : Int32) (a4 : Int32) (v : Int32) (hf : f_X1_leastDebt_33 k6 q S a2 a3 a4 = (some v)) : zV none (d + 1) yX1_leastDebt cX1_leastDebt 5 (some .int) 33 [(0, .ref 15), (1, .ref q), (2, .int a2), (3, .int a3), (4, .int a4)] [] (wd S) (zq (some (.int v)) (wd S)) := by
  unfold f_X1_leastDebt_33 at hf
  refine zv_iload_n dX1_leastDebt_33 rfl rfl ?_
  refine zv_aload_n dX1_leastDebt_34 rfl rfl ?_
  refine zv_aload_n dX1_leastDebt_35 rfl rfl ?_
  refine zv_iload_n dX1_leastDebt_36 rfl rfl ?_
  obtain ⟨x2, hc1, hf⟩ := zbind hf
  refine zv_callV dX1_leastDebt_37 zk_X1_28 zm_X1_at (c_X1_at  d S a3 x2 hc1) (wo_15 S) rfl rfl rfl (Nat.le_of_ble_eq_true rfl) ?_
  refine zv_aload_n dX1_leastDebt_40 rfl rfl ?_
  refine zv_iload dX1_leastDebt_41 rfl ?_
  obtain ⟨x4, hc3, hf⟩ := zbind hf
  refine zv_callV dX1_leastDebt_43 zk_X1_28 zm_X1_at (c_X1_at  d S a4 x4 hc3) (wo_15 S) rfl rfl rfl (Nat.le_of_ble_eq_true rfl) ?_
  obtain ⟨x6, hc5, hf⟩ := zbind hf
  refine zv_callV dX1_leastDebt_46 zk_X1_32 zm_X0_debt (c_X0_debt hL d (by omega) S x2 x4 x6 hc5) (hL.1 S) rfl rfl rfl (Nat.le_of_ble_eq_true rfl) ?_
  refine zv_min zk_X1_36 (Nat.le_of_ble_eq_true rfl) dX1_leastDebt_49 ?_
  refine zv_istore_n dX1_leastDebt_52 rfl (by decide) ?_
  refine zv_iinc (v := 1) dX1_leastDebt_53 rfl (by decide) (by decide) ?_
  refine zv_goto (tgt := 6) dX1_leastDebt_56 (by decide) ?_
  exact zV_sub ([(0, .ref 15), (1, .ref q), (2, .int (if x6 < a2 then x6 else a2)), (3, .int (a3 + (1 : Int32)))]) ⟨rfl, rfl, rfl, rfl, trivial⟩ (hk6 S (if x6 < a2 then x6 else a2) (a3 + (1 : Int32)) _ hf)
def f_X1_leastDebt_6 (q : Nat) : Nat → zS → Int32 → Int32 → Option Int32
  | 0, _, _, _ => none
  | n + 1, S, a2, a3 => (if (S.1 15 1) ≤ a3 then some a2 else (if (S.1 15 1) ≤ (a3 + (1 : Int32)) then f_X1_leastDebt_33 (f_X1_leastDebt_6 q n) q S a2 a3 (0 : Int32) else f_X1_leastDebt_33 (f_X1_leastDebt_6 q n) q S a2 a3 (a3 + (1 : Int32))))
set_option maxRecDepth 100000 in
set_option maxHeartbeats 4000000 in
theorem v_X1_leastDebt_6 {q : Nat} (hL : zLand wd q) (d : Nat) (hd : 1 ≤ d) : ∀ (n : Nat) (S : zS) (a2 : Int32) (a3 : Int32) (v : Int32), f_X1_leastDebt_6 q n S a2 a3 = (some v) → zV none (d + 1) yX1_leastDebt cX1_leastDebt 5 (some .int) 6 [(0, .ref 15), (1, .ref q), (2, .int a2), (3, .int a3)] [] (wd S) (zq (some (.int v)) (wd S)) := by
  intro n
  induction n with
  | zero =>
    intro S a2 a3 v hf
    cases hf
  | succ n ih =>
    intro S a2 a3 v hf
    rw [f_X1_leastDebt_6] at hf
    refine zv_iload_n dX1_leastDebt_6 rfl rfl ?_
    refine zv_aload_n dX1_leastDebt_7 rfl rfl ?_
    refine zv_get zf_X1_21 (wo_15 S) rfl dX1_leastDebt_8 ?_
    refine zv_icmp_ge (tgt := 59) dX1_leastDebt_11 (by decide) (fun c1 => ?_) (fun c1 => ?_)
    · replace hf := (if_pos c1).symm.trans hf
      refine zv_iload_n dX1_leastDebt_59 rfl rfl ?_
      exact zv_iret (ty := .int) dX1_leastDebt_60 rfl rfl (zret1 hf)
    · replace hf := (if_neg c1).symm.trans hf
      refine zv_iload_n dX1_leastDebt_14 rfl rfl ?_
      refine zv_iconst (v := 1) dX1_leastDebt_15 (by decide) ?_
      refine zv_iadd dX1_leastDebt_16 ?_
      refine zv_aload_n dX1_leastDebt_17 rfl rfl ?_
      refine zv_get zf_X1_21 (wo_15 S) rfl dX1_leastDebt_18 ?_
      refine zv_icmp_ge (tgt := 30) dX1_leastDebt_21 (by decide) (fun c2 => ?_) (fun c2 => ?_)
      · replace hf := (if_pos c2).symm.trans hf
        refine zv_iconst (v := 0) dX1_leastDebt_30 (by decide) ?_
        refine zv_istore dX1_leastDebt_31 (by decide) ?_
        exact zV_sub ([(0, .ref 15), (1, .ref q), (2, .int a2), (3, .int a3), (4, .int (0 : Int32))]) ⟨rfl, rfl, rfl, rfl, rfl, trivial⟩ (v_X1_leastDebt_33 hL d (by omega) (f_X1_leastDebt_6 q n) ih S a2 a3 (0 : Int32) _ hf)
      · replace hf := (if_neg c2).symm.trans hf
        refine zv_iload_n dX1_leastDebt_24 rfl rfl ?_
        refine zv_iconst (v := 1) dX1_leastDebt_25 (by decide) ?_
        refine zv_iadd dX1_leastDebt_26 ?_
        refine zv_goto (tgt := 31) dX1_leastDebt_27 (by decide) ?_
        refine zv_istore dX1_leastDebt_31 (by decide) ?_
        exact zV_sub ([(0, .ref 15), (1, .ref q), (2, .int a2), (3, .int a3), (4, .int (a3 + (1 : Int32)))]) ⟨rfl, rfl, rfl, rfl, rfl, trivial⟩ (v_X1_leastDebt_33 hL d (by omega) (f_X1_leastDebt_6 q n) ih S a2 a3 (a3 + (1 : Int32)) _ hf)
def f_X1_leastDebt (S : zS) (q : Nat) : Option Int32 :=
  f_X1_leastDebt_6 q zN S (999 : Int32) (0 : Int32)
set_option maxRecDepth 100000 in
set_option maxHeartbeats 4000000 in
theorem c_X1_leastDebt {q : Nat} (hL : zLand wd q) (d : Nat) (hd : 2 ≤ d) (S : zS) (v : Int32) (hf : f_X1_leastDebt S q = (some v)) : zC d yX1_leastDebt cX1_leastDebt 5 (some .int) [.ref 15, .ref q] (wd S) (zq (some (.int v)) (wd S)) := by
  obtain ⟨d, rfl⟩ : ∃ e, d = e + 1 := ⟨d - 1, by omega⟩
  refine zC_intro (by decide) rfl (Nat.le_of_ble_eq_true rfl) ?_
  unfold f_X1_leastDebt at hf
  refine zv_sipush (v := 999) dX1_leastDebt_0 (by decide) ?_
  refine zv_istore_n dX1_leastDebt_3 rfl (by decide) ?_
  refine zv_iconst (v := 0) dX1_leastDebt_4 (by decide) ?_
  refine zv_istore_n dX1_leastDebt_5 rfl (by decide) ?_
  exact zV_sub ([(0, .ref 15), (1, .ref q), (2, .int (999 : Int32)), (3, .int (0 : Int32))]) ⟨rfl, rfl, rfl, rfl, trivial⟩ (v_X1_leastDebt_6 hL d (by omega) zN S (999 : Int32) (0 : Int32) _ hf)
-- KingPrices$TourSearch.at(I)I height 0 reads
def f_X4_at (S : zS) (a1 : Int32) : Option Int32 :=
  (if a1 < (0 : Int32) then some ((-9 : Int32)) else (if (S.1 11 3) ≤ a1 then some ((-9 : Int32)) else (if (6 : Int32) ≤ a1 then some ((-9 : Int32)) else (if zin a1 6 then some ((S.1 14 (a1).toNatClampNeg)) else none))))
set_option maxRecDepth 100000 in
set_option maxHeartbeats 4000000 in
theorem c_X4_at  (d : Nat) (S : zS) (a1 : Int32) (v : Int32) (hf : f_X4_at S a1 = (some v)) : zC d yX4_at cX4_at 2 (some .int) [.ref 11, .int a1] (wd S) (zq (some (.int v)) (wd S)) := by
  refine zC_intro (by decide) rfl (Nat.le_of_ble_eq_true rfl) ?_
  unfold f_X4_at at hf
  refine zv_iconst (v := 0) dX4_at_0 (by decide) ?_
  refine zv_iload_n dX4_at_1 rfl rfl ?_
  refine zv_icmp_gt (tgt := 31) dX4_at_2 (by decide) (fun c1 => ?_) (fun c1 => ?_)
  · replace hf := (if_pos c1).symm.trans hf
    refine zv_bipush (v := -9) dX4_at_31 (by decide) ?_
    exact zv_iret (ty := .int) dX4_at_33 rfl rfl (zret1 hf)
  · replace hf := (if_neg c1).symm.trans hf
    refine zv_iload_n dX4_at_5 rfl rfl ?_
    refine zv_aload_n dX4_at_6 rfl rfl ?_
    refine zv_get zf_X4_42 (wo_11 S) rfl dX4_at_7 ?_
    refine zv_icmp_ge (tgt := 31) dX4_at_10 (by decide) (fun c2 => ?_) (fun c2 => ?_)
    · replace hf := (if_pos c2).symm.trans hf
      refine zv_bipush (v := -9) dX4_at_31 (by decide) ?_
      exact zv_iret (ty := .int) dX4_at_33 rfl rfl (zret1 hf)
    · replace hf := (if_neg c2).symm.trans hf
      refine zv_iload_n dX4_at_13 rfl rfl ?_
      refine zv_aload_n dX4_at_14 rfl rfl ?_
      refine zv_get zf_X4_18 (wo_11 S) rfl dX4_at_15 ?_
      refine zv_alen (v := 6) (t := 0) (by decide) (by decide) (wo_14 S) dX4_at_18 ?_
      refine zv_icmp_ge (tgt := 31) dX4_at_19 (by decide) (fun c3 => ?_) (fun c3 => ?_)
      · replace hf := (if_pos c3).symm.trans hf
        refine zv_bipush (v := -9) dX4_at_31 (by decide) ?_
        exact zv_iret (ty := .int) dX4_at_33 rfl rfl (zret1 hf)
      · replace hf := (if_neg c3).symm.trans hf
        refine zv_aload_n dX4_at_22 rfl rfl ?_
        refine zv_get zf_X4_18 (wo_11 S) rfl dX4_at_23 ?_
        refine zv_iload_n dX4_at_26 rfl rfl ?_
        obtain ⟨hb4, hf⟩ := zifb hf
        refine zv_iald hb4 (wo_14 S) dX4_at_27 ?_
        refine zv_goto (tgt := 33) dX4_at_28 (by decide) ?_
        exact zv_iret (ty := .int) dX4_at_33 rfl rfl (zret1 hf)
-- KingPrices$TourSearch.isWorthGoing(LKingPrices$Land;IIII)Z height 0 reads
def f_X4_isWorthGoing_27 (q : Nat) (S : zS) (a2 : Int32) (a3 : Int32) (a4 : Int32) (a6 : Int32) : Option Int32 :=
  (if a6 = 0 then some ((0 : Int32)) else (if a2 < (0 : Int32) then some ((0 : Int32)) else (if (6 : Int32) ≤ a2 then some ((0 : Int32)) else (if zin a2 6 then (if (S.1 12 (a2).toNatClampNeg) ≤ 0 then some ((0 : Int32)) else (if a4 < ((S.1 q 8) * a3) then some ((0 : Int32)) else some ((1 : Int32)))) else none))))
set_option maxRecDepth 100000 in
set_option maxHeartbeats 4000000 in
theorem v_X4_isWorthGoing_27 {q : Nat} (hL : zLand wd q) (d : Nat) (S : zS) (a2 : Int32) (a3 : Int32) (a4 : Int32) (a6 : Int32) (v : Int32) (hf : f_X4_isWorthGoing_27 q S a2 a3 a4 a6 = (some v)) : zV none d yX4_isWorthGoing cX4_isWorthGoing 7 (some .boolean) 27 [(0, .ref 11), (1, .ref q), (2, .int a2), (3, .int a3), (4, .int a4), (6, .int a6)] [] (wd S) (zq (some (.int v)) (wd S)) := by
  unfold f_X4_isWorthGoing_27 at hf
  refine zv_iload dX4_isWorthGoing_27 rfl ?_
  refine zv_if_eq (tgt := 70) dX4_isWorthGoing_29 (by decide) (fun c1 => ?_) (fun c1 => ?_)
  · replace hf := (if_pos c1).symm.trans hf
    refine zv_iconst (v := 0) dX4_isWorthGoing_70 (by decide) ?_
    exact zv_iret (ty := .boolean) dX4_isWorthGoing_71 rfl rfl (zret1 hf)
  · replace hf := (if_neg c1).symm.trans hf
    refine zv_iconst (v := 0) dX4_isWorthGoing_32 (by decide) ?_
    refine zv_iload_n dX4_isWorthGoing_33 rfl rfl ?_
    refine zv_icmp_gt (tgt := 70) dX4_isWorthGoing_34 (by decide) (fun c2 => ?_) (fun c2 => ?_)
    · replace hf := (if_pos c2).symm.trans hf
      refine zv_iconst (v := 0) dX4_isWorthGoing_70 (by decide) ?_
      exact zv_iret (ty := .boolean) dX4_isWorthGoing_71 rfl rfl (zret1 hf)
    · replace hf := (if_neg c2).symm.trans hf
      refine zv_iload_n dX4_isWorthGoing_37 rfl rfl ?_
      refine zv_aload_n dX4_isWorthGoing_38 rfl rfl ?_
      refine zv_get zf_X4_9 (wo_11 S) rfl dX4_isWorthGoing_39 ?_
      refine zv_alen (v := 6) (t := 0) (by decide) (by decide) (wo_12 S) dX4_isWorthGoing_42 ?_
      refine zv_icmp_ge (tgt := 70) dX4_isWorthGoing_43 (by decide) (fun c3 => ?_) (fun c3 => ?_)
      · replace hf := (if_pos c3).symm.trans hf
        refine zv_iconst (v := 0) dX4_isWorthGoing_70 (by decide) ?_
        exact zv_iret (ty := .boolean) dX4_isWorthGoing_71 rfl rfl (zret1 hf)
      · replace hf := (if_neg c3).symm.trans hf
        refine zv_aload_n dX4_isWorthGoing_46 rfl rfl ?_
        refine zv_get zf_X4_9 (wo_11 S) rfl dX4_isWorthGoing_47 ?_
        refine zv_iload_n dX4_isWorthGoing_50 rfl rfl ?_
        obtain ⟨hb4, hf⟩ := zifb hf
        refine zv_iald hb4 (wo_12 S) dX4_isWorthGoing_51 ?_
        refine zv_if_le (tgt := 70) dX4_isWorthGoing_52 (by decide) (fun c5 => ?_) (fun c5 => ?_)
        · replace hf := (if_pos c5).symm.trans hf
          refine zv_iconst (v := 0) dX4_isWorthGoing_70 (by decide) ?_
          exact zv_iret (ty := .boolean) dX4_isWorthGoing_71 rfl rfl (zret1 hf)
        · replace hf := (if_neg c5).symm.trans hf
          refine zv_iload dX4_isWorthGoing_55 rfl ?_
          refine zv_aload_n dX4_isWorthGoing_57 rfl rfl ?_
          refine zv_get zf_X4_49 (hL.1 S) rfl dX4_isWorthGoing_58 ?_
          refine zv_iload_n dX4_isWorthGoing_61 rfl rfl ?_
          refine zv_imul dX4_isWorthGoing_62 ?_
          refine zv_icmp_lt (tgt := 70) dX4_isWorthGoing_63 (by decide) (fun c6 => ?_) (fun c6 => ?_)
          · replace hf := (if_pos c6).symm.trans hf
            refine zv_iconst (v := 0) dX4_isWorthGoing_70 (by decide) ?_
            exact zv_iret (ty := .boolean) dX4_isWorthGoing_71 rfl rfl (zret1 hf)
          · replace hf := (if_neg c6).symm.trans hf
            refine zv_iconst (v := 1) dX4_isWorthGoing_66 (by decide) ?_
            refine zv_goto (tgt := 71) dX4_isWorthGoing_67 (by decide) ?_
            exact zv_iret (ty := .boolean) dX4_isWorthGoing_71 rfl rfl (zret1 hf)
def f_X4_isWorthGoing_20 (q : Nat) (S : zS) (a2 : Int32) (a3 : Int32) (a4 : Int32) : Option Int32 :=
  f_X4_isWorthGoing_27 q S a2 a3 a4 (1 : Int32)
set_option maxRecDepth 100000 in
set_option maxHeartbeats 4000000 in
theorem v_X4_isWorthGoing_20 {q : Nat} (hL : zLand wd q) (d : Nat) (S : zS) (a2 : Int32) (a3 : Int32) (a4 : Int32) (v : Int32) (hf : f_X4_isWorthGoing_20 q S a2 a3 a4 = (some v)) : zV none d yX4_isWorthGoing cX4_isWorthGoing 7 (some .boolean) 20 [(0, .ref 11), (1, .ref q), (2, .int a2), (3, .int a3), (4, .int a4)] [] (wd S) (zq (some (.int v)) (wd S)) := by
  unfold f_X4_isWorthGoing_20 at hf
  refine zv_iconst (v := 1) dX4_isWorthGoing_20 (by decide) ?_
  refine zv_goto (tgt := 25) dX4_isWorthGoing_21 (by decide) ?_
  refine zv_istore dX4_isWorthGoing_25 (by decide) ?_
  exact zV_sub ([(0, .ref 11), (1, .ref q), (2, .int a2), (3, .int a3), (4, .int a4), (6, .int (1 : Int32))]) ⟨rfl, rfl, rfl, rfl, rfl, rfl, trivial⟩ (v_X4_isWorthGoing_27 hL d S a2 a3 a4 (1 : Int32) _ hf)
def f_X4_isWorthGoing (S : zS) (q : Nat) (a2 : Int32) (a3 : Int32) (a4 : Int32) (a5 : Int32) : Option Int32 :=
  (if (S.1 11 6) = (-9 : Int32) then f_X4_isWorthGoing_20 q S a2 a3 a4 else (if (S.1 11 6) ≤ (a5 + a3) then f_X4_isWorthGoing_27 q S a2 a3 a4 (0 : Int32) else f_X4_isWorthGoing_20 q S a2 a3 a4))
set_option maxRecDepth 100000 in
set_option maxHeartbeats 4000000 in
theorem c_X4_isWorthGoing {q : Nat} (hL : zLand wd q) (d : Nat) (S : zS) (a2 : Int32) (a3 : Int32) (a4 : Int32) (a5 : Int32) (v : Int32) (hf : f_X4_isWorthGoing S q a2 a3 a4 a5 = (some v)) : zC d yX4_isWorthGoing cX4_isWorthGoing 7 (some .boolean) [.ref 11, .ref q, .int a2, .int a3, .int a4, .int a5] (wd S) (zq (some (.int v)) (wd S)) := by
  refine zC_intro (by decide) rfl (Nat.le_of_ble_eq_true rfl) ?_
  unfold f_X4_isWorthGoing at hf
  refine zv_aload_n dX4_isWorthGoing_0 rfl rfl ?_
  refine zv_get zf_X4_34 (wo_11 S) rfl dX4_isWorthGoing_1 ?_
  refine zv_bipush (v := -9) dX4_isWorthGoing_4 (by decide) ?_
  refine zv_icmp_eq (tgt := 20) dX4_isWorthGoing_6 (by decide) (fun c1 => ?_) (fun c1 => ?_)
  · replace hf := (if_pos c1).symm.trans hf
    exact zV_sub ([(0, .ref 11), (1, .ref q), (2, .int a2), (3, .int a3), (4, .int a4)]) ⟨rfl, rfl, rfl, rfl, rfl, trivial⟩ (v_X4_isWorthGoing_20 hL d S a2 a3 a4 _ hf)
  · replace hf := (if_neg c1).symm.trans hf
    refine zv_iload dX4_isWorthGoing_9 rfl ?_
    refine zv_iload_n dX4_isWorthGoing_11 rfl rfl ?_
    refine zv_iadd dX4_isWorthGoing_12 ?_
    refine zv_aload_n dX4_isWorthGoing_13 rfl rfl ?_
    refine zv_get zf_X4_34 (wo_11 S) rfl dX4_isWorthGoing_14 ?_
    refine zv_icmp_ge (tgt := 24) dX4_isWorthGoing_17 (by decide) (fun c2 => ?_) (fun c2 => ?_)
    · replace hf := (if_pos c2).symm.trans hf
      refine zv_iconst (v := 0) dX4_isWorthGoing_24 (by decide) ?_
      refine zv_istore dX4_isWorthGoing_25 (by decide) ?_
      exact zV_sub ([(0, .ref 11), (1, .ref q), (2, .int a2), (3, .int a3), (4, .int a4), (6, .int (0 : Int32))]) ⟨rfl, rfl, rfl, rfl, rfl, rfl, trivial⟩ (v_X4_isWorthGoing_27 hL d S a2 a3 a4 (0 : Int32) _ hf)
    · replace hf := (if_neg c2).symm.trans hf
      exact zV_sub ([(0, .ref 11), (1, .ref q), (2, .int a2), (3, .int a3), (4, .int a4)]) ⟨rfl, rfl, rfl, rfl, rfl, trivial⟩ (v_X4_isWorthGoing_20 hL d S a2 a3 a4 _ hf)
-- KingPrices$TourSearch.goOn(LKingPrices$Land;IIIII)V height 2 writes
def f_X4_goOn_51 (g : zS → Nat → Int32 → Int32 → Int32 → Int32 → Int32 → Option zS) (q : Nat) (S : zS) (a6 : Int32) : Option zS :=
  some (zu (zr S 14 (va_cpy (S.1 13) (S.1 14) 0 0 6)) 11 6 a6)
set_option maxRecDepth 100000 in
set_option maxHeartbeats 4000000 in
theorem v_X4_goOn_51 {q : Nat} (hL : zLand wd q) (d : Nat) (hd : 1 ≤ d) (g : zS → Nat → Int32 → Int32 → Int32 → Int32 → Int32 → Option zS) (hg : ∀ (S : zS) (a2 a3 a4 a5 a6 : Int32) S', g S q a2 a3 a4 a5 a6 = (some S') → zC d yX4_goOn cX4_goOn 11 none [.ref 11, .ref q, .int a2, .int a3, .int a4, .int a5, .int a6] (wd S) (zq none (wd S'))) (S : zS) (a6 : Int32) (S' : zS) (hf : f_X4_goOn_51 g q S a6 = (some S')) : zV none (d + 1) yX4_goOn cX4_goOn 11 none 51 [(0, .ref 11), (6, .int a6)] [] (wd S) (zq none (wd S')) := by
  unfold f_X4_goOn_51 at hf
  refine zv_aload_n dX4_goOn_51 rfl rfl ?_
  refine zv_get zf_X4_15 (wo_11 S) rfl dX4_goOn_52 ?_
  refine zv_iconst (v := 0) dX4_goOn_55 (by decide) ?_
  refine zv_aload_n dX4_goOn_56 rfl rfl ?_
  refine zv_get zf_X4_18 (wo_11 S) rfl dX4_goOn_57 ?_
  refine zv_iconst (v := 0) dX4_goOn_60 (by decide) ?_
  refine zv_aload_n dX4_goOn_61 rfl rfl ?_
  refine zv_get zf_X4_15 (wo_11 S) rfl dX4_goOn_62 ?_
  refine zv_alen (v := 6) (t := 0) (by decide) (by decide) (wo_13 S) dX4_goOn_65 ?_
  refine zv_copyK (k0 := 0) (k1 := 0) (k2 := 6) (by decide) (by decide) (by decide) (by unfold zcpy; decide) zk_X4_52 (wo_13 S) (wo_14 S) (ws_14 S (va_cpy (S.1 13) (S.1 14) 0 0 6)) (Nat.le_of_ble_eq_true rfl) dX4_goOn_66 ?_
  refine zv_aload_n dX4_goOn_69 rfl rfl ?_
  refine zv_iload dX4_goOn_70 rfl ?_
  refine zv_put zp_X4_34 (wo_11 (zr S 14 (va_cpy (S.1 13) (S.1 14) 0 0 6))) rfl (fun _ => ⟨rfl, rfl⟩) (Nat.le_of_ble_eq_true rfl) (wp_11_6 (zr S 14 (va_cpy (S.1 13) (S.1 14) 0 0 6)) a6) dX4_goOn_72 ?_
  exact zv_vret dX4_goOn_75 rfl (zret0 wd hf)
def f_X4_goOn_191 (g : zS → Nat → Int32 → Int32 → Int32 → Int32 → Int32 → Option zS) (k79 : zS → Int32 → Int32 → Int32 → Int32 → Int32 → Int32 → Option zS) (q : Nat) (S : zS) (a2 : Int32) (a3 : Int32) (a4 : Int32) (a5 : Int32) (a6 : Int32) (a8 : Int32) : Option zS :=
  k79 S a2 a3 a4 a5 a6 (a8 + (1 : Int32))
set_option maxRecDepth 100000 in
set_option maxHeartbeats 4000000 in
theorem v_X4_goOn_191 {q : Nat} (hL : zLand wd q) (d : Nat) (hd : 1 ≤ d) (g : zS → Nat → Int32 → Int32 → Int32 → Int32 → Int32 → Option zS) (hg : ∀ (S : zS) (a2 a3 a4 a5 a6 : Int32) S', g S q a2 a3 a4 a5 a6 = (some S') → zC d yX4_goOn cX4_goOn 11 none [.ref 11, .ref q, .int a2, .int a3, .int a4, .int a5, .int a6] (wd S) (zq none (wd S'))) (k79 : zS → Int32 → Int32 → Int32 → Int32 → Int32 → Int32 → Option zS) (hk79 : ∀ (S : zS) (a2 a3 a4 a5 a6 a8 : Int32) S', k79 S a2 a3 a4 a5 a6 a8 = (some S') → zV none (d + 1) yX4_goOn cX4_goOn 11 none 79 [(0, .ref 11), (1, .ref q), (2, .int a2), (3, .int a3), (4, .int a4), (5, .int a5), (6, .int a6), (8, .int a8)] [] (wd S) (zq none (wd S'))) (S : zS) (a2 : Int32) (a3 : Int32) (a4 : Int32) (a5 : Int32) (a6 : Int32) (a8 : Int32) (S' : zS) (hf : f_X4_goOn_191 g k79 q S a2 a3 a4 a5 a6 a8 = (some S')) : zV none (d + 1) yX4_goOn cX4_goOn 11 none 191 [(0, .ref 11), (1, .ref q), (2, .int a2), (3, .int a3), (4, .int a4), (5, .int a5), (6, .int a6), (8, .int a8)] [] (wd S) (zq none (wd S')) := by
  unfold f_X4_goOn_191 at hf
  refine zv_iinc (v := 1) dX4_goOn_191 rfl (by decide) (by decide) ?_
  refine zv_goto (tgt := 79) dX4_goOn_194 (by decide) ?_
  exact zV_sub ([(0, .ref 11), (1, .ref q), (2, .int a2), (3, .int a3), (4, .int a4), (5, .int a5), (6, .int a6), (8, .int (a8 + (1 : Int32)))]) ⟨rfl, rfl, rfl, rfl, rfl, rfl, rfl, rfl, trivial⟩ (hk79 S a2 a3 a4 a5 a6 (a8 + (1 : Int32)) _ hf)
def f_X4_goOn_79 (g : zS → Nat → Int32 → Int32 → Int32 → Int32 → Int32 → Option zS) (q : Nat) : Nat → zS → Int32 → Int32 → Int32 → Int32 → Int32 → Int32 → Option zS
  | 0, _, _, _, _, _, _, _ => none
  | n + 1, S, a2, a3, a4, a5, a6, a8 => (if (S.1 q 6) ≤ a8 then some S else (if (6 : Int32) ≤ a8 then some S else ((f_X0_daysBetween S q a4 a8).bind (fun x4 => (if x4 = (-9 : Int32) then f_X4_goOn_191 g (f_X4_goOn_79 g q n) q S a2 a3 a4 a5 a6 a8 else (if ((a3 >>> (a8 &&& 31)) &&& (1 : Int32)) = 0 then ((f_X4_isWorthGoing S q a8 x4 a5 a6).bind (fun x8 => (if x8 = 0 then f_X4_goOn_191 g (f_X4_goOn_79 g q n) q S a2 a3 a4 a5 a6 a8 else (if zin a2 6 then (if zin a8 6 then ((g (zr S 13 (upd (S.1 13) (a2).toNatClampNeg a8)) q (a2 + (1 : Int32)) (a3 ||| ((1 : Int32) <<< (a8 &&& 31))) a8 ((a5 - (((zr S 13 (upd (S.1 13) (a2).toNatClampNeg a8)).1 q 8) * x4)) + ((zr S 13 (upd (S.1 13) (a2).toNatClampNeg a8)).1 12 (a8).toNatClampNeg)) (a6 + x4)).bind (fun S13 => f_X4_goOn_191 g (f_X4_goOn_79 g q n) q S13 a2 a3 a4 a5 a6 a8)) else none) else none)))) else f_X4_goOn_191 g (f_X4_goOn_79 g q n) q S a2 a3 a4 a5 a6 a8))))))
set_option maxRecDepth 100000 in
set_option maxHeartbeats 4000000 in
theorem v_X4_goOn_79 {q : Nat} (hL : zLand wd q) (d : Nat) (hd : 1 ≤ d) (g : zS → Nat → Int32 → Int32 → Int32 → Int32 → Int32 → Option zS) (hg : ∀ (S : zS) (a2 a3 a4 a5 a6 : Int32) S', g S q a2 a3 a4 a5 a6 = (some S') → zC d yX4_goOn cX4_goOn 11 none [.ref 11, .ref q, .int a2, .int a3, .int a4, .int a5, .int a6] (wd S) (zq none (wd S'))) : ∀ (n : Nat) (S : zS) (a2 : Int32) (a3 : Int32) (a4 : Int32) (a5 : Int32) (a6 : Int32) (a8 : Int32) (S' : zS), f_X4_goOn_79 g q n S a2 a3 a4 a5 a6 a8 = (some S') → zV none (d + 1) yX4_goOn cX4_goOn 11 none 79 [(0, .ref 11), (1, .ref q), (2, .int a2), (3, .int a3), (4, .int a4), (5, .int a5), (6, .int a6), (8, .int a8)] [] (wd S) (zq none (wd S')) := by
  intro n
  induction n with
  | zero =>
    intro S a2 a3 a4 a5 a6 a8 S' hf
    cases hf
  | succ n ih =>
    intro S a2 a3 a4 a5 a6 a8 S' hf
    rw [f_X4_goOn_79] at hf
    refine zv_iload dX4_goOn_79 rfl ?_
    refine zv_aload_n dX4_goOn_81 rfl rfl ?_
    refine zv_get zf_X4_37 (hL.1 S) rfl dX4_goOn_82 ?_
    refine zv_icmp_ge (tgt := 197) dX4_goOn_85 (by decide) (fun c1 => ?_) (fun c1 => ?_)
    · replace hf := (if_pos c1).symm.trans hf
      exact zv_vret dX4_goOn_197 rfl (zret0 wd hf)
    · replace hf := (if_neg c1).symm.trans hf
      refine zv_iload dX4_goOn_88 rfl ?_
      refine zv_aload_n dX4_goOn_90 rfl rfl ?_
      refine zv_get zf_X4_9 (wo_11 S) rfl dX4_goOn_91 ?_
      refine zv_alen (v := 6) (t := 0) (by decide) (by decide) (wo_12 S) dX4_goOn_94 ?_
      refine zv_icmp_ge (tgt := 197) dX4_goOn_95 (by decide) (fun c2 => ?_) (fun c2 => ?_)
      · replace hf := (if_pos c2).symm.trans hf
        exact zv_vret dX4_goOn_197 rfl (zret0 wd hf)
      · replace hf := (if_neg c2).symm.trans hf
        refine zv_aload_n dX4_goOn_98 rfl rfl ?_
        refine zv_iload dX4_goOn_99 rfl ?_
        refine zv_iload dX4_goOn_101 rfl ?_
        obtain ⟨x4, hc3, hf⟩ := zbind hf
        refine zv_callV dX4_goOn_103 zk_X4_58 zm_X0_daysBetween (c_X0_daysBetween hL d (by omega) S a4 a8 x4 hc3) (hL.1 S) rfl rfl rfl (Nat.le_of_ble_eq_true rfl) ?_
        refine zv_istore dX4_goOn_106 (by decide) ?_
        refine zv_iload dX4_goOn_108 rfl ?_
        refine zv_bipush (v := -9) dX4_goOn_110 (by decide) ?_
        refine zv_icmp_eq (tgt := 191) dX4_goOn_112 (by decide) (fun c5 => ?_) (fun c5 => ?_)
        · replace hf := (if_pos c5).symm.trans hf
          exact zV_sub ([(0, .ref 11), (1, .ref q), (2, .int a2), (3, .int a3), (4, .int a4), (5, .int a5), (6, .int a6), (8, .int a8)]) ⟨rfl, rfl, rfl, rfl, rfl, rfl, rfl, rfl, trivial⟩ (v_X4_goOn_191 hL d (by omega) g hg (f_X4_goOn_79 g q n) ih S a2 a3 a4 a5 a6 a8 _ hf)
        · replace hf := (if_neg c5).symm.trans hf
          refine zv_iload_n dX4_goOn_115 rfl rfl ?_
          refine zv_iload dX4_goOn_116 rfl ?_
          refine zv_ishr dX4_goOn_118 ?_
          refine zv_iconst (v := 1) dX4_goOn_119 (by decide) ?_
          refine zv_iand dX4_goOn_120 ?_
          refine zv_if_ne (tgt := 191) dX4_goOn_121 (by decide) (fun c6 => ?_) (fun c6 => ?_)
          · replace hf := (if_neg c6).symm.trans hf
            exact zV_sub ([(0, .ref 11), (1, .ref q), (2, .int a2), (3, .int a3), (4, .int a4), (5, .int a5), (6, .int a6), (8, .int a8)]) ⟨rfl, rfl, rfl, rfl, rfl, rfl, rfl, rfl, trivial⟩ (v_X4_goOn_191 hL d (by omega) g hg (f_X4_goOn_79 g q n) ih S a2 a3 a4 a5 a6 a8 _ hf)
          · replace hf := (if_pos c6).symm.trans hf
            refine zv_aload_n dX4_goOn_124 rfl rfl ?_
            refine zv_aload_n dX4_goOn_125 rfl rfl ?_
            refine zv_iload dX4_goOn_126 rfl ?_
            refine zv_iload dX4_goOn_128 rfl ?_
            refine zv_iload dX4_goOn_130 rfl ?_
            refine zv_iload dX4_goOn_132 rfl ?_
            obtain ⟨x8, hc7, hf⟩ := zbind hf
            refine zv_callV dX4_goOn_134 zk_X4_61 zm_X4_isWorthGoing (c_X4_isWorthGoing hL d S a8 x4 a5 a6 x8 hc7) (wo_11 S) rfl rfl rfl (Nat.le_of_ble_eq_true rfl) ?_
            refine zv_if_eq (tgt := 191) dX4_goOn_137 (by decide) (fun c9 => ?_) (fun c9 => ?_)
            · replace hf := (if_pos c9).symm.trans hf
              exact zV_sub ([(0, .ref 11), (1, .ref q), (2, .int a2), (3, .int a3), (4, .int a4), (5, .int a5), (6, .int a6), (8, .int a8)]) ⟨rfl, rfl, rfl, rfl, rfl, rfl, rfl, rfl, trivial⟩ (v_X4_goOn_191 hL d (by omega) g hg (f_X4_goOn_79 g q n) ih S a2 a3 a4 a5 a6 a8 _ hf)
            · replace hf := (if_neg c9).symm.trans hf
              refine zv_aload_n dX4_goOn_140 rfl rfl ?_
              refine zv_get zf_X4_15 (wo_11 S) rfl dX4_goOn_141 ?_
              refine zv_iload_n dX4_goOn_144 rfl rfl ?_
              refine zv_iload dX4_goOn_145 rfl ?_
              obtain ⟨hb10, hf⟩ := zifb hf
              refine zv_iast hb10 (wo_13 S) (ws_13 S (upd (S.1 13) (a2).toNatClampNeg a8)) dX4_goOn_147 ?_
              refine zv_iload dX4_goOn_148 rfl ?_
              refine zv_aload_n dX4_goOn_150 rfl rfl ?_
              refine zv_get zf_X4_49 (hL.1 (zr S 13 (upd (S.1 13) (a2).toNatClampNeg a8))) rfl dX4_goOn_151 ?_
              refine zv_iload dX4_goOn_154 rfl ?_
              refine zv_imul dX4_goOn_156 ?_
              refine zv_isub dX4_goOn_157 ?_
              refine zv_aload_n dX4_goOn_158 rfl rfl ?_
              refine zv_get zf_X4_9 (wo_11 (zr S 13 (upd (S.1 13) (a2).toNatClampNeg a8))) rfl dX4_goOn_159 ?_
              refine zv_iload dX4_goOn_162 rfl ?_
              obtain ⟨hb11, hf⟩ := zifb hf
              refine zv_iald hb11 (wo_12 (zr S 13 (upd (S.1 13) (a2).toNatClampNeg a8))) dX4_goOn_164 ?_
              refine zv_iadd dX4_goOn_165 ?_
              refine zv_istore dX4_goOn_166 (by decide) ?_
              refine zv_aload_n dX4_goOn_168 rfl rfl ?_
              refine zv_aload_n dX4_goOn_169 rfl rfl ?_
              refine zv_iload_n dX4_goOn_170 rfl rfl ?_
              refine zv_iconst (v := 1) dX4_goOn_171 (by decide) ?_
              refine zv_iadd dX4_goOn_172 ?_
              refine zv_iload_n dX4_goOn_173 rfl rfl ?_
              refine zv_iconst (v := 1) dX4_goOn_174 (by decide) ?_
              refine zv_iload dX4_goOn_175 rfl ?_
              refine zv_ishl dX4_goOn_177 ?_
              refine zv_ior dX4_goOn_178 ?_
              refine zv_iload dX4_goOn_179 rfl ?_
              refine zv_iload dX4_goOn_181 rfl ?_
              refine zv_iload dX4_goOn_183 rfl ?_
              refine zv_iload dX4_goOn_185 rfl ?_
              refine zv_iadd dX4_goOn_187 ?_
              obtain ⟨S13, hc12, hf⟩ := zbind hf
              refine zv_callV dX4_goOn_188 zk_X4_45 zm_X4_goOn (hg (zr S 13 (upd (S.1 13) (a2).toNatClampNeg a8)) (a2 + (1 : Int32)) (a3 ||| ((1 : Int32) <<< (a8 &&& 31))) a8 ((a5 - (((zr S 13 (upd (S.1 13) (a2).toNatClampNeg a8)).1 q 8) * x4)) + ((zr S 13 (upd (S.1 13) (a2).toNatClampNeg a8)).1 12 (a8).toNatClampNeg)) (a6 + x4) S13 hc12) (wo_11 (zr S 13 (upd (S.1 13) (a2).toNatClampNeg a8))) rfl rfl rfl (Nat.le_of_ble_eq_true rfl) ?_
              exact zV_sub ([(0, .ref 11), (1, .ref q), (2, .int a2), (3, .int a3), (4, .int a4), (5, .int a5), (6, .int a6), (8, .int a8)]) ⟨rfl, rfl, rfl, rfl, rfl, rfl, rfl, rfl, trivial⟩ (v_X4_goOn_191 hL d (by omega) g hg (f_X4_goOn_79 g q n) ih S13 a2 a3 a4 a5 a6 a8 _ hf)
def f_X4_goOn_e (g : zS → Nat → Int32 → Int32 → Int32 → Int32 → Int32 → Option zS) (S : zS) (q : Nat) (a2 : Int32) (a3 : Int32) (a4 : Int32) (a5 : Int32) (a6 : Int32) : Option zS :=
  (if (S.1 11 4) ≤ ((a5 + ((S.1 q 8) * a6)) + (((S.1 11 3) - a2) * (S.1 11 5))) then (if (S.1 11 3) ≤ a2 then f_X4_goOn_51 g q S a6 else (if a2 < (6 : Int32) then f_X4_goOn_79 g q zN S a2 a3 a4 a5 a6 (0 : Int32) else f_X4_goOn_51 g q S a6)) else some S)
def f_X4_goOn : Nat → zS → Nat → Int32 → Int32 → Int32 → Int32 → Int32 → Option zS
  | 0 => fun _ _ _ _ _ _ _ => none
  | n + 1 => f_X4_goOn_e (f_X4_goOn n)
set_option maxRecDepth 100000 in
set_option maxHeartbeats 4000000 in
theorem c_X4_goOn {q : Nat} (hL : zLand wd q) : ∀ (n d : Nat), 2 + n ≤ d → ∀ (S : zS) (a2 : Int32) (a3 : Int32) (a4 : Int32) (a5 : Int32) (a6 : Int32) (S' : zS), f_X4_goOn n S q a2 a3 a4 a5 a6 = (some S') → zC d yX4_goOn cX4_goOn 11 none [.ref 11, .ref q, .int a2, .int a3, .int a4, .int a5, .int a6] (wd S) (zq none (wd S')) := by
  intro n
  induction n with
  | zero =>
    intro d hd S a2 a3 a4 a5 a6 S' hf
    cases hf
  | succ n ihm =>
    intro d hd S a2 a3 a4 a5 a6 S' hf
    obtain ⟨d, rfl⟩ : ∃ e, d = e + 1 := ⟨d - 1, by omega⟩
    refine zC_intro (by decide) rfl (Nat.le_of_ble_eq_true rfl) ?_
    have hg := ihm d (by omega)
    replace hf : f_X4_goOn_e (f_X4_goOn n) S q a2 a3 a4 a5 a6 = (some S') := hf
    generalize f_X4_goOn n = g at hg hf
    unfold f_X4_goOn_e at hf
    refine zv_iload dX4_goOn_0 rfl ?_
    refine zv_aload_n dX4_goOn_2 rfl rfl ?_
    refine zv_get zf_X4_49 (hL.1 S) rfl dX4_goOn_3 ?_
    refine zv_iload dX4_goOn_6 rfl ?_
    refine zv_imul dX4_goOn_8 ?_
    refine zv_iadd dX4_goOn_9 ?_
    refine zv_istore dX4_goOn_10 (by decide) ?_
    refine zv_iload dX4_goOn_12 rfl ?_
    refine zv_aload_n dX4_goOn_14 rfl rfl ?_
    refine zv_get zf_X4_42 (wo_11 S) rfl dX4_goOn_15 ?_
    refine zv_iload_n dX4_goOn_18 rfl rfl ?_
    refine zv_isub dX4_goOn_19 ?_
    refine zv_aload_n dX4_goOn_20 rfl rfl ?_
    refine zv_get zf_X4_21 (wo_11 S) rfl dX4_goOn_21 ?_
    refine zv_imul dX4_goOn_24 ?_
    refine zv_iadd dX4_goOn_25 ?_
    refine zv_aload_n dX4_goOn_26 rfl rfl ?_
    refine zv_get zf_X4_31 (wo_11 S) rfl dX4_goOn_27 ?_
    refine zv_icmp_ge (tgt := 34) dX4_goOn_30 (by decide) (fun c1 => ?_) (fun c1 => ?_)
    · replace hf := (if_pos c1).symm.trans hf
      refine zv_iload_n dX4_goOn_34 rfl rfl ?_
      refine zv_aload_n dX4_goOn_35 rfl rfl ?_
      refine zv_get zf_X4_42 (wo_11 S) rfl dX4_goOn_36 ?_
      refine zv_icmp_ge (tgt := 51) dX4_goOn_39 (by decide) (fun c2 => ?_) (fun c2 => ?_)
      · replace hf := (if_pos c2).symm.trans hf
        exact zV_sub ([(0, .ref 11), (6, .int a6)]) ⟨rfl, rfl, trivial⟩ (v_X4_goOn_51 hL d (by omega) g hg S a6 _ hf)
      · replace hf := (if_neg c2).symm.trans hf
        refine zv_iload_n dX4_goOn_42 rfl rfl ?_
        refine zv_aload_n dX4_goOn_43 rfl rfl ?_
        refine zv_get zf_X4_15 (wo_11 S) rfl dX4_goOn_44 ?_
        refine zv_alen (v := 6) (t := 0) (by decide) (by decide) (wo_13 S) dX4_goOn_47 ?_
        refine zv_icmp_lt (tgt := 76) dX4_goOn_48 (by decide) (fun c3 => ?_) (fun c3 => ?_)
        · replace hf := (if_pos c3).symm.trans hf
          refine zv_iconst (v := 0) dX4_goOn_76 (by decide) ?_
          refine zv_istore dX4_goOn_77 (by decide) ?_
          exact zV_sub ([(0, .ref 11), (1, .ref q), (2, .int a2), (3, .int a3), (4, .int a4), (5, .int a5), (6, .int a6), (8, .int (0 : Int32))]) ⟨rfl, rfl, rfl, rfl, rfl, rfl, rfl, rfl, trivial⟩ (v_X4_goOn_79 hL d (by omega) g hg zN S a2 a3 a4 a5 a6 (0 : Int32) _ hf)
        · replace hf := (if_neg c3).symm.trans hf
          exact zV_sub ([(0, .ref 11), (6, .int a6)]) ⟨rfl, rfl, trivial⟩ (v_X4_goOn_51 hL d (by omega) g hg S a6 _ hf)
    · replace hf := (if_neg c1).symm.trans hf
      exact zv_vret dX4_goOn_33 rfl (zret0 wd hf)
-- KingPrices$TourSearch.find(LKingPrices$Land;[IIIII)Z height 13 writes
def f_X4_find_40 (k8 : zS → Int32 → Int32 → Int32 → Int32 → Int32 → Option (Int32 × zS)) (q : Nat) (S : zS) (a3 : Int32) (a4 : Int32) (a5 : Int32) (a6 : Int32) (a7 : Int32) : Option (Int32 × zS) :=
  (if zin a7 6 then k8 (zu S 11 5 (if (S.1 11 5) < (S.1 12 (a7).toNatClampNeg) then (S.1 12 (a7).toNatClampNeg) else (S.1 11 5))) a3 a4 a5 a6 (a7 + (1 : Int32)) else none)
set_option maxRecDepth 100000 in
set_option maxHeartbeats 4000000 in
theorem v_X4_find_40 {q : Nat} (hL : zLand wd q) (d : Nat) (hd : 12 ≤ d) (k8 : zS → Int32 → Int32 → Int32 → Int32 → Int32 → Option (Int32 × zS)) (hk8 : ∀ (S : zS) (a3 a4 a5 a6 a7 : Int32) v S', k8 S a3 a4 a5 a6 a7 = (some (v, S')) → zV none (d + 1) yX4_find cX4_find 8 (some .boolean) 8 [(0, .ref 11), (1, .ref q), (2, .ref 10), (3, .int a3), (4, .int a4), (5, .int a5), (6, .int a6), (7, .int a7)] [] (wd S) (zq (some (.int v)) (wd S'))) (S : zS) (a3 : Int32) (a4 : Int32) (a5 : Int32) (a6 : Int32) (a7 : Int32) (v : Int32) (S' : zS) (hf : f_X4_find_40 k8 q S a3 a4 a5 a6 a7 = (some (v, S'))) : zV none (d + 1) yX4_find cX4_find 8 (some .boolean) 40 [(0, .ref 11), (1, .ref q), (2, .ref 10), (3, .int a3), (4, .int a4), (5, .int a5), (6, .int a6), (7, .int a7)] [] (wd S) (zq (some (.int v)) (wd S')) := by
  unfold f_X4_find_40 at hf
  refine zv_aload_n dX4_find_40 rfl rfl ?_
  refine zv_aload_n dX4_find_41 rfl rfl ?_
  refine zv_get zf_X4_21 (wo_11 S) rfl dX4_find_42 ?_
  refine zv_aload_n dX4_find_45 rfl rfl ?_
  refine zv_get zf_X4_9 (wo_11 S) rfl dX4_find_46 ?_
  refine zv_iload dX4_find_49 rfl ?_
  obtain ⟨hb1, hf⟩ := zifb hf
  refine zv_iald hb1 (wo_12 S) dX4_find_51 ?_
  refine zv_max zk_X4_25 (Nat.le_of_ble_eq_true rfl) dX4_find_52 ?_
  refine zv_put zp_X4_21 (wo_11 S) rfl (fun _ => ⟨rfl, rfl⟩) (Nat.le_of_ble_eq_true rfl) (wp_11_5 S (if (S.1 11 5) < (S.1 12 (a7).toNatClampNeg) then (S.1 12 (a7).toNatClampNeg) else (S.1 11 5))) dX4_find_55 ?_
  refine zv_iinc (v := 1) dX4_find_58 rfl (by decide) (by decide) ?_
  refine zv_goto (tgt := 8) dX4_find_61 (by decide) ?_
  exact zV_sub ([(0, .ref 11), (1, .ref q), (2, .ref 10), (3, .int a3), (4, .int a4), (5, .int a5), (6, .int a6), (7, .int (a7 + (1 : Int32)))]) ⟨rfl, rfl, rfl, rfl, rfl, rfl, rfl, rfl, trivial⟩ (hk8 (zu S 11 5 (if (S.1 11 5) < (S.1 12 (a7).toNatClampNeg) then (S.1 12 (a7).toNatClampNeg) else (S.1 11 5))) a3 a4 a5 a6 (a7 + (1 : Int32)) _ _ hf)
def f_X4_find_79 (q : Nat) : Nat → zS → Int32 → Int32 → Int32 → Option (Int32 × zS)
  | 0, _, _, _, _ => none
  | n + 1, S, a4, a5, a7 => (if (S.1 q 6) < a7 then some ((0 : Int32), S) else ((f_X4_goOn 10 (zu S 11 3 a7) q (0 : Int32) (0 : Int32) a4 a5 (0 : Int32)).bind (fun S3 => (if (S3.1 11 6) = (-9 : Int32) then f_X4_find_79 q n S3 a4 a5 (a7 + (1 : Int32)) else some ((1 : Int32), S3)))))
set_option maxRecDepth 100000 in
set_option maxHeartbeats 4000000 in
theorem v_X4_find_79 {q : Nat} (hL : zLand wd q) (d : Nat) (hd : 12 ≤ d) : ∀ (n : Nat) (S : zS) (a4 : Int32) (a5 : Int32) (a7 : Int32) (v : Int32) (S' : zS), f_X4_find_79 q n S a4 a5 a7 = (some (v, S')) → zV none (d + 1) yX4_find cX4_find 8 (some .boolean) 79 [(0, .ref 11), (1, .ref q), (4, .int a4), (5, .int a5), (7, .int a7)] [] (wd S) (zq (some (.int v)) (wd S')) := by
  intro n
  induction n with
  | zero =>
    intro S a4 a5 a7 v S' hf
    cases hf
  | succ n ih =>
    intro S a4 a5 a7 v S' hf
    rw [f_X4_find_79] at hf
    refine zv_iload dX4_find_79 rfl ?_
    refine zv_aload_n dX4_find_81 rfl rfl ?_
    refine zv_get zf_X4_37 (hL.1 S) rfl dX4_find_82 ?_
    refine zv_icmp_gt (tgt := 123) dX4_find_85 (by decide) (fun c1 => ?_) (fun c1 => ?_)
    · replace hf := (if_pos c1).symm.trans hf
      refine zv_iconst (v := 0) dX4_find_123 (by decide) ?_
      exact zv_iret (ty := .boolean) dX4_find_124 rfl rfl (zret2 wd hf)
    · replace hf := (if_neg c1).symm.trans hf
      refine zv_aload_n dX4_find_88 rfl rfl ?_
      refine zv_iload dX4_find_89 rfl ?_
      refine zv_put zp_X4_42 (wo_11 S) rfl (fun _ => ⟨rfl, rfl⟩) (Nat.le_of_ble_eq_true rfl) (wp_11_3 S a7) dX4_find_91 ?_
      refine zv_aload_n dX4_find_94 rfl rfl ?_
      refine zv_aload_n dX4_find_95 rfl rfl ?_
      refine zv_iconst (v := 0) dX4_find_96 (by decide) ?_
      refine zv_iconst (v := 0) dX4_find_97 (by decide) ?_
      refine zv_iload dX4_find_98 rfl ?_
      refine zv_iload dX4_find_100 rfl ?_
      refine zv_iconst (v := 0) dX4_find_102 (by decide) ?_
      obtain ⟨S3, hc2, hf⟩ := zbind hf
      refine zv_callV dX4_find_103 zk_X4_45 zm_X4_goOn (c_X4_goOn hL 10 d (by omega) (zu S 11 3 a7) (0 : Int32) (0 : Int32) a4 a5 (0 : Int32) S3 hc2) (wo_11 (zu S 11 3 a7)) rfl rfl rfl (Nat.le_of_ble_eq_true rfl) ?_
      refine zv_aload_n dX4_find_106 rfl rfl ?_
      refine zv_get zf_X4_34 (wo_11 S3) rfl dX4_find_107 ?_
      refine zv_bipush (v := -9) dX4_find_110 (by decide) ?_
      refine zv_icmp_eq (tgt := 117) dX4_find_112 (by decide) (fun c4 => ?_) (fun c4 => ?_)
      · replace hf := (if_pos c4).symm.trans hf
        refine zv_iinc (v := 1) dX4_find_117 rfl (by decide) (by decide) ?_
        refine zv_goto (tgt := 79) dX4_find_120 (by decide) ?_
        exact zV_sub ([(0, .ref 11), (1, .ref q), (4, .int a4), (5, .int a5), (7, .int (a7 + (1 : Int32)))]) ⟨rfl, rfl, rfl, rfl, rfl, trivial⟩ (ih S3 a4 a5 (a7 + (1 : Int32)) _ _ hf)
      · replace hf := (if_neg c4).symm.trans hf
        refine zv_iconst (v := 1) dX4_find_115 (by decide) ?_
        exact zv_iret (ty := .boolean) dX4_find_116 rfl rfl (zret2 wd hf)
def f_X4_find_8 (q : Nat) : Nat → zS → Int32 → Int32 → Int32 → Int32 → Int32 → Option (Int32 × zS)
  | 0, _, _, _, _, _, _ => none
  | n + 1, S, a3, a4, a5, a6, a7 => (if (6 : Int32) ≤ a7 then f_X4_find_79 q zN (zu (zu S 11 4 a6) 11 6 (-9 : Int32)) a4 a5 a3 else (if (6 : Int32) ≤ a7 then (if zin a7 6 then f_X4_find_40 (f_X4_find_8 q n) q (zr S 12 (upd (S.1 12) (a7).toNatClampNeg (0 : Int32))) a3 a4 a5 a6 a7 else none) else (if zin a7 6 then (if zin a7 6 then f_X4_find_40 (f_X4_find_8 q n) q (zr S 12 (upd (S.1 12) (a7).toNatClampNeg (S.1 10 (a7).toNatClampNeg))) a3 a4 a5 a6 a7 else none) else none)))
set_option maxRecDepth 100000 in
set_option maxHeartbeats 4000000 in
theorem v_X4_find_8 {q : Nat} (hL : zLand wd q) (d : Nat) (hd : 12 ≤ d) : ∀ (n : Nat) (S : zS) (a3 : Int32) (a4 : Int32) (a5 : Int32) (a6 : Int32) (a7 : Int32) (v : Int32) (S' : zS), f_X4_find_8 q n S a3 a4 a5 a6 a7 = (some (v, S')) → zV none (d + 1) yX4_find cX4_find 8 (some .boolean) 8 [(0, .ref 11), (1, .ref q), (2, .ref 10), (3, .int a3), (4, .int a4), (5, .int a5), (6, .int a6), (7, .int a7)] [] (wd S) (zq (some (.int v)) (wd S')) := by
  intro n
  induction n with
  | zero =>
    intro S a3 a4 a5 a6 a7 v S' hf
    cases hf
  | succ n ih =>
    intro S a3 a4 a5 a6 a7 v S' hf
    rw [f_X4_find_8] at hf
    refine zv_iload dX4_find_8 rfl ?_
    refine zv_aload_n dX4_find_10 rfl rfl ?_
    refine zv_get zf_X4_9 (wo_11 S) rfl dX4_find_11 ?_
    refine zv_alen (v := 6) (t := 0) (by decide) (by decide) (wo_12 S) dX4_find_14 ?_
    refine zv_icmp_ge (tgt := 64) dX4_find_15 (by decide) (fun c1 => ?_) (fun c1 => ?_)
    · replace hf := (if_pos c1).symm.trans hf
      refine zv_aload_n dX4_find_64 rfl rfl ?_
      refine zv_iload dX4_find_65 rfl ?_
      refine zv_put zp_X4_31 (wo_11 S) rfl (fun _ => ⟨rfl, rfl⟩) (Nat.le_of_ble_eq_true rfl) (wp_11_4 S a6) dX4_find_67 ?_
      refine zv_aload_n dX4_find_70 rfl rfl ?_
      refine zv_bipush (v := -9) dX4_find_71 (by decide) ?_
      refine zv_put zp_X4_34 (wo_11 (zu S 11 4 a6)) rfl (fun _ => ⟨rfl, rfl⟩) (Nat.le_of_ble_eq_true rfl) (wp_11_6 (zu S 11 4 a6) (-9 : Int32)) dX4_find_73 ?_
      refine zv_iload_n dX4_find_76 rfl rfl ?_
      refine zv_istore dX4_find_77 (by decide) ?_
      exact zV_sub ([(0, .ref 11), (1, .ref q), (4, .int a4), (5, .int a5), (7, .int a3)]) ⟨rfl, rfl, rfl, rfl, rfl, trivial⟩ (v_X4_find_79 hL d (by omega) zN (zu (zu S 11 4 a6) 11 6 (-9 : Int32)) a4 a5 a3 _ _ hf)
    · replace hf := (if_neg c1).symm.trans hf
      refine zv_aload_n dX4_find_18 rfl rfl ?_
      refine zv_get zf_X4_9 (wo_11 S) rfl dX4_find_19 ?_
      refine zv_iload dX4_find_22 rfl ?_
      refine zv_iload dX4_find_24 rfl ?_
      refine zv_aload_n dX4_find_26 rfl rfl ?_
      refine zv_alen (v := 6) (t := 0) (by decide) (by decide) (wo_10 S) dX4_find_27 ?_
      refine zv_icmp_ge (tgt := 38) dX4_find_28 (by decide) (fun c2 => ?_) (fun c2 => ?_)
      · replace hf := (if_pos c2).symm.trans hf
        refine zv_iconst (v := 0) dX4_find_38 (by decide) ?_
        obtain ⟨hb3, hf⟩ := zifb hf
        refine zv_iast hb3 (wo_12 S) (ws_12 S (upd (S.1 12) (a7).toNatClampNeg (0 : Int32))) dX4_find_39 ?_
        exact zV_sub ([(0, .ref 11), (1, .ref q), (2, .ref 10), (3, .int a3), (4, .int a4), (5, .int a5), (6, .int a6), (7, .int a7)]) ⟨rfl, rfl, rfl, rfl, rfl, rfl, rfl, rfl, trivial⟩ (v_X4_find_40 hL d (by omega) (f_X4_find_8 q n) ih (zr S 12 (upd (S.1 12) (a7).toNatClampNeg (0 : Int32))) a3 a4 a5 a6 a7 _ _ hf)
      · replace hf := (if_neg c2).symm.trans hf
        refine zv_aload_n dX4_find_31 rfl rfl ?_
        refine zv_iload dX4_find_32 rfl ?_
        obtain ⟨hb4, hf⟩ := zifb hf
        refine zv_iald hb4 (wo_10 S) dX4_find_34 ?_
        refine zv_goto (tgt := 39) dX4_find_35 (by decide) ?_
        obtain ⟨hb5, hf⟩ := zifb hf
        refine zv_iast hb5 (wo_12 S) (ws_12 S (upd (S.1 12) (a7).toNatClampNeg (S.1 10 (a7).toNatClampNeg))) dX4_find_39 ?_
        exact zV_sub ([(0, .ref 11), (1, .ref q), (2, .ref 10), (3, .int a3), (4, .int a4), (5, .int a5), (6, .int a6), (7, .int a7)]) ⟨rfl, rfl, rfl, rfl, rfl, rfl, rfl, rfl, trivial⟩ (v_X4_find_40 hL d (by omega) (f_X4_find_8 q n) ih (zr S 12 (upd (S.1 12) (a7).toNatClampNeg (S.1 10 (a7).toNatClampNeg))) a3 a4 a5 a6 a7 _ _ hf)
def f_X4_find (S : zS) (q : Nat) (a3 : Int32) (a4 : Int32) (a5 : Int32) (a6 : Int32) : Option (Int32 × zS) :=
  f_X4_find_8 q zN (zu S 11 5 (0 : Int32)) a3 a4 a5 a6 (0 : Int32)
set_option maxRecDepth 100000 in
set_option maxHeartbeats 4000000 in
theorem c_X4_find {q : Nat} (hL : zLand wd q) (d : Nat) (hd : 13 ≤ d) (S : zS) (a3 : Int32) (a4 : Int32) (a5 : Int32) (a6 : Int32) (v : Int32) (S' : zS) (hf : f_X4_find S q a3 a4 a5 a6 = (some (v, S'))) : zC d yX4_find cX4_find 8 (some .boolean) [.ref 11, .ref q, .ref 10, .int a3, .int a4, .int a5, .int a6] (wd S) (zq (some (.int v)) (wd S')) := by
  obtain ⟨d, rfl⟩ : ∃ e, d = e + 1 := ⟨d - 1, by omega⟩
  refine zC_intro (by decide) rfl (Nat.le_of_ble_eq_true rfl) ?_
  unfold f_X4_find at hf
  refine zv_aload_n dX4_find_0 rfl rfl ?_
  refine zv_iconst (v := 0) dX4_find_1 (by decide) ?_
  refine zv_put zp_X4_21 (wo_11 S) rfl (fun _ => ⟨rfl, rfl⟩) (Nat.le_of_ble_eq_true rfl) (wp_11_5 S (0 : Int32)) dX4_find_2 ?_
  refine zv_iconst (v := 0) dX4_find_5 (by decide) ?_
  refine zv_istore dX4_find_6 (by decide) ?_
  exact zV_sub ([(0, .ref 11), (1, .ref q), (2, .ref 10), (3, .int a3), (4, .int a4), (5, .int a5), (6, .int a6), (7, .int (0 : Int32))]) ⟨rfl, rfl, rfl, rfl, rfl, rfl, rfl, rfl, trivial⟩ (v_X4_find_8 hL d (by omega) zN (zu S 11 5 (0 : Int32)) a3 a4 a5 a6 (0 : Int32) _ _ hf)
