/-! the constructors -/
set_option maxRecDepth 100000 in
set_option maxHeartbeats 4000000 in
theorem i_X3 (d : Nat) {g : List va_E} {r : Nat} (hg : g.length = r) (hr : r < 900) : zI (d + 1) 1 180 yX3_init cX3_init 1 r (g ++ [.inr (3, [.null, .int 0, .int 0, .int 0, .int 0, .int 0])]) (g ++ [.inr (3, [.ref (r + 1), .int 0, .int 0, .int 0, .int 0, .int 0]), .inl (0, 180, .inl (fun _ => 0))]) := by
  refine zI_intro (by decide) (by decide) rfl ?_
  refine za_aload_n dX3_init_0 rfl rfl ?_
  refine za_obj ⟨zk_X3_3, zoi⟩ (Nat.le_of_ble_eq_true rfl) dX3_init_1 ?_
  refine za_aload_n dX3_init_4 rfl rfl ?_
  refine za_sipush (v := 180) dX3_init_5 rfl ?_
  refine za_newa (t := 0) (N := 180) (r := r + 1) (h2 := g ++ [.inr (3, [.null, .int 0, .int 0, .int 0, .int 0, .int 0]), .inl (0, 180, .inl (fun _ => 0))]) dX3_init_8 zac_int rfl (fun _ => rfl) (fun _ _ q => q) (by decide) rfl (by decide) (by decide) (by decide) (by decide) (by decide) ((zg_len hg).trans rfl) (by omega) zg_push ?_
  refine za_putF (h2 := g ++ [.inr (3, [.ref (r + 1), .int 0, .int 0, .int 0, .int 0, .int 0]), .inl (0, 180, .inl (fun _ => 0))]) zff_X3_9 rfl (zg_get hg) (fun _ => ⟨rfl, rfl⟩) (Nat.le_of_ble_eq_true rfl) (zg_set hg) (by rw [zg_len hg]; show _ + 2 ≤ 1000; omega) dX3_init_10 ?_
  exact za_ret rfl dX3_init_13
set_option maxRecDepth 100000 in
set_option maxHeartbeats 4000000 in
theorem i_X2 (d : Nat) {g : List va_E} {r : Nat} (hg : g.length = r) (hr : r < 900) : zI (d + 1) 1 308 yX2_init cX2_init 1 r (g ++ [.inr (2, [.null, .int 0])]) (g ++ [.inr (2, [.ref (r + 1), .int 0]), .inl (0, 308, .inl (fun _ => 0))]) := by
  refine zI_intro (by decide) (by decide) rfl ?_
  refine za_aload_n dX2_init_0 rfl rfl ?_
  refine za_obj ⟨zk_X2_3, zoi⟩ (Nat.le_of_ble_eq_true rfl) dX2_init_1 ?_
  refine za_aload_n dX2_init_4 rfl rfl ?_
  refine za_sipush (v := 308) dX2_init_5 rfl ?_
  refine za_newa (t := 0) (N := 308) (r := r + 1) (h2 := g ++ [.inr (2, [.null, .int 0]), .inl (0, 308, .inl (fun _ => 0))]) dX2_init_8 zac_int rfl (fun _ => rfl) (fun _ _ q => q) (by decide) rfl (by decide) (by decide) (by decide) (by decide) (by decide) ((zg_len hg).trans rfl) (by omega) zg_push ?_
  refine za_putF (h2 := g ++ [.inr (2, [.ref (r + 1), .int 0]), .inl (0, 308, .inl (fun _ => 0))]) zff_X2_9 rfl (zg_get hg) (fun _ => ⟨rfl, rfl⟩) (Nat.le_of_ble_eq_true rfl) (zg_set hg) (by rw [zg_len hg]; show _ + 2 ≤ 1000; omega) dX2_init_10 ?_
  exact za_ret rfl dX2_init_13
set_option maxRecDepth 100000 in
set_option maxHeartbeats 4000000 in
theorem i_X4 (d : Nat) {g : List va_E} {r : Nat} (hg : g.length = r) (hr : r < 900) : zI (d + 1) 3 18 yX4_init cX4_init 1 r (g ++ [.inr (4, [.null, .null, .null, .int 0, .int 0, .int 0, .int 0])]) (g ++ [.inr (4, [.ref (r + 1), .ref (r + 2), .ref (r + 3), .int 0, .int 0, .int 0, .int 0]), .inl (0, 6, .inl (fun _ => 0)), .inl (0, 6, .inl (fun _ => 0)), .inl (0, 6, .inl (fun _ => 0))]) := by
  refine zI_intro (by decide) (by decide) rfl ?_
  refine za_aload_n dX4_init_0 rfl rfl ?_
  refine za_obj ⟨zk_X4_3, zoi⟩ (Nat.le_of_ble_eq_true rfl) dX4_init_1 ?_
  refine za_aload_n dX4_init_4 rfl rfl ?_
  refine za_bipush (v := 6) dX4_init_5 rfl ?_
  refine za_newa (t := 0) (N := 6) (r := r + 1) (h2 := g ++ [.inr (4, [.null, .null, .null, .int 0, .int 0, .int 0, .int 0]), .inl (0, 6, .inl (fun _ => 0))]) dX4_init_7 zac_int rfl (fun _ => rfl) (fun _ _ q => q) (by decide) rfl (by decide) (by decide) (by decide) (by decide) (by decide) ((zg_len hg).trans rfl) (by omega) zg_push ?_
  refine za_putF (h2 := g ++ [.inr (4, [.ref (r + 1), .null, .null, .int 0, .int 0, .int 0, .int 0]), .inl (0, 6, .inl (fun _ => 0))]) zff_X4_9 rfl (zg_get hg) (fun _ => ⟨rfl, rfl⟩) (Nat.le_of_ble_eq_true rfl) (zg_set hg) (by rw [zg_len hg]; show _ + 2 ≤ 1000; omega) dX4_init_9 ?_
  refine za_aload_n dX4_init_12 rfl rfl ?_
  refine za_bipush (v := 6) dX4_init_13 rfl ?_
  refine za_newa (t := 0) (N := 6) (r := r + 2) (h2 := g ++ [.inr (4, [.ref (r + 1), .null, .null, .int 0, .int 0, .int 0, .int 0]), .inl (0, 6, .inl (fun _ => 0)), .inl (0, 6, .inl (fun _ => 0))]) dX4_init_15 zac_int rfl (fun _ => rfl) (fun _ _ q => q) (by decide) rfl (by decide) (by decide) (by decide) (by decide) (by decide) ((zg_len hg).trans rfl) (by omega) zg_push ?_
  refine za_putF (h2 := g ++ [.inr (4, [.ref (r + 1), .ref (r + 2), .null, .int 0, .int 0, .int 0, .int 0]), .inl (0, 6, .inl (fun _ => 0)), .inl (0, 6, .inl (fun _ => 0))]) zff_X4_15 rfl (zg_get hg) (fun _ => ⟨rfl, rfl⟩) (Nat.le_of_ble_eq_true rfl) (zg_set hg) (by rw [zg_len hg]; show _ + 3 ≤ 1000; omega) dX4_init_17 ?_
  refine za_aload_n dX4_init_20 rfl rfl ?_
  refine za_bipush (v := 6) dX4_init_21 rfl ?_
  refine za_newa (t := 0) (N := 6) (r := r + 3) (h2 := g ++ [.inr (4, [.ref (r + 1), .ref (r + 2), .null, .int 0, .int 0, .int 0, .int 0]), .inl (0, 6, .inl (fun _ => 0)), .inl (0, 6, .inl (fun _ => 0)), .inl (0, 6, .inl (fun _ => 0))]) dX4_init_23 zac_int rfl (fun _ => rfl) (fun _ _ q => q) (by decide) rfl (by decide) (by decide) (by decide) (by decide) (by decide) ((zg_len hg).trans rfl) (by omega) zg_push ?_
  refine za_putF (h2 := g ++ [.inr (4, [.ref (r + 1), .ref (r + 2), .ref (r + 3), .int 0, .int 0, .int 0, .int 0]), .inl (0, 6, .inl (fun _ => 0)), .inl (0, 6, .inl (fun _ => 0)), .inl (0, 6, .inl (fun _ => 0))]) zff_X4_18 rfl (zg_get hg) (fun _ => ⟨rfl, rfl⟩) (Nat.le_of_ble_eq_true rfl) (zg_set hg) (by rw [zg_len hg]; show _ + 4 ≤ 1000; omega) dX4_init_25 ?_
  exact za_ret rfl dX4_init_28
set_option maxRecDepth 100000 in
set_option maxHeartbeats 4000000 in
theorem i_X1 (d : Nat) {g : List va_E} {r : Nat} (hg : g.length = r) (hr : r < 900) : zI (d + 1) 1 6 yX1_init cX1_init 1 r (g ++ [.inr (1, [.null, .int 0])]) (g ++ [.inr (1, [.ref (r + 1), .int 0]), .inl (0, 6, .inl (fun _ => 0))]) := by
  refine zI_intro (by decide) (by decide) rfl ?_
  refine za_aload_n dX1_init_0 rfl rfl ?_
  refine za_obj ⟨zk_X1_3, zoi⟩ (Nat.le_of_ble_eq_true rfl) dX1_init_1 ?_
  refine za_aload_n dX1_init_4 rfl rfl ?_
  refine za_bipush (v := 6) dX1_init_5 rfl ?_
  refine za_newa (t := 0) (N := 6) (r := r + 1) (h2 := g ++ [.inr (1, [.null, .int 0]), .inl (0, 6, .inl (fun _ => 0))]) dX1_init_7 zac_int rfl (fun _ => rfl) (fun _ _ q => q) (by decide) rfl (by decide) (by decide) (by decide) (by decide) (by decide) ((zg_len hg).trans rfl) (by omega) zg_push ?_
  refine za_putF (h2 := g ++ [.inr (1, [.ref (r + 1), .int 0]), .inl (0, 6, .inl (fun _ => 0))]) zff_X1_9 rfl (zg_get hg) (fun _ => ⟨rfl, rfl⟩) (Nat.le_of_ble_eq_true rfl) (zg_set hg) (by rw [zg_len hg]; show _ + 2 ≤ 1000; omega) dX1_init_9 ?_
  exact za_ret rfl dX1_init_12
set_option maxRecDepth 100000 in
set_option maxHeartbeats 4000000 in
theorem i_X0_17 (d : Nat) (hd : 1 ≤ d) {g : List va_E} (hg : g.length = 17) {E : zS} (hE : f_X0_empty Z0 17 = some E) : zI (d + 1) 6 93 yX0_init cX0_init 1 17 (g ++ [.inr (0, [.null, .null, .null, .null, .null, .null, .int 0, .int 0, .int 0, .int 0, .int 0, .int 0])]) (g ++ zL7 E 17) := by
  refine zI_intro (by decide) (by decide) rfl ?_
  refine za_aload_n dX0_init_0 rfl rfl ?_
  refine za_obj ⟨zk_X0_3, zoi⟩ (Nat.le_of_ble_eq_true rfl) dX0_init_1 ?_
  refine za_aload_n dX0_init_4 rfl rfl ?_
  refine za_bipush (v := 6) dX0_init_5 rfl ?_
  refine za_newa (t := 0) (N := 6) (r := 18) (h2 := g ++ [.inr (0, [.null, .null, .null, .null, .null, .null, .int 0, .int 0, .int 0, .int 0, .int 0, .int 0]), .inl (0, 6, .inl (fun _ => 0))]) dX0_init_7 zac_int rfl (fun _ => rfl) (fun _ _ q => q) (by decide) rfl (by decide) (by decide) (by decide) (by decide) (by decide) ((zg_len hg).trans rfl) (by omega) zg_push ?_
  refine za_putF (h2 := g ++ [.inr (0, [.ref (18), .null, .null, .null, .null, .null, .int 0, .int 0, .int 0, .int 0, .int 0, .int 0]), .inl (0, 6, .inl (fun _ => 0))]) zff_X0_9 rfl (zg_get hg) (fun _ => ⟨rfl, rfl⟩) (Nat.le_of_ble_eq_true rfl) (zg_set hg) (by rw [zg_len hg]; show _ + 2 ≤ 1000; omega) dX0_init_9 ?_
  refine za_aload_n dX0_init_12 rfl rfl ?_
  refine za_bipush (v := 6) dX0_init_13 rfl ?_
  refine za_newa (t := 0) (N := 6) (r := 19) (h2 := g ++ [.inr (0, [.ref (18), .null, .null, .null, .null, .null, .int 0, .int 0, .int 0, .int 0, .int 0, .int 0]), .inl (0, 6, .inl (fun _ => 0)), .inl (0, 6, .inl (fun _ => 0))]) dX0_init_15 zac_int rfl (fun _ => rfl) (fun _ _ q => q) (by decide) rfl (by decide) (by decide) (by decide) (by decide) (by decide) ((zg_len hg).trans rfl) (by omega) zg_push ?_
  refine za_putF (h2 := g ++ [.inr (0, [.ref (18), .ref (19), .null, .null, .null, .null, .int 0, .int 0, .int 0, .int 0, .int 0, .int 0]), .inl (0, 6, .inl (fun _ => 0)), .inl (0, 6, .inl (fun _ => 0))]) zff_X0_15 rfl (zg_get hg) (fun _ => ⟨rfl, rfl⟩) (Nat.le_of_ble_eq_true rfl) (zg_set hg) (by rw [zg_len hg]; show _ + 3 ≤ 1000; omega) dX0_init_17 ?_
  refine za_aload_n dX0_init_20 rfl rfl ?_
  refine za_bipush (v := 6) dX0_init_21 rfl ?_
  refine za_newa (t := 0) (N := 6) (r := 20) (h2 := g ++ [.inr (0, [.ref (18), .ref (19), .null, .null, .null, .null, .int 0, .int 0, .int 0, .int 0, .int 0, .int 0]), .inl (0, 6, .inl (fun _ => 0)), .inl (0, 6, .inl (fun _ => 0)), .inl (0, 6, .inl (fun _ => 0))]) dX0_init_23 zac_int rfl (fun _ => rfl) (fun _ _ q => q) (by decide) rfl (by decide) (by decide) (by decide) (by decide) (by decide) ((zg_len hg).trans rfl) (by omega) zg_push ?_
  refine za_putF (h2 := g ++ [.inr (0, [.ref (18), .ref (19), .ref (20), .null, .null, .null, .int 0, .int 0, .int 0, .int 0, .int 0, .int 0]), .inl (0, 6, .inl (fun _ => 0)), .inl (0, 6, .inl (fun _ => 0)), .inl (0, 6, .inl (fun _ => 0))]) zff_X0_18 rfl (zg_get hg) (fun _ => ⟨rfl, rfl⟩) (Nat.le_of_ble_eq_true rfl) (zg_set hg) (by rw [zg_len hg]; show _ + 4 ≤ 1000; omega) dX0_init_25 ?_
  refine za_aload_n dX0_init_28 rfl rfl ?_
  refine za_bipush (v := 36) dX0_init_29 rfl ?_
  refine za_newa (t := 0) (N := 36) (r := 21) (h2 := g ++ [.inr (0, [.ref (18), .ref (19), .ref (20), .null, .null, .null, .int 0, .int 0, .int 0, .int 0, .int 0, .int 0]), .inl (0, 6, .inl (fun _ => 0)), .inl (0, 6, .inl (fun _ => 0)), .inl (0, 6, .inl (fun _ => 0)), .inl (0, 36, .inl (fun _ => 0))]) dX0_init_31 zac_int rfl (fun _ => rfl) (fun _ _ q => q) (by decide) rfl (by decide) (by decide) (by decide) (by decide) (by decide) ((zg_len hg).trans rfl) (by omega) zg_push ?_
  refine za_putF (h2 := g ++ [.inr (0, [.ref (18), .ref (19), .ref (20), .ref (21), .null, .null, .int 0, .int 0, .int 0, .int 0, .int 0, .int 0]), .inl (0, 6, .inl (fun _ => 0)), .inl (0, 6, .inl (fun _ => 0)), .inl (0, 6, .inl (fun _ => 0)), .inl (0, 36, .inl (fun _ => 0))]) zff_X0_21 rfl (zg_get hg) (fun _ => ⟨rfl, rfl⟩) (Nat.le_of_ble_eq_true rfl) (zg_set hg) (by rw [zg_len hg]; show _ + 5 ≤ 1000; omega) dX0_init_33 ?_
  refine za_aload_n dX0_init_36 rfl rfl ?_
  refine za_bipush (v := 36) dX0_init_37 rfl ?_
  refine za_newa (t := 0) (N := 36) (r := 22) (h2 := g ++ [.inr (0, [.ref (18), .ref (19), .ref (20), .ref (21), .null, .null, .int 0, .int 0, .int 0, .int 0, .int 0, .int 0]), .inl (0, 6, .inl (fun _ => 0)), .inl (0, 6, .inl (fun _ => 0)), .inl (0, 6, .inl (fun _ => 0)), .inl (0, 36, .inl (fun _ => 0)), .inl (0, 36, .inl (fun _ => 0))]) dX0_init_39 zac_int rfl (fun _ => rfl) (fun _ _ q => q) (by decide) rfl (by decide) (by decide) (by decide) (by decide) (by decide) ((zg_len hg).trans rfl) (by omega) zg_push ?_
  refine za_putF (h2 := g ++ [.inr (0, [.ref (18), .ref (19), .ref (20), .ref (21), .ref (22), .null, .int 0, .int 0, .int 0, .int 0, .int 0, .int 0]), .inl (0, 6, .inl (fun _ => 0)), .inl (0, 6, .inl (fun _ => 0)), .inl (0, 6, .inl (fun _ => 0)), .inl (0, 36, .inl (fun _ => 0)), .inl (0, 36, .inl (fun _ => 0))]) zff_X0_24 rfl (zg_get hg) (fun _ => ⟨rfl, rfl⟩) (Nat.le_of_ble_eq_true rfl) (zg_set hg) (by rw [zg_len hg]; show _ + 6 ≤ 1000; omega) dX0_init_41 ?_
  refine za_aload_n dX0_init_44 rfl rfl ?_
  refine za_iconst (v := 3) dX0_init_45 rfl ?_
  refine za_newa (t := 0) (N := 3) (r := 23) (h2 := g ++ [.inr (0, [.ref (18), .ref (19), .ref (20), .ref (21), .ref (22), .null, .int 0, .int 0, .int 0, .int 0, .int 0, .int 0]), .inl (0, 6, .inl (fun _ => 0)), .inl (0, 6, .inl (fun _ => 0)), .inl (0, 6, .inl (fun _ => 0)), .inl (0, 36, .inl (fun _ => 0)), .inl (0, 36, .inl (fun _ => 0)), .inl (0, 3, .inl (fun _ => 0))]) dX0_init_46 zac_int rfl (fun _ => rfl) (fun _ _ q => q) (by decide) rfl (by decide) (by decide) (by decide) (by decide) (by decide) ((zg_len hg).trans rfl) (by omega) zg_push ?_
  refine za_putF (h2 := g ++ [.inr (0, [.ref (18), .ref (19), .ref (20), .ref (21), .ref (22), .ref (23), .int 0, .int 0, .int 0, .int 0, .int 0, .int 0]), .inl (0, 6, .inl (fun _ => 0)), .inl (0, 6, .inl (fun _ => 0)), .inl (0, 6, .inl (fun _ => 0)), .inl (0, 36, .inl (fun _ => 0)), .inl (0, 36, .inl (fun _ => 0)), .inl (0, 3, .inl (fun _ => 0))]) zff_X0_27 rfl (zg_get hg) (fun _ => ⟨rfl, rfl⟩) (Nat.le_of_ble_eq_true rfl) (zg_set hg) (by rw [zg_len hg]; show _ + 7 ≤ 1000; omega) dX0_init_48 ?_
  refine za_aload_n dX0_init_51 rfl rfl ?_
  refine za_call (h2 := g ++ zL7 E 17) (As := []) dX0_init_52 zk_X0_30 zm_X0_empty (c_X0_empty (zLg_17 hg) d hd Z0 E hE) (zg_get hg) rfl rfl rfl (Nat.le_of_ble_eq_true rfl) (by rw [zg_len hg, zg_len hg]; rfl) (by rw [zg_len hg]; show 0 < 17 + 7; omega) (by rw [zg_len hg]; show 17 + 7 ≤ 1000; omega) (by decide) (by decide) ?_
  exact za_ret rfl dX0_init_55
set_option maxRecDepth 100000 in
set_option maxHeartbeats 4000000 in
theorem i_X0_24 (d : Nat) (hd : 1 ≤ d) {g : List va_E} (hg : g.length = 24) {E : zS} (hE : f_X0_empty Z0 24 = some E) : zI (d + 1) 6 93 yX0_init cX0_init 1 24 (g ++ [.inr (0, [.null, .null, .null, .null, .null, .null, .int 0, .int 0, .int 0, .int 0, .int 0, .int 0])]) (g ++ zL7 E 24) := by
  refine zI_intro (by decide) (by decide) rfl ?_
  refine za_aload_n dX0_init_0 rfl rfl ?_
  refine za_obj ⟨zk_X0_3, zoi⟩ (Nat.le_of_ble_eq_true rfl) dX0_init_1 ?_
  refine za_aload_n dX0_init_4 rfl rfl ?_
  refine za_bipush (v := 6) dX0_init_5 rfl ?_
  refine za_newa (t := 0) (N := 6) (r := 25) (h2 := g ++ [.inr (0, [.null, .null, .null, .null, .null, .null, .int 0, .int 0, .int 0, .int 0, .int 0, .int 0]), .inl (0, 6, .inl (fun _ => 0))]) dX0_init_7 zac_int rfl (fun _ => rfl) (fun _ _ q => q) (by decide) rfl (by decide) (by decide) (by decide) (by decide) (by decide) ((zg_len hg).trans rfl) (by omega) zg_push ?_
  refine za_putF (h2 := g ++ [.inr (0, [.ref (25), .null, .null, .null, .null, .null, .int 0, .int 0, .int 0, .int 0, .int 0, .int 0]), .inl (0, 6, .inl (fun _ => 0))]) zff_X0_9 rfl (zg_get hg) (fun _ => ⟨rfl, rfl⟩) (Nat.le_of_ble_eq_true rfl) (zg_set hg) (by rw [zg_len hg]; show _ + 2 ≤ 1000; omega) dX0_init_9 ?_
  refine za_aload_n dX0_init_12 rfl rfl ?_
  refine za_bipush (v := 6) dX0_init_13 rfl ?_
  refine za_newa (t := 0) (N := 6) (r := 26) (h2 := g ++ [.inr (0, [.ref (25), .null, .null, .null, .null, .null, .int 0, .int 0, .int 0, .int 0, .int 0, .int 0]), .inl (0, 6, .inl (fun _ => 0)), .inl (0, 6, .inl (fun _ => 0))]) dX0_init_15 zac_int rfl (fun _ => rfl) (fun _ _ q => q) (by decide) rfl (by decide) (by decide) (by decide) (by decide) (by decide) ((zg_len hg).trans rfl) (by omega) zg_push ?_
  refine za_putF (h2 := g ++ [.inr (0, [.ref (25), .ref (26), .null, .null, .null, .null, .int 0, .int 0, .int 0, .int 0, .int 0, .int 0]), .inl (0, 6, .inl (fun _ => 0)), .inl (0, 6, .inl (fun _ => 0))]) zff_X0_15 rfl (zg_get hg) (fun _ => ⟨rfl, rfl⟩) (Nat.le_of_ble_eq_true rfl) (zg_set hg) (by rw [zg_len hg]; show _ + 3 ≤ 1000; omega) dX0_init_17 ?_
  refine za_aload_n dX0_init_20 rfl rfl ?_
  refine za_bipush (v := 6) dX0_init_21 rfl ?_
  refine za_newa (t := 0) (N := 6) (r := 27) (h2 := g ++ [.inr (0, [.ref (25), .ref (26), .null, .null, .null, .null, .int 0, .int 0, .int 0, .int 0, .int 0, .int 0]), .inl (0, 6, .inl (fun _ => 0)), .inl (0, 6, .inl (fun _ => 0)), .inl (0, 6, .inl (fun _ => 0))]) dX0_init_23 zac_int rfl (fun _ => rfl) (fun _ _ q => q) (by decide) rfl (by decide) (by decide) (by decide) (by decide) (by decide) ((zg_len hg).trans rfl) (by omega) zg_push ?_
  refine za_putF (h2 := g ++ [.inr (0, [.ref (25), .ref (26), .ref (27), .null, .null, .null, .int 0, .int 0, .int 0, .int 0, .int 0, .int 0]), .inl (0, 6, .inl (fun _ => 0)), .inl (0, 6, .inl (fun _ => 0)), .inl (0, 6, .inl (fun _ => 0))]) zff_X0_18 rfl (zg_get hg) (fun _ => ⟨rfl, rfl⟩) (Nat.le_of_ble_eq_true rfl) (zg_set hg) (by rw [zg_len hg]; show _ + 4 ≤ 1000; omega) dX0_init_25 ?_
  refine za_aload_n dX0_init_28 rfl rfl ?_
  refine za_bipush (v := 36) dX0_init_29 rfl ?_
  refine za_newa (t := 0) (N := 36) (r := 28) (h2 := g ++ [.inr (0, [.ref (25), .ref (26), .ref (27), .null, .null, .null, .int 0, .int 0, .int 0, .int 0, .int 0, .int 0]), .inl (0, 6, .inl (fun _ => 0)), .inl (0, 6, .inl (fun _ => 0)), .inl (0, 6, .inl (fun _ => 0)), .inl (0, 36, .inl (fun _ => 0))]) dX0_init_31 zac_int rfl (fun _ => rfl) (fun _ _ q => q) (by decide) rfl (by decide) (by decide) (by decide) (by decide) (by decide) ((zg_len hg).trans rfl) (by omega) zg_push ?_
  refine za_putF (h2 := g ++ [.inr (0, [.ref (25), .ref (26), .ref (27), .ref (28), .null, .null, .int 0, .int 0, .int 0, .int 0, .int 0, .int 0]), .inl (0, 6, .inl (fun _ => 0)), .inl (0, 6, .inl (fun _ => 0)), .inl (0, 6, .inl (fun _ => 0)), .inl (0, 36, .inl (fun _ => 0))]) zff_X0_21 rfl (zg_get hg) (fun _ => ⟨rfl, rfl⟩) (Nat.le_of_ble_eq_true rfl) (zg_set hg) (by rw [zg_len hg]; show _ + 5 ≤ 1000; omega) dX0_init_33 ?_
  refine za_aload_n dX0_init_36 rfl rfl ?_
  refine za_bipush (v := 36) dX0_init_37 rfl ?_
  refine za_newa (t := 0) (N := 36) (r := 29) (h2 := g ++ [.inr (0, [.ref (25), .ref (26), .ref (27), .ref (28), .null, .null, .int 0, .int 0, .int 0, .int 0, .int 0, .int 0]), .inl (0, 6, .inl (fun _ => 0)), .inl (0, 6, .inl (fun _ => 0)), .inl (0, 6, .inl (fun _ => 0)), .inl (0, 36, .inl (fun _ => 0)), .inl (0, 36, .inl (fun _ => 0))]) dX0_init_39 zac_int rfl (fun _ => rfl) (fun _ _ q => q) (by decide) rfl (by decide) (by decide) (by decide) (by decide) (by decide) ((zg_len hg).trans rfl) (by omega) zg_push ?_
  refine za_putF (h2 := g ++ [.inr (0, [.ref (25), .ref (26), .ref (27), .ref (28), .ref (29), .null, .int 0, .int 0, .int 0, .int 0, .int 0, .int 0]), .inl (0, 6, .inl (fun _ => 0)), .inl (0, 6, .inl (fun _ => 0)), .inl (0, 6, .inl (fun _ => 0)), .inl (0, 36, .inl (fun _ => 0)), .inl (0, 36, .inl (fun _ => 0))]) zff_X0_24 rfl (zg_get hg) (fun _ => ⟨rfl, rfl⟩) (Nat.le_of_ble_eq_true rfl) (zg_set hg) (by rw [zg_len hg]; show _ + 6 ≤ 1000; omega) dX0_init_41 ?_
  refine za_aload_n dX0_init_44 rfl rfl ?_
  refine za_iconst (v := 3) dX0_init_45 rfl ?_
  refine za_newa (t := 0) (N := 3) (r := 30) (h2 := g ++ [.inr (0, [.ref (25), .ref (26), .ref (27), .ref (28), .ref (29), .null, .int 0, .int 0, .int 0, .int 0, .int 0, .int 0]), .inl (0, 6, .inl (fun _ => 0)), .inl (0, 6, .inl (fun _ => 0)), .inl (0, 6, .inl (fun _ => 0)), .inl (0, 36, .inl (fun _ => 0)), .inl (0, 36, .inl (fun _ => 0)), .inl (0, 3, .inl (fun _ => 0))]) dX0_init_46 zac_int rfl (fun _ => rfl) (fun _ _ q => q) (by decide) rfl (by decide) (by decide) (by decide) (by decide) (by decide) ((zg_len hg).trans rfl) (by omega) zg_push ?_
  refine za_putF (h2 := g ++ [.inr (0, [.ref (25), .ref (26), .ref (27), .ref (28), .ref (29), .ref (30), .int 0, .int 0, .int 0, .int 0, .int 0, .int 0]), .inl (0, 6, .inl (fun _ => 0)), .inl (0, 6, .inl (fun _ => 0)), .inl (0, 6, .inl (fun _ => 0)), .inl (0, 36, .inl (fun _ => 0)), .inl (0, 36, .inl (fun _ => 0)), .inl (0, 3, .inl (fun _ => 0))]) zff_X0_27 rfl (zg_get hg) (fun _ => ⟨rfl, rfl⟩) (Nat.le_of_ble_eq_true rfl) (zg_set hg) (by rw [zg_len hg]; show _ + 7 ≤ 1000; omega) dX0_init_48 ?_
  refine za_aload_n dX0_init_51 rfl rfl ?_
  refine za_call (h2 := g ++ zL7 E 24) (As := []) dX0_init_52 zk_X0_30 zm_X0_empty (c_X0_empty (zLg_24 hg) d hd Z0 E hE) (zg_get hg) rfl rfl rfl (Nat.le_of_ble_eq_true rfl) (by rw [zg_len hg, zg_len hg]; rfl) (by rw [zg_len hg]; show 0 < 24 + 7; omega) (by rw [zg_len hg]; show 24 + 7 ≤ 1000; omega) (by decide) (by decide) ?_
  exact za_ret rfl dX0_init_55
