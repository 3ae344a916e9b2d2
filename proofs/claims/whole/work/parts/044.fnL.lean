-- KingPricesLaw.law([I)Z height 15 writes
def f_law_905 (k18 : zS → Int32 → Option (Int32 × zS)) (len : Nat) (xs : Nat → Int32) (S : zS) (a3 : Int32) : Option (Int32 × zS) :=
  k18 S (a3 + (4 : Int32))
set_option maxRecDepth 100000 in
set_option maxHeartbeats 4000000 in
theorem v_law_905 {len : Nat} {xs : Nat → Int32} (d : Nat) (hd : 14 ≤ d) (k18 : zS → Int32 → Option (Int32 × zS)) (hk18 : ∀ (S : zS) (a3 : Int32) v S', k18 S a3 = (some (v, S')) → zV (some (len, xs)) (d + 1) x cL_law 4 (some .boolean) 18 [(0, .ref 1002), (1, .ref 0), (2, .ref 31), (3, .int a3)] [] (wd S) (zq (some (.int v)) (wd S'))) (S : zS) (a3 : Int32) (v : Int32) (S' : zS) (hf : f_law_905 k18 len xs S a3 = (some (v, S'))) : zV (some (len, xs)) (d + 1) x cL_law 4 (some .boolean) 905 [(0, .ref 1002), (1, .ref 0), (2, .ref 31), (3, .int a3)] [] (wd S) (zq (some (.int v)) (wd S')) := by
  unfold f_law_905 at hf
  refine zv_iinc (v := 4) dL_law_905 rfl (by decide) (by decide) ?_
  refine zv_goto (tgt := 18) dL_law_908 (by decide) ?_
  exact zV_sub ([(0, .ref 1002), (1, .ref 0), (2, .ref 31), (3, .int (a3 + (4 : Int32)))]) ⟨rfl, rfl, rfl, rfl, trivial⟩ (hk18 S (a3 + (4 : Int32)) _ _ hf)
def f_law_160 (k18 : zS → Int32 → Option (Int32 × zS)) (len : Nat) (xs : Nat → Int32) (S : zS) (a3 : Int32) : Option (Int32 × zS) :=
  (if zin (a3 + (1 : Int32)) len then (zb2 (f_X5_type S (xs ((a3 + (1 : Int32))).toNatClampNeg)) (fun x3 S4 => (if zin (a3 + (1 : Int32)) len then (zb2 (f_X6_type S4 (xs ((a3 + (1 : Int32))).toNatClampNeg)) (fun x7 S8 => (if x3 = x7 then f_law_905 k18 len xs S8 a3 else some ((0 : Int32), S8)))) else none))) else none)
set_option maxRecDepth 100000 in
set_option maxHeartbeats 4000000 in
theorem v_law_160 {len : Nat} {xs : Nat → Int32} (d : Nat) (hd : 14 ≤ d) (k18 : zS → Int32 → Option (Int32 × zS)) (hk18 : ∀ (S : zS) (a3 : Int32) v S', k18 S a3 = (some (v, S')) → zV (some (len, xs)) (d + 1) x cL_law 4 (some .boolean) 18 [(0, .ref 1002), (1, .ref 0), (2, .ref 31), (3, .int a3)] [] (wd S) (zq (some (.int v)) (wd S'))) (S : zS) (a3 : Int32) (v : Int32) (S' : zS) (hf : f_law_160 k18 len xs S a3 = (some (v, S'))) : zV (some (len, xs)) (d + 1) x cL_law 4 (some .boolean) 160 [(0, .ref 1002), (1, .ref 0), (2, .ref 31), (3, .int a3)] [] (wd S) (zq (some (.int v)) (wd S')) := by
  unfold f_law_160 at hf
  refine zv_aload_n dL_law_160 rfl rfl ?_
  refine zv_aload_n dL_law_161 rfl rfl ?_
  refine zv_iload_n dL_law_162 rfl rfl ?_
  refine zv_iconst (v := 1) dL_law_163 (by decide) ?_
  refine zv_iadd dL_law_164 ?_
  obtain ⟨hb1, hf⟩ := zifb hf
  refine zv_sld hb1 dL_law_165 ?_
  obtain ⟨x3, S4, hc2, hf⟩ := zbind2 hf
  refine zv_callV dL_law_166 zk_L_13 zm_X5_type (c_X5_type  d (by omega) S (xs ((a3 + (1 : Int32))).toNatClampNeg) x3 S4 hc2) (wo_0 S) rfl rfl rfl (Nat.le_of_ble_eq_true rfl) ?_
  refine zv_aload_n dL_law_169 rfl rfl ?_
  refine zv_aload_n dL_law_170 rfl rfl ?_
  refine zv_iload_n dL_law_171 rfl rfl ?_
  refine zv_iconst (v := 1) dL_law_172 (by decide) ?_
  refine zv_iadd dL_law_173 ?_
  obtain ⟨hb5, hf⟩ := zifb hf
  refine zv_sld hb5 dL_law_174 ?_
  obtain ⟨x7, S8, hc6, hf⟩ := zbind2 hf
  refine zv_callV dL_law_175 zk_L_17 zm_X6_type (c_X6_type  d (by omega) S4 (xs ((a3 + (1 : Int32))).toNatClampNeg) x7 S8 hc6) (wo_31 S4) rfl rfl rfl (Nat.le_of_ble_eq_true rfl) ?_
  refine zv_icmp_eq (tgt := 905) dL_law_178 (by decide) (fun c9 => ?_) (fun c9 => ?_)
  · replace hf := (if_pos c9).symm.trans hf
    exact zV_sub ([(0, .ref 1002), (1, .ref 0), (2, .ref 31), (3, .int a3)]) ⟨rfl, rfl, rfl, rfl, trivial⟩ (v_law_905 d (by omega) k18 hk18 S8 a3 _ _ hf)
  · replace hf := (if_neg c9).symm.trans hf
    refine zv_iconst (v := 0) dL_law_181 (by decide) ?_
    exact zv_iret (ty := .boolean) dL_law_182 rfl rfl (zret2 wd hf)
def f_law_183 (k18 : zS → Int32 → Option (Int32 × zS)) (len : Nat) (xs : Nat → Int32) (S : zS) (a3 : Int32) : Option (Int32 × zS) :=
  (zb2 (f_X5_clear S) (fun x2 S3 => (zb2 (f_X6_clear S3) (fun x5 S6 => (if x2 = x5 then f_law_905 k18 len xs S6 a3 else some ((0 : Int32), S6))))))
set_option maxRecDepth 100000 in
set_option maxHeartbeats 4000000 in
theorem v_law_183 {len : Nat} {xs : Nat → Int32} (d : Nat) (hd : 14 ≤ d) (k18 : zS → Int32 → Option (Int32 × zS)) (hk18 : ∀ (S : zS) (a3 : Int32) v S', k18 S a3 = (some (v, S')) → zV (some (len, xs)) (d + 1) x cL_law 4 (some .boolean) 18 [(0, .ref 1002), (1, .ref 0), (2, .ref 31), (3, .int a3)] [] (wd S) (zq (some (.int v)) (wd S'))) (S : zS) (a3 : Int32) (v : Int32) (S' : zS) (hf : f_law_183 k18 len xs S a3 = (some (v, S'))) : zV (some (len, xs)) (d + 1) x cL_law 4 (some .boolean) 183 [(0, .ref 1002), (1, .ref 0), (2, .ref 31), (3, .int a3)] [] (wd S) (zq (some (.int v)) (wd S')) := by
  unfold f_law_183 at hf
  refine zv_aload_n dL_law_183 rfl rfl ?_
  obtain ⟨x2, S3, hc1, hf⟩ := zbind2 hf
  refine zv_callV dL_law_184 zk_L_18 zm_X5_clear (c_X5_clear  d S x2 S3 hc1) (wo_0 S) rfl rfl rfl (Nat.le_of_ble_eq_true rfl) ?_
  refine zv_aload_n dL_law_187 rfl rfl ?_
  obtain ⟨x5, S6, hc4, hf⟩ := zbind2 hf
  refine zv_callV dL_law_188 zk_L_22 zm_X6_clear (c_X6_clear  d S3 x5 S6 hc4) (wo_31 S3) rfl rfl rfl (Nat.le_of_ble_eq_true rfl) ?_
  refine zv_icmp_eq (tgt := 905) dL_law_191 (by decide) (fun c7 => ?_) (fun c7 => ?_)
  · replace hf := (if_pos c7).symm.trans hf
    exact zV_sub ([(0, .ref 1002), (1, .ref 0), (2, .ref 31), (3, .int a3)]) ⟨rfl, rfl, rfl, rfl, trivial⟩ (v_law_905 d (by omega) k18 hk18 S6 a3 _ _ hf)
  · replace hf := (if_neg c7).symm.trans hf
    refine zv_iconst (v := 0) dL_law_194 (by decide) ?_
    exact zv_iret (ty := .boolean) dL_law_195 rfl rfl (zret2 wd hf)
def f_law_196 (k18 : zS → Int32 → Option (Int32 × zS)) (len : Nat) (xs : Nat → Int32) (S : zS) (a3 : Int32) : Option (Int32 × zS) :=
  (zb2 (f_X5_land S) (fun x2 S3 => (zb2 (f_X6_land S3) (fun x5 S6 => (if x2 = x5 then f_law_905 k18 len xs S6 a3 else some ((0 : Int32), S6))))))
set_option maxRecDepth 100000 in
set_option maxHeartbeats 4000000 in
theorem v_law_196 {len : Nat} {xs : Nat → Int32} (d : Nat) (hd : 14 ≤ d) (k18 : zS → Int32 → Option (Int32 × zS)) (hk18 : ∀ (S : zS) (a3 : Int32) v S', k18 S a3 = (some (v, S')) → zV (some (len, xs)) (d + 1) x cL_law 4 (some .boolean) 18 [(0, .ref 1002), (1, .ref 0), (2, .ref 31), (3, .int a3)] [] (wd S) (zq (some (.int v)) (wd S'))) (S : zS) (a3 : Int32) (v : Int32) (S' : zS) (hf : f_law_196 k18 len xs S a3 = (some (v, S'))) : zV (some (len, xs)) (d + 1) x cL_law 4 (some .boolean) 196 [(0, .ref 1002), (1, .ref 0), (2, .ref 31), (3, .int a3)] [] (wd S) (zq (some (.int v)) (wd S')) := by
  unfold f_law_196 at hf
  refine zv_aload_n dL_law_196 rfl rfl ?_
  obtain ⟨x2, S3, hc1, hf⟩ := zbind2 hf
  refine zv_callV dL_law_197 zk_L_23 zm_X5_land (c_X5_land  d (by omega) S x2 S3 hc1) (wo_0 S) rfl rfl rfl (Nat.le_of_ble_eq_true rfl) ?_
  refine zv_aload_n dL_law_200 rfl rfl ?_
  obtain ⟨x5, S6, hc4, hf⟩ := zbind2 hf
  refine zv_callV dL_law_201 zk_L_26 zm_X6_land (c_X6_land  d (by omega) S3 x5 S6 hc4) (wo_31 S3) rfl rfl rfl (Nat.le_of_ble_eq_true rfl) ?_
  refine zv_icmp_eq (tgt := 905) dL_law_204 (by decide) (fun c7 => ?_) (fun c7 => ?_)
  · replace hf := (if_pos c7).symm.trans hf
    exact zV_sub ([(0, .ref 1002), (1, .ref 0), (2, .ref 31), (3, .int a3)]) ⟨rfl, rfl, rfl, rfl, trivial⟩ (v_law_905 d (by omega) k18 hk18 S6 a3 _ _ hf)
  · replace hf := (if_neg c7).symm.trans hf
    refine zv_iconst (v := 0) dL_law_207 (by decide) ?_
    exact zv_iret (ty := .boolean) dL_law_208 rfl rfl (zret2 wd hf)
def f_law_209 (k18 : zS → Int32 → Option (Int32 × zS)) (len : Nat) (xs : Nat → Int32) (S : zS) (a3 : Int32) : Option (Int32 × zS) :=
  (if zin (a3 + (1 : Int32)) len then (if zin (a3 + (2 : Int32)) len then ((f_X5_village S (xs ((a3 + (1 : Int32))).toNatClampNeg) (xs ((a3 + (2 : Int32))).toNatClampNeg)).bind (fun x4 => (if zin (a3 + (1 : Int32)) len then (if zin (a3 + (2 : Int32)) len then ((f_X6_village S (xs ((a3 + (1 : Int32))).toNatClampNeg) (xs ((a3 + (2 : Int32))).toNatClampNeg)).bind (fun x8 => (if x4 = x8 then f_law_905 k18 len xs S a3 else some ((0 : Int32), S)))) else none) else none))) else none) else none)
set_option maxRecDepth 100000 in
set_option maxHeartbeats 4000000 in
theorem v_law_209 {len : Nat} {xs : Nat → Int32} (d : Nat) (hd : 14 ≤ d) (k18 : zS → Int32 → Option (Int32 × zS)) (hk18 : ∀ (S : zS) (a3 : Int32) v S', k18 S a3 = (some (v, S')) → zV (some (len, xs)) (d + 1) x cL_law 4 (some .boolean) 18 [(0, .ref 1002), (1, .ref 0), (2, .ref 31), (3, .int a3)] [] (wd S) (zq (some (.int v)) (wd S'))) (S : zS) (a3 : Int32) (v : Int32) (S' : zS) (hf : f_law_209 k18 len xs S a3 = (some (v, S'))) : zV (some (len, xs)) (d + 1) x cL_law 4 (some .boolean) 209 [(0, .ref 1002), (1, .ref 0), (2, .ref 31), (3, .int a3)] [] (wd S) (zq (some (.int v)) (wd S')) := by
  unfold f_law_209 at hf
  refine zv_aload_n dL_law_209 rfl rfl ?_
  refine zv_aload_n dL_law_210 rfl rfl ?_
  refine zv_iload_n dL_law_211 rfl rfl ?_
  refine zv_iconst (v := 1) dL_law_212 (by decide) ?_
  refine zv_iadd dL_law_213 ?_
  obtain ⟨hb1, hf⟩ := zifb hf
  refine zv_sld hb1 dL_law_214 ?_
  refine zv_aload_n dL_law_215 rfl rfl ?_
  refine zv_iload_n dL_law_216 rfl rfl ?_
  refine zv_iconst (v := 2) dL_law_217 (by decide) ?_
  refine zv_iadd dL_law_218 ?_
  obtain ⟨hb2, hf⟩ := zifb hf
  refine zv_sld hb2 dL_law_219 ?_
  obtain ⟨x4, hc3, hf⟩ := zbind hf
  refine zv_callV dL_law_220 zk_L_27 zm_X5_village (c_X5_village  d (by omega) S (xs ((a3 + (1 : Int32))).toNatClampNeg) (xs ((a3 + (2 : Int32))).toNatClampNeg) x4 hc3) (wo_0 S) rfl rfl rfl (Nat.le_of_ble_eq_true rfl) ?_
  refine zv_aload_n dL_law_223 rfl rfl ?_
  refine zv_aload_n dL_law_224 rfl rfl ?_
  refine zv_iload_n dL_law_225 rfl rfl ?_
  refine zv_iconst (v := 1) dL_law_226 (by decide) ?_
  refine zv_iadd dL_law_227 ?_
  obtain ⟨hb5, hf⟩ := zifb hf
  refine zv_sld hb5 dL_law_228 ?_
  refine zv_aload_n dL_law_229 rfl rfl ?_
  refine zv_iload_n dL_law_230 rfl rfl ?_
  refine zv_iconst (v := 2) dL_law_231 (by decide) ?_
  refine zv_iadd dL_law_232 ?_
  obtain ⟨hb6, hf⟩ := zifb hf
  refine zv_sld hb6 dL_law_233 ?_
  obtain ⟨x8, hc7, hf⟩ := zbind hf
  refine zv_callV dL_law_234 zk_L_31 zm_X6_village (c_X6_village  d (by omega) S (xs ((a3 + (1 : Int32))).toNatClampNeg) (xs ((a3 + (2 : Int32))).toNatClampNeg) x8 hc7) (wo_31 S) rfl rfl rfl (Nat.le_of_ble_eq_true rfl) ?_
  refine zv_icmp_eq (tgt := 905) dL_law_237 (by decide) (fun c9 => ?_) (fun c9 => ?_)
  · replace hf := (if_pos c9).symm.trans hf
    exact zV_sub ([(0, .ref 1002), (1, .ref 0), (2, .ref 31), (3, .int a3)]) ⟨rfl, rfl, rfl, rfl, trivial⟩ (v_law_905 d (by omega) k18 hk18 S a3 _ _ hf)
  · replace hf := (if_neg c9).symm.trans hf
    refine zv_iconst (v := 0) dL_law_240 (by decide) ?_
    exact zv_iret (ty := .boolean) dL_law_241 rfl rfl (zret2 wd hf)
def f_law_242 (k18 : zS → Int32 → Option (Int32 × zS)) (len : Nat) (xs : Nat → Int32) (S : zS) (a3 : Int32) : Option (Int32 × zS) :=
  (if zin (a3 + (1 : Int32)) len then (if zin (a3 + (2 : Int32)) len then ((f_X5_far S (xs ((a3 + (1 : Int32))).toNatClampNeg) (xs ((a3 + (2 : Int32))).toNatClampNeg)).bind (fun x4 => (if zin (a3 + (1 : Int32)) len then (if zin (a3 + (2 : Int32)) len then ((f_X6_far S (xs ((a3 + (1 : Int32))).toNatClampNeg) (xs ((a3 + (2 : Int32))).toNatClampNeg)).bind (fun x8 => (if x4 = x8 then f_law_905 k18 len xs S a3 else some ((0 : Int32), S)))) else none) else none))) else none) else none)
set_option maxRecDepth 100000 in
set_option maxHeartbeats 4000000 in
theorem v_law_242 {len : Nat} {xs : Nat → Int32} (d : Nat) (hd : 14 ≤ d) (k18 : zS → Int32 → Option (Int32 × zS)) (hk18 : ∀ (S : zS) (a3 : Int32) v S', k18 S a3 = (some (v, S')) → zV (some (len, xs)) (d + 1) x cL_law 4 (some .boolean) 18 [(0, .ref 1002), (1, .ref 0), (2, .ref 31), (3, .int a3)] [] (wd S) (zq (some (.int v)) (wd S'))) (S : zS) (a3 : Int32) (v : Int32) (S' : zS) (hf : f_law_242 k18 len xs S a3 = (some (v, S'))) : zV (some (len, xs)) (d + 1) x cL_law 4 (some .boolean) 242 [(0, .ref 1002), (1, .ref 0), (2, .ref 31), (3, .int a3)] [] (wd S) (zq (some (.int v)) (wd S')) := by
  unfold f_law_242 at hf
  refine zv_aload_n dL_law_242 rfl rfl ?_
  refine zv_aload_n dL_law_243 rfl rfl ?_
  refine zv_iload_n dL_law_244 rfl rfl ?_
  refine zv_iconst (v := 1) dL_law_245 (by decide) ?_
  refine zv_iadd dL_law_246 ?_
  obtain ⟨hb1, hf⟩ := zifb hf
  refine zv_sld hb1 dL_law_247 ?_
  refine zv_aload_n dL_law_248 rfl rfl ?_
  refine zv_iload_n dL_law_249 rfl rfl ?_
  refine zv_iconst (v := 2) dL_law_250 (by decide) ?_
  refine zv_iadd dL_law_251 ?_
  obtain ⟨hb2, hf⟩ := zifb hf
  refine zv_sld hb2 dL_law_252 ?_
  obtain ⟨x4, hc3, hf⟩ := zbind hf
  refine zv_callV dL_law_253 zk_L_32 zm_X5_far (c_X5_far  d (by omega) S (xs ((a3 + (1 : Int32))).toNatClampNeg) (xs ((a3 + (2 : Int32))).toNatClampNeg) x4 hc3) (wo_0 S) rfl rfl rfl (Nat.le_of_ble_eq_true rfl) ?_
  refine zv_aload_n dL_law_256 rfl rfl ?_
  refine zv_aload_n dL_law_257 rfl rfl ?_
  refine zv_iload_n dL_law_258 rfl rfl ?_
  refine zv_iconst (v := 1) dL_law_259 (by decide) ?_
  refine zv_iadd dL_law_260 ?_
  obtain ⟨hb5, hf⟩ := zifb hf
  refine zv_sld hb5 dL_law_261 ?_
  refine zv_aload_n dL_law_262 rfl rfl ?_
  refine zv_iload_n dL_law_263 rfl rfl ?_
  refine zv_iconst (v := 2) dL_law_264 (by decide) ?_
  refine zv_iadd dL_law_265 ?_
  obtain ⟨hb6, hf⟩ := zifb hf
  refine zv_sld hb6 dL_law_266 ?_
  obtain ⟨x8, hc7, hf⟩ := zbind hf
  refine zv_callV dL_law_267 zk_L_35 zm_X6_far (c_X6_far  d (by omega) S (xs ((a3 + (1 : Int32))).toNatClampNeg) (xs ((a3 + (2 : Int32))).toNatClampNeg) x8 hc7) (wo_31 S) rfl rfl rfl (Nat.le_of_ble_eq_true rfl) ?_
  refine zv_icmp_eq (tgt := 905) dL_law_270 (by decide) (fun c9 => ?_) (fun c9 => ?_)
  · replace hf := (if_pos c9).symm.trans hf
    exact zV_sub ([(0, .ref 1002), (1, .ref 0), (2, .ref 31), (3, .int a3)]) ⟨rfl, rfl, rfl, rfl, trivial⟩ (v_law_905 d (by omega) k18 hk18 S a3 _ _ hf)
  · replace hf := (if_neg c9).symm.trans hf
    refine zv_iconst (v := 0) dL_law_273 (by decide) ?_
    exact zv_iret (ty := .boolean) dL_law_274 rfl rfl (zret2 wd hf)
def f_law_275 (k18 : zS → Int32 → Option (Int32 × zS)) (len : Nat) (xs : Nat → Int32) (S : zS) (a3 : Int32) : Option (Int32 × zS) :=
  (if zin (a3 + (1 : Int32)) len then (if zin (a3 + (2 : Int32)) len then ((f_X5_owes S (xs ((a3 + (1 : Int32))).toNatClampNeg) (xs ((a3 + (2 : Int32))).toNatClampNeg)).bind (fun x4 => (if zin (a3 + (1 : Int32)) len then (if zin (a3 + (2 : Int32)) len then ((f_X6_owes S (xs ((a3 + (1 : Int32))).toNatClampNeg) (xs ((a3 + (2 : Int32))).toNatClampNeg)).bind (fun x8 => (if x4 = x8 then f_law_905 k18 len xs S a3 else some ((0 : Int32), S)))) else none) else none))) else none) else none)
set_option maxRecDepth 100000 in
set_option maxHeartbeats 4000000 in
theorem v_law_275 {len : Nat} {xs : Nat → Int32} (d : Nat) (hd : 14 ≤ d) (k18 : zS → Int32 → Option (Int32 × zS)) (hk18 : ∀ (S : zS) (a3 : Int32) v S', k18 S a3 = (some (v, S')) → zV (some (len, xs)) (d + 1) x cL_law 4 (some .boolean) 18 [(0, .ref 1002), (1, .ref 0), (2, .ref 31), (3, .int a3)] [] (wd S) (zq (some (.int v)) (wd S'))) (S : zS) (a3 : Int32) (v : Int32) (S' : zS) (hf : f_law_275 k18 len xs S a3 = (some (v, S'))) : zV (some (len, xs)) (d + 1) x cL_law 4 (some .boolean) 275 [(0, .ref 1002), (1, .ref 0), (2, .ref 31), (3, .int a3)] [] (wd S) (zq (some (.int v)) (wd S')) := by
  unfold f_law_275 at hf
  refine zv_aload_n dL_law_275 rfl rfl ?_
  refine zv_aload_n dL_law_276 rfl rfl ?_
  refine zv_iload_n dL_law_277 rfl rfl ?_
  refine zv_iconst (v := 1) dL_law_278 (by decide) ?_
  refine zv_iadd dL_law_279 ?_
  obtain ⟨hb1, hf⟩ := zifb hf
  refine zv_sld hb1 dL_law_280 ?_
  refine zv_aload_n dL_law_281 rfl rfl ?_
  refine zv_iload_n dL_law_282 rfl rfl ?_
  refine zv_iconst (v := 2) dL_law_283 (by decide) ?_
  refine zv_iadd dL_law_284 ?_
  obtain ⟨hb2, hf⟩ := zifb hf
  refine zv_sld hb2 dL_law_285 ?_
  obtain ⟨x4, hc3, hf⟩ := zbind hf
  refine zv_callV dL_law_286 zk_L_36 zm_X5_owes (c_X5_owes  d (by omega) S (xs ((a3 + (1 : Int32))).toNatClampNeg) (xs ((a3 + (2 : Int32))).toNatClampNeg) x4 hc3) (wo_0 S) rfl rfl rfl (Nat.le_of_ble_eq_true rfl) ?_
  refine zv_aload_n dL_law_289 rfl rfl ?_
  refine zv_aload_n dL_law_290 rfl rfl ?_
  refine zv_iload_n dL_law_291 rfl rfl ?_
  refine zv_iconst (v := 1) dL_law_292 (by decide) ?_
  refine zv_iadd dL_law_293 ?_
  obtain ⟨hb5, hf⟩ := zifb hf
  refine zv_sld hb5 dL_law_294 ?_
  refine zv_aload_n dL_law_295 rfl rfl ?_
  refine zv_iload_n dL_law_296 rfl rfl ?_
  refine zv_iconst (v := 2) dL_law_297 (by decide) ?_
  refine zv_iadd dL_law_298 ?_
  obtain ⟨hb6, hf⟩ := zifb hf
  refine zv_sld hb6 dL_law_299 ?_
  obtain ⟨x8, hc7, hf⟩ := zbind hf
  refine zv_callV dL_law_300 zk_L_39 zm_X6_owes (c_X6_owes  d (by omega) S (xs ((a3 + (1 : Int32))).toNatClampNeg) (xs ((a3 + (2 : Int32))).toNatClampNeg) x8 hc7) (wo_31 S) rfl rfl rfl (Nat.le_of_ble_eq_true rfl) ?_
  refine zv_icmp_eq (tgt := 905) dL_law_303 (by decide) (fun c9 => ?_) (fun c9 => ?_)
  · replace hf := (if_pos c9).symm.trans hf
    exact zV_sub ([(0, .ref 1002), (1, .ref 0), (2, .ref 31), (3, .int a3)]) ⟨rfl, rfl, rfl, rfl, trivial⟩ (v_law_905 d (by omega) k18 hk18 S a3 _ _ hf)
  · replace hf := (if_neg c9).symm.trans hf
    refine zv_iconst (v := 0) dL_law_306 (by decide) ?_
    exact zv_iret (ty := .boolean) dL_law_307 rfl rfl (zret2 wd hf)
def f_law_308 (k18 : zS → Int32 → Option (Int32 × zS)) (len : Nat) (xs : Nat → Int32) (S : zS) (a3 : Int32) : Option (Int32 × zS) :=
  (if zin (a3 + (1 : Int32)) len then (zb2 (f_X5_goes S (xs ((a3 + (1 : Int32))).toNatClampNeg)) (fun x3 S4 => (if zin (a3 + (1 : Int32)) len then (zb2 (f_X6_goes S4 (xs ((a3 + (1 : Int32))).toNatClampNeg)) (fun x7 S8 => (if x3 = x7 then f_law_905 k18 len xs S8 a3 else some ((0 : Int32), S8)))) else none))) else none)
set_option maxRecDepth 100000 in
set_option maxHeartbeats 4000000 in
theorem v_law_308 {len : Nat} {xs : Nat → Int32} (d : Nat) (hd : 14 ≤ d) (k18 : zS → Int32 → Option (Int32 × zS)) (hk18 : ∀ (S : zS) (a3 : Int32) v S', k18 S a3 = (some (v, S')) → zV (some (len, xs)) (d + 1) x cL_law 4 (some .boolean) 18 [(0, .ref 1002), (1, .ref 0), (2, .ref 31), (3, .int a3)] [] (wd S) (zq (some (.int v)) (wd S'))) (S : zS) (a3 : Int32) (v : Int32) (S' : zS) (hf : f_law_308 k18 len xs S a3 = (some (v, S'))) : zV (some (len, xs)) (d + 1) x cL_law 4 (some .boolean) 308 [(0, .ref 1002), (1, .ref 0), (2, .ref 31), (3, .int a3)] [] (wd S) (zq (some (.int v)) (wd S')) := by
  unfold f_law_308 at hf
  refine zv_aload_n dL_law_308 rfl rfl ?_
  refine zv_aload_n dL_law_309 rfl rfl ?_
  refine zv_iload_n dL_law_310 rfl rfl ?_
  refine zv_iconst (v := 1) dL_law_311 (by decide) ?_
  refine zv_iadd dL_law_312 ?_
  obtain ⟨hb1, hf⟩ := zifb hf
  refine zv_sld hb1 dL_law_313 ?_
  obtain ⟨x3, S4, hc2, hf⟩ := zbind2 hf
  refine zv_callV dL_law_314 zk_L_40 zm_X5_goes (c_X5_goes  d (by omega) S (xs ((a3 + (1 : Int32))).toNatClampNeg) x3 S4 hc2) (wo_0 S) rfl rfl rfl (Nat.le_of_ble_eq_true rfl) ?_
  refine zv_aload_n dL_law_317 rfl rfl ?_
  refine zv_aload_n dL_law_318 rfl rfl ?_
  refine zv_iload_n dL_law_319 rfl rfl ?_
  refine zv_iconst (v := 1) dL_law_320 (by decide) ?_
  refine zv_iadd dL_law_321 ?_
  obtain ⟨hb5, hf⟩ := zifb hf
  refine zv_sld hb5 dL_law_322 ?_
  obtain ⟨x7, S8, hc6, hf⟩ := zbind2 hf
  refine zv_callV dL_law_323 zk_L_43 zm_X6_goes (c_X6_goes  d (by omega) S4 (xs ((a3 + (1 : Int32))).toNatClampNeg) x7 S8 hc6) (wo_31 S4) rfl rfl rfl (Nat.le_of_ble_eq_true rfl) ?_
  refine zv_icmp_eq (tgt := 905) dL_law_326 (by decide) (fun c9 => ?_) (fun c9 => ?_)
  · replace hf := (if_pos c9).symm.trans hf
    exact zV_sub ([(0, .ref 1002), (1, .ref 0), (2, .ref 31), (3, .int a3)]) ⟨rfl, rfl, rfl, rfl, trivial⟩ (v_law_905 d (by omega) k18 hk18 S8 a3 _ _ hf)
  · replace hf := (if_neg c9).symm.trans hf
    refine zv_iconst (v := 0) dL_law_329 (by decide) ?_
    exact zv_iret (ty := .boolean) dL_law_330 rfl rfl (zret2 wd hf)
def f_law_331 (k18 : zS → Int32 → Option (Int32 × zS)) (len : Nat) (xs : Nat → Int32) (S : zS) (a3 : Int32) : Option (Int32 × zS) :=
  (zb2 (f_X5_stays S) (fun x2 S3 => (zb2 (f_X6_stays S3) (fun x5 S6 => (if x2 = x5 then f_law_905 k18 len xs S6 a3 else some ((0 : Int32), S6))))))
set_option maxRecDepth 100000 in
set_option maxHeartbeats 4000000 in
theorem v_law_331 {len : Nat} {xs : Nat → Int32} (d : Nat) (hd : 14 ≤ d) (k18 : zS → Int32 → Option (Int32 × zS)) (hk18 : ∀ (S : zS) (a3 : Int32) v S', k18 S a3 = (some (v, S')) → zV (some (len, xs)) (d + 1) x cL_law 4 (some .boolean) 18 [(0, .ref 1002), (1, .ref 0), (2, .ref 31), (3, .int a3)] [] (wd S) (zq (some (.int v)) (wd S'))) (S : zS) (a3 : Int32) (v : Int32) (S' : zS) (hf : f_law_331 k18 len xs S a3 = (some (v, S'))) : zV (some (len, xs)) (d + 1) x cL_law 4 (some .boolean) 331 [(0, .ref 1002), (1, .ref 0), (2, .ref 31), (3, .int a3)] [] (wd S) (zq (some (.int v)) (wd S')) := by
  unfold f_law_331 at hf
  refine zv_aload_n dL_law_331 rfl rfl ?_
  obtain ⟨x2, S3, hc1, hf⟩ := zbind2 hf
  refine zv_callV dL_law_332 zk_L_44 zm_X5_stays (c_X5_stays  d (by omega) S x2 S3 hc1) (wo_0 S) rfl rfl rfl (Nat.le_of_ble_eq_true rfl) ?_
  refine zv_aload_n dL_law_335 rfl rfl ?_
  obtain ⟨x5, S6, hc4, hf⟩ := zbind2 hf
  refine zv_callV dL_law_336 zk_L_47 zm_X6_stays (c_X6_stays  d (by omega) S3 x5 S6 hc4) (wo_31 S3) rfl rfl rfl (Nat.le_of_ble_eq_true rfl) ?_
  refine zv_icmp_eq (tgt := 905) dL_law_339 (by decide) (fun c7 => ?_) (fun c7 => ?_)
  · replace hf := (if_pos c7).symm.trans hf
    exact zV_sub ([(0, .ref 1002), (1, .ref 0), (2, .ref 31), (3, .int a3)]) ⟨rfl, rfl, rfl, rfl, trivial⟩ (v_law_905 d (by omega) k18 hk18 S6 a3 _ _ hf)
  · replace hf := (if_neg c7).symm.trans hf
    refine zv_iconst (v := 0) dL_law_342 (by decide) ?_
    exact zv_iret (ty := .boolean) dL_law_343 rfl rfl (zret2 wd hf)
def f_law_344 (k18 : zS → Int32 → Option (Int32 × zS)) (len : Nat) (xs : Nat → Int32) (S : zS) (a3 : Int32) : Option (Int32 × zS) :=
  (if zin (a3 + (1 : Int32)) len then (zb2 (f_X5_takes S (xs ((a3 + (1 : Int32))).toNatClampNeg)) (fun x3 S4 => (if zin (a3 + (1 : Int32)) len then (zb2 (f_X6_takes S4 (xs ((a3 + (1 : Int32))).toNatClampNeg)) (fun x7 S8 => (if x3 = x7 then f_law_905 k18 len xs S8 a3 else some ((0 : Int32), S8)))) else none))) else none)
set_option maxRecDepth 100000 in
set_option maxHeartbeats 4000000 in
theorem v_law_344 {len : Nat} {xs : Nat → Int32} (d : Nat) (hd : 14 ≤ d) (k18 : zS → Int32 → Option (Int32 × zS)) (hk18 : ∀ (S : zS) (a3 : Int32) v S', k18 S a3 = (some (v, S')) → zV (some (len, xs)) (d + 1) x cL_law 4 (some .boolean) 18 [(0, .ref 1002), (1, .ref 0), (2, .ref 31), (3, .int a3)] [] (wd S) (zq (some (.int v)) (wd S'))) (S : zS) (a3 : Int32) (v : Int32) (S' : zS) (hf : f_law_344 k18 len xs S a3 = (some (v, S'))) : zV (some (len, xs)) (d + 1) x cL_law 4 (some .boolean) 344 [(0, .ref 1002), (1, .ref 0), (2, .ref 31), (3, .int a3)] [] (wd S) (zq (some (.int v)) (wd S')) := by
  unfold f_law_344 at hf
  refine zv_aload_n dL_law_344 rfl rfl ?_
  refine zv_aload_n dL_law_345 rfl rfl ?_
  refine zv_iload_n dL_law_346 rfl rfl ?_
  refine zv_iconst (v := 1) dL_law_347 (by decide) ?_
  refine zv_iadd dL_law_348 ?_
  obtain ⟨hb1, hf⟩ := zifb hf
  refine zv_sld hb1 dL_law_349 ?_
  obtain ⟨x3, S4, hc2, hf⟩ := zbind2 hf
  refine zv_callV dL_law_350 zk_L_48 zm_X5_takes (c_X5_takes  d (by omega) S (xs ((a3 + (1 : Int32))).toNatClampNeg) x3 S4 hc2) (wo_0 S) rfl rfl rfl (Nat.le_of_ble_eq_true rfl) ?_
  refine zv_aload_n dL_law_353 rfl rfl ?_
  refine zv_aload_n dL_law_354 rfl rfl ?_
  refine zv_iload_n dL_law_355 rfl rfl ?_
  refine zv_iconst (v := 1) dL_law_356 (by decide) ?_
  refine zv_iadd dL_law_357 ?_
  obtain ⟨hb5, hf⟩ := zifb hf
  refine zv_sld hb5 dL_law_358 ?_
  obtain ⟨x7, S8, hc6, hf⟩ := zbind2 hf
  refine zv_callV dL_law_359 zk_L_51 zm_X6_takes (c_X6_takes  d (by omega) S4 (xs ((a3 + (1 : Int32))).toNatClampNeg) x7 S8 hc6) (wo_31 S4) rfl rfl rfl (Nat.le_of_ble_eq_true rfl) ?_
  refine zv_icmp_eq (tgt := 905) dL_law_362 (by decide) (fun c9 => ?_) (fun c9 => ?_)
  · replace hf := (if_pos c9).symm.trans hf
    exact zV_sub ([(0, .ref 1002), (1, .ref 0), (2, .ref 31), (3, .int a3)]) ⟨rfl, rfl, rfl, rfl, trivial⟩ (v_law_905 d (by omega) k18 hk18 S8 a3 _ _ hf)
  · replace hf := (if_neg c9).symm.trans hf
    refine zv_iconst (v := 0) dL_law_365 (by decide) ?_
    exact zv_iret (ty := .boolean) dL_law_366 rfl rfl (zret2 wd hf)
def f_law_367 (k18 : zS → Int32 → Option (Int32 × zS)) (len : Nat) (xs : Nat → Int32) (S : zS) (a3 : Int32) : Option (Int32 × zS) :=
  (if zin (a3 + (1 : Int32)) len then (if zin (a3 + (2 : Int32)) len then (zb2 (f_X5_hides S (xs ((a3 + (1 : Int32))).toNatClampNeg) (xs ((a3 + (2 : Int32))).toNatClampNeg)) (fun x4 S5 => (if zin (a3 + (1 : Int32)) len then (if zin (a3 + (2 : Int32)) len then (zb2 (f_X6_hides S5 (xs ((a3 + (1 : Int32))).toNatClampNeg) (xs ((a3 + (2 : Int32))).toNatClampNeg)) (fun x9 S10 => (if x4 = x9 then f_law_905 k18 len xs S10 a3 else some ((0 : Int32), S10)))) else none) else none))) else none) else none)
set_option maxRecDepth 100000 in
set_option maxHeartbeats 4000000 in
theorem v_law_367 {len : Nat} {xs : Nat → Int32} (d : Nat) (hd : 14 ≤ d) (k18 : zS → Int32 → Option (Int32 × zS)) (hk18 : ∀ (S : zS) (a3 : Int32) v S', k18 S a3 = (some (v, S')) → zV (some (len, xs)) (d + 1) x cL_law 4 (some .boolean) 18 [(0, .ref 1002), (1, .ref 0), (2, .ref 31), (3, .int a3)] [] (wd S) (zq (some (.int v)) (wd S'))) (S : zS) (a3 : Int32) (v : Int32) (S' : zS) (hf : f_law_367 k18 len xs S a3 = (some (v, S'))) : zV (some (len, xs)) (d + 1) x cL_law 4 (some .boolean) 367 [(0, .ref 1002), (1, .ref 0), (2, .ref 31), (3, .int a3)] [] (wd S) (zq (some (.int v)) (wd S')) := by
  unfold f_law_367 at hf
  refine zv_aload_n dL_law_367 rfl rfl ?_
  refine zv_aload_n dL_law_368 rfl rfl ?_
  refine zv_iload_n dL_law_369 rfl rfl ?_
  refine zv_iconst (v := 1) dL_law_370 (by decide) ?_
  refine zv_iadd dL_law_371 ?_
  obtain ⟨hb1, hf⟩ := zifb hf
  refine zv_sld hb1 dL_law_372 ?_
  refine zv_aload_n dL_law_373 rfl rfl ?_
  refine zv_iload_n dL_law_374 rfl rfl ?_
  refine zv_iconst (v := 2) dL_law_375 (by decide) ?_
  refine zv_iadd dL_law_376 ?_
  obtain ⟨hb2, hf⟩ := zifb hf
  refine zv_sld hb2 dL_law_377 ?_
  obtain ⟨x4, S5, hc3, hf⟩ := zbind2 hf
  refine zv_callV dL_law_378 zk_L_52 zm_X5_hides (c_X5_hides  d (by omega) S (xs ((a3 + (1 : Int32))).toNatClampNeg) (xs ((a3 + (2 : Int32))).toNatClampNeg) x4 S5 hc3) (wo_0 S) rfl rfl rfl (Nat.le_of_ble_eq_true rfl) ?_
  refine zv_aload_n dL_law_381 rfl rfl ?_
  refine zv_aload_n dL_law_382 rfl rfl ?_
  refine zv_iload_n dL_law_383 rfl rfl ?_
  refine zv_iconst (v := 1) dL_law_384 (by decide) ?_
  refine zv_iadd dL_law_385 ?_
  obtain ⟨hb6, hf⟩ := zifb hf
  refine zv_sld hb6 dL_law_386 ?_
  refine zv_aload_n dL_law_387 rfl rfl ?_
  refine zv_iload_n dL_law_388 rfl rfl ?_
  refine zv_iconst (v := 2) dL_law_389 (by decide) ?_
  refine zv_iadd dL_law_390 ?_
  obtain ⟨hb7, hf⟩ := zifb hf
  refine zv_sld hb7 dL_law_391 ?_
  obtain ⟨x9, S10, hc8, hf⟩ := zbind2 hf
  refine zv_callV dL_law_392 zk_L_55 zm_X6_hides (c_X6_hides  d (by omega) S5 (xs ((a3 + (1 : Int32))).toNatClampNeg) (xs ((a3 + (2 : Int32))).toNatClampNeg) x9 S10 hc8) (wo_31 S5) rfl rfl rfl (Nat.le_of_ble_eq_true rfl) ?_
  refine zv_icmp_eq (tgt := 905) dL_law_395 (by decide) (fun c11 => ?_) (fun c11 => ?_)
  · replace hf := (if_pos c11).symm.trans hf
    exact zV_sub ([(0, .ref 1002), (1, .ref 0), (2, .ref 31), (3, .int a3)]) ⟨rfl, rfl, rfl, rfl, trivial⟩ (v_law_905 d (by omega) k18 hk18 S10 a3 _ _ hf)
  · replace hf := (if_neg c11).symm.trans hf
    refine zv_iconst (v := 0) dL_law_398 (by decide) ?_
    exact zv_iret (ty := .boolean) dL_law_399 rfl rfl (zret2 wd hf)
def f_law_400 (k18 : zS → Int32 → Option (Int32 × zS)) (len : Nat) (xs : Nat → Int32) (S : zS) (a3 : Int32) : Option (Int32 × zS) :=
  (if zin (a3 + (1 : Int32)) len then (if zin (a3 + (2 : Int32)) len then (zb2 (f_X5_shows S (xs ((a3 + (1 : Int32))).toNatClampNeg) (xs ((a3 + (2 : Int32))).toNatClampNeg)) (fun x4 S5 => (if zin (a3 + (1 : Int32)) len then (if zin (a3 + (2 : Int32)) len then (zb2 (f_X6_shows S5 (xs ((a3 + (1 : Int32))).toNatClampNeg) (xs ((a3 + (2 : Int32))).toNatClampNeg)) (fun x9 S10 => (if x4 = x9 then f_law_905 k18 len xs S10 a3 else some ((0 : Int32), S10)))) else none) else none))) else none) else none)
set_option maxRecDepth 100000 in
set_option maxHeartbeats 4000000 in
theorem v_law_400 {len : Nat} {xs : Nat → Int32} (d : Nat) (hd : 14 ≤ d) (k18 : zS → Int32 → Option (Int32 × zS)) (hk18 : ∀ (S : zS) (a3 : Int32) v S', k18 S a3 = (some (v, S')) → zV (some (len, xs)) (d + 1) x cL_law 4 (some .boolean) 18 [(0, .ref 1002), (1, .ref 0), (2, .ref 31), (3, .int a3)] [] (wd S) (zq (some (.int v)) (wd S'))) (S : zS) (a3 : Int32) (v : Int32) (S' : zS) (hf : f_law_400 k18 len xs S a3 = (some (v, S'))) : zV (some (len, xs)) (d + 1) x cL_law 4 (some .boolean) 400 [(0, .ref 1002), (1, .ref 0), (2, .ref 31), (3, .int a3)] [] (wd S) (zq (some (.int v)) (wd S')) := by
  unfold f_law_400 at hf
  refine zv_aload_n dL_law_400 rfl rfl ?_
  refine zv_aload_n dL_law_401 rfl rfl ?_
  refine zv_iload_n dL_law_402 rfl rfl ?_
  refine zv_iconst (v := 1) dL_law_403 (by decide) ?_
  refine zv_iadd dL_law_404 ?_
  obtain ⟨hb1, hf⟩ := zifb hf
  refine zv_sld hb1 dL_law_405 ?_
  refine zv_aload_n dL_law_406 rfl rfl ?_
  refine zv_iload_n dL_law_407 rfl rfl ?_
  refine zv_iconst (v := 2) dL_law_408 (by decide) ?_
  refine zv_iadd dL_law_409 ?_
  obtain ⟨hb2, hf⟩ := zifb hf
  refine zv_sld hb2 dL_law_410 ?_
  obtain ⟨x4, S5, hc3, hf⟩ := zbind2 hf
  refine zv_callV dL_law_411 zk_L_56 zm_X5_shows (c_X5_shows  d (by omega) S (xs ((a3 + (1 : Int32))).toNatClampNeg) (xs ((a3 + (2 : Int32))).toNatClampNeg) x4 S5 hc3) (wo_0 S) rfl rfl rfl (Nat.le_of_ble_eq_true rfl) ?_
  refine zv_aload_n dL_law_414 rfl rfl ?_
  refine zv_aload_n dL_law_415 rfl rfl ?_
  refine zv_iload_n dL_law_416 rfl rfl ?_
  refine zv_iconst (v := 1) dL_law_417 (by decide) ?_
  refine zv_iadd dL_law_418 ?_
  obtain ⟨hb6, hf⟩ := zifb hf
  refine zv_sld hb6 dL_law_419 ?_
  refine zv_aload_n dL_law_420 rfl rfl ?_
  refine zv_iload_n dL_law_421 rfl rfl ?_
  refine zv_iconst (v := 2) dL_law_422 (by decide) ?_
  refine zv_iadd dL_law_423 ?_
  obtain ⟨hb7, hf⟩ := zifb hf
  refine zv_sld hb7 dL_law_424 ?_
  obtain ⟨x9, S10, hc8, hf⟩ := zbind2 hf
  refine zv_callV dL_law_425 zk_L_59 zm_X6_shows (c_X6_shows  d (by omega) S5 (xs ((a3 + (1 : Int32))).toNatClampNeg) (xs ((a3 + (2 : Int32))).toNatClampNeg) x9 S10 hc8) (wo_31 S5) rfl rfl rfl (Nat.le_of_ble_eq_true rfl) ?_
  refine zv_icmp_eq (tgt := 905) dL_law_428 (by decide) (fun c11 => ?_) (fun c11 => ?_)
  · replace hf := (if_pos c11).symm.trans hf
    exact zV_sub ([(0, .ref 1002), (1, .ref 0), (2, .ref 31), (3, .int a3)]) ⟨rfl, rfl, rfl, rfl, trivial⟩ (v_law_905 d (by omega) k18 hk18 S10 a3 _ _ hf)
  · replace hf := (if_neg c11).symm.trans hf
    refine zv_iconst (v := 0) dL_law_431 (by decide) ?_
    exact zv_iret (ty := .boolean) dL_law_432 rfl rfl (zret2 wd hf)
def f_law_433 (k18 : zS → Int32 → Option (Int32 × zS)) (len : Nat) (xs : Nat → Int32) (S : zS) (a3 : Int32) : Option (Int32 × zS) :=
  (if zin (a3 + (1 : Int32)) len then (zb2 (f_X5_pays S (xs ((a3 + (1 : Int32))).toNatClampNeg)) (fun x3 S4 => (if zin (a3 + (1 : Int32)) len then (zb2 (f_X6_pays S4 (xs ((a3 + (1 : Int32))).toNatClampNeg)) (fun x7 S8 => (if x3 = x7 then f_law_905 k18 len xs S8 a3 else some ((0 : Int32), S8)))) else none))) else none)
set_option maxRecDepth 100000 in
set_option maxHeartbeats 4000000 in
theorem v_law_433 {len : Nat} {xs : Nat → Int32} (d : Nat) (hd : 14 ≤ d) (k18 : zS → Int32 → Option (Int32 × zS)) (hk18 : ∀ (S : zS) (a3 : Int32) v S', k18 S a3 = (some (v, S')) → zV (some (len, xs)) (d + 1) x cL_law 4 (some .boolean) 18 [(0, .ref 1002), (1, .ref 0), (2, .ref 31), (3, .int a3)] [] (wd S) (zq (some (.int v)) (wd S'))) (S : zS) (a3 : Int32) (v : Int32) (S' : zS) (hf : f_law_433 k18 len xs S a3 = (some (v, S'))) : zV (some (len, xs)) (d + 1) x cL_law 4 (some .boolean) 433 [(0, .ref 1002), (1, .ref 0), (2, .ref 31), (3, .int a3)] [] (wd S) (zq (some (.int v)) (wd S')) := by
  unfold f_law_433 at hf
  refine zv_aload_n dL_law_433 rfl rfl ?_
  refine zv_aload_n dL_law_434 rfl rfl ?_
  refine zv_iload_n dL_law_435 rfl rfl ?_
  refine zv_iconst (v := 1) dL_law_436 (by decide) ?_
  refine zv_iadd dL_law_437 ?_
  obtain ⟨hb1, hf⟩ := zifb hf
  refine zv_sld hb1 dL_law_438 ?_
  obtain ⟨x3, S4, hc2, hf⟩ := zbind2 hf
  refine zv_callV dL_law_439 zk_L_60 zm_X5_pays (c_X5_pays  d (by omega) S (xs ((a3 + (1 : Int32))).toNatClampNeg) x3 S4 hc2) (wo_0 S) rfl rfl rfl (Nat.le_of_ble_eq_true rfl) ?_
  refine zv_aload_n dL_law_442 rfl rfl ?_
  refine zv_aload_n dL_law_443 rfl rfl ?_
  refine zv_iload_n dL_law_444 rfl rfl ?_
  refine zv_iconst (v := 1) dL_law_445 (by decide) ?_
  refine zv_iadd dL_law_446 ?_
  obtain ⟨hb5, hf⟩ := zifb hf
  refine zv_sld hb5 dL_law_447 ?_
  obtain ⟨x7, S8, hc6, hf⟩ := zbind2 hf
  refine zv_callV dL_law_448 zk_L_63 zm_X6_pays (c_X6_pays  d (by omega) S4 (xs ((a3 + (1 : Int32))).toNatClampNeg) x7 S8 hc6) (wo_31 S4) rfl rfl rfl (Nat.le_of_ble_eq_true rfl) ?_
  refine zv_icmp_eq (tgt := 905) dL_law_451 (by decide) (fun c9 => ?_) (fun c9 => ?_)
  · replace hf := (if_pos c9).symm.trans hf
    exact zV_sub ([(0, .ref 1002), (1, .ref 0), (2, .ref 31), (3, .int a3)]) ⟨rfl, rfl, rfl, rfl, trivial⟩ (v_law_905 d (by omega) k18 hk18 S8 a3 _ _ hf)
  · replace hf := (if_neg c9).symm.trans hf
    refine zv_iconst (v := 0) dL_law_454 (by decide) ?_
    exact zv_iret (ty := .boolean) dL_law_455 rfl rfl (zret2 wd hf)
def f_law_456 (k18 : zS → Int32 → Option (Int32 × zS)) (len : Nat) (xs : Nat → Int32) (S : zS) (a3 : Int32) : Option (Int32 × zS) :=
  (if zin (a3 + (1 : Int32)) len then (if zin (a3 + (2 : Int32)) len then (zb2 (f_X5_sells S (xs ((a3 + (1 : Int32))).toNatClampNeg) (xs ((a3 + (2 : Int32))).toNatClampNeg)) (fun x4 S5 => (if zin (a3 + (1 : Int32)) len then (if zin (a3 + (2 : Int32)) len then (zb2 (f_X6_sells S5 (xs ((a3 + (1 : Int32))).toNatClampNeg) (xs ((a3 + (2 : Int32))).toNatClampNeg)) (fun x9 S10 => (if x4 = x9 then f_law_905 k18 len xs S10 a3 else some ((0 : Int32), S10)))) else none) else none))) else none) else none)
set_option maxRecDepth 100000 in
set_option maxHeartbeats 4000000 in
theorem v_law_456 {len : Nat} {xs : Nat → Int32} (d : Nat) (hd : 14 ≤ d) (k18 : zS → Int32 → Option (Int32 × zS)) (hk18 : ∀ (S : zS) (a3 : Int32) v S', k18 S a3 = (some (v, S')) → zV (some (len, xs)) (d + 1) x cL_law 4 (some .boolean) 18 [(0, .ref 1002), (1, .ref 0), (2, .ref 31), (3, .int a3)] [] (wd S) (zq (some (.int v)) (wd S'))) (S : zS) (a3 : Int32) (v : Int32) (S' : zS) (hf : f_law_456 k18 len xs S a3 = (some (v, S'))) : zV (some (len, xs)) (d + 1) x cL_law 4 (some .boolean) 456 [(0, .ref 1002), (1, .ref 0), (2, .ref 31), (3, .int a3)] [] (wd S) (zq (some (.int v)) (wd S')) := by
  unfold f_law_456 at hf
  refine zv_aload_n dL_law_456 rfl rfl ?_
  refine zv_aload_n dL_law_457 rfl rfl ?_
  refine zv_iload_n dL_law_458 rfl rfl ?_
  refine zv_iconst (v := 1) dL_law_459 (by decide) ?_
  refine zv_iadd dL_law_460 ?_
  obtain ⟨hb1, hf⟩ := zifb hf
  refine zv_sld hb1 dL_law_461 ?_
  refine zv_aload_n dL_law_462 rfl rfl ?_
  refine zv_iload_n dL_law_463 rfl rfl ?_
  refine zv_iconst (v := 2) dL_law_464 (by decide) ?_
  refine zv_iadd dL_law_465 ?_
  obtain ⟨hb2, hf⟩ := zifb hf
  refine zv_sld hb2 dL_law_466 ?_
  obtain ⟨x4, S5, hc3, hf⟩ := zbind2 hf
  refine zv_callV dL_law_467 zk_L_64 zm_X5_sells (c_X5_sells  d (by omega) S (xs ((a3 + (1 : Int32))).toNatClampNeg) (xs ((a3 + (2 : Int32))).toNatClampNeg) x4 S5 hc3) (wo_0 S) rfl rfl rfl (Nat.le_of_ble_eq_true rfl) ?_
  refine zv_aload_n dL_law_470 rfl rfl ?_
  refine zv_aload_n dL_law_471 rfl rfl ?_
  refine zv_iload_n dL_law_472 rfl rfl ?_
  refine zv_iconst (v := 1) dL_law_473 (by decide) ?_
  refine zv_iadd dL_law_474 ?_
  obtain ⟨hb6, hf⟩ := zifb hf
  refine zv_sld hb6 dL_law_475 ?_
  refine zv_aload_n dL_law_476 rfl rfl ?_
  refine zv_iload_n dL_law_477 rfl rfl ?_
  refine zv_iconst (v := 2) dL_law_478 (by decide) ?_
  refine zv_iadd dL_law_479 ?_
  obtain ⟨hb7, hf⟩ := zifb hf
  refine zv_sld hb7 dL_law_480 ?_
  obtain ⟨x9, S10, hc8, hf⟩ := zbind2 hf
  refine zv_callV dL_law_481 zk_L_67 zm_X6_sells (c_X6_sells  d (by omega) S5 (xs ((a3 + (1 : Int32))).toNatClampNeg) (xs ((a3 + (2 : Int32))).toNatClampNeg) x9 S10 hc8) (wo_31 S5) rfl rfl rfl (Nat.le_of_ble_eq_true rfl) ?_
  refine zv_icmp_eq (tgt := 905) dL_law_484 (by decide) (fun c11 => ?_) (fun c11 => ?_)
  · replace hf := (if_pos c11).symm.trans hf
    exact zV_sub ([(0, .ref 1002), (1, .ref 0), (2, .ref 31), (3, .int a3)]) ⟨rfl, rfl, rfl, rfl, trivial⟩ (v_law_905 d (by omega) k18 hk18 S10 a3 _ _ hf)
  · replace hf := (if_neg c11).symm.trans hf
    refine zv_iconst (v := 0) dL_law_487 (by decide) ?_
    exact zv_iret (ty := .boolean) dL_law_488 rfl rfl (zret2 wd hf)
def f_law_489 (k18 : zS → Int32 → Option (Int32 × zS)) (len : Nat) (xs : Nat → Int32) (S : zS) (a3 : Int32) : Option (Int32 × zS) :=
  (zb2 (f_X5_undo S) (fun x2 S3 => (zb2 (f_X6_undo S3) (fun x5 S6 => (if x2 = x5 then f_law_905 k18 len xs S6 a3 else some ((0 : Int32), S6))))))
set_option maxRecDepth 100000 in
set_option maxHeartbeats 4000000 in
theorem v_law_489 {len : Nat} {xs : Nat → Int32} (d : Nat) (hd : 14 ≤ d) (k18 : zS → Int32 → Option (Int32 × zS)) (hk18 : ∀ (S : zS) (a3 : Int32) v S', k18 S a3 = (some (v, S')) → zV (some (len, xs)) (d + 1) x cL_law 4 (some .boolean) 18 [(0, .ref 1002), (1, .ref 0), (2, .ref 31), (3, .int a3)] [] (wd S) (zq (some (.int v)) (wd S'))) (S : zS) (a3 : Int32) (v : Int32) (S' : zS) (hf : f_law_489 k18 len xs S a3 = (some (v, S'))) : zV (some (len, xs)) (d + 1) x cL_law 4 (some .boolean) 489 [(0, .ref 1002), (1, .ref 0), (2, .ref 31), (3, .int a3)] [] (wd S) (zq (some (.int v)) (wd S')) := by
  unfold f_law_489 at hf
  refine zv_aload_n dL_law_489 rfl rfl ?_
  obtain ⟨x2, S3, hc1, hf⟩ := zbind2 hf
  refine zv_callV dL_law_490 zk_L_68 zm_X5_undo (c_X5_undo  d (by omega) S x2 S3 hc1) (wo_0 S) rfl rfl rfl (Nat.le_of_ble_eq_true rfl) ?_
  refine zv_aload_n dL_law_493 rfl rfl ?_
  obtain ⟨x5, S6, hc4, hf⟩ := zbind2 hf
  refine zv_callV dL_law_494 zk_L_71 zm_X6_undo (c_X6_undo  d S3 x5 S6 hc4) (wo_31 S3) rfl rfl rfl (Nat.le_of_ble_eq_true rfl) ?_
  refine zv_icmp_eq (tgt := 905) dL_law_497 (by decide) (fun c7 => ?_) (fun c7 => ?_)
  · replace hf := (if_pos c7).symm.trans hf
    exact zV_sub ([(0, .ref 1002), (1, .ref 0), (2, .ref 31), (3, .int a3)]) ⟨rfl, rfl, rfl, rfl, trivial⟩ (v_law_905 d (by omega) k18 hk18 S6 a3 _ _ hf)
  · replace hf := (if_neg c7).symm.trans hf
    refine zv_iconst (v := 0) dL_law_500 (by decide) ?_
    exact zv_iret (ty := .boolean) dL_law_501 rfl rfl (zret2 wd hf)
def f_law_502 (k18 : zS → Int32 → Option (Int32 × zS)) (len : Nat) (xs : Nat → Int32) (S : zS) (a3 : Int32) : Option (Int32 × zS) :=
  (if zin (a3 + (1 : Int32)) len then ((f_X5_now S (xs ((a3 + (1 : Int32))).toNatClampNeg)).bind (fun x3 => (if zin (a3 + (1 : Int32)) len then ((f_X6_now S (xs ((a3 + (1 : Int32))).toNatClampNeg)).bind (fun x6 => (if x3 = x6 then f_law_905 k18 len xs S a3 else some ((0 : Int32), S)))) else none))) else none)
set_option maxRecDepth 100000 in
set_option maxHeartbeats 4000000 in
theorem v_law_502 {len : Nat} {xs : Nat → Int32} (d : Nat) (hd : 14 ≤ d) (k18 : zS → Int32 → Option (Int32 × zS)) (hk18 : ∀ (S : zS) (a3 : Int32) v S', k18 S a3 = (some (v, S')) → zV (some (len, xs)) (d + 1) x cL_law 4 (some .boolean) 18 [(0, .ref 1002), (1, .ref 0), (2, .ref 31), (3, .int a3)] [] (wd S) (zq (some (.int v)) (wd S'))) (S : zS) (a3 : Int32) (v : Int32) (S' : zS) (hf : f_law_502 k18 len xs S a3 = (some (v, S'))) : zV (some (len, xs)) (d + 1) x cL_law 4 (some .boolean) 502 [(0, .ref 1002), (1, .ref 0), (2, .ref 31), (3, .int a3)] [] (wd S) (zq (some (.int v)) (wd S')) := by
  unfold f_law_502 at hf
  refine zv_aload_n dL_law_502 rfl rfl ?_
  refine zv_aload_n dL_law_503 rfl rfl ?_
  refine zv_iload_n dL_law_504 rfl rfl ?_
  refine zv_iconst (v := 1) dL_law_505 (by decide) ?_
  refine zv_iadd dL_law_506 ?_
  obtain ⟨hb1, hf⟩ := zifb hf
  refine zv_sld hb1 dL_law_507 ?_
  obtain ⟨x3, hc2, hf⟩ := zbind hf
  refine zv_callV dL_law_508 zk_L_72 zm_X5_now (c_X5_now  d (by omega) S (xs ((a3 + (1 : Int32))).toNatClampNeg) x3 hc2) (wo_0 S) rfl rfl rfl (Nat.le_of_ble_eq_true rfl) ?_
  refine zv_aload_n dL_law_511 rfl rfl ?_
  refine zv_aload_n dL_law_512 rfl rfl ?_
  refine zv_iload_n dL_law_513 rfl rfl ?_
  refine zv_iconst (v := 1) dL_law_514 (by decide) ?_
  refine zv_iadd dL_law_515 ?_
  obtain ⟨hb4, hf⟩ := zifb hf
  refine zv_sld hb4 dL_law_516 ?_
  obtain ⟨x6, hc5, hf⟩ := zbind hf
  refine zv_callV dL_law_517 zk_L_75 zm_X6_now (c_X6_now  d (by omega) S (xs ((a3 + (1 : Int32))).toNatClampNeg) x6 hc5) (wo_31 S) rfl rfl rfl (Nat.le_of_ble_eq_true rfl) ?_
  refine zv_icmp_eq (tgt := 905) dL_law_520 (by decide) (fun c7 => ?_) (fun c7 => ?_)
  · replace hf := (if_pos c7).symm.trans hf
    exact zV_sub ([(0, .ref 1002), (1, .ref 0), (2, .ref 31), (3, .int a3)]) ⟨rfl, rfl, rfl, rfl, trivial⟩ (v_law_905 d (by omega) k18 hk18 S a3 _ _ hf)
  · replace hf := (if_neg c7).symm.trans hf
    refine zv_iconst (v := 0) dL_law_523 (by decide) ?_
    exact zv_iret (ty := .boolean) dL_law_524 rfl rfl (zret2 wd hf)
def f_law_525 (k18 : zS → Int32 → Option (Int32 × zS)) (len : Nat) (xs : Nat → Int32) (S : zS) (a3 : Int32) : Option (Int32 × zS) :=
  (if zin (a3 + (1 : Int32)) len then (if zin (a3 + (2 : Int32)) len then (zb2 (f_X5_tour S (xs ((a3 + (1 : Int32))).toNatClampNeg) (xs ((a3 + (2 : Int32))).toNatClampNeg)) (fun x4 S5 => (if zin (a3 + (1 : Int32)) len then (if zin (a3 + (2 : Int32)) len then (zb2 (f_X6_tour S5 (xs ((a3 + (1 : Int32))).toNatClampNeg) (xs ((a3 + (2 : Int32))).toNatClampNeg)) (fun x9 S10 => (if x4 = x9 then f_law_905 k18 len xs S10 a3 else some ((0 : Int32), S10)))) else none) else none))) else none) else none)
set_option maxRecDepth 100000 in
set_option maxHeartbeats 4000000 in
theorem v_law_525 {len : Nat} {xs : Nat → Int32} (d : Nat) (hd : 14 ≤ d) (k18 : zS → Int32 → Option (Int32 × zS)) (hk18 : ∀ (S : zS) (a3 : Int32) v S', k18 S a3 = (some (v, S')) → zV (some (len, xs)) (d + 1) x cL_law 4 (some .boolean) 18 [(0, .ref 1002), (1, .ref 0), (2, .ref 31), (3, .int a3)] [] (wd S) (zq (some (.int v)) (wd S'))) (S : zS) (a3 : Int32) (v : Int32) (S' : zS) (hf : f_law_525 k18 len xs S a3 = (some (v, S'))) : zV (some (len, xs)) (d + 1) x cL_law 4 (some .boolean) 525 [(0, .ref 1002), (1, .ref 0), (2, .ref 31), (3, .int a3)] [] (wd S) (zq (some (.int v)) (wd S')) := by
  unfold f_law_525 at hf
  refine zv_aload_n dL_law_525 rfl rfl ?_
  refine zv_aload_n dL_law_526 rfl rfl ?_
  refine zv_iload_n dL_law_527 rfl rfl ?_
  refine zv_iconst (v := 1) dL_law_528 (by decide) ?_
  refine zv_iadd dL_law_529 ?_
  obtain ⟨hb1, hf⟩ := zifb hf
  refine zv_sld hb1 dL_law_530 ?_
  refine zv_aload_n dL_law_531 rfl rfl ?_
  refine zv_iload_n dL_law_532 rfl rfl ?_
  refine zv_iconst (v := 2) dL_law_533 (by decide) ?_
  refine zv_iadd dL_law_534 ?_
  obtain ⟨hb2, hf⟩ := zifb hf
  refine zv_sld hb2 dL_law_535 ?_
  obtain ⟨x4, S5, hc3, hf⟩ := zbind2 hf
  refine zv_callV dL_law_536 zk_L_76 zm_X5_tour (c_X5_tour  d (by omega) S (xs ((a3 + (1 : Int32))).toNatClampNeg) (xs ((a3 + (2 : Int32))).toNatClampNeg) x4 S5 hc3) (wo_0 S) rfl rfl rfl (Nat.le_of_ble_eq_true rfl) ?_
  refine zv_aload_n dL_law_539 rfl rfl ?_
  refine zv_aload_n dL_law_540 rfl rfl ?_
  refine zv_iload_n dL_law_541 rfl rfl ?_
  refine zv_iconst (v := 1) dL_law_542 (by decide) ?_
  refine zv_iadd dL_law_543 ?_
  obtain ⟨hb6, hf⟩ := zifb hf
  refine zv_sld hb6 dL_law_544 ?_
  refine zv_aload_n dL_law_545 rfl rfl ?_
  refine zv_iload_n dL_law_546 rfl rfl ?_
  refine zv_iconst (v := 2) dL_law_547 (by decide) ?_
  refine zv_iadd dL_law_548 ?_
  obtain ⟨hb7, hf⟩ := zifb hf
  refine zv_sld hb7 dL_law_549 ?_
  obtain ⟨x9, S10, hc8, hf⟩ := zbind2 hf
  refine zv_callV dL_law_550 zk_L_79 zm_X6_tour (c_X6_tour  d (by omega) S5 (xs ((a3 + (1 : Int32))).toNatClampNeg) (xs ((a3 + (2 : Int32))).toNatClampNeg) x9 S10 hc8) (wo_31 S5) rfl rfl rfl (Nat.le_of_ble_eq_true rfl) ?_
  refine zv_icmp_eq (tgt := 905) dL_law_553 (by decide) (fun c11 => ?_) (fun c11 => ?_)
  · replace hf := (if_pos c11).symm.trans hf
    exact zV_sub ([(0, .ref 1002), (1, .ref 0), (2, .ref 31), (3, .int a3)]) ⟨rfl, rfl, rfl, rfl, trivial⟩ (v_law_905 d (by omega) k18 hk18 S10 a3 _ _ hf)
  · replace hf := (if_neg c11).symm.trans hf
    refine zv_iconst (v := 0) dL_law_556 (by decide) ?_
    exact zv_iret (ty := .boolean) dL_law_557 rfl rfl (zret2 wd hf)
def f_law_558 (k18 : zS → Int32 → Option (Int32 × zS)) (len : Nat) (xs : Nat → Int32) (S : zS) (a3 : Int32) : Option (Int32 × zS) :=
  (if zin (a3 + (1 : Int32)) len then (zb2 (f_X5_from S (xs ((a3 + (1 : Int32))).toNatClampNeg)) (fun x3 S4 => (if zin (a3 + (1 : Int32)) len then ((f_X6_from S4 (xs ((a3 + (1 : Int32))).toNatClampNeg)).bind (fun x7 => (if x3 = x7 then f_law_905 k18 len xs S4 a3 else some ((0 : Int32), S4)))) else none))) else none)
set_option maxRecDepth 100000 in
set_option maxHeartbeats 4000000 in
theorem v_law_558 {len : Nat} {xs : Nat → Int32} (d : Nat) (hd : 14 ≤ d) (k18 : zS → Int32 → Option (Int32 × zS)) (hk18 : ∀ (S : zS) (a3 : Int32) v S', k18 S a3 = (some (v, S')) → zV (some (len, xs)) (d + 1) x cL_law 4 (some .boolean) 18 [(0, .ref 1002), (1, .ref 0), (2, .ref 31), (3, .int a3)] [] (wd S) (zq (some (.int v)) (wd S'))) (S : zS) (a3 : Int32) (v : Int32) (S' : zS) (hf : f_law_558 k18 len xs S a3 = (some (v, S'))) : zV (some (len, xs)) (d + 1) x cL_law 4 (some .boolean) 558 [(0, .ref 1002), (1, .ref 0), (2, .ref 31), (3, .int a3)] [] (wd S) (zq (some (.int v)) (wd S')) := by
  unfold f_law_558 at hf
  refine zv_aload_n dL_law_558 rfl rfl ?_
  refine zv_aload_n dL_law_559 rfl rfl ?_
  refine zv_iload_n dL_law_560 rfl rfl ?_
  refine zv_iconst (v := 1) dL_law_561 (by decide) ?_
  refine zv_iadd dL_law_562 ?_
  obtain ⟨hb1, hf⟩ := zifb hf
  refine zv_sld hb1 dL_law_563 ?_
  obtain ⟨x3, S4, hc2, hf⟩ := zbind2 hf
  refine zv_callV dL_law_564 zk_L_80 zm_X5_from (c_X5_from  d (by omega) S (xs ((a3 + (1 : Int32))).toNatClampNeg) x3 S4 hc2) (wo_0 S) rfl rfl rfl (Nat.le_of_ble_eq_true rfl) ?_
  refine zv_aload_n dL_law_567 rfl rfl ?_
  refine zv_aload_n dL_law_568 rfl rfl ?_
  refine zv_iload_n dL_law_569 rfl rfl ?_
  refine zv_iconst (v := 1) dL_law_570 (by decide) ?_
  refine zv_iadd dL_law_571 ?_
  obtain ⟨hb5, hf⟩ := zifb hf
  refine zv_sld hb5 dL_law_572 ?_
  obtain ⟨x7, hc6, hf⟩ := zbind hf
  refine zv_callV dL_law_573 zk_L_83 zm_X6_from (c_X6_from  d (by omega) S4 (xs ((a3 + (1 : Int32))).toNatClampNeg) x7 hc6) (wo_31 S4) rfl rfl rfl (Nat.le_of_ble_eq_true rfl) ?_
  refine zv_icmp_eq (tgt := 905) dL_law_576 (by decide) (fun c8 => ?_) (fun c8 => ?_)
  · replace hf := (if_pos c8).symm.trans hf
    exact zV_sub ([(0, .ref 1002), (1, .ref 0), (2, .ref 31), (3, .int a3)]) ⟨rfl, rfl, rfl, rfl, trivial⟩ (v_law_905 d (by omega) k18 hk18 S4 a3 _ _ hf)
  · replace hf := (if_neg c8).symm.trans hf
    refine zv_iconst (v := 0) dL_law_579 (by decide) ?_
    exact zv_iret (ty := .boolean) dL_law_580 rfl rfl (zret2 wd hf)
def f_law_581 (k18 : zS → Int32 → Option (Int32 × zS)) (len : Nat) (xs : Nat → Int32) (S : zS) (a3 : Int32) : Option (Int32 × zS) :=
  (if zin (a3 + (1 : Int32)) len then (if zin (a3 + (2 : Int32)) len then ((f_X5_had S (xs ((a3 + (1 : Int32))).toNatClampNeg) (xs ((a3 + (2 : Int32))).toNatClampNeg)).bind (fun x4 => (if zin (a3 + (1 : Int32)) len then (if zin (a3 + (2 : Int32)) len then ((f_X6_had S (xs ((a3 + (1 : Int32))).toNatClampNeg) (xs ((a3 + (2 : Int32))).toNatClampNeg)).bind (fun x8 => (if x4 = x8 then f_law_905 k18 len xs S a3 else some ((0 : Int32), S)))) else none) else none))) else none) else none)
set_option maxRecDepth 100000 in
set_option maxHeartbeats 4000000 in
theorem v_law_581 {len : Nat} {xs : Nat → Int32} (d : Nat) (hd : 14 ≤ d) (k18 : zS → Int32 → Option (Int32 × zS)) (hk18 : ∀ (S : zS) (a3 : Int32) v S', k18 S a3 = (some (v, S')) → zV (some (len, xs)) (d + 1) x cL_law 4 (some .boolean) 18 [(0, .ref 1002), (1, .ref 0), (2, .ref 31), (3, .int a3)] [] (wd S) (zq (some (.int v)) (wd S'))) (S : zS) (a3 : Int32) (v : Int32) (S' : zS) (hf : f_law_581 k18 len xs S a3 = (some (v, S'))) : zV (some (len, xs)) (d + 1) x cL_law 4 (some .boolean) 581 [(0, .ref 1002), (1, .ref 0), (2, .ref 31), (3, .int a3)] [] (wd S) (zq (some (.int v)) (wd S')) := by
  unfold f_law_581 at hf
  refine zv_aload_n dL_law_581 rfl rfl ?_
  refine zv_aload_n dL_law_582 rfl rfl ?_
  refine zv_iload_n dL_law_583 rfl rfl ?_
  refine zv_iconst (v := 1) dL_law_584 (by decide) ?_
  refine zv_iadd dL_law_585 ?_
  obtain ⟨hb1, hf⟩ := zifb hf
  refine zv_sld hb1 dL_law_586 ?_
  refine zv_aload_n dL_law_587 rfl rfl ?_
  refine zv_iload_n dL_law_588 rfl rfl ?_
  refine zv_iconst (v := 2) dL_law_589 (by decide) ?_
  refine zv_iadd dL_law_590 ?_
  obtain ⟨hb2, hf⟩ := zifb hf
  refine zv_sld hb2 dL_law_591 ?_
  obtain ⟨x4, hc3, hf⟩ := zbind hf
  refine zv_callV dL_law_592 zk_L_84 zm_X5_had (c_X5_had  d (by omega) S (xs ((a3 + (1 : Int32))).toNatClampNeg) (xs ((a3 + (2 : Int32))).toNatClampNeg) x4 hc3) (wo_0 S) rfl rfl rfl (Nat.le_of_ble_eq_true rfl) ?_
  refine zv_aload_n dL_law_595 rfl rfl ?_
  refine zv_aload_n dL_law_596 rfl rfl ?_
  refine zv_iload_n dL_law_597 rfl rfl ?_
  refine zv_iconst (v := 1) dL_law_598 (by decide) ?_
  refine zv_iadd dL_law_599 ?_
  obtain ⟨hb5, hf⟩ := zifb hf
  refine zv_sld hb5 dL_law_600 ?_
  refine zv_aload_n dL_law_601 rfl rfl ?_
  refine zv_iload_n dL_law_602 rfl rfl ?_
  refine zv_iconst (v := 2) dL_law_603 (by decide) ?_
  refine zv_iadd dL_law_604 ?_
  obtain ⟨hb6, hf⟩ := zifb hf
  refine zv_sld hb6 dL_law_605 ?_
  obtain ⟨x8, hc7, hf⟩ := zbind hf
  refine zv_callV dL_law_606 zk_L_87 zm_X6_had (c_X6_had  d (by omega) S (xs ((a3 + (1 : Int32))).toNatClampNeg) (xs ((a3 + (2 : Int32))).toNatClampNeg) x8 hc7) (wo_31 S) rfl rfl rfl (Nat.le_of_ble_eq_true rfl) ?_
  refine zv_icmp_eq (tgt := 905) dL_law_609 (by decide) (fun c9 => ?_) (fun c9 => ?_)
  · replace hf := (if_pos c9).symm.trans hf
    exact zV_sub ([(0, .ref 1002), (1, .ref 0), (2, .ref 31), (3, .int a3)]) ⟨rfl, rfl, rfl, rfl, trivial⟩ (v_law_905 d (by omega) k18 hk18 S a3 _ _ hf)
  · replace hf := (if_neg c9).symm.trans hf
    refine zv_iconst (v := 0) dL_law_612 (by decide) ?_
    exact zv_iret (ty := .boolean) dL_law_613 rfl rfl (zret2 wd hf)
def f_law_614 (k18 : zS → Int32 → Option (Int32 × zS)) (len : Nat) (xs : Nat → Int32) (S : zS) (a3 : Int32) : Option (Int32 × zS) :=
  (if zin (a3 + (1 : Int32)) len then (if zin (a3 + (2 : Int32)) len then (if zin (a3 + (3 : Int32)) len then (zb2 (f_X5_odds S (xs ((a3 + (1 : Int32))).toNatClampNeg) (xs ((a3 + (2 : Int32))).toNatClampNeg) (xs ((a3 + (3 : Int32))).toNatClampNeg)) (fun x5 S6 => (if zin (a3 + (1 : Int32)) len then (if zin (a3 + (2 : Int32)) len then (if zin (a3 + (3 : Int32)) len then ((f_X6_odds S6 (xs ((a3 + (1 : Int32))).toNatClampNeg) (xs ((a3 + (2 : Int32))).toNatClampNeg) (xs ((a3 + (3 : Int32))).toNatClampNeg)).bind (fun x11 => (if x5 = x11 then f_law_905 k18 len xs S6 a3 else some ((0 : Int32), S6)))) else none) else none) else none))) else none) else none) else none)
set_option maxRecDepth 100000 in
set_option maxHeartbeats 4000000 in
theorem v_law_614 {len : Nat} {xs : Nat → Int32} (d : Nat) (hd : 14 ≤ d) (k18 : zS → Int32 → Option (Int32 × zS)) (hk18 : ∀ (S : zS) (a3 : Int32) v S', k18 S a3 = (some (v, S')) → zV (some (len, xs)) (d + 1) x cL_law 4 (some .boolean) 18 [(0, .ref 1002), (1, .ref 0), (2, .ref 31), (3, .int a3)] [] (wd S) (zq (some (.int v)) (wd S'))) (S : zS) (a3 : Int32) (v : Int32) (S' : zS) (hf : f_law_614 k18 len xs S a3 = (some (v, S'))) : zV (some (len, xs)) (d + 1) x cL_law 4 (some .boolean) 614 [(0, .ref 1002), (1, .ref 0), (2, .ref 31), (3, .int a3)] [] (wd S) (zq (some (.int v)) (wd S')) := by
  unfold f_law_614 at hf
  refine zv_aload_n dL_law_614 rfl rfl ?_
  refine zv_aload_n dL_law_615 rfl rfl ?_
  refine zv_iload_n dL_law_616 rfl rfl ?_
  refine zv_iconst (v := 1) dL_law_617 (by decide) ?_
  refine zv_iadd dL_law_618 ?_
  obtain ⟨hb1, hf⟩ := zifb hf
  refine zv_sld hb1 dL_law_619 ?_
  refine zv_aload_n dL_law_620 rfl rfl ?_
  refine zv_iload_n dL_law_621 rfl rfl ?_
  refine zv_iconst (v := 2) dL_law_622 (by decide) ?_
  refine zv_iadd dL_law_623 ?_
  obtain ⟨hb2, hf⟩ := zifb hf
  refine zv_sld hb2 dL_law_624 ?_
  refine zv_aload_n dL_law_625 rfl rfl ?_
  refine zv_iload_n dL_law_626 rfl rfl ?_
  refine zv_iconst (v := 3) dL_law_627 (by decide) ?_
  refine zv_iadd dL_law_628 ?_
  obtain ⟨hb3, hf⟩ := zifb hf
  refine zv_sld hb3 dL_law_629 ?_
  obtain ⟨x5, S6, hc4, hf⟩ := zbind2 hf
  refine zv_callV dL_law_630 zk_L_88 zm_X5_odds (c_X5_odds  d (by omega) S (xs ((a3 + (1 : Int32))).toNatClampNeg) (xs ((a3 + (2 : Int32))).toNatClampNeg) (xs ((a3 + (3 : Int32))).toNatClampNeg) x5 S6 hc4) (wo_0 S) rfl rfl rfl (Nat.le_of_ble_eq_true rfl) ?_
  refine zv_aload_n dL_law_633 rfl rfl ?_
  refine zv_aload_n dL_law_634 rfl rfl ?_
  refine zv_iload_n dL_law_635 rfl rfl ?_
  refine zv_iconst (v := 1) dL_law_636 (by decide) ?_
  refine zv_iadd dL_law_637 ?_
  obtain ⟨hb7, hf⟩ := zifb hf
  refine zv_sld hb7 dL_law_638 ?_
  refine zv_aload_n dL_law_639 rfl rfl ?_
  refine zv_iload_n dL_law_640 rfl rfl ?_
  refine zv_iconst (v := 2) dL_law_641 (by decide) ?_
  refine zv_iadd dL_law_642 ?_
  obtain ⟨hb8, hf⟩ := zifb hf
  refine zv_sld hb8 dL_law_643 ?_
  refine zv_aload_n dL_law_644 rfl rfl ?_
  refine zv_iload_n dL_law_645 rfl rfl ?_
  refine zv_iconst (v := 3) dL_law_646 (by decide) ?_
  refine zv_iadd dL_law_647 ?_
  obtain ⟨hb9, hf⟩ := zifb hf
  refine zv_sld hb9 dL_law_648 ?_
  obtain ⟨x11, hc10, hf⟩ := zbind hf
  refine zv_callV dL_law_649 zk_L_92 zm_X6_odds (c_X6_odds  d (by omega) S6 (xs ((a3 + (1 : Int32))).toNatClampNeg) (xs ((a3 + (2 : Int32))).toNatClampNeg) (xs ((a3 + (3 : Int32))).toNatClampNeg) x11 hc10) (wo_31 S6) rfl rfl rfl (Nat.le_of_ble_eq_true rfl) ?_
  refine zv_icmp_eq (tgt := 905) dL_law_652 (by decide) (fun c12 => ?_) (fun c12 => ?_)
  · replace hf := (if_pos c12).symm.trans hf
    exact zV_sub ([(0, .ref 1002), (1, .ref 0), (2, .ref 31), (3, .int a3)]) ⟨rfl, rfl, rfl, rfl, trivial⟩ (v_law_905 d (by omega) k18 hk18 S6 a3 _ _ hf)
  · replace hf := (if_neg c12).symm.trans hf
    refine zv_iconst (v := 0) dL_law_655 (by decide) ?_
    exact zv_iret (ty := .boolean) dL_law_656 rfl rfl (zret2 wd hf)
def f_law_657 (k18 : zS → Int32 → Option (Int32 × zS)) (len : Nat) (xs : Nat → Int32) (S : zS) (a3 : Int32) : Option (Int32 × zS) :=
  (if zin (a3 + (1 : Int32)) len then (if zin (a3 + (2 : Int32)) len then (if zin (a3 + (3 : Int32)) len then ((f_X5_rests S (xs ((a3 + (1 : Int32))).toNatClampNeg) (xs ((a3 + (2 : Int32))).toNatClampNeg) (xs ((a3 + (3 : Int32))).toNatClampNeg)).bind (fun x5 => (if zin (a3 + (1 : Int32)) len then (if zin (a3 + (2 : Int32)) len then (if zin (a3 + (3 : Int32)) len then ((f_X6_rests S (xs ((a3 + (1 : Int32))).toNatClampNeg) (xs ((a3 + (2 : Int32))).toNatClampNeg) (xs ((a3 + (3 : Int32))).toNatClampNeg)).bind (fun x10 => (if x5 = x10 then f_law_905 k18 len xs S a3 else some ((0 : Int32), S)))) else none) else none) else none))) else none) else none) else none)
set_option maxRecDepth 100000 in
set_option maxHeartbeats 4000000 in
theorem v_law_657 {len : Nat} {xs : Nat → Int32} (d : Nat) (hd : 14 ≤ d) (k18 : zS → Int32 → Option (Int32 × zS)) (hk18 : ∀ (S : zS) (a3 : Int32) v S', k18 S a3 = (some (v, S')) → zV (some (len, xs)) (d + 1) x cL_law 4 (some .boolean) 18 [(0, .ref 1002), (1, .ref 0), (2, .ref 31), (3, .int a3)] [] (wd S) (zq (some (.int v)) (wd S'))) (S : zS) (a3 : Int32) (v : Int32) (S' : zS) (hf : f_law_657 k18 len xs S a3 = (some (v, S'))) : zV (some (len, xs)) (d + 1) x cL_law 4 (some .boolean) 657 [(0, .ref 1002), (1, .ref 0), (2, .ref 31), (3, .int a3)] [] (wd S) (zq (some (.int v)) (wd S')) := by
  unfold f_law_657 at hf
  refine zv_aload_n dL_law_657 rfl rfl ?_
  refine zv_aload_n dL_law_658 rfl rfl ?_
  refine zv_iload_n dL_law_659 rfl rfl ?_
  refine zv_iconst (v := 1) dL_law_660 (by decide) ?_
  refine zv_iadd dL_law_661 ?_
  obtain ⟨hb1, hf⟩ := zifb hf
  refine zv_sld hb1 dL_law_662 ?_
  refine zv_aload_n dL_law_663 rfl rfl ?_
  refine zv_iload_n dL_law_664 rfl rfl ?_
  refine zv_iconst (v := 2) dL_law_665 (by decide) ?_
  refine zv_iadd dL_law_666 ?_
  obtain ⟨hb2, hf⟩ := zifb hf
  refine zv_sld hb2 dL_law_667 ?_
  refine zv_aload_n dL_law_668 rfl rfl ?_
  refine zv_iload_n dL_law_669 rfl rfl ?_
  refine zv_iconst (v := 3) dL_law_670 (by decide) ?_
  refine zv_iadd dL_law_671 ?_
  obtain ⟨hb3, hf⟩ := zifb hf
  refine zv_sld hb3 dL_law_672 ?_
  obtain ⟨x5, hc4, hf⟩ := zbind hf
  refine zv_callV dL_law_673 zk_L_93 zm_X5_rests (c_X5_rests  d (by omega) S (xs ((a3 + (1 : Int32))).toNatClampNeg) (xs ((a3 + (2 : Int32))).toNatClampNeg) (xs ((a3 + (3 : Int32))).toNatClampNeg) x5 hc4) (wo_0 S) rfl rfl rfl (Nat.le_of_ble_eq_true rfl) ?_
  refine zv_aload_n dL_law_676 rfl rfl ?_
  refine zv_aload_n dL_law_677 rfl rfl ?_
  refine zv_iload_n dL_law_678 rfl rfl ?_
  refine zv_iconst (v := 1) dL_law_679 (by decide) ?_
  refine zv_iadd dL_law_680 ?_
  obtain ⟨hb6, hf⟩ := zifb hf
  refine zv_sld hb6 dL_law_681 ?_
  refine zv_aload_n dL_law_682 rfl rfl ?_
  refine zv_iload_n dL_law_683 rfl rfl ?_
  refine zv_iconst (v := 2) dL_law_684 (by decide) ?_
  refine zv_iadd dL_law_685 ?_
  obtain ⟨hb7, hf⟩ := zifb hf
  refine zv_sld hb7 dL_law_686 ?_
  refine zv_aload_n dL_law_687 rfl rfl ?_
  refine zv_iload_n dL_law_688 rfl rfl ?_
  refine zv_iconst (v := 3) dL_law_689 (by decide) ?_
  refine zv_iadd dL_law_690 ?_
  obtain ⟨hb8, hf⟩ := zifb hf
  refine zv_sld hb8 dL_law_691 ?_
  obtain ⟨x10, hc9, hf⟩ := zbind hf
  refine zv_callV dL_law_692 zk_L_96 zm_X6_rests (c_X6_rests  d (by omega) S (xs ((a3 + (1 : Int32))).toNatClampNeg) (xs ((a3 + (2 : Int32))).toNatClampNeg) (xs ((a3 + (3 : Int32))).toNatClampNeg) x10 hc9) (wo_31 S) rfl rfl rfl (Nat.le_of_ble_eq_true rfl) ?_
  refine zv_icmp_eq (tgt := 905) dL_law_695 (by decide) (fun c11 => ?_) (fun c11 => ?_)
  · replace hf := (if_pos c11).symm.trans hf
    exact zV_sub ([(0, .ref 1002), (1, .ref 0), (2, .ref 31), (3, .int a3)]) ⟨rfl, rfl, rfl, rfl, trivial⟩ (v_law_905 d (by omega) k18 hk18 S a3 _ _ hf)
  · replace hf := (if_neg c11).symm.trans hf
    refine zv_iconst (v := 0) dL_law_698 (by decide) ?_
    exact zv_iret (ty := .boolean) dL_law_699 rfl rfl (zret2 wd hf)
def f_law_700 (k18 : zS → Int32 → Option (Int32 × zS)) (len : Nat) (xs : Nat → Int32) (S : zS) (a3 : Int32) : Option (Int32 × zS) :=
  (if zin (a3 + (1 : Int32)) len then (if zin (a3 + (2 : Int32)) len then (if zin (a3 + (3 : Int32)) len then ((f_X5_mixed S (xs ((a3 + (1 : Int32))).toNatClampNeg) (xs ((a3 + (2 : Int32))).toNatClampNeg) (xs ((a3 + (3 : Int32))).toNatClampNeg)).bind (fun x5 => (if zin (a3 + (1 : Int32)) len then (if zin (a3 + (2 : Int32)) len then (if zin (a3 + (3 : Int32)) len then ((f_X6_mixed S (xs ((a3 + (1 : Int32))).toNatClampNeg) (xs ((a3 + (2 : Int32))).toNatClampNeg) (xs ((a3 + (3 : Int32))).toNatClampNeg)).bind (fun x10 => (if x5 = x10 then f_law_905 k18 len xs S a3 else some ((0 : Int32), S)))) else none) else none) else none))) else none) else none) else none)
set_option maxRecDepth 100000 in
set_option maxHeartbeats 4000000 in
theorem v_law_700 {len : Nat} {xs : Nat → Int32} (d : Nat) (hd : 14 ≤ d) (k18 : zS → Int32 → Option (Int32 × zS)) (hk18 : ∀ (S : zS) (a3 : Int32) v S', k18 S a3 = (some (v, S')) → zV (some (len, xs)) (d + 1) x cL_law 4 (some .boolean) 18 [(0, .ref 1002), (1, .ref 0), (2, .ref 31), (3, .int a3)] [] (wd S) (zq (some (.int v)) (wd S'))) (S : zS) (a3 : Int32) (v : Int32) (S' : zS) (hf : f_law_700 k18 len xs S a3 = (some (v, S'))) : zV (some (len, xs)) (d + 1) x cL_law 4 (some .boolean) 700 [(0, .ref 1002), (1, .ref 0), (2, .ref 31), (3, .int a3)] [] (wd S) (zq (some (.int v)) (wd S')) := by
  unfold f_law_700 at hf
  refine zv_aload_n dL_law_700 rfl rfl ?_
  refine zv_aload_n dL_law_701 rfl rfl ?_
  refine zv_iload_n dL_law_702 rfl rfl ?_
  refine zv_iconst (v := 1) dL_law_703 (by decide) ?_
  refine zv_iadd dL_law_704 ?_
  obtain ⟨hb1, hf⟩ := zifb hf
  refine zv_sld hb1 dL_law_705 ?_
  refine zv_aload_n dL_law_706 rfl rfl ?_
  refine zv_iload_n dL_law_707 rfl rfl ?_
  refine zv_iconst (v := 2) dL_law_708 (by decide) ?_
  refine zv_iadd dL_law_709 ?_
  obtain ⟨hb2, hf⟩ := zifb hf
  refine zv_sld hb2 dL_law_710 ?_
  refine zv_aload_n dL_law_711 rfl rfl ?_
  refine zv_iload_n dL_law_712 rfl rfl ?_
  refine zv_iconst (v := 3) dL_law_713 (by decide) ?_
  refine zv_iadd dL_law_714 ?_
  obtain ⟨hb3, hf⟩ := zifb hf
  refine zv_sld hb3 dL_law_715 ?_
  obtain ⟨x5, hc4, hf⟩ := zbind hf
  refine zv_callV dL_law_716 zk_L_97 zm_X5_mixed (c_X5_mixed  d (by omega) S (xs ((a3 + (1 : Int32))).toNatClampNeg) (xs ((a3 + (2 : Int32))).toNatClampNeg) (xs ((a3 + (3 : Int32))).toNatClampNeg) x5 hc4) (wo_0 S) rfl rfl rfl (Nat.le_of_ble_eq_true rfl) ?_
  refine zv_aload_n dL_law_719 rfl rfl ?_
  refine zv_aload_n dL_law_720 rfl rfl ?_
  refine zv_iload_n dL_law_721 rfl rfl ?_
  refine zv_iconst (v := 1) dL_law_722 (by decide) ?_
  refine zv_iadd dL_law_723 ?_
  obtain ⟨hb6, hf⟩ := zifb hf
  refine zv_sld hb6 dL_law_724 ?_
  refine zv_aload_n dL_law_725 rfl rfl ?_
  refine zv_iload_n dL_law_726 rfl rfl ?_
  refine zv_iconst (v := 2) dL_law_727 (by decide) ?_
  refine zv_iadd dL_law_728 ?_
  obtain ⟨hb7, hf⟩ := zifb hf
  refine zv_sld hb7 dL_law_729 ?_
  refine zv_aload_n dL_law_730 rfl rfl ?_
  refine zv_iload_n dL_law_731 rfl rfl ?_
  refine zv_iconst (v := 3) dL_law_732 (by decide) ?_
  refine zv_iadd dL_law_733 ?_
  obtain ⟨hb8, hf⟩ := zifb hf
  refine zv_sld hb8 dL_law_734 ?_
  obtain ⟨x10, hc9, hf⟩ := zbind hf
  refine zv_callV dL_law_735 zk_L_100 zm_X6_mixed (c_X6_mixed  d (by omega) S (xs ((a3 + (1 : Int32))).toNatClampNeg) (xs ((a3 + (2 : Int32))).toNatClampNeg) (xs ((a3 + (3 : Int32))).toNatClampNeg) x10 hc9) (wo_31 S) rfl rfl rfl (Nat.le_of_ble_eq_true rfl) ?_
  refine zv_icmp_eq (tgt := 905) dL_law_738 (by decide) (fun c11 => ?_) (fun c11 => ?_)
  · replace hf := (if_pos c11).symm.trans hf
    exact zV_sub ([(0, .ref 1002), (1, .ref 0), (2, .ref 31), (3, .int a3)]) ⟨rfl, rfl, rfl, rfl, trivial⟩ (v_law_905 d (by omega) k18 hk18 S a3 _ _ hf)
  · replace hf := (if_neg c11).symm.trans hf
    refine zv_iconst (v := 0) dL_law_741 (by decide) ?_
    exact zv_iret (ty := .boolean) dL_law_742 rfl rfl (zret2 wd hf)
def f_law_743 (k18 : zS → Int32 → Option (Int32 × zS)) (len : Nat) (xs : Nat → Int32) (S : zS) (a3 : Int32) : Option (Int32 × zS) :=
  (if zin (a3 + (1 : Int32)) len then (zb2 (f_X5_ring S (xs ((a3 + (1 : Int32))).toNatClampNeg)) (fun x3 S4 => (if zin (a3 + (1 : Int32)) len then (zb2 (f_X6_ring S4 (xs ((a3 + (1 : Int32))).toNatClampNeg)) (fun x7 S8 => (if x3 = x7 then f_law_905 k18 len xs S8 a3 else some ((0 : Int32), S8)))) else none))) else none)
set_option maxRecDepth 100000 in
set_option maxHeartbeats 4000000 in
theorem v_law_743 {len : Nat} {xs : Nat → Int32} (d : Nat) (hd : 14 ≤ d) (k18 : zS → Int32 → Option (Int32 × zS)) (hk18 : ∀ (S : zS) (a3 : Int32) v S', k18 S a3 = (some (v, S')) → zV (some (len, xs)) (d + 1) x cL_law 4 (some .boolean) 18 [(0, .ref 1002), (1, .ref 0), (2, .ref 31), (3, .int a3)] [] (wd S) (zq (some (.int v)) (wd S'))) (S : zS) (a3 : Int32) (v : Int32) (S' : zS) (hf : f_law_743 k18 len xs S a3 = (some (v, S'))) : zV (some (len, xs)) (d + 1) x cL_law 4 (some .boolean) 743 [(0, .ref 1002), (1, .ref 0), (2, .ref 31), (3, .int a3)] [] (wd S) (zq (some (.int v)) (wd S')) := by
  unfold f_law_743 at hf
  refine zv_aload_n dL_law_743 rfl rfl ?_
  refine zv_aload_n dL_law_744 rfl rfl ?_
  refine zv_iload_n dL_law_745 rfl rfl ?_
  refine zv_iconst (v := 1) dL_law_746 (by decide) ?_
  refine zv_iadd dL_law_747 ?_
  obtain ⟨hb1, hf⟩ := zifb hf
  refine zv_sld hb1 dL_law_748 ?_
  obtain ⟨x3, S4, hc2, hf⟩ := zbind2 hf
  refine zv_callV dL_law_749 zk_L_101 zm_X5_ring (c_X5_ring  d (by omega) S (xs ((a3 + (1 : Int32))).toNatClampNeg) x3 S4 hc2) (wo_0 S) rfl rfl rfl (Nat.le_of_ble_eq_true rfl) ?_
  refine zv_aload_n dL_law_752 rfl rfl ?_
  refine zv_aload_n dL_law_753 rfl rfl ?_
  refine zv_iload_n dL_law_754 rfl rfl ?_
  refine zv_iconst (v := 1) dL_law_755 (by decide) ?_
  refine zv_iadd dL_law_756 ?_
  obtain ⟨hb5, hf⟩ := zifb hf
  refine zv_sld hb5 dL_law_757 ?_
  obtain ⟨x7, S8, hc6, hf⟩ := zbind2 hf
  refine zv_callV dL_law_758 zk_L_104 zm_X6_ring (c_X6_ring  d (by omega) S4 (xs ((a3 + (1 : Int32))).toNatClampNeg) x7 S8 hc6) (wo_31 S4) rfl rfl rfl (Nat.le_of_ble_eq_true rfl) ?_
  refine zv_icmp_eq (tgt := 905) dL_law_761 (by decide) (fun c9 => ?_) (fun c9 => ?_)
  · replace hf := (if_pos c9).symm.trans hf
    exact zV_sub ([(0, .ref 1002), (1, .ref 0), (2, .ref 31), (3, .int a3)]) ⟨rfl, rfl, rfl, rfl, trivial⟩ (v_law_905 d (by omega) k18 hk18 S8 a3 _ _ hf)
  · replace hf := (if_neg c9).symm.trans hf
    refine zv_iconst (v := 0) dL_law_764 (by decide) ?_
    exact zv_iret (ty := .boolean) dL_law_765 rfl rfl (zret2 wd hf)
def f_law_766 (k18 : zS → Int32 → Option (Int32 × zS)) (len : Nat) (xs : Nat → Int32) (S : zS) (a3 : Int32) : Option (Int32 × zS) :=
  (if zin (a3 + (1 : Int32)) len then ((f_X5_net S (xs ((a3 + (1 : Int32))).toNatClampNeg)).bind (fun x3 => (if zin (a3 + (1 : Int32)) len then ((f_X6_net S (xs ((a3 + (1 : Int32))).toNatClampNeg)).bind (fun x6 => (if x3 = x6 then f_law_905 k18 len xs S a3 else some ((0 : Int32), S)))) else none))) else none)
set_option maxRecDepth 100000 in
set_option maxHeartbeats 4000000 in
theorem v_law_766 {len : Nat} {xs : Nat → Int32} (d : Nat) (hd : 14 ≤ d) (k18 : zS → Int32 → Option (Int32 × zS)) (hk18 : ∀ (S : zS) (a3 : Int32) v S', k18 S a3 = (some (v, S')) → zV (some (len, xs)) (d + 1) x cL_law 4 (some .boolean) 18 [(0, .ref 1002), (1, .ref 0), (2, .ref 31), (3, .int a3)] [] (wd S) (zq (some (.int v)) (wd S'))) (S : zS) (a3 : Int32) (v : Int32) (S' : zS) (hf : f_law_766 k18 len xs S a3 = (some (v, S'))) : zV (some (len, xs)) (d + 1) x cL_law 4 (some .boolean) 766 [(0, .ref 1002), (1, .ref 0), (2, .ref 31), (3, .int a3)] [] (wd S) (zq (some (.int v)) (wd S')) := by
  unfold f_law_766 at hf
  refine zv_aload_n dL_law_766 rfl rfl ?_
  refine zv_aload_n dL_law_767 rfl rfl ?_
  refine zv_iload_n dL_law_768 rfl rfl ?_
  refine zv_iconst (v := 1) dL_law_769 (by decide) ?_
  refine zv_iadd dL_law_770 ?_
  obtain ⟨hb1, hf⟩ := zifb hf
  refine zv_sld hb1 dL_law_771 ?_
  obtain ⟨x3, hc2, hf⟩ := zbind hf
  refine zv_callV dL_law_772 zk_L_105 zm_X5_net (c_X5_net  d (by omega) S (xs ((a3 + (1 : Int32))).toNatClampNeg) x3 hc2) (wo_0 S) rfl rfl rfl (Nat.le_of_ble_eq_true rfl) ?_
  refine zv_aload_n dL_law_775 rfl rfl ?_
  refine zv_aload_n dL_law_776 rfl rfl ?_
  refine zv_iload_n dL_law_777 rfl rfl ?_
  refine zv_iconst (v := 1) dL_law_778 (by decide) ?_
  refine zv_iadd dL_law_779 ?_
  obtain ⟨hb4, hf⟩ := zifb hf
  refine zv_sld hb4 dL_law_780 ?_
  obtain ⟨x6, hc5, hf⟩ := zbind hf
  refine zv_callV dL_law_781 zk_L_108 zm_X6_net (c_X6_net  d (by omega) S (xs ((a3 + (1 : Int32))).toNatClampNeg) x6 hc5) (wo_31 S) rfl rfl rfl (Nat.le_of_ble_eq_true rfl) ?_
  refine zv_icmp_eq (tgt := 905) dL_law_784 (by decide) (fun c7 => ?_) (fun c7 => ?_)
  · replace hf := (if_pos c7).symm.trans hf
    exact zV_sub ([(0, .ref 1002), (1, .ref 0), (2, .ref 31), (3, .int a3)]) ⟨rfl, rfl, rfl, rfl, trivial⟩ (v_law_905 d (by omega) k18 hk18 S a3 _ _ hf)
  · replace hf := (if_neg c7).symm.trans hf
    refine zv_iconst (v := 0) dL_law_787 (by decide) ?_
    exact zv_iret (ty := .boolean) dL_law_788 rfl rfl (zret2 wd hf)
def f_law_789 (k18 : zS → Int32 → Option (Int32 × zS)) (len : Nat) (xs : Nat → Int32) (S : zS) (a3 : Int32) : Option (Int32 × zS) :=
  (if zin (a3 + (1 : Int32)) len then (if zin (a3 + (2 : Int32)) len then (zb2 (f_X5_mark S (xs ((a3 + (1 : Int32))).toNatClampNeg) (xs ((a3 + (2 : Int32))).toNatClampNeg)) (fun x4 S5 => (if zin (a3 + (1 : Int32)) len then (if zin (a3 + (2 : Int32)) len then (zb2 (f_X6_mark S5 (xs ((a3 + (1 : Int32))).toNatClampNeg) (xs ((a3 + (2 : Int32))).toNatClampNeg)) (fun x9 S10 => (if x4 = x9 then f_law_905 k18 len xs S10 a3 else some ((0 : Int32), S10)))) else none) else none))) else none) else none)
set_option maxRecDepth 100000 in
set_option maxHeartbeats 4000000 in
theorem v_law_789 {len : Nat} {xs : Nat → Int32} (d : Nat) (hd : 14 ≤ d) (k18 : zS → Int32 → Option (Int32 × zS)) (hk18 : ∀ (S : zS) (a3 : Int32) v S', k18 S a3 = (some (v, S')) → zV (some (len, xs)) (d + 1) x cL_law 4 (some .boolean) 18 [(0, .ref 1002), (1, .ref 0), (2, .ref 31), (3, .int a3)] [] (wd S) (zq (some (.int v)) (wd S'))) (S : zS) (a3 : Int32) (v : Int32) (S' : zS) (hf : f_law_789 k18 len xs S a3 = (some (v, S'))) : zV (some (len, xs)) (d + 1) x cL_law 4 (some .boolean) 789 [(0, .ref 1002), (1, .ref 0), (2, .ref 31), (3, .int a3)] [] (wd S) (zq (some (.int v)) (wd S')) := by
  unfold f_law_789 at hf
  refine zv_aload_n dL_law_789 rfl rfl ?_
  refine zv_aload_n dL_law_790 rfl rfl ?_
  refine zv_iload_n dL_law_791 rfl rfl ?_
  refine zv_iconst (v := 1) dL_law_792 (by decide) ?_
  refine zv_iadd dL_law_793 ?_
  obtain ⟨hb1, hf⟩ := zifb hf
  refine zv_sld hb1 dL_law_794 ?_
  refine zv_aload_n dL_law_795 rfl rfl ?_
  refine zv_iload_n dL_law_796 rfl rfl ?_
  refine zv_iconst (v := 2) dL_law_797 (by decide) ?_
  refine zv_iadd dL_law_798 ?_
  obtain ⟨hb2, hf⟩ := zifb hf
  refine zv_sld hb2 dL_law_799 ?_
  obtain ⟨x4, S5, hc3, hf⟩ := zbind2 hf
  refine zv_callV dL_law_800 zk_L_109 zm_X5_mark (c_X5_mark  d (by omega) S (xs ((a3 + (1 : Int32))).toNatClampNeg) (xs ((a3 + (2 : Int32))).toNatClampNeg) x4 S5 hc3) (wo_0 S) rfl rfl rfl (Nat.le_of_ble_eq_true rfl) ?_
  refine zv_aload_n dL_law_803 rfl rfl ?_
  refine zv_aload_n dL_law_804 rfl rfl ?_
  refine zv_iload_n dL_law_805 rfl rfl ?_
  refine zv_iconst (v := 1) dL_law_806 (by decide) ?_
  refine zv_iadd dL_law_807 ?_
  obtain ⟨hb6, hf⟩ := zifb hf
  refine zv_sld hb6 dL_law_808 ?_
  refine zv_aload_n dL_law_809 rfl rfl ?_
  refine zv_iload_n dL_law_810 rfl rfl ?_
  refine zv_iconst (v := 2) dL_law_811 (by decide) ?_
  refine zv_iadd dL_law_812 ?_
  obtain ⟨hb7, hf⟩ := zifb hf
  refine zv_sld hb7 dL_law_813 ?_
  obtain ⟨x9, S10, hc8, hf⟩ := zbind2 hf
  refine zv_callV dL_law_814 zk_L_112 zm_X6_mark (c_X6_mark  d (by omega) S5 (xs ((a3 + (1 : Int32))).toNatClampNeg) (xs ((a3 + (2 : Int32))).toNatClampNeg) x9 S10 hc8) (wo_31 S5) rfl rfl rfl (Nat.le_of_ble_eq_true rfl) ?_
  refine zv_icmp_eq (tgt := 905) dL_law_817 (by decide) (fun c11 => ?_) (fun c11 => ?_)
  · replace hf := (if_pos c11).symm.trans hf
    exact zV_sub ([(0, .ref 1002), (1, .ref 0), (2, .ref 31), (3, .int a3)]) ⟨rfl, rfl, rfl, rfl, trivial⟩ (v_law_905 d (by omega) k18 hk18 S10 a3 _ _ hf)
  · replace hf := (if_neg c11).symm.trans hf
    refine zv_iconst (v := 0) dL_law_820 (by decide) ?_
    exact zv_iret (ty := .boolean) dL_law_821 rfl rfl (zret2 wd hf)
def f_law_822 (k18 : zS → Int32 → Option (Int32 × zS)) (len : Nat) (xs : Nat → Int32) (S : zS) (a3 : Int32) : Option (Int32 × zS) :=
  (if zin (a3 + (1 : Int32)) len then (zb2 (f_X5_keep S (xs ((a3 + (1 : Int32))).toNatClampNeg)) (fun x3 S4 => (if zin (a3 + (1 : Int32)) len then (zb2 (f_X6_keep S4 (xs ((a3 + (1 : Int32))).toNatClampNeg)) (fun x7 S8 => (if x3 = x7 then f_law_905 k18 len xs S8 a3 else some ((0 : Int32), S8)))) else none))) else none)
set_option maxRecDepth 100000 in
set_option maxHeartbeats 4000000 in
theorem v_law_822 {len : Nat} {xs : Nat → Int32} (d : Nat) (hd : 14 ≤ d) (k18 : zS → Int32 → Option (Int32 × zS)) (hk18 : ∀ (S : zS) (a3 : Int32) v S', k18 S a3 = (some (v, S')) → zV (some (len, xs)) (d + 1) x cL_law 4 (some .boolean) 18 [(0, .ref 1002), (1, .ref 0), (2, .ref 31), (3, .int a3)] [] (wd S) (zq (some (.int v)) (wd S'))) (S : zS) (a3 : Int32) (v : Int32) (S' : zS) (hf : f_law_822 k18 len xs S a3 = (some (v, S'))) : zV (some (len, xs)) (d + 1) x cL_law 4 (some .boolean) 822 [(0, .ref 1002), (1, .ref 0), (2, .ref 31), (3, .int a3)] [] (wd S) (zq (some (.int v)) (wd S')) := by
  unfold f_law_822 at hf
  refine zv_aload_n dL_law_822 rfl rfl ?_
  refine zv_aload_n dL_law_823 rfl rfl ?_
  refine zv_iload_n dL_law_824 rfl rfl ?_
  refine zv_iconst (v := 1) dL_law_825 (by decide) ?_
  refine zv_iadd dL_law_826 ?_
  obtain ⟨hb1, hf⟩ := zifb hf
  refine zv_sld hb1 dL_law_827 ?_
  obtain ⟨x3, S4, hc2, hf⟩ := zbind2 hf
  refine zv_callV dL_law_828 zk_L_113 zm_X5_keep (c_X5_keep  d (by omega) S (xs ((a3 + (1 : Int32))).toNatClampNeg) x3 S4 hc2) (wo_0 S) rfl rfl rfl (Nat.le_of_ble_eq_true rfl) ?_
  refine zv_aload_n dL_law_831 rfl rfl ?_
  refine zv_aload_n dL_law_832 rfl rfl ?_
  refine zv_iload_n dL_law_833 rfl rfl ?_
  refine zv_iconst (v := 1) dL_law_834 (by decide) ?_
  refine zv_iadd dL_law_835 ?_
  obtain ⟨hb5, hf⟩ := zifb hf
  refine zv_sld hb5 dL_law_836 ?_
  obtain ⟨x7, S8, hc6, hf⟩ := zbind2 hf
  refine zv_callV dL_law_837 zk_L_116 zm_X6_keep (c_X6_keep  d (by omega) S4 (xs ((a3 + (1 : Int32))).toNatClampNeg) x7 S8 hc6) (wo_31 S4) rfl rfl rfl (Nat.le_of_ble_eq_true rfl) ?_
  refine zv_icmp_eq (tgt := 905) dL_law_840 (by decide) (fun c9 => ?_) (fun c9 => ?_)
  · replace hf := (if_pos c9).symm.trans hf
    exact zV_sub ([(0, .ref 1002), (1, .ref 0), (2, .ref 31), (3, .int a3)]) ⟨rfl, rfl, rfl, rfl, trivial⟩ (v_law_905 d (by omega) k18 hk18 S8 a3 _ _ hf)
  · replace hf := (if_neg c9).symm.trans hf
    refine zv_iconst (v := 0) dL_law_843 (by decide) ?_
    exact zv_iret (ty := .boolean) dL_law_844 rfl rfl (zret2 wd hf)
def f_law_845 (k18 : zS → Int32 → Option (Int32 × zS)) (len : Nat) (xs : Nat → Int32) (S : zS) (a3 : Int32) : Option (Int32 × zS) :=
  (if zin (a3 + (1 : Int32)) len then (zb2 (f_X5_back S (xs ((a3 + (1 : Int32))).toNatClampNeg)) (fun x3 S4 => (if zin (a3 + (1 : Int32)) len then (zb2 (f_X6_back S4 (xs ((a3 + (1 : Int32))).toNatClampNeg)) (fun x7 S8 => (if x3 = x7 then f_law_905 k18 len xs S8 a3 else some ((0 : Int32), S8)))) else none))) else none)
set_option maxRecDepth 100000 in
set_option maxHeartbeats 4000000 in
theorem v_law_845 {len : Nat} {xs : Nat → Int32} (d : Nat) (hd : 14 ≤ d) (k18 : zS → Int32 → Option (Int32 × zS)) (hk18 : ∀ (S : zS) (a3 : Int32) v S', k18 S a3 = (some (v, S')) → zV (some (len, xs)) (d + 1) x cL_law 4 (some .boolean) 18 [(0, .ref 1002), (1, .ref 0), (2, .ref 31), (3, .int a3)] [] (wd S) (zq (some (.int v)) (wd S'))) (S : zS) (a3 : Int32) (v : Int32) (S' : zS) (hf : f_law_845 k18 len xs S a3 = (some (v, S'))) : zV (some (len, xs)) (d + 1) x cL_law 4 (some .boolean) 845 [(0, .ref 1002), (1, .ref 0), (2, .ref 31), (3, .int a3)] [] (wd S) (zq (some (.int v)) (wd S')) := by
  unfold f_law_845 at hf
  refine zv_aload_n dL_law_845 rfl rfl ?_
  refine zv_aload_n dL_law_846 rfl rfl ?_
  refine zv_iload_n dL_law_847 rfl rfl ?_
  refine zv_iconst (v := 1) dL_law_848 (by decide) ?_
  refine zv_iadd dL_law_849 ?_
  obtain ⟨hb1, hf⟩ := zifb hf
  refine zv_sld hb1 dL_law_850 ?_
  obtain ⟨x3, S4, hc2, hf⟩ := zbind2 hf
  refine zv_callV dL_law_851 zk_L_117 zm_X5_back (c_X5_back  d (by omega) S (xs ((a3 + (1 : Int32))).toNatClampNeg) x3 S4 hc2) (wo_0 S) rfl rfl rfl (Nat.le_of_ble_eq_true rfl) ?_
  refine zv_aload_n dL_law_854 rfl rfl ?_
  refine zv_aload_n dL_law_855 rfl rfl ?_
  refine zv_iload_n dL_law_856 rfl rfl ?_
  refine zv_iconst (v := 1) dL_law_857 (by decide) ?_
  refine zv_iadd dL_law_858 ?_
  obtain ⟨hb5, hf⟩ := zifb hf
  refine zv_sld hb5 dL_law_859 ?_
  obtain ⟨x7, S8, hc6, hf⟩ := zbind2 hf
  refine zv_callV dL_law_860 zk_L_120 zm_X6_back (c_X6_back  d (by omega) S4 (xs ((a3 + (1 : Int32))).toNatClampNeg) x7 S8 hc6) (wo_31 S4) rfl rfl rfl (Nat.le_of_ble_eq_true rfl) ?_
  refine zv_icmp_eq (tgt := 905) dL_law_863 (by decide) (fun c9 => ?_) (fun c9 => ?_)
  · replace hf := (if_pos c9).symm.trans hf
    exact zV_sub ([(0, .ref 1002), (1, .ref 0), (2, .ref 31), (3, .int a3)]) ⟨rfl, rfl, rfl, rfl, trivial⟩ (v_law_905 d (by omega) k18 hk18 S8 a3 _ _ hf)
  · replace hf := (if_neg c9).symm.trans hf
    refine zv_iconst (v := 0) dL_law_866 (by decide) ?_
    exact zv_iret (ty := .boolean) dL_law_867 rfl rfl (zret2 wd hf)
def f_law_868 (k18 : zS → Int32 → Option (Int32 × zS)) (len : Nat) (xs : Nat → Int32) (S : zS) (a3 : Int32) : Option (Int32 × zS) :=
  (if zin (a3 + (1 : Int32)) len then ((f_X5_count S (xs ((a3 + (1 : Int32))).toNatClampNeg)).bind (fun x3 => (if zin (a3 + (1 : Int32)) len then ((f_X6_count S (xs ((a3 + (1 : Int32))).toNatClampNeg)).bind (fun x6 => (if x3 = x6 then f_law_905 k18 len xs S a3 else some ((0 : Int32), S)))) else none))) else none)
set_option maxRecDepth 100000 in
set_option maxHeartbeats 4000000 in
theorem v_law_868 {len : Nat} {xs : Nat → Int32} (d : Nat) (hd : 14 ≤ d) (k18 : zS → Int32 → Option (Int32 × zS)) (hk18 : ∀ (S : zS) (a3 : Int32) v S', k18 S a3 = (some (v, S')) → zV (some (len, xs)) (d + 1) x cL_law 4 (some .boolean) 18 [(0, .ref 1002), (1, .ref 0), (2, .ref 31), (3, .int a3)] [] (wd S) (zq (some (.int v)) (wd S'))) (S : zS) (a3 : Int32) (v : Int32) (S' : zS) (hf : f_law_868 k18 len xs S a3 = (some (v, S'))) : zV (some (len, xs)) (d + 1) x cL_law 4 (some .boolean) 868 [(0, .ref 1002), (1, .ref 0), (2, .ref 31), (3, .int a3)] [] (wd S) (zq (some (.int v)) (wd S')) := by
  unfold f_law_868 at hf
  refine zv_aload_n dL_law_868 rfl rfl ?_
  refine zv_aload_n dL_law_869 rfl rfl ?_
  refine zv_iload_n dL_law_870 rfl rfl ?_
  refine zv_iconst (v := 1) dL_law_871 (by decide) ?_
  refine zv_iadd dL_law_872 ?_
  obtain ⟨hb1, hf⟩ := zifb hf
  refine zv_sld hb1 dL_law_873 ?_
  obtain ⟨x3, hc2, hf⟩ := zbind hf
  refine zv_callV dL_law_874 zk_L_121 zm_X5_count (c_X5_count  d S (xs ((a3 + (1 : Int32))).toNatClampNeg) x3 hc2) (wo_0 S) rfl rfl rfl (Nat.le_of_ble_eq_true rfl) ?_
  refine zv_aload_n dL_law_877 rfl rfl ?_
  refine zv_aload_n dL_law_878 rfl rfl ?_
  refine zv_iload_n dL_law_879 rfl rfl ?_
  refine zv_iconst (v := 1) dL_law_880 (by decide) ?_
  refine zv_iadd dL_law_881 ?_
  obtain ⟨hb4, hf⟩ := zifb hf
  refine zv_sld hb4 dL_law_882 ?_
  obtain ⟨x6, hc5, hf⟩ := zbind hf
  refine zv_callV dL_law_883 zk_L_124 zm_X6_count (c_X6_count  d S (xs ((a3 + (1 : Int32))).toNatClampNeg) x6 hc5) (wo_31 S) rfl rfl rfl (Nat.le_of_ble_eq_true rfl) ?_
  refine zv_icmp_eq (tgt := 905) dL_law_886 (by decide) (fun c7 => ?_) (fun c7 => ?_)
  · replace hf := (if_pos c7).symm.trans hf
    exact zV_sub ([(0, .ref 1002), (1, .ref 0), (2, .ref 31), (3, .int a3)]) ⟨rfl, rfl, rfl, rfl, trivial⟩ (v_law_905 d (by omega) k18 hk18 S a3 _ _ hf)
  · replace hf := (if_neg c7).symm.trans hf
    refine zv_iconst (v := 0) dL_law_889 (by decide) ?_
    exact zv_iret (ty := .boolean) dL_law_890 rfl rfl (zret2 wd hf)
def f_law_891 (k18 : zS → Int32 → Option (Int32 × zS)) (len : Nat) (xs : Nat → Int32) (S : zS) (a3 : Int32) : Option (Int32 × zS) :=
  ((f_X5_trace S).bind (fun x2 => ((f_X6_trace S).bind (fun x4 => (if (lg_cmp x2 x4) = 0 then f_law_905 k18 len xs S a3 else some ((0 : Int32), S))))))
set_option maxRecDepth 100000 in
set_option maxHeartbeats 4000000 in
theorem v_law_891 {len : Nat} {xs : Nat → Int32} (d : Nat) (hd : 14 ≤ d) (k18 : zS → Int32 → Option (Int32 × zS)) (hk18 : ∀ (S : zS) (a3 : Int32) v S', k18 S a3 = (some (v, S')) → zV (some (len, xs)) (d + 1) x cL_law 4 (some .boolean) 18 [(0, .ref 1002), (1, .ref 0), (2, .ref 31), (3, .int a3)] [] (wd S) (zq (some (.int v)) (wd S'))) (S : zS) (a3 : Int32) (v : Int32) (S' : zS) (hf : f_law_891 k18 len xs S a3 = (some (v, S'))) : zV (some (len, xs)) (d + 1) x cL_law 4 (some .boolean) 891 [(0, .ref 1002), (1, .ref 0), (2, .ref 31), (3, .int a3)] [] (wd S) (zq (some (.int v)) (wd S')) := by
  unfold f_law_891 at hf
  refine zv_aload_n dL_law_891 rfl rfl ?_
  obtain ⟨x2, hc1, hf⟩ := zbind hf
  refine zv_callV dL_law_892 zk_L_125 zm_X5_trace (c_X5_trace  d S x2 hc1) (wo_0 S) rfl rfl rfl (Nat.le_of_ble_eq_true rfl) ?_
  refine zv_aload_n dL_law_895 rfl rfl ?_
  obtain ⟨x4, hc3, hf⟩ := zbind hf
  refine zv_callV dL_law_896 zk_L_129 zm_X6_trace (c_X6_trace  d S x4 hc3) (wo_31 S) rfl rfl rfl (Nat.le_of_ble_eq_true rfl) ?_
  refine zv_lcmp dL_law_899 ?_
  refine zv_if_eq (tgt := 905) dL_law_900 (by decide) (fun c5 => ?_) (fun c5 => ?_)
  · replace hf := (if_pos c5).symm.trans hf
    exact zV_sub ([(0, .ref 1002), (1, .ref 0), (2, .ref 31), (3, .int a3)]) ⟨rfl, rfl, rfl, rfl, trivial⟩ (v_law_905 d (by omega) k18 hk18 S a3 _ _ hf)
  · replace hf := (if_neg c5).symm.trans hf
    refine zv_iconst (v := 0) dL_law_903 (by decide) ?_
    exact zv_iret (ty := .boolean) dL_law_904 rfl rfl (zret2 wd hf)
def f_law_18 (len : Nat) (xs : Nat → Int32) : Nat → zS → Int32 → Option (Int32 × zS)
  | 0, _, _ => none
  | n + 1, S, a3 => (if ((nI len) - (4 : Int32)) < a3 then some ((1 : Int32), S) else (if zin a3 len then (if ((xs (a3).toNatClampNeg) &&& (31 : Int32)) = 0 then f_law_160 (f_law_18 len xs n) len xs S a3 else (if ((xs (a3).toNatClampNeg) &&& (31 : Int32)) = 1 then f_law_183 (f_law_18 len xs n) len xs S a3 else (if ((xs (a3).toNatClampNeg) &&& (31 : Int32)) = 2 then f_law_196 (f_law_18 len xs n) len xs S a3 else (if ((xs (a3).toNatClampNeg) &&& (31 : Int32)) = 3 then f_law_209 (f_law_18 len xs n) len xs S a3 else (if ((xs (a3).toNatClampNeg) &&& (31 : Int32)) = 4 then f_law_242 (f_law_18 len xs n) len xs S a3 else (if ((xs (a3).toNatClampNeg) &&& (31 : Int32)) = 5 then f_law_275 (f_law_18 len xs n) len xs S a3 else (if ((xs (a3).toNatClampNeg) &&& (31 : Int32)) = 6 then f_law_308 (f_law_18 len xs n) len xs S a3 else (if ((xs (a3).toNatClampNeg) &&& (31 : Int32)) = 7 then f_law_331 (f_law_18 len xs n) len xs S a3 else (if ((xs (a3).toNatClampNeg) &&& (31 : Int32)) = 8 then f_law_344 (f_law_18 len xs n) len xs S a3 else (if ((xs (a3).toNatClampNeg) &&& (31 : Int32)) = 9 then f_law_367 (f_law_18 len xs n) len xs S a3 else (if ((xs (a3).toNatClampNeg) &&& (31 : Int32)) = 10 then f_law_400 (f_law_18 len xs n) len xs S a3 else (if ((xs (a3).toNatClampNeg) &&& (31 : Int32)) = 11 then f_law_433 (f_law_18 len xs n) len xs S a3 else (if ((xs (a3).toNatClampNeg) &&& (31 : Int32)) = 12 then f_law_456 (f_law_18 len xs n) len xs S a3 else (if ((xs (a3).toNatClampNeg) &&& (31 : Int32)) = 13 then f_law_489 (f_law_18 len xs n) len xs S a3 else (if ((xs (a3).toNatClampNeg) &&& (31 : Int32)) = 14 then f_law_502 (f_law_18 len xs n) len xs S a3 else (if ((xs (a3).toNatClampNeg) &&& (31 : Int32)) = 15 then f_law_525 (f_law_18 len xs n) len xs S a3 else (if ((xs (a3).toNatClampNeg) &&& (31 : Int32)) = 16 then f_law_558 (f_law_18 len xs n) len xs S a3 else (if ((xs (a3).toNatClampNeg) &&& (31 : Int32)) = 17 then f_law_581 (f_law_18 len xs n) len xs S a3 else (if ((xs (a3).toNatClampNeg) &&& (31 : Int32)) = 18 then f_law_614 (f_law_18 len xs n) len xs S a3 else (if ((xs (a3).toNatClampNeg) &&& (31 : Int32)) = 19 then f_law_657 (f_law_18 len xs n) len xs S a3 else (if ((xs (a3).toNatClampNeg) &&& (31 : Int32)) = 20 then f_law_700 (f_law_18 len xs n) len xs S a3 else (if ((xs (a3).toNatClampNeg) &&& (31 : Int32)) = 21 then f_law_743 (f_law_18 len xs n) len xs S a3 else (if ((xs (a3).toNatClampNeg) &&& (31 : Int32)) = 22 then f_law_766 (f_law_18 len xs n) len xs S a3 else (if ((xs (a3).toNatClampNeg) &&& (31 : Int32)) = 23 then f_law_789 (f_law_18 len xs n) len xs S a3 else (if ((xs (a3).toNatClampNeg) &&& (31 : Int32)) = 24 then f_law_822 (f_law_18 len xs n) len xs S a3 else (if ((xs (a3).toNatClampNeg) &&& (31 : Int32)) = 25 then f_law_845 (f_law_18 len xs n) len xs S a3 else (if ((xs (a3).toNatClampNeg) &&& (31 : Int32)) = 26 then f_law_868 (f_law_18 len xs n) len xs S a3 else (if ((xs (a3).toNatClampNeg) &&& (31 : Int32)) = 27 then f_law_891 (f_law_18 len xs n) len xs S a3 else f_law_905 (f_law_18 len xs n) len xs S a3)))))))))))))))))))))))))))) else none))
set_option maxRecDepth 100000 in
set_option maxHeartbeats 4000000 in
theorem v_law_18 {len : Nat} {xs : Nat → Int32} (d : Nat) (hd : 14 ≤ d) : ∀ (n : Nat) (S : zS) (a3 : Int32) (v : Int32) (S' : zS), f_law_18 len xs n S a3 = (some (v, S')) → zV (some (len, xs)) (d + 1) x cL_law 4 (some .boolean) 18 [(0, .ref 1002), (1, .ref 0), (2, .ref 31), (3, .int a3)] [] (wd S) (zq (some (.int v)) (wd S')) := by
  intro n
  induction n with
  | zero =>
    intro S a3 v S' hf
    cases hf
  | succ n ih =>
    intro S a3 v S' hf
    rw [f_law_18] at hf
    refine zv_iload_n dL_law_18 rfl rfl ?_
    refine zv_aload_n dL_law_19 rfl rfl ?_
    refine zv_slen dL_law_20 ?_
    refine zv_iconst (v := 4) dL_law_21 (by decide) ?_
    refine zv_isub dL_law_22 ?_
    refine zv_icmp_gt (tgt := 911) dL_law_23 (by decide) (fun c1 => ?_) (fun c1 => ?_)
    · replace hf := (if_pos c1).symm.trans hf
      refine zv_iconst (v := 1) dL_law_911 (by decide) ?_
      exact zv_iret (ty := .boolean) dL_law_912 rfl rfl (zret2 wd hf)
    · replace hf := (if_neg c1).symm.trans hf
      refine zv_aload_n dL_law_26 rfl rfl ?_
      refine zv_iload_n dL_law_27 rfl rfl ?_
      obtain ⟨hb2, hf⟩ := zifb hf
      refine zv_sld hb2 dL_law_28 ?_
      refine zv_bipush (v := 31) dL_law_29 (by decide) ?_
      refine zv_iand dL_law_31 ?_
      by_cases c3 : ((xs (a3).toNatClampNeg) &&& (31 : Int32)) = 0
      · replace hf := (if_pos c3).symm.trans hf
        refine zv_tableIn (v := 0) (off := 128) (tgt := 160) dL_law_32 c3 (by decide) (by decide) (by decide) (by decide) ?_
        exact zV_sub ([(0, .ref 1002), (1, .ref 0), (2, .ref 31), (3, .int a3)]) ⟨rfl, rfl, rfl, rfl, trivial⟩ (v_law_160 d (by omega) (f_law_18 len xs n) ih S a3 _ _ hf)
      replace hf := (if_neg c3).symm.trans hf
      by_cases c4 : ((xs (a3).toNatClampNeg) &&& (31 : Int32)) = 1
      · replace hf := (if_pos c4).symm.trans hf
        refine zv_tableIn (v := 1) (off := 151) (tgt := 183) dL_law_32 c4 (by decide) (by decide) (by decide) (by decide) ?_
        exact zV_sub ([(0, .ref 1002), (1, .ref 0), (2, .ref 31), (3, .int a3)]) ⟨rfl, rfl, rfl, rfl, trivial⟩ (v_law_183 d (by omega) (f_law_18 len xs n) ih S a3 _ _ hf)
      replace hf := (if_neg c4).symm.trans hf
      by_cases c5 : ((xs (a3).toNatClampNeg) &&& (31 : Int32)) = 2
      · replace hf := (if_pos c5).symm.trans hf
        refine zv_tableIn (v := 2) (off := 164) (tgt := 196) dL_law_32 c5 (by decide) (by decide) (by decide) (by decide) ?_
        exact zV_sub ([(0, .ref 1002), (1, .ref 0), (2, .ref 31), (3, .int a3)]) ⟨rfl, rfl, rfl, rfl, trivial⟩ (v_law_196 d (by omega) (f_law_18 len xs n) ih S a3 _ _ hf)
      replace hf := (if_neg c5).symm.trans hf
      by_cases c6 : ((xs (a3).toNatClampNeg) &&& (31 : Int32)) = 3
      · replace hf := (if_pos c6).symm.trans hf
        refine zv_tableIn (v := 3) (off := 177) (tgt := 209) dL_law_32 c6 (by decide) (by decide) (by decide) (by decide) ?_
        exact zV_sub ([(0, .ref 1002), (1, .ref 0), (2, .ref 31), (3, .int a3)]) ⟨rfl, rfl, rfl, rfl, trivial⟩ (v_law_209 d (by omega) (f_law_18 len xs n) ih S a3 _ _ hf)
      replace hf := (if_neg c6).symm.trans hf
      by_cases c7 : ((xs (a3).toNatClampNeg) &&& (31 : Int32)) = 4
      · replace hf := (if_pos c7).symm.trans hf
        refine zv_tableIn (v := 4) (off := 210) (tgt := 242) dL_law_32 c7 (by decide) (by decide) (by decide) (by decide) ?_
        exact zV_sub ([(0, .ref 1002), (1, .ref 0), (2, .ref 31), (3, .int a3)]) ⟨rfl, rfl, rfl, rfl, trivial⟩ (v_law_242 d (by omega) (f_law_18 len xs n) ih S a3 _ _ hf)
      replace hf := (if_neg c7).symm.trans hf
      by_cases c8 : ((xs (a3).toNatClampNeg) &&& (31 : Int32)) = 5
      · replace hf := (if_pos c8).symm.trans hf
        refine zv_tableIn (v := 5) (off := 243) (tgt := 275) dL_law_32 c8 (by decide) (by decide) (by decide) (by decide) ?_
        exact zV_sub ([(0, .ref 1002), (1, .ref 0), (2, .ref 31), (3, .int a3)]) ⟨rfl, rfl, rfl, rfl, trivial⟩ (v_law_275 d (by omega) (f_law_18 len xs n) ih S a3 _ _ hf)
      replace hf := (if_neg c8).symm.trans hf
      by_cases c9 : ((xs (a3).toNatClampNeg) &&& (31 : Int32)) = 6
      · replace hf := (if_pos c9).symm.trans hf
        refine zv_tableIn (v := 6) (off := 276) (tgt := 308) dL_law_32 c9 (by decide) (by decide) (by decide) (by decide) ?_
        exact zV_sub ([(0, .ref 1002), (1, .ref 0), (2, .ref 31), (3, .int a3)]) ⟨rfl, rfl, rfl, rfl, trivial⟩ (v_law_308 d (by omega) (f_law_18 len xs n) ih S a3 _ _ hf)
      replace hf := (if_neg c9).symm.trans hf
      by_cases c10 : ((xs (a3).toNatClampNeg) &&& (31 : Int32)) = 7
      · replace hf := (if_pos c10).symm.trans hf
        refine zv_tableIn (v := 7) (off := 299) (tgt := 331) dL_law_32 c10 (by decide) (by decide) (by decide) (by decide) ?_
        exact zV_sub ([(0, .ref 1002), (1, .ref 0), (2, .ref 31), (3, .int a3)]) ⟨rfl, rfl, rfl, rfl, trivial⟩ (v_law_331 d (by omega) (f_law_18 len xs n) ih S a3 _ _ hf)
      replace hf := (if_neg c10).symm.trans hf
      by_cases c11 : ((xs (a3).toNatClampNeg) &&& (31 : Int32)) = 8
      · replace hf := (if_pos c11).symm.trans hf
        refine zv_tableIn (v := 8) (off := 312) (tgt := 344) dL_law_32 c11 (by decide) (by decide) (by decide) (by decide) ?_
        exact zV_sub ([(0, .ref 1002), (1, .ref 0), (2, .ref 31), (3, .int a3)]) ⟨rfl, rfl, rfl, rfl, trivial⟩ (v_law_344 d (by omega) (f_law_18 len xs n) ih S a3 _ _ hf)
      replace hf := (if_neg c11).symm.trans hf
      by_cases c12 : ((xs (a3).toNatClampNeg) &&& (31 : Int32)) = 9
      · replace hf := (if_pos c12).symm.trans hf
        refine zv_tableIn (v := 9) (off := 335) (tgt := 367) dL_law_32 c12 (by decide) (by decide) (by decide) (by decide) ?_
        exact zV_sub ([(0, .ref 1002), (1, .ref 0), (2, .ref 31), (3, .int a3)]) ⟨rfl, rfl, rfl, rfl, trivial⟩ (v_law_367 d (by omega) (f_law_18 len xs n) ih S a3 _ _ hf)
      replace hf := (if_neg c12).symm.trans hf
      by_cases c13 : ((xs (a3).toNatClampNeg) &&& (31 : Int32)) = 10
      · replace hf := (if_pos c13).symm.trans hf
        refine zv_tableIn (v := 10) (off := 368) (tgt := 400) dL_law_32 c13 (by decide) (by decide) (by decide) (by decide) ?_
        exact zV_sub ([(0, .ref 1002), (1, .ref 0), (2, .ref 31), (3, .int a3)]) ⟨rfl, rfl, rfl, rfl, trivial⟩ (v_law_400 d (by omega) (f_law_18 len xs n) ih S a3 _ _ hf)
      replace hf := (if_neg c13).symm.trans hf
      by_cases c14 : ((xs (a3).toNatClampNeg) &&& (31 : Int32)) = 11
      · replace hf := (if_pos c14).symm.trans hf
        refine zv_tableIn (v := 11) (off := 401) (tgt := 433) dL_law_32 c14 (by decide) (by decide) (by decide) (by decide) ?_
        exact zV_sub ([(0, .ref 1002), (1, .ref 0), (2, .ref 31), (3, .int a3)]) ⟨rfl, rfl, rfl, rfl, trivial⟩ (v_law_433 d (by omega) (f_law_18 len xs n) ih S a3 _ _ hf)
      replace hf := (if_neg c14).symm.trans hf
      by_cases c15 : ((xs (a3).toNatClampNeg) &&& (31 : Int32)) = 12
      · replace hf := (if_pos c15).symm.trans hf
        refine zv_tableIn (v := 12) (off := 424) (tgt := 456) dL_law_32 c15 (by decide) (by decide) (by decide) (by decide) ?_
        exact zV_sub ([(0, .ref 1002), (1, .ref 0), (2, .ref 31), (3, .int a3)]) ⟨rfl, rfl, rfl, rfl, trivial⟩ (v_law_456 d (by omega) (f_law_18 len xs n) ih S a3 _ _ hf)
      replace hf := (if_neg c15).symm.trans hf
      by_cases c16 : ((xs (a3).toNatClampNeg) &&& (31 : Int32)) = 13
      · replace hf := (if_pos c16).symm.trans hf
        refine zv_tableIn (v := 13) (off := 457) (tgt := 489) dL_law_32 c16 (by decide) (by decide) (by decide) (by decide) ?_
        exact zV_sub ([(0, .ref 1002), (1, .ref 0), (2, .ref 31), (3, .int a3)]) ⟨rfl, rfl, rfl, rfl, trivial⟩ (v_law_489 d (by omega) (f_law_18 len xs n) ih S a3 _ _ hf)
      replace hf := (if_neg c16).symm.trans hf
      by_cases c17 : ((xs (a3).toNatClampNeg) &&& (31 : Int32)) = 14
      · replace hf := (if_pos c17).symm.trans hf
        refine zv_tableIn (v := 14) (off := 470) (tgt := 502) dL_law_32 c17 (by decide) (by decide) (by decide) (by decide) ?_
        exact zV_sub ([(0, .ref 1002), (1, .ref 0), (2, .ref 31), (3, .int a3)]) ⟨rfl, rfl, rfl, rfl, trivial⟩ (v_law_502 d (by omega) (f_law_18 len xs n) ih S a3 _ _ hf)
      replace hf := (if_neg c17).symm.trans hf
      by_cases c18 : ((xs (a3).toNatClampNeg) &&& (31 : Int32)) = 15
      · replace hf := (if_pos c18).symm.trans hf
        refine zv_tableIn (v := 15) (off := 493) (tgt := 525) dL_law_32 c18 (by decide) (by decide) (by decide) (by decide) ?_
        exact zV_sub ([(0, .ref 1002), (1, .ref 0), (2, .ref 31), (3, .int a3)]) ⟨rfl, rfl, rfl, rfl, trivial⟩ (v_law_525 d (by omega) (f_law_18 len xs n) ih S a3 _ _ hf)
      replace hf := (if_neg c18).symm.trans hf
      by_cases c19 : ((xs (a3).toNatClampNeg) &&& (31 : Int32)) = 16
      · replace hf := (if_pos c19).symm.trans hf
        refine zv_tableIn (v := 16) (off := 526) (tgt := 558) dL_law_32 c19 (by decide) (by decide) (by decide) (by decide) ?_
        exact zV_sub ([(0, .ref 1002), (1, .ref 0), (2, .ref 31), (3, .int a3)]) ⟨rfl, rfl, rfl, rfl, trivial⟩ (v_law_558 d (by omega) (f_law_18 len xs n) ih S a3 _ _ hf)
      replace hf := (if_neg c19).symm.trans hf
      by_cases c20 : ((xs (a3).toNatClampNeg) &&& (31 : Int32)) = 17
      · replace hf := (if_pos c20).symm.trans hf
        refine zv_tableIn (v := 17) (off := 549) (tgt := 581) dL_law_32 c20 (by decide) (by decide) (by decide) (by decide) ?_
        exact zV_sub ([(0, .ref 1002), (1, .ref 0), (2, .ref 31), (3, .int a3)]) ⟨rfl, rfl, rfl, rfl, trivial⟩ (v_law_581 d (by omega) (f_law_18 len xs n) ih S a3 _ _ hf)
      replace hf := (if_neg c20).symm.trans hf
      by_cases c21 : ((xs (a3).toNatClampNeg) &&& (31 : Int32)) = 18
      · replace hf := (if_pos c21).symm.trans hf
        refine zv_tableIn (v := 18) (off := 582) (tgt := 614) dL_law_32 c21 (by decide) (by decide) (by decide) (by decide) ?_
        exact zV_sub ([(0, .ref 1002), (1, .ref 0), (2, .ref 31), (3, .int a3)]) ⟨rfl, rfl, rfl, rfl, trivial⟩ (v_law_614 d (by omega) (f_law_18 len xs n) ih S a3 _ _ hf)
      replace hf := (if_neg c21).symm.trans hf
      by_cases c22 : ((xs (a3).toNatClampNeg) &&& (31 : Int32)) = 19
      · replace hf := (if_pos c22).symm.trans hf
        refine zv_tableIn (v := 19) (off := 625) (tgt := 657) dL_law_32 c22 (by decide) (by decide) (by decide) (by decide) ?_
        exact zV_sub ([(0, .ref 1002), (1, .ref 0), (2, .ref 31), (3, .int a3)]) ⟨rfl, rfl, rfl, rfl, trivial⟩ (v_law_657 d (by omega) (f_law_18 len xs n) ih S a3 _ _ hf)
      replace hf := (if_neg c22).symm.trans hf
      by_cases c23 : ((xs (a3).toNatClampNeg) &&& (31 : Int32)) = 20
      · replace hf := (if_pos c23).symm.trans hf
        refine zv_tableIn (v := 20) (off := 668) (tgt := 700) dL_law_32 c23 (by decide) (by decide) (by decide) (by decide) ?_
        exact zV_sub ([(0, .ref 1002), (1, .ref 0), (2, .ref 31), (3, .int a3)]) ⟨rfl, rfl, rfl, rfl, trivial⟩ (v_law_700 d (by omega) (f_law_18 len xs n) ih S a3 _ _ hf)
      replace hf := (if_neg c23).symm.trans hf
      by_cases c24 : ((xs (a3).toNatClampNeg) &&& (31 : Int32)) = 21
      · replace hf := (if_pos c24).symm.trans hf
        refine zv_tableIn (v := 21) (off := 711) (tgt := 743) dL_law_32 c24 (by decide) (by decide) (by decide) (by decide) ?_
        exact zV_sub ([(0, .ref 1002), (1, .ref 0), (2, .ref 31), (3, .int a3)]) ⟨rfl, rfl, rfl, rfl, trivial⟩ (v_law_743 d (by omega) (f_law_18 len xs n) ih S a3 _ _ hf)
      replace hf := (if_neg c24).symm.trans hf
      by_cases c25 : ((xs (a3).toNatClampNeg) &&& (31 : Int32)) = 22
      · replace hf := (if_pos c25).symm.trans hf
        refine zv_tableIn (v := 22) (off := 734) (tgt := 766) dL_law_32 c25 (by decide) (by decide) (by decide) (by decide) ?_
        exact zV_sub ([(0, .ref 1002), (1, .ref 0), (2, .ref 31), (3, .int a3)]) ⟨rfl, rfl, rfl, rfl, trivial⟩ (v_law_766 d (by omega) (f_law_18 len xs n) ih S a3 _ _ hf)
      replace hf := (if_neg c25).symm.trans hf
      by_cases c26 : ((xs (a3).toNatClampNeg) &&& (31 : Int32)) = 23
      · replace hf := (if_pos c26).symm.trans hf
        refine zv_tableIn (v := 23) (off := 757) (tgt := 789) dL_law_32 c26 (by decide) (by decide) (by decide) (by decide) ?_
        exact zV_sub ([(0, .ref 1002), (1, .ref 0), (2, .ref 31), (3, .int a3)]) ⟨rfl, rfl, rfl, rfl, trivial⟩ (v_law_789 d (by omega) (f_law_18 len xs n) ih S a3 _ _ hf)
      replace hf := (if_neg c26).symm.trans hf
      by_cases c27 : ((xs (a3).toNatClampNeg) &&& (31 : Int32)) = 24
      · replace hf := (if_pos c27).symm.trans hf
        refine zv_tableIn (v := 24) (off := 790) (tgt := 822) dL_law_32 c27 (by decide) (by decide) (by decide) (by decide) ?_
        exact zV_sub ([(0, .ref 1002), (1, .ref 0), (2, .ref 31), (3, .int a3)]) ⟨rfl, rfl, rfl, rfl, trivial⟩ (v_law_822 d (by omega) (f_law_18 len xs n) ih S a3 _ _ hf)
      replace hf := (if_neg c27).symm.trans hf
      by_cases c28 : ((xs (a3).toNatClampNeg) &&& (31 : Int32)) = 25
      · replace hf := (if_pos c28).symm.trans hf
        refine zv_tableIn (v := 25) (off := 813) (tgt := 845) dL_law_32 c28 (by decide) (by decide) (by decide) (by decide) ?_
        exact zV_sub ([(0, .ref 1002), (1, .ref 0), (2, .ref 31), (3, .int a3)]) ⟨rfl, rfl, rfl, rfl, trivial⟩ (v_law_845 d (by omega) (f_law_18 len xs n) ih S a3 _ _ hf)
      replace hf := (if_neg c28).symm.trans hf
      by_cases c29 : ((xs (a3).toNatClampNeg) &&& (31 : Int32)) = 26
      · replace hf := (if_pos c29).symm.trans hf
        refine zv_tableIn (v := 26) (off := 836) (tgt := 868) dL_law_32 c29 (by decide) (by decide) (by decide) (by decide) ?_
        exact zV_sub ([(0, .ref 1002), (1, .ref 0), (2, .ref 31), (3, .int a3)]) ⟨rfl, rfl, rfl, rfl, trivial⟩ (v_law_868 d (by omega) (f_law_18 len xs n) ih S a3 _ _ hf)
      replace hf := (if_neg c29).symm.trans hf
      by_cases c30 : ((xs (a3).toNatClampNeg) &&& (31 : Int32)) = 27
      · replace hf := (if_pos c30).symm.trans hf
        refine zv_tableIn (v := 27) (off := 859) (tgt := 891) dL_law_32 c30 (by decide) (by decide) (by decide) (by decide) ?_
        exact zV_sub ([(0, .ref 1002), (1, .ref 0), (2, .ref 31), (3, .int a3)]) ⟨rfl, rfl, rfl, rfl, trivial⟩ (v_law_891 d (by omega) (f_law_18 len xs n) ih S a3 _ _ hf)
      replace hf := (if_neg c30).symm.trans hf
      refine zv_tableOut (tgt := 905) dL_law_32 (by have q0 := lv_neT (a := 0) c3 (by decide); have q1 := lv_neT (a := 1) c4 (by decide); have q2 := lv_neT (a := 2) c5 (by decide); have q3 := lv_neT (a := 3) c6 (by decide); have q4 := lv_neT (a := 4) c7 (by decide); have q5 := lv_neT (a := 5) c8 (by decide); have q6 := lv_neT (a := 6) c9 (by decide); have q7 := lv_neT (a := 7) c10 (by decide); have q8 := lv_neT (a := 8) c11 (by decide); have q9 := lv_neT (a := 9) c12 (by decide); have q10 := lv_neT (a := 10) c13 (by decide); have q11 := lv_neT (a := 11) c14 (by decide); have q12 := lv_neT (a := 12) c15 (by decide); have q13 := lv_neT (a := 13) c16 (by decide); have q14 := lv_neT (a := 14) c17 (by decide); have q15 := lv_neT (a := 15) c18 (by decide); have q16 := lv_neT (a := 16) c19 (by decide); have q17 := lv_neT (a := 17) c20 (by decide); have q18 := lv_neT (a := 18) c21 (by decide); have q19 := lv_neT (a := 19) c22 (by decide); have q20 := lv_neT (a := 20) c23 (by decide); have q21 := lv_neT (a := 21) c24 (by decide); have q22 := lv_neT (a := 22) c25 (by decide); have q23 := lv_neT (a := 23) c26 (by decide); have q24 := lv_neT (a := 24) c27 (by decide); have q25 := lv_neT (a := 25) c28 (by decide); have q26 := lv_neT (a := 26) c29 (by decide); have q27 := lv_neT (a := 27) c30 (by decide); omega) (by decide) ?_
      exact zV_sub ([(0, .ref 1002), (1, .ref 0), (2, .ref 31), (3, .int a3)]) ⟨rfl, rfl, rfl, rfl, trivial⟩ (v_law_905 d (by omega) (f_law_18 len xs n) ih S a3 _ _ hf)
