section IMG
variable {S : zS} {nv : Nat}
theorem OK2.mk {A : Option (Int32 × zS)} {B : zS → Option (Int32 × zS)} {x y : Int32} {S1 S2 : zS} (hA : A = some (x, S1)) (hB : B S1 = some (y, S2)) (hxy : y = x) (hI : InvN nv S2) : OK2 nv A B := ⟨x, S1, S2, hA, by rw [hB, hxy], hI⟩
theorem zSto_congr {k : Nat} {kc : Int32} {f g f' g' : Nat → Int32} (h : zSto nv k kc f g) (h1 : ∀ j, j < 308 → f' j = f j) (h2 : ∀ j, j < 309 → g' j = g j) : zSto nv k kc f' g' := by
  obtain ⟨a, ⟨b1, b2, b3, b4⟩, c1, c2⟩ := h
  refine ⟨a, ⟨b1, by rw [h2 28 (by omega)]; exact b2, fun j hj => by rw [h1 j (by omega), h2 j (by omega)]; exact b3 j hj, fun i j hi hj => ?_⟩, zMom_congr c1 (fun j hj => h2 j (by omega)), fun i hi => zMom_congr (c2 i hi) (fun j hj => h2 _ (by omega))⟩
  rw [h1 _ (by omega), h2 _ (by omega)]
  exact b4 i j hi hj
theorem get1 (S : zS) (r : Nat) : f_X2_get S r 1 = some (S.1 (r + 1) 1) := get_eq S r (j := 1) (by omega)
def kS (S : zS) (r : Nat) (kept : Int32) : zS := zu (zu (zr S (r + 1) (va_cpy (S.1 4) (S.1 (r + 1)) 0 0 308)) r 1 (S.1 3 1)) 0 8 kept
theorem keepC (S : zS) {q : Nat} (hq : q < 2) (h1 : f_X5_isWithin (nI q) 0 1 = some 1) : f_X5_keep S (nI q) = some (S.1 4 1, kS S (6 + 2 * q) (S.1 0 8 ||| (1 <<< (nI q &&& 31)))) := by
  unfold f_X5_keep
  rw [h1, Option.bind_some, if_neg one_ne, if_pos (zin_nI (by omega) (by omega))]
  rcases (show q = 0 ∨ q = 1 by omega) with rfl | rfl
  · rw [if_pos (show nI 0 = 0 from rfl)]
    rw [show f_X2_copyFrom S 6 3 = some (zu (zr S 7 (va_cpy (S.1 4) (S.1 7) 0 0 308)) 6 1 (S.1 3 1)) from rfl, Option.bind_some, get1, Option.bind_some]
    rfl
  · rw [if_neg (show ¬ nI 1 = 0 by decide)]
    rw [show f_X2_copyFrom S 8 3 = some (zu (zr S 9 (va_cpy (S.1 4) (S.1 9) 0 0 308)) 8 1 (S.1 3 1)) from rfl, Option.bind_some, get1, Option.bind_some]
    rfl
theorem keepR (S1 : zS) {q : Nat} (hq : q < 2) (h1 : f_X5_isWithin (nI q) 0 1 = some 1) : f_X6_keep S1 (nI q) = some (S1.1 41 1, zr (zr S1 41 (fun j => if 309 * (1 + q) + 0 ≤ j ∧ j < 309 * (1 + q) + 309 then S1.1 41 (j - 309 * (1 + q)) else S1.1 41 j)) 42 (upd (S1.1 42) q 1)) := by
  unfold f_X6_keep
  rw [in_isw, h1, Option.bind_some, if_neg one_ne, L_0, keep13 q (by omega) 309 zN 0 S1 (by omega) (by have := zN_big; omega), if_neg (fun z => z.2)]
theorem keep_ok (hI : InvN nv S) (im : Int32) : OK2 nv (f_X5_keep S im) (fun S => f_X6_keep S im) := by
  rcases isw im 0 1 with h0 | ⟨h1, hr⟩
  · unfold f_X5_keep
    rw [h0, Option.bind_some, if_pos rfl]
    refine ⟨_, S, S, rfl, ?_, hI⟩
    show f_X6_keep S _ = _
    unfold f_X6_keep
    rw [in_isw, h0, Option.bind_some, if_pos rfl]
  · obtain ⟨q, hq0, hq1, rfl⟩ := rng hr L_0 L_1 (by omega) (by omega)
    refine OK2.mk (keepC S (by omega) h1) (keepR _ (by omega) h1) ?_ ?_
    · rcases (show q = 0 ∨ q = 1 by omega) with rfl | rfl <;> exact (inv_e41 hI 1 (by omega)).symm
    · obtain ⟨i1, i2, i3, i4, ⟨k, i5⟩, b0, b1, i6, i7, i8, i9, i10⟩ := hI
      rcases (show q = 0 ∨ q = 1 by omega) with rfl | rfl
      · refine ⟨i1, i2, i3, ?_, ⟨k, ?_⟩, true, b1, ?_, rfl, i8, fun _ => ⟨k, ?_⟩, fun hb => ?_⟩
        · obtain ⟨M, T, bt, bd⟩ := S
          cases bt <;> exact i4
        · exact zSto_congr i5 (fun _ _ => rfl) (fun j hj => if_neg (by omega))
        · show S.1 0 8 ||| _ = _
          rw [i6]
          cases b0 <;> cases b1 <;> decide
        · refine zSto_congr i5 (fun j hj => pk_cpy_in (by omega) (by omega) |>.trans (by rw [show 0 + (j - 0) = j by omega])) (fun j hj => ?_)
          exact (if_pos (by omega)).trans (congrArg (S.1 41) (by omega))
        · obtain ⟨k', i10⟩ := i10 hb
          exact ⟨k', zSto_congr i10 (fun _ _ => rfl) (fun j hj => if_neg (by omega))⟩
      · refine ⟨i1, i2, i3, ?_, ⟨k, ?_⟩, b0, true, ?_, i7, rfl, fun hb => ?_, fun _ => ⟨k, ?_⟩⟩
        · obtain ⟨M, T, bt, bd⟩ := S
          cases bt <;> exact i4
        · exact zSto_congr i5 (fun _ _ => rfl) (fun j hj => if_neg (by omega))
        · show S.1 0 8 ||| _ = _
          rw [i6]
          cases b0 <;> cases b1 <;> decide
        · obtain ⟨k', i9⟩ := i9 hb
          exact ⟨k', zSto_congr i9 (fun _ _ => rfl) (fun j hj => if_neg (by omega))⟩
        · refine zSto_congr i5 (fun j hj => pk_cpy_in (by omega) (by omega) |>.trans (by rw [show 0 + (j - 0) = j by omega])) (fun j hj => ?_)
          exact (if_pos (by omega)).trans (congrArg (S.1 41) (by omega))
theorem backR (S1 : zS) {q : Nat} (hq : q < 2) (h1 : f_X5_isWithin (nI q) 0 1 = some 1) (hk : ¬ S1.1 42 q = 0) : f_X6_back S1 (nI q) = some (S1.1 41 (309 * (1 + q) + 1), zr S1 41 (fun j => if 0 ≤ j ∧ j < 309 then S1.1 41 (309 * (1 + q) + j) else S1.1 41 j)) := by
  unfold f_X6_back
  rw [in_isw, h1, Option.bind_some, if_neg one_ne, if_pos (zin_nI (by omega) (by omega)), cl (by omega), if_neg hk, L_0, back25 q (by omega) 309 zN 0 S1 (by omega) (by have := zN_big; omega), if_pos (by omega)]
theorem back_ok (hI : InvN nv S) (im : Int32) : OK2 nv (f_X5_back S im) (fun S => f_X6_back S im) := by
  rcases isw im 0 1 with h0 | ⟨h1, hr⟩
  · unfold f_X5_back
    rw [h0, Option.bind_some, if_pos rfl]
    refine ⟨_, S, S, rfl, ?_, hI⟩
    show f_X6_back S _ = _
    unfold f_X6_back
    rw [in_isw, h0, Option.bind_some, if_pos rfl]
  · obtain ⟨q, hq0, hq1, rfl⟩ := rng hr L_0 L_1 (by omega) (by omega)
    obtain ⟨i1, i2, i3, i4, ⟨k, i5⟩, b0, b1, i6, i7, i8, i9, i10⟩ := id hI
    rcases (show q = 0 ∨ q = 1 by omega) with rfl | rfl
    · cases b0 with
      | false =>
        refine ⟨-2, S, S, ?_, ?_, hI⟩
        · unfold f_X5_back
          rw [h1, Option.bind_some, if_neg one_ne, if_pos (by rw [i6]; cases b1 <;> decide)]
        · show f_X6_back S _ = _
          unfold f_X6_back
          rw [in_isw, h1, Option.bind_some, if_neg one_ne, if_pos (zin_nI (by omega) (by omega)), cl (by omega), if_pos (show S.1 42 0 = 0 from i7)]
      | true =>
        obtain ⟨k', i9⟩ := i9 rfl
        refine OK2.mk (S1 := cS S (va_cpy (S.1 7) (S.1 4) 0 0 308) (nI k')) (x := va_cpy (S.1 7) (S.1 4) 0 0 308 1) ?_ (backR _ (by omega) h1 (show ¬ S.1 42 0 = 0 by rw [i7]; decide)) ?_ ?_
        · unfold f_X5_back
          rw [h1, Option.bind_some, if_neg one_ne, if_neg (by rw [i6]; cases b1 <;> decide), if_pos (zin_nI (by omega) (by omega)), if_pos (show nI 0 = 0 from rfl), ← i9.1]
          rw [show f_X2_copyFrom S 3 6 = some (cS S (va_cpy (S.1 7) (S.1 4) 0 0 308) (S.1 6 1)) from rfl, Option.bind_some, get1, Option.bind_some]
          rfl
        · show S.1 41 (309 * (1 + 0) + 1) = _
          rw [pk_cpy_in (by omega) (by omega)]
          exact (i9.2.1.2.2.1 1 (by omega)).symm
        · refine Inv_sto hI (zSto_congr (k := k') (kc := nI k') ⟨rfl, i9.2⟩ (fun j hj => ?_) (fun j hj => ?_)) (fun j hj => if_neg (by omega))
          · rw [pk_cpy_in (by omega) (by omega), show 0 + (j - 0) = j by omega]
          · exact (if_pos (by omega)).trans rfl
    · cases b1 with
      | false =>
        refine ⟨-2, S, S, ?_, ?_, hI⟩
        · unfold f_X5_back
          rw [h1, Option.bind_some, if_neg one_ne, if_pos (by rw [i6]; cases b0 <;> decide)]
        · show f_X6_back S _ = _
          unfold f_X6_back
          rw [in_isw, h1, Option.bind_some, if_neg one_ne, if_pos (zin_nI (by omega) (by omega)), cl (by omega), if_pos (show S.1 42 1 = 0 from i8)]
      | true =>
        obtain ⟨k', i10⟩ := i10 rfl
        refine OK2.mk (S1 := cS S (va_cpy (S.1 9) (S.1 4) 0 0 308) (nI k')) (x := va_cpy (S.1 9) (S.1 4) 0 0 308 1) ?_ (backR _ (by omega) h1 (show ¬ S.1 42 1 = 0 by rw [i8]; decide)) ?_ ?_
        · unfold f_X5_back
          rw [h1, Option.bind_some, if_neg one_ne, if_neg (by rw [i6]; cases b0 <;> decide), if_pos (zin_nI (by omega) (by omega)), if_neg (show ¬ nI 1 = 0 by decide), ← i10.1]
          rw [show f_X2_copyFrom S 3 8 = some (cS S (va_cpy (S.1 9) (S.1 4) 0 0 308) (S.1 8 1)) from rfl, Option.bind_some, get1, Option.bind_some]
          rfl
        · show S.1 41 (309 * (1 + 1) + 1) = _
          rw [pk_cpy_in (by omega) (by omega)]
          exact (i10.2.1.2.2.1 1 (by omega)).symm
        · refine Inv_sto hI (zSto_congr (k := k') (kc := nI k') ⟨rfl, i10.2⟩ (fun j hj => ?_) (fun j hj => ?_)) (fun j hj => if_neg (by omega))
          · rw [pk_cpy_in (by omega) (by omega), show 0 + (j - 0) = j by omega]
          · exact (if_pos (by omega)).trans rfl
end IMG
