section LANDOK
variable {S T S' T' X : zS} {nv nd n r : Nat} {W : Nat → Nat → Nat}
def OKL (A : Option (Int32 × zS)) (B : zS → Option (Int32 × zS)) : Prop := ∃ x S1 S2, A = some (x, S1) ∧ B S1 = some (x, S2) ∧ Inv S2
theorem land_ok (hI : InvN nv S) : OKL (f_X5_land S) f_X6_land := by
  have hI0 := hI
  obtain ⟨i1, i2, ⟨n, hn, e1, e2, e3⟩, -, -, -⟩ := hI0
  have hlr : lr S.2.2.1 = 17 ∧ lr S.2.2.2 = 24 ∨ lr S.2.2.1 = 24 ∧ lr S.2.2.2 = 17 := by
    rw [i1]; cases S.2.2.1 <;> decide
  have hr : 17 ≤ lr S.2.2.2 := by omega
  have hS : TXc n (fun j => (S.1 2 j).toNatClampNeg) S := ⟨hn, e1, fun j hj => by
    obtain ⟨c, h1, h2, h3⟩ := e3 j hj
    show (S.1 2 j).toNatClampNeg < 256 ∧ S.1 2 j = nI (S.1 2 j).toNatClampNeg
    rw [h2, cl (by omega)]; exact ⟨h1, rfl⟩⟩
  have hT : ∀ T : zS, T.1 31 2 = S.1 31 2 → T.1 32 = S.1 32 → TXr n (fun j => (S.1 2 j).toNatClampNeg) T := fun T h1 h2 => ⟨hn, h1.trans e2, fun j hj => by
    obtain ⟨c, h3, h4, h5⟩ := e3 j hj
    show (S.1 2 j).toNatClampNeg < 256 ∧ T.1 32 j &&& 255 = nI (S.1 2 j).toNatClampNeg
    rw [h2, h5, h4, cl (by omega)]; exact ⟨h3, and255 c h3⟩⟩
  unfold f_X5_land
  rcases tell_sim hr hS (hT S rfl rfl) with ⟨st, S1, -, w1, w2, -, w4, -⟩ | ⟨a, nd, S', T0, W, g, w1, w2, -, w4, w5, -, w7, w8, -⟩
  · rw [w2, zb2_some, if_neg (neg10 w1)]
    have k31 : S1.1 31 2 = S.1 31 2 := w4.1 31 2 (fun z => by unfold KC K1t at z; omega)
    have k32 : S1.1 32 = S.1 32 := w4.row (fun j z => by unfold KC K1t at z; omega)
    rcases tell_sim hr hS (hT S1 k31 k32) with ⟨st', S1', T1, v1, v2, v3, v4, v5⟩ | ⟨a, nd, S', T', W, g, v1, v2, -⟩
    · have he := Option.some.inj (w2.symm.trans v2)
      have he1 := congrArg Prod.fst he
      refine ⟨_, S1, T1, rfl, ?_, nv, Inv_fault hI w4 v5⟩
      rw [v3]
      exact congrArg (fun z => some (z, T1)) he1.symm
    · have he := congrArg Prod.fst (Option.some.inj (w2.symm.trans v2))
      have h0 := neg10 w1
      have he : (-10 : Int32) - nI st = nI a := he
      rw [he] at h0
      exact absurd (nI_nn a (by omega)) h0
  · rw [w2, zb2_some, if_pos (nI_nn a (by omega))]
    have hDR0 := w4
    obtain ⟨hnd, ⟨d6, -, -⟩, -⟩ := hDR0
    generalize hS3 : zr S' (lr S.2.2.2 + 4) g = S3
    have eS3 : S3.2 = S.2 := by rw [← hS3]; exact w8.2
    have eb : (zu (zbd (zbt S3 S3.2.2.2) S3.2.2.1) 1 1 (0 : Int32)).2.2.1 = S.2.2.2 := by
      show S3.2.2.2 = S.2.2.2
      rw [eS3]
    rw [eb]
    generalize hS5 : zu (zbd (zbt S3 S3.2.2.2) S3.2.2.1) 1 1 (0 : Int32) = S5
    have s5 : ∀ c j, ¬ (c = 1 ∧ j = 1) → S5.1 c j = S3.1 c j := fun c j h => by
      rw [← hS5, zu_off (by omega)]; rfl
    have s511 : S5.1 1 1 = 0 := by rw [← hS5, zu_at]
    have s52 : S5.2 = (S.2.1, S.2.2.2, S.2.2.1) := by
      rw [← hS5]
      show (S3.2.1, S3.2.2.2, S3.2.2.1) = _
      rw [eS3]
    have s3o : ∀ c j, c ≠ lr S.2.2.2 + 4 → S3.1 c j = S'.1 c j := fun c j h => by rw [← hS3, zr_n h]
    obtain ⟨S6, b1, b2, b3, b4⟩ := begin_ok (q := lr S.2.2.2) (nd := nd) (S := S5) hr hnd (by rw [s5 _ _ (by omega), s3o _ _ (by omega)]; exact d6)
    rw [b1, Option.bind_some]
    generalize hS7 : zu S6 0 8 (0 : Int32) = S7
    have s7 : ∀ c j, ¬ (c = 0 ∧ j = 8) → S7.1 c j = S6.1 c j := fun c j h => by rw [← hS7, zu_off (by omega)]
    have s70 : S7.1 0 8 = 0 := by rw [← hS7, zu_at]
    have s72 : S7.2 = S5.2 := by rw [← hS7]; exact b2.2
    have ref31 : ∀ c j, 31 ≤ c → S7.1 c j = S.1 c j := fun c j hc => by
      rw [s7 c j (by omega), b2.1 c j (by omega), s5 c j (by omega), s3o c j (by omega), w8.1 c j (fun z => by unfold KC K1t at z; omega)]
    rcases tell_sim hr hS (hT S7 (ref31 31 2 (by omega)) (funext fun j => ref31 32 j (by omega))) with ⟨st', S1', T1, v1, v2, -⟩ | ⟨a', nd', S'', T', W', g', v1, v2, v3, v4, v5, v6, v7, v8, v9⟩
    · have he := congrArg Prod.fst (Option.some.inj (v2.symm.trans w2))
      have h0 := neg10 v1
      have he : (-10 : Int32) - nI st' = nI a := he
      rw [he] at h0
      exact absurd (nI_nn a (by omega)) h0
    · have he := Option.some.inj (w2.symm.trans v2)
      have ha : nI a = nI a' := congrArg Prod.fst he
      have hs : S3 = zr S'' (lr S.2.2.2 + 4) g' := hS3.symm.trans (congrArg Prod.snd he)
      have s3o' : ∀ c j, c ≠ lr S.2.2.2 + 4 → S3.1 c j = S''.1 c j := fun c j h => by rw [hs, zr_n h]
      have hv4 := v4
      obtain ⟨hnd', ⟨d6', -, -⟩, -⟩ := hv4
      have hndd : nd' = nd := by
        have : nI nd' = nI nd := d6'.symm.trans (((s3o' _ _ (by omega)).symm.trans (s3o _ _ (by omega))).trans d6)
        exact (nI_eq (by omega) (by omega)).mp this
      subst hndd
      obtain ⟨T2, t1, t2, t33, t37, t40, t35, t39, t38, t420, t421, t28, tm⟩ := take_ok v4
      have cls : ∀ c j, c < 31 → (zu T2 31 2 (0 : Int32)).1 c j = S7.1 c j := fun c j hc => by
        rw [zu_off (by omega), t2.1 c j (fun z => by unfold KT at z; omega), v9.1 c j (fun z => by unfold KR KD at z; omega)]
      have lnd : ∀ i j, i ≤ 6 → i ≠ 4 → (zu T2 31 2 (0 : Int32)).1 (lr S.2.2.2 + i) j = S''.1 (lr S.2.2.2 + i) j := fun i j hi h4 => by
        rw [cls _ j (by omega), s7 _ j (by omega), b2.1 _ j (by omega), s5 _ j (by omega), s3o' _ j (by omega)]
      have x2 : (zu T2 31 2 (0 : Int32)).2 = (S.2.1, S.2.2.2, S.2.2.1) := t2.2.trans (v9.2.trans (s72.trans s52))
      have lnd0 : ∀ j, (zu T2 31 2 (0 : Int32)).1 (lr S.2.2.2) j = S''.1 (lr S.2.2.2) j := fun j => by
        rw [cls _ j (by omega), s7 _ j (by omega), b2.1 _ j (by omega), s5 _ j (by omega), s3o' _ j (by omega)]
      have z312 : (zu T2 31 2 (0 : Int32)).1 31 2 = 0 := zu_at _ _ _ _
      have hland : f_X6_land S7 = some (nI a, zu T2 31 2 (0 : Int32)) := by rw [v3, t1, Option.bind_some, ha]
      generalize hX : zu T2 31 2 (0 : Int32) = X at cls lnd lnd0 x2 z312 hland
      have xo : ∀ c j, c ≠ 31 → X.1 c j = T2.1 c j := fun c j h => by rw [← hX, zu_n h]
      have hinv : InvN nd' X := by
        refine Inv_new (X := X) (S' := S'') (T' := T') (W := W') (r := lr S.2.2.2) v4 v5 ?_ ?_ ?_ lnd0 (fun j => lnd 2 j (by omega) (by omega)) (fun j => lnd 3 j (by omega) (by omega)) (fun j => lnd 5 j (by omega) (by omega)) (fun x y hx hy => ?_) ?_ ?_ ?_ (fun j hj => ?_) ?_ ?_ (fun j hj => ?_) (fun v hv => ?_) (fun v hv => ?_) (fun x y hx hy => ?_) ?_ ?_ ?_ z312 (fun j hj => ?_)
        · rw [x2]; show S.2.2.1 = !S.2.2.2; rw [i1]; cases S.2.2.1 <;> rfl
        · rw [x2]
        · rw [x2]; exact i2
        · rw [cls _ _ (by omega), s7 _ _ (by omega), b2.1 _ _ (by omega), s5 _ _ (by omega), hs, zr_s]; exact v7 x y hx hy
        · rw [cls _ _ (by omega), s7 _ _ (by omega), b2.1 _ _ (by omega)]; exact s511
        · rw [cls _ _ (by omega), s7 _ _ (by omega)]; exact b3
        · rw [cls _ _ (by omega)]; exact s70
        · rw [cls _ _ (by omega), s7 _ _ (by omega), b4 j (by omega), s5 _ _ (by omega), s3o' _ _ (by omega), s5 _ _ (by omega), s3o' _ _ (by omega)]
        · rw [xo _ _ (by decide)]; exact t33
        · rw [xo _ _ (by decide)]; exact t37
        · rw [xo _ _ (by decide)]; exact t40 j hj
        · rw [xo _ _ (by decide), xo _ _ (by decide)]; exact t35 v hv
        · rw [xo _ _ (by decide)]; exact t39 v hv
        · rw [xo _ _ (by decide)]; exact t38 W' v5 v6 x y hx hy
        · rw [xo _ _ (by decide)]; exact t420
        · rw [xo _ _ (by decide)]; exact t421
        · rw [xo _ _ (by decide)]; exact t28
        · rw [xo _ _ (by decide)]; exact tm j hj
      exact ⟨_, S7, X, rfl, hland, nd', hinv⟩
end LANDOK
