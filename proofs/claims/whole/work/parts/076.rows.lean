section ROWS
variable {S T : zS} {n p r nd : Nat} {bt : Nat → Nat} {k : zS → Option (Int32 × zS)}
theorem ix_c {x y : Nat} : nI x * (6 : Int32) + nI y = nI (6 * x + y) := by
  rw [L_6, pk_mul, nI_add]; congr 1; omega
theorem ix_r {x y : Nat} : (36 : Int32) + (6 : Int32) * nI x + nI y = nI (36 + (6 * x + y)) := by
  rw [L_36, L_6, pk_mul, nI_add, nI_add]; congr 1; omega
theorem mul6 {a b x y : Nat} (hb : b < 6) (hy : y < 6) (h : 6 * a + b = 6 * x + y) : a = x ∧ b = y := by omega
def set2 (O : Nat → Nat → Nat) (x y v : Nat) : Nat → Nat → Nat := fun a b => if a = x ∧ b = y then v else O a b
theorem upd_set2 {f : Nat → Int32} {O : Nat → Nat → Nat} {d x y v : Nat} (h : ∀ a b, a < 6 → b < 6 → f (d + (6 * a + b)) = nI (O a b)) (hy : y < 6) : ∀ a b, a < 6 → b < 6 → upd f (d + (6 * x + y)) (nI v) (d + (6 * a + b)) = nI (set2 O x y v a b) := by
  intro a b ha hb
  unfold set2
  by_cases he : a = x ∧ b = y
  · rw [if_pos he, he.1, he.2, upd_s]
  · rw [if_neg he, upd_n (fun z => he (mul6 hb hy (by omega)))]; exact h a b ha hb
theorem row_d (hr : 17 ≤ r) (h : Sim n p bt S T) (hDR : DR r nd S T) (fl : Nat) : RowOut n p bt r S T k (f_X0_readItem_43 r (fl + 4) S 100 3 0) (f_X6_readRow T 100) := by
  refine row3 hr h hDR (hi := 99) (by omega) id (fun x3 x6 x9 S10 => (if zin (((36 : Int32) + ((6 : Int32) * x3)) + x6) 72 then (if ((S10.1 39 ((((36 : Int32) + ((6 : Int32) * x3)) + x6)).toNatClampNeg) + x9) ≤ (999 : Int32) then (if zin (((36 : Int32) + ((6 : Int32) * x3)) + x6) 72 then some (zr S10 39 (upd (S10.1 39) ((((36 : Int32) + ((6 : Int32) * x3)) + x6)).toNatClampNeg ((S10.1 39 ((((36 : Int32) + ((6 : Int32) * x3)) + x6)).toNatClampNeg) + x9))) else none) else (if zin (((36 : Int32) + ((6 : Int32) * x3)) + x6) 72 then some (zr S10 39 (upd (S10.1 39) ((((36 : Int32) + ((6 : Int32) * x3)) + x6)).toNatClampNeg (999 : Int32))) else none)) else none)) (fun T => Fr.rfl) (fun S x v e hb => ?_) (fun S x v e hb => ?_) (fun S x v e hb => ?_) ?_ ?_ fl
  · unfold f_X0_mayBeTold
    rw [if_pos rfl, if_neg (by decide), e, Option.bind_some, if_pos hb]
  · unfold f_X0_mayBeTold
    rw [if_pos rfl, if_neg (by decide), e, Option.bind_some, if_pos hb]
  · unfold f_X0_mayBeTold
    rw [if_pos rfl, if_pos (by decide), show f_X5_isWithin x 1 99 = some v from e, Option.bind_some, if_pos hb]
  · unfold f_X6_readRow
    rw [if_pos rfl]; rfl
  · intro x0 x1 x2 S3 T3 q0 q1 qn q2 q3 hd v0 v1 v2 v7
    obtain ⟨d1, d2, d3, d4, d5, d6, d7, d8, O, hO⟩ := hd
    have hx0 := hO x0 x1 (by omega) (by omega)
    refine ⟨zr T3 39 (upd (T3.1 39) (36 + (6 * x0 + x1)) (nI (min (O x0 x1 + x2) 999))), ?_, Fr_upd (by unfold KD; omega), zr S3 (r + 5) (upd (S3.1 (r + 5)) (6 * x0 + x1) (nI (min (O x0 x1 + x2) 999))), ?_, Fr_upd (by omega), d1, ?_, ?_, ?_, ?_, ?_, ?_, ?_, set2 O x0 x1 (min (O x0 x1 + x2) 999), fun a b ha hb => ⟨?_, ?_, ?_⟩⟩
    · show (if zin _ 72 then _ else none) = _
      rw [ix_r, if_pos (zin_nI (by omega) (by omega)), cl (by omega), hx0.2.2, nI_add, L_999]
      by_cases hle : O x0 x1 + x2 ≤ 999
      · rw [if_pos ((nI_leI (by omega) (by omega)).mpr hle), if_pos (zin_nI (by omega) (by omega)), show min (O x0 x1 + x2) 999 = O x0 x1 + x2 by omega]
      · rw [if_neg (fun z => hle ((nI_leI (by omega) (by omega)).mp z)), if_pos (zin_nI (by omega) (by omega)), show min (O x0 x1 + x2) 999 = 999 by omega]
    · unfold f_X0_takeItem
      rw [if_pos rfl]
      unfold f_X0_takeDebt
      rw [v0, v1, v2, knows_in S3 r d2.1 d1 q0, Option.bind_some, if_neg one_ne, knows_in S3 r d2.1 d1 q1, Option.bind_some, if_neg one_ne, debt_eq S3 r d2.1 d1 q0 q1, Option.bind_some, ix_c, if_pos (zin_nI (by omega) (by omega)), cl (by omega), hx0.2.1, nI_add, L_999]
      have e : (if nI (O x0 x1 + x2) < nI 999 then nI (O x0 x1 + x2) else nI 999) = nI (min (O x0 x1 + x2) 999) := by
        by_cases hlt : O x0 x1 + x2 < 999
        · rw [if_pos ((nI_ltI (by omega) (by omega)).mpr hlt)]; congr 1; omega
        · rw [if_neg (fun z => hlt ((nI_ltI (by omega) (by omega)).mp z))]; congr 1; omega
      rw [e, Option.bind_some]
      unfold f_X0_takeItem_109
      rw [oncem.2.2.2.1, Option.bind_some, if_pos rfl]
    · rw [zr_n (by omega), zr_n (by omega), zr_n (by omega), zr_n (by omega), zr_n (by decide), zr_n (by decide), zr_n (by decide), zr_n (by decide)]; exact d2
    · rw [zr_n (by omega), zr_n (by decide)]; exact d3
    · rw [zr_n (by omega), zr_n (by decide)]; exact d4
    · rw [zr_n (by omega), zr_n (by decide)]; exact d5
    · rw [zr_n (by omega), zr_n (by decide)]; exact d6
    · rw [zr_n (by omega), zr_n (by decide)]; exact d7
    · rw [zr_n (by omega), zr_n (by decide)]; exact d8
    · unfold set2
      by_cases he : a = x0 ∧ b = x1
      · rw [if_pos he]; omega
      · rw [if_neg he]; exact (hO a b ha hb).1
    · rw [zr_s]
      have := upd_set2 (f := S3.1 (r + 5)) (d := 0) (x := x0) (v := min (O x0 x1 + x2) 999) (fun a b ha hb => by rw [Nat.zero_add]; exact (hO a b ha hb).2.1) (show x1 < 6 by omega) a b ha hb
      rw [Nat.zero_add, Nat.zero_add] at this
      exact this
    · rw [zr_s]
      exact upd_set2 (fun a b ha hb => (hO a b ha hb).2.2) (show x1 < 6 by omega) a b ha hb
theorem short_eq {S3 : zS} (hL : S3.1 r 6 = nI nd) (hn : nd ≤ 6) {W : Nat → Nat → Nat} {x y v : Nat} (hW : ∀ a b, a < 6 → b < 6 → S3.1 (r + 4) (6 * a + b) = nI (W a b)) (hWb : W x y ≤ 1000) (hx : x < nd) (hy : y < nd) (hv : v ≤ 2000) : f_X0_shortenWay S3 r (nI x) (nI y) (nI v) = some (zr S3 (r + 4) (upd (S3.1 (r + 4)) (6 * x + y) (nI (min v (W x y))))) := by
  unfold f_X0_shortenWay
  rw [knows_in S3 r hL hn hx, Option.bind_some, if_neg one_ne, knows_in S3 r hL hn hy, Option.bind_some, if_neg one_ne, ix_c, if_pos (zin_nI (by omega) (by omega)), if_pos (zin_nI (by omega) (by omega)), cl (by omega), hW x y (by omega) (by omega)]
  have e : (if nI v < nI (W x y) then nI v else nI (W x y)) = nI (min v (W x y)) := by
    by_cases hlt : v < W x y
    · rw [if_pos ((nI_ltI (by omega) (by omega)).mpr hlt)]; congr 1; omega
    · rw [if_neg (fun z => hlt ((nI_ltI (by omega) (by omega)).mp z))]; congr 1; omega
  rw [e]
theorem way_le {W : Nat → Nat → Nat} (h : zWay nd W) {a b : Nat} (ha : a < 6) (hb : b < 6) : W a b ≤ 1000 := by
  by_cases he : a = b
  · rw [he, h.1 b hb]; omega
  · have := h.2.1 a b ha hb he; omega
theorem way_set {W : Nat → Nat → Nat} (h : zWay nd W) {x y v : Nat} (hx : x < nd) (hy : y < nd) (hn : nd ≤ 6) (hxy : y ≠ x) (h1 : 1 ≤ v) (h9 : v ≤ 9) : zWay nd (set2 (set2 W x y (min v (W x y))) y x (min v (W x y))) := by
  have hW := h.2.1 x y (by omega) (by omega) (by omega)
  have hs := h.2.2.1 x y (by omega) (by omega)
  refine ⟨fun a ha => ?_, fun a b ha hb hab => ?_, fun a b ha hb => ?_, fun a b ha hb hab ho => ?_⟩
  · unfold set2; rw [if_neg (by omega), if_neg (by omega)]; exact h.1 a ha
  · unfold set2
    by_cases e1 : a = y ∧ b = x
    · rw [if_pos e1]; omega
    · rw [if_neg e1]
      by_cases e2 : a = x ∧ b = y
      · rw [if_pos e2]; omega
      · rw [if_neg e2]; exact h.2.1 a b ha hb hab
  · unfold set2
    by_cases e1 : a = y ∧ b = x
    · rw [if_pos e1, if_neg (by omega), if_pos (by omega)]
    · rw [if_neg e1]
      by_cases e2 : a = x ∧ b = y
      · rw [if_pos e2, if_pos (by omega)]
      · rw [if_neg e2, if_neg (by omega), if_neg (by omega)]; exact h.2.2.1 a b ha hb
  · unfold set2; rw [if_neg (by omega), if_neg (by omega)]; exact h.2.2.2 a b ha hb hab ho
theorem row_r (hr : 17 ≤ r) (h : Sim n p bt S T) (hDR : DR r nd S T) (h7 : ¬ (10 : Int32) ≤ S.1 r 7) (fl : Nat) : RowOut n p bt r S T k (f_X0_readItem_43 r (fl + 4) S 114 3 0) (f_X6_readRow T 114) := by
  refine row3 hr h hDR (hi := 9) (by omega) (fun T => zr T 37 (upd (T.1 37) 1 ((T.1 37 1) + (1 : Int32)))) (fun x22 x25 x28 S29 => (if zin (((36 : Int32) + ((6 : Int32) * x22)) + x25) 72 then (if (S29.1 38 ((((36 : Int32) + ((6 : Int32) * x22)) + x25)).toNatClampNeg) ≤ x28 then f_X6_readRow_213 S29 else (if zin (((36 : Int32) + ((6 : Int32) * x22)) + x25) 72 then (if zin (((36 : Int32) + ((6 : Int32) * x25)) + x22) 72 then f_X6_readRow_213 (zr (zr S29 38 (upd (S29.1 38) ((((36 : Int32) + ((6 : Int32) * x22)) + x25)).toNatClampNeg x28)) 38 (upd ((zr S29 38 (upd (S29.1 38) ((((36 : Int32) + ((6 : Int32) * x22)) + x25)).toNatClampNeg x28)).1 38) ((((36 : Int32) + ((6 : Int32) * x25)) + x22)).toNatClampNeg x28)) else none) else none)) else none)) (fun T => Fr_upd (by unfold KD; omega)) (fun S x v e hb => ?_) (fun S x v e hb => ?_) (fun S x v e hb => ?_) ?_ ?_ fl
  · unfold f_X0_mayBeTold
    rw [if_neg (by decide), if_neg (by decide), if_pos rfl, if_neg (by decide), e, Option.bind_some, if_pos hb]
  · unfold f_X0_mayBeTold
    rw [if_neg (by decide), if_neg (by decide), if_pos rfl, if_neg (by decide), e, Option.bind_some, if_pos hb]
  · unfold f_X0_mayBeTold
    rw [if_neg (by decide), if_neg (by decide), if_pos rfl, if_pos (by decide), show f_X5_isWithin x 1 9 = some v from e, Option.bind_some, if_pos hb]
  · unfold f_X6_readRow
    rw [if_neg (by decide), if_neg (by decide), if_pos rfl]; rfl
  · intro x0 x1 x2 S3 T3 q0 q1 qn q2 q3 hd v0 v1 v2 v7
    obtain ⟨d1, d2, ⟨rd, -, hrd, e7, e37⟩, d4, d5, d6, d7, ⟨W, hW, hWv⟩, d9⟩ := hd
    have hrd9 : rd ≤ 9 := by
      rw [← v7, e7] at h7
      rcases Nat.lt_or_ge rd 10 with z | z
      · omega
      · exact absurd ((nI_leI (a := 10) (by omega) (by omega)).mpr z) h7
    have hx0 := hWv x0 x1 (by omega) (by omega)
    have hwb := way_le hW (show x0 < 6 by omega) (show x1 < 6 by omega)
    have hsym := hW.2.2.1 x0 x1 (by omega) (by omega)
    have hv : min x2 (W x0 x1) ≤ 1000 := by omega
    -- the class's ways
    have cW : ∀ a b, a < 6 → b < 6 → upd (upd (S3.1 (r + 4)) (6 * x0 + x1) (nI (min x2 (W x0 x1)))) (6 * x1 + x0) (nI (min x2 (W x0 x1))) (6 * a + b) = nI (set2 (set2 W x0 x1 (min x2 (W x0 x1))) x1 x0 (min x2 (W x0 x1)) a b) := by
      have g1 := upd_set2 (f := S3.1 (r + 4)) (d := 0) (x := x0) (v := min x2 (W x0 x1)) (fun a b ha hb => by rw [Nat.zero_add]; exact (hWv a b ha hb).1) (show x1 < 6 by omega)
      have g2 := upd_set2 (d := 0) (x := x1) (v := min x2 (W x0 x1)) g1 (show x0 < 6 by omega)
      intro a b ha hb
      have := g2 a b ha hb
      rw [Nat.zero_add, Nat.zero_add, Nat.zero_add] at this
      exact this
    have rW : ∀ a b, a < 6 → b < 6 → upd (upd (T3.1 38) (36 + (6 * x0 + x1)) (nI (min x2 (W x0 x1)))) (36 + (6 * x1 + x0)) (nI (min x2 (W x0 x1))) (36 + (6 * a + b)) = nI (set2 (set2 W x0 x1 (min x2 (W x0 x1))) x1 x0 (min x2 (W x0 x1)) a b) := by
      have g1 := upd_set2 (f := T3.1 38) (d := 36) (x := x0) (v := min x2 (W x0 x1)) (fun a b ha hb => (hWv a b ha hb).2) (show x1 < 6 by omega)
      exact upd_set2 (d := 36) (x := x1) (v := min x2 (W x0 x1)) g1 (show x0 < 6 by omega)
    have hT4 : ∃ g, (∀ a b, a < 6 → b < 6 → g (36 + (6 * a + b)) = nI (set2 (set2 W x0 x1 (min x2 (W x0 x1))) x1 x0 (min x2 (W x0 x1)) a b)) ∧ Fr KD T3 (zr T3 38 g) ∧ (if zin (((36 : Int32) + ((6 : Int32) * nI x0)) + nI x1) 72 then (if (T3.1 38 ((((36 : Int32) + ((6 : Int32) * nI x0)) + nI x1)).toNatClampNeg) ≤ nI x2 then f_X6_readRow_213 T3 else (if zin (((36 : Int32) + ((6 : Int32) * nI x0)) + nI x1) 72 then (if zin (((36 : Int32) + ((6 : Int32) * nI x1)) + nI x0) 72 then f_X6_readRow_213 (zr (zr T3 38 (upd (T3.1 38) ((((36 : Int32) + ((6 : Int32) * nI x0)) + nI x1)).toNatClampNeg (nI x2))) 38 (upd ((zr T3 38 (upd (T3.1 38) ((((36 : Int32) + ((6 : Int32) * nI x0)) + nI x1)).toNatClampNeg (nI x2))).1 38) ((((36 : Int32) + ((6 : Int32) * nI x1)) + nI x0)).toNatClampNeg (nI x2))) else none) else none)) else none) = f_X6_readRow_213 (zr T3 38 g) := by
      rw [ix_r, ix_r, if_pos (zin_nI (by omega) (by omega)), cl (by omega), hx0.2, if_pos (zin_nI (by omega) (by omega)), if_pos (zin_nI (by omega) (by omega)), cl (by omega), zr_zr, zr_s]
      by_cases hle : W x0 x1 ≤ x2
      · refine ⟨T3.1 38, fun a b ha hb => ?_, ?_, ?_⟩
        · rw [(hWv a b ha hb).2]
          congr 1
          unfold set2
          by_cases c1 : a = x1 ∧ b = x0
          · rw [if_pos c1, c1.1, c1.2]; omega
          · rw [if_neg c1]
            by_cases c2 : a = x0 ∧ b = x1
            · rw [if_pos c2, c2.1, c2.2]; omega
            · rw [if_neg c2]
        · rw [zr_eta]; exact Fr.rfl
        · rw [if_pos ((nI_leI (by omega) (by omega)).mpr hle), zr_eta]
      · refine ⟨upd (upd (T3.1 38) (36 + (6 * x0 + x1)) (nI x2)) (36 + (6 * x1 + x0)) (nI x2), fun a b ha hb => ?_, ?_, ?_⟩
        · have := rW a b ha hb
          rw [show min x2 (W x0 x1) = x2 by omega] at this ⊢
          exact this
        · have f1 : Fr KD T3 (zr T3 38 (upd (T3.1 38) (36 + (6 * x0 + x1)) (nI x2))) := Fr_upd (by unfold KD; omega)
          have f2 : Fr KD (zr T3 38 (upd (T3.1 38) (36 + (6 * x0 + x1)) (nI x2))) (zr (zr T3 38 (upd (T3.1 38) (36 + (6 * x0 + x1)) (nI x2))) 38 (upd ((zr T3 38 (upd (T3.1 38) (36 + (6 * x0 + x1)) (nI x2))).1 38) (36 + (6 * x1 + x0)) (nI x2))) := Fr_upd (by unfold KD; omega)
          rw [zr_s, zr_zr] at f2
          exact f1.trans f2
        · rw [if_neg (fun z => hle ((nI_leI (by omega) (by omega)).mp z))]
    obtain ⟨g, hg, fg, eg⟩ := hT4
    refine ⟨zr (zr T3 38 g) 37 (upd ((zr T3 38 g).1 37) 1 ((zr T3 38 g).1 37 1 + 1)), eg, fg.trans (Fr_upd (by unfold KD; omega)), zu (zr S3 (r + 4) (upd (upd (S3.1 (r + 4)) (6 * x0 + x1) (nI (min x2 (W x0 x1)))) (6 * x1 + x0) (nI (min x2 (W x0 x1))))) r 7 (nI (rd + 1)), ?_, ?_, d1, ?_, ⟨rd + 1, by omega, by omega, ?_, ?_⟩, ?_, ?_, ?_, ?_, ⟨set2 (set2 W x0 x1 (min x2 (W x0 x1))) x1 x0 (min x2 (W x0 x1)), way_set hW q0 q1 d1 qn q2 q3, fun a b ha hb => ⟨?_, ?_⟩⟩, ?_⟩
    · unfold f_X0_takeItem
      rw [if_neg (by decide), if_neg (by decide), if_pos rfl]
      unfold f_X0_takeRoad
      rw [v0, v1, v2, knows_in S3 r d2.1 d1 q0, Option.bind_some, if_neg one_ne, knows_in S3 r d2.1 d1 q1, Option.bind_some, if_neg one_ne, short_eq d2.1 d1 (fun a b ha hb => (hWv a b ha hb).1) hwb q0 q1 (by omega), Option.bind_some, zr_n (show r + 6 ≠ r + 4 by omega), v2]
      have g1 := upd_set2 (f := S3.1 (r + 4)) (d := 0) (x := x0) (v := min x2 (W x0 x1)) (fun a b ha hb => by rw [Nat.zero_add]; exact (hWv a b ha hb).1) (show x1 < 6 by omega)
      have hW2 : set2 W x0 x1 (min x2 (W x0 x1)) x1 x0 = W x0 x1 := by unfold set2; rw [if_neg (by omega)]; exact hsym.symm
      rw [short_eq (W := set2 W x0 x1 (min x2 (W x0 x1))) (by rw [zr_n (by omega)]; exact d2.1) d1 (fun a b ha hb => by
        rw [zr_s]
        have := g1 a b ha hb
        rw [Nat.zero_add, Nat.zero_add] at this
        exact this) (by rw [hW2]; exact hwb) q1 q0 (by omega), Option.bind_some, hW2, zr_zr, zr_s, zr_n (show r ≠ r + 4 by omega), e7, nI_1, Option.bind_some]
      unfold f_X0_takeItem_109
      rw [oncem.2.2.2.2.1, Option.bind_some, if_pos rfl]
    · have f1 : Fr (fun c _ => r ≤ c ∧ c ≤ r + 6) S3 (zr S3 (r + 4) (upd (upd (S3.1 (r + 4)) (6 * x0 + x1) (nI (min x2 (W x0 x1)))) (6 * x1 + x0) (nI (min x2 (W x0 x1))))) := ⟨fun c j q => by rw [zr_n (by omega)], rfl⟩
      exact f1.trans (Fr_zu (by omega))
    · rw [zu_off (Or.inr (by decide)), zr_n (by omega), zu_n (by omega), zu_n (by omega), zu_n (by omega), zr_n (by omega), zr_n (by omega), zr_n (by omega), zr_n (by decide), zr_n (by decide), zr_n (by decide), zr_n (by decide), zr_n (by decide), zr_n (by decide), zr_n (by decide), zr_n (by decide)]; exact d2
    · exact zu_at _ _ _ _
    · rw [zr_s, upd_s, zr_n (by decide), e37, nI_1]
    · rw [zu_off (Or.inr (by decide)), zr_n (by omega), zr_n (by decide), zr_n (by decide)]; exact d4
    · rw [zu_off (Or.inr (by decide)), zr_n (by omega), zr_n (by decide), zr_n (by decide)]; exact d5
    · rw [zu_off (Or.inr (by decide)), zr_n (by omega), zr_n (by decide), zr_n (by decide)]; exact d6
    · rw [zu_off (Or.inr (by decide)), zr_n (by omega), zr_n (by decide), zr_n (by decide)]; exact d7
    · rw [zu_n (by omega), zr_s]; exact cW a b ha hb
    · rw [zr_n (by decide), zr_s]; exact hg a b ha hb
    · rw [zu_n (by omega), zr_n (by omega), zr_n (by decide), zr_n (by decide)]; exact d9
end ROWS
