section TOUR3
variable {S : zS} {nv : Nat}
theorem tour_ok (hI : InvN nv S) (a1 a2 : Int32) : OK2 nv (f_X5_tour S a1 a2) (fun S => f_X6_tour S a1 a2) := by
  obtain ⟨hn6, hL, h33⟩ := inv_nv hI
  obtain ⟨m, hm1, hm9, hLm, hlm⟩ := inv_mouths hI
  obtain ⟨D, hD, hfr, hfc⟩ := inv_far hI
  have hmom := inv_mom hI
  obtain ⟨B, hB, hBB⟩ := hmom.2.2.1
  have hc : ∃ c, 0 < nv → c < nv ∧ S.1 41 0 = nI c := by
    rcases hmom.1 with ⟨c, h1, h2⟩ | ⟨h1, h2⟩
    · exact ⟨c, fun _ => ⟨h1, h2⟩⟩
    · exact ⟨0, fun h => by omega⟩
  obtain ⟨c, hc⟩ := hc
  have hp : 2 ^ nv ≤ 2 ^ 6 := Nat.pow_le_pow_right (by omega) hn6
  unfold f_X5_tour
  rcases isw a1 1 60 with h0 | ⟨h1, hr⟩
  · rw [h0, Option.bind_some, if_pos rfl]
    refine ⟨_, S, S, rfl, ?_, hI⟩
    show f_X6_tour S a1 a2 = _
    unfold f_X6_tour
    rw [in_isw, h0, Option.bind_some, if_pos rfl]
  rcases isw a2 (-2) 5 with h0 | ⟨h2, hr2⟩
  · rw [h1, Option.bind_some, if_neg one_ne, h0, Option.bind_some, if_pos rfl]
    refine ⟨_, S, S, rfl, ?_, hI⟩
    show f_X6_tour S a1 a2 = _
    unfold f_X6_tour
    rw [in_isw, h1, Option.bind_some, if_neg one_ne, in_isw, h0, Option.bind_some, if_pos rfl]
  obtain ⟨d, hd1, hd2, rfl⟩ := rng hr L_1 L_60 (by omega) (by omega)
  have hmd : m * d ≤ 9 * 60 := Nat.mul_le_mul hm9 hd2
  have hlr : 17 ≤ lr S.2.2.1 := by cases S.2.2.1 <;> decide
  have g2 : f_X2_get (zr S 10 (spF nv S)) 3 2 = some (nI B) := by
    rw [L_2, get_eq _ 3 (by omega), zr_n (by decide)]
    exact congrArg some ((inv_e41 hI _ (by omega)).trans hBB)
  have g0 : f_X2_get (zr S 10 (spF nv S)) 3 0 = some (S.1 41 0) := by
    rw [L_0, get_eq _ 3 (by omega), zr_n (by decide)]
    exact congrArg some (inv_e41 hI _ (by omega))
  have e8 : (zr S 10 (spF nv S)).1 (lr (zr S 10 (spF nv S)).2.2.1) 8 = nI m := by
    show (zr S 10 (spF nv S)).1 (lr S.2.2.1) 8 = nI m
    rw [zr_n (by omega)]; exact hLm
  have hw := fw_spec (sp := spN S) (nv := nv) (nI (m * d) - nI B) (2 ^ nv) 0 none (fun _ b hb => by omega) (fun b0 hb => (nomatch hb))
  rw [h1, Option.bind_some, if_neg one_ne, h2, Option.bind_some, if_neg one_ne, fill_spares hI, Option.bind_some, g2, Option.bind_some, e8, pk_mul, few_eq hI, Option.bind_some]
  have hspn : ∀ v, v < nv → spN S v ≤ 60 := fun v hv => spN_le hI hv
  have hset : ∀ n y, Feas nv D (spN S) c B m (m * d) n y → ∃ G, G < 2 ^ nv ∧ cnt G = n ∧ ¬ nI (tog (spN S) G nv) < nI (m * d) - nI B := fun n y hy => by
    obtain ⟨G, g1, g2, g3, g4⟩ := row_set (sp := spN S) hn6 n hy.1 hy.2.1
    have hts := tsm_le (sp := spN S) (x := y) n (fun j hj => hspn _ (hy.1 j hj))
    have hn : n ≤ 6 := by rw [← g3]; exact cnt_le G
    refine ⟨G, g2, g3, fun z => ?_⟩
    have := (need_lt (by omega) (by omega) (by omega)).mp z
    have := hy.2.2.2
    omega
  -- what the reference says of a state like S
  have ref : ∀ S1 : zS, InvN nv S1 → S1.1 40 0 = nI m → (∀ a b, a < 6 → b < 6 → S1.1 38 (6 * a + b) = nI (D a b)) → S1.1 41 = S.1 41 → spN S1 = spN S →
      ∃ g' : Nat → Int32, (∃ n1 b, n1 ≤ nv ∧ b < 6 ^ n1 ∧ tds D c (dig n1 b) n1 < 100000 ∧ f_X6_findTour S1 (nI (m * d)) = some (fS S1 g' (nI b) (nI (tds D c (dig n1 b) n1)) (nI n1)) ∧ Upd D c n1 (Feas nv D (spN S) c B m (m * d) n1) none (some (dig n1 b)) ∧ ∀ n', n' < n1 → ∀ y, ¬ Feas nv D (spN S) c B m (m * d) n' y) ∨
        (∃ bd' ld', f_X6_findTour S1 (nI (m * d)) = some (fS S1 g' (-9) bd' ld') ∧ ∀ n', n' ≤ nv → ∀ y, ¬ Feas nv D (spN S) c B m (m * d) n' y) := by
    intro S1 k1 k2 k3 k4 k5
    have h := tour10 (S := S1) (nv := nv) (D := D) (c := c) (B := B) (m := m) (goal := m * d) k1 hm9 k2 (fun a b ha hb => ⟨hD.2.2.1 a b ha hb, k3 a b ha hb⟩) (fun h => by rw [k4]; exact hc h) hB (by rw [k4]; exact hBB) (by omega) 7 0 zN (S1.1 43) (S1.1 31 21) (S1.1 31 20) (by omega) (by have := zN_big; omega) (fun n' hn' => by omega)
    rw [k5, ← fS_start] at h
    exact h
  have start : ∀ S1 : zS, f_X6_tour S1 (nI d) a2 = ((f_X6_findTour S1 ((S1.1 40 0) * nI d)).bind (fun S8 => (if (S8.1 31 22) = (-9 : Int32) then some ((-9 : Int32), S8) else ((f_X6_takeRow S8 (S8.1 31 22) (S8.1 31 20)).bind (fun S11 => (if a2 = (-1 : Int32) then some ((S11.1 31 20), S11) else (if a2 = (-2 : Int32) then some ((S11.1 31 21), S11) else (if (S11.1 31 20) ≤ a2 then some ((-9 : Int32), S11) else (if zin a2 6 then some ((S11.1 43 (a2).toNatClampNeg), S11) else none))))))))) := fun S1 => by
    unfold f_X6_tour
    rw [in_isw, h1, Option.bind_some, if_neg one_ne, in_isw, h2, Option.bind_some, if_neg one_ne]
  cases hfw : fw (spN S) nv (nI (m * d) - nI B) (2 ^ nv) 0 none with
  | none =>
    rw [if_pos (show enc none = -9 from rfl)]
    have hno : ∀ n y, ¬ Feas nv D (spN S) c B m (m * d) n y := fun n y hy => by
      obtain ⟨G, k1, k2, k3⟩ := hset n y hy
      exact k3 (hw.1 hfw G (by omega))
    obtain ⟨g', ⟨n1, b, -, -, -, -, hU, -⟩ | ⟨bd', ld', hR, -⟩⟩ := ref (zr S 10 (spF nv S)) (Inv10 hI _) hlm hfr rfl rfl
    · rcases hU with ⟨h, -⟩ | ⟨z, -, h, -⟩
      · cases h
      · exact absurd h (hno _ _)
    · refine ⟨_, _, _, rfl, ?_, Inv_fS (Inv10 hI (spF nv S)) g' (-9) bd' ld'⟩
      show f_X6_tour (zr S 10 (spF nv S)) (nI d) a2 = _
      rw [start, show (zr S 10 (spF nv S)).1 40 0 = nI m from hlm, pk_mul, hR, Option.bind_some, if_pos (show (fS (zr S 10 (spF nv S)) g' (-9) bd' ld').1 31 22 = -9 from rfl)]
  | some b0 =>
    obtain ⟨w1, w2, w3⟩ := hw.2 b0 hfw
    rw [if_neg (show ¬ enc (some b0) = -9 from nI_ne_m9 (by omega)), show enc (some b0) = nI b0 from rfl, bc_eq b0 (by omega), Option.bind_some, g0, Option.bind_some]
    have hleast : ∀ n', n' < cnt b0 → ∀ y, ¬ tG nv D (spN S) c B m (m * d) n' y := fun n' hn' y hy => by
      obtain ⟨G, k1, k2, k3⟩ := hset n' y hy.1
      have := w3 G (by omega) k3
      omega
    have hcn := cnt_le b0
    have hlr8 : lr (zr S 10 (spF nv S)).2.2.1 = lr S.2.2.1 := rfl
    rw [hlr8]
    unfold f_X4_find
    obtain ⟨gs, g, L0, hF, hgs, hg⟩ := tourFill (S := zr S 10 (spF nv S)) (q := lr S.2.2.1) (fun j => if j < nv then spN S j else 0) (fun j hj => by
        show (if j < nv then spN S j else 0) ≤ 60 ∧ (if j < 6 then (if j < nv then nI (spN S j) else 0) else S.1 10 j) = nI (if j < nv then spN S j else 0)
        rw [if_pos hj]
        by_cases h : j < nv
        · rw [if_pos h, if_pos h]; exact ⟨hspn j h, rfl⟩
        · rw [if_neg h, if_neg h]; exact ⟨by omega, rfl⟩) (nI (cnt b0)) (S.1 41 0) (nI B) (nI (m * d)) 6 0 zN 0 ((zr S 10 (spF nv S)).1 12) (by omega) (by have := zN_big; omega) (by omega) (fun j hj => by omega)
    rw [zr_eta] at hF
    have hF : f_X4_find_8 (lr S.2.2.1) zN (zu (zr S 10 (spF nv S)) 11 5 (0 : Int32)) (nI (cnt b0)) (S.1 41 0) (nI B) (nI (m * d)) (0 : Int32) = _ := hF
    rw [hF, zu_zu_comm _ 11 (show (6 : Nat) ≠ 3 by decide), ← tS_eta]
    have hg : ∀ j, j < nv → g j = nI (spN S j) ∧ spN S j ≤ gs := fun j hj => by
      have := hg j (by omega)
      rw [if_pos hj] at this
      exact this
    have fin := tourFind (S := zu (zu (zr (zr S 10 (spF nv S)) 12 g) 11 5 (nI gs)) 11 4 (nI (m * d))) (nv := nv) (q := lr S.2.2.1) (m := m) (goal := m * d) (gs := gs) (sp := spN S) (D := D) (c := c) (B := B) (P := S.1 41 0) hlr
      (by rw [zu_n (by omega), zu_n (by omega), zr_n (by omega), zr_n (by omega)]; exact hL) (by rw [zu_n (by omega), zu_n (by omega), zr_n (by omega), zr_n (by omega)]; exact hLm) hn6 (by rw [zu_s, upd_s]) (by rw [zu_s, upd_n (by decide), zu_s, upd_s]) (fun v hv => by rw [zu_n (by decide), zu_n (by decide), zr_s]; exact (hg v hv).1) (fun v hv => (hg v hv).2) hgs (fun a b ha hb => ⟨hD.2.2.1 a b ha hb, by rw [zu_n (by omega), zu_n (by omega), zr_n (by omega), zr_n (by omega)]; exact hfc a b ha hb⟩) (fun h => (hc h).1) hB (by omega) hm9 (fun h => (hc h).2) (7 - cnt b0) (cnt b0) zN L0
    obtain ⟨r', b', fin⟩ := fin _ _ (by omega) (by have := zN_big; omega) hleast
    rcases fin with ⟨n1, y, hn1, hR, hby, hU, hno⟩ | ⟨L, hR, hno⟩
    · have hR : f_X4_find_79 (lr S.2.2.1) zN (tS (zu (zu (zu (zr (zr S 10 (spF nv S)) 12 g) 11 5 (nI gs)) 11 4 (nI (m * d))) 11 3 L0) _ _ (-9)) (S.1 41 0) (nI B) (nI (cnt b0)) = _ := hR
      rw [hR, zb2_some, if_neg one_ne]
      have hI1 := Inv_tS (Inv10 hI (spF nv S)) g (nI gs) (nI (m * d)) (nI n1) r' b' (nI (tds D c y n1))
      have hnoF := noFeas hD hn6 (fun h => (hc h).1) hno
      have hyU : tG nv D (spN S) c B m (m * d) n1 y ∧ ∀ w, tG nv D (spN S) c B m (m * d) n1 w → tds D c y n1 ≤ tds D c w n1 ∧ (tds D c w n1 = tds D c y n1 → ¬ lexlt n1 w y) := by
        rcases hU with ⟨h, -⟩ | ⟨z, h, h1, -, h2⟩
        · cases h
        · cases h; exact ⟨h1, h2⟩
      have hA1 : (tS (zu (zu (zu (zr (zr S 10 (spF nv S)) 12 g) 11 5 (nI gs)) 11 4 (nI (m * d))) 11 3 (nI n1)) r' b' (nI (tds D c y n1))).1 11 6 = nI (tds D c y n1) := by unfold tS; rw [zu_s, upd_s]
      have hA2 : (tS (zu (zu (zu (zr (zr S 10 (spF nv S)) 12 g) 11 5 (nI gs)) 11 4 (nI (m * d))) 11 3 (nI n1)) r' b' (nI (tds D c y n1))).1 11 3 = nI n1 := by unfold tS; rw [zu_s, upd_n (by decide), zr_n (by decide), zr_n (by decide), zu_s, upd_s]
      have hA3 : (tS (zu (zu (zu (zr (zr S 10 (spF nv S)) 12 g) 11 5 (nI gs)) 11 4 (nI (m * d))) 11 3 (nI n1)) r' b' (nI (tds D c y n1))).1 14 = b' := by unfold tS; rw [zu_n (by decide), zr_s]
      have hA4 : (tS (zu (zu (zu (zr (zr S 10 (spF nv S)) 12 g) 11 5 (nI gs)) 11 4 (nI (m * d))) 11 3 (nI n1)) r' b' (nI (tds D c y n1))).1 40 0 = nI m := hlm
      have ref1 := ref _ hI1 hlm hfr rfl rfl
      generalize hS1 : tS (zu (zu (zu (zr (zr S 10 (spF nv S)) 12 g) 11 5 (nI gs)) 11 4 (nI (m * d))) 11 3 (nI n1)) r' b' (nI (tds D c y n1)) = S1 at hI1 hA1 hA2 hA3 hA4 ref1 ⊢
      obtain ⟨g', ⟨n2, b, hn2, hb, htb, hT, hU2, hno2⟩ | ⟨bd', ld', -, hno2⟩⟩ := ref1
      · have hzU : Feas nv D (spN S) c B m (m * d) n2 (dig n2 b) ∧ ∀ w, Feas nv D (spN S) c B m (m * d) n2 w → tds D c (dig n2 b) n2 ≤ tds D c w n2 ∧ (tds D c w n2 = tds D c (dig n2 b) n2 → ¬ lexlt n2 w (dig n2 b)) := by
          rcases hU2 with ⟨h, -⟩ | ⟨z, h, h1, -, h2⟩
          · cases h
          · cases h; exact ⟨h1, h2⟩
        have hnn : n1 = n2 := by
          rcases Nat.lt_trichotomy n1 n2 with q | q | q
          · exact absurd hyU.1.1 (hno2 n1 q y)
          · exact q
          · exact absurd hzU.1 (hnoF n2 q _)
        subst hnn
        have hz := Feas_all hD hn6 (fun h => (hc h).1) hno2 hzU.1
        have t1 := hyU.2 _ hz
        have t2 := hzU.2 _ hyU.1.1
        have hts : tds D c (dig n1 b) n1 = tds D c y n1 := by omega
        have hsame : ∀ i, i < n1 → y i = dig n1 b i := by
          rcases lex_tri y (dig n1 b) n1 with q | q | q
          · exact q
          · exact absurd q (t2.2 hts.symm)
          · exact absurd q (t1.2 hts)
        have hsix := six_pow (n := n1) (by omega)
        refine ⟨if a2 = -2 then nI (tds D c y n1) else if a2 = -1 then nI n1 else if nI n1 ≤ a2 then -9 else b' a2.toNatClampNeg, S1, fS S1 (fun j => if j < n1 then nI (dig n1 b j) else g' j) (nI b) (nI (tds D c (dig n1 b) n1)) (nI n1), ?_, ?_, Inv_fS hI1 _ _ _ _⟩
        · rw [hA1, hA2]
          by_cases k1 : a2 = -2
          · rw [if_pos k1, if_pos k1]
          rw [if_neg k1, if_neg k1]
          by_cases k2 : a2 = -1
          · rw [if_pos k2, if_pos k2]
          rw [if_neg k2, if_neg k2]
          have hpos : ∃ k : Nat, k ≤ 5 ∧ a2 = nI k := by
            have h1 := i_le.mp hr2.1
            have h2 := i_le.mp hr2.2
            have e1 : (-2 : Int32).toInt = -2 := by decide
            have e2 : (5 : Int32).toInt = 5 := by decide
            rw [e1] at h1
            rw [e2] at h2
            refine ofI 5 ?_ h2
            have h3 : ¬ a2.toInt = -2 := fun z => k1 (i_eq.mpr (z.trans e1.symm))
            have h4 : ¬ a2.toInt = -1 := fun z => k2 (i_eq.mpr (z.trans (by decide)))
            omega
          obtain ⟨k, hk, rfl⟩ := hpos
          unfold f_X4_at
          rw [if_neg (nI_pos (by omega)), hA2]
          by_cases k3 : n1 ≤ k
          · rw [if_pos ((nI_leI (by omega) (by omega)).mpr k3), if_pos ((nI_leI (by omega) (by omega)).mpr k3)]; rfl
          · rw [if_neg (fun z => k3 ((nI_leI (by omega) (by omega)).mp z)), if_neg (fun z => k3 ((nI_leI (by omega) (by omega)).mp z)), L_6, if_neg (fun z => by have := (nI_leI (by omega) (by omega)).mp z; omega), if_pos (zin_nI (by omega) (by omega)), hA3]; rfl
        · show f_X6_tour S1 (nI d) a2 = _
          rw [start, hA4, pk_mul, hT, Option.bind_some, if_neg (show ¬ (fS S1 g' (nI b) (nI (tds D c (dig n1 b) n1)) (nI n1)).1 31 22 = -9 from nI_ne_m9 (by omega)), show (fS S1 g' (nI b) (nI (tds D c (dig n1 b) n1)) (nI n1)).1 31 22 = nI b from rfl, show (fS S1 g' (nI b) (nI (tds D c (dig n1 b) n1)) (nI n1)).1 31 20 = nI n1 from rfl, takeRow_eq _ (by omega) (by omega), Option.bind_some, fS_row]
          have hrow : (fun j => if j < n1 then nI (dig n1 b j) else (fS S1 g' (nI b) (nI (tds D c (dig n1 b) n1)) (nI n1)).1 43 j) = (fun j => if j < n1 then nI (dig n1 b j) else g' j) := rfl
          rw [hrow]
          generalize hgg : (fun j => if j < n1 then nI (dig n1 b j) else g' j) = gg
          have u1 : (fS S1 gg (nI b) (nI (tds D c (dig n1 b) n1)) (nI n1)).1 31 20 = nI n1 := rfl
          have u2 : (fS S1 gg (nI b) (nI (tds D c (dig n1 b) n1)) (nI n1)).1 31 21 = nI (tds D c (dig n1 b) n1) := rfl
          have u3 : (fS S1 gg (nI b) (nI (tds D c (dig n1 b) n1)) (nI n1)).1 43 = gg := rfl
          rw [u1, u2, u3]
          by_cases k1 : a2 = -2
          · have k2 : ¬ a2 = -1 := by rw [k1]; decide
            rw [if_neg k2, if_pos k1, if_pos k1, hts]
          rw [if_neg k1, if_neg k1]
          by_cases k2 : a2 = -1
          · rw [if_pos k2, if_pos k2]
          rw [if_neg k2, if_neg k2]
          have hpos : ∃ k : Nat, k ≤ 5 ∧ a2 = nI k := by
            have h1 := i_le.mp hr2.1
            have h2 := i_le.mp hr2.2
            have e1 : (-2 : Int32).toInt = -2 := by decide
            have e2 : (5 : Int32).toInt = 5 := by decide
            rw [e1] at h1
            rw [e2] at h2
            refine ofI 5 ?_ h2
            have h3 : ¬ a2.toInt = -2 := fun z => k1 (i_eq.mpr (z.trans e1.symm))
            have h4 : ¬ a2.toInt = -1 := fun z => k2 (i_eq.mpr (z.trans (by decide)))
            omega
          obtain ⟨k, hk, rfl⟩ := hpos
          by_cases k3 : n1 ≤ k
          · rw [if_pos ((nI_leI (by omega) (by omega)).mpr k3), if_pos ((nI_leI (by omega) (by omega)).mpr k3)]
          · rw [if_neg (fun z => k3 ((nI_leI (by omega) (by omega)).mp z)), if_neg (fun z => k3 ((nI_leI (by omega) (by omega)).mp z)), if_pos (zin_nI (by omega) (by omega)), cl (by omega), hby k (by omega), hsame k (by omega), show gg k = nI (dig n1 b k) by rw [← hgg]; exact if_pos (by omega)]
      · exact absurd hyU.1.1 (hno2 n1 hn1 y)
    · have hR : f_X4_find_79 (lr S.2.2.1) zN (tS (zu (zu (zu (zr (zr S 10 (spF nv S)) 12 g) 11 5 (nI gs)) 11 4 (nI (m * d))) 11 3 L0) _ _ (-9)) (S.1 41 0) (nI B) (nI (cnt b0)) = _ := hR
      rw [hR, zb2_some, if_pos rfl]
      have hI1 := Inv_tS (Inv10 hI (spF nv S)) g (nI gs) (nI (m * d)) L r' b' (-9)
      have hnoF := noFeas (N := nv + 1) hD hn6 (fun h => (hc h).1) (fun n' hn' => hno n' (by omega))
      obtain ⟨g', ⟨n2, b, hn2, -, -, -, hU2, -⟩ | ⟨bd', ld', hT, -⟩⟩ := ref _ hI1 hlm hfr rfl rfl
      · rcases hU2 with ⟨h, -⟩ | ⟨z, -, h, -⟩
        · cases h
        · exact absurd h (hnoF n2 (by omega) _)
      · refine ⟨_, _, _, rfl, ?_, Inv_fS hI1 g' (-9) bd' ld'⟩
        show f_X6_tour _ (nI d) a2 = _
        rw [start, show (tS (zu (zu (zu (zr (zr S 10 (spF nv S)) 12 g) 11 5 (nI gs)) 11 4 (nI (m * d))) 11 3 L) r' b' (-9)).1 40 0 = nI m from hlm, pk_mul, hT, Option.bind_some, if_pos (show (fS (tS (zu (zu (zu (zr (zr S 10 (spF nv S)) 12 g) 11 5 (nI gs)) 11 4 (nI (m * d))) 11 3 L) r' b' (-9)) g' (-9) bd' ld').1 31 22 = -9 from rfl)]
end TOUR3
