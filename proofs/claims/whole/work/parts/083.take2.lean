section TAKE2
variable {S T : zS} {nd r : Nat}
theorem td74 (hn : nd ≤ 6) : ∀ (m i fl : Nat) (T : zS), i + m = 6 → m < fl → T.1 33 0 = nI nd → ∃ T', f_X6_takeDraft_74 fl T (nI i) = f_X6_takeDraft_146 zN T' 0 ∧ Fr (fun c j => ((c = 35 ∨ c = 36) ∧ i ≤ j ∧ j < 6) ∨ (c = 41 ∧ 4 + i ≤ j ∧ j < 10)) T T' ∧ ∀ v, i ≤ v → v < 6 → T'.1 35 v = T.1 35 (6 + v) ∧ T'.1 36 v = T.1 36 (6 + v) ∧ T'.1 41 (4 + v) = (if v < nd then T.1 34 v else 0) := by
  intro m
  induction m with
  | zero =>
    intro i fl T hi hf h33
    obtain ⟨fl, rfl⟩ : ∃ e, fl = e + 1 := ⟨fl - 1, by omega⟩
    refine ⟨T, ?_, Fr.rfl, fun j _ _ => by omega⟩
    rw [f_X6_takeDraft_74, L_6, if_pos ((nI_leI (by omega) (by omega)).mpr (by omega))]
  | succ m ih =>
    intro i fl T hi hf h33
    obtain ⟨fl, rfl⟩ : ∃ e, fl = e + 1 := ⟨fl - 1, by omega⟩
    generalize hT1 : zr (zr (zr T 35 (upd (T.1 35) i (T.1 35 (6 + i)))) 36 (upd (T.1 36) i (T.1 36 (6 + i)))) 41 (upd (T.1 41) (4 + i) (if i < nd then T.1 34 i else 0)) = T1
    have f1 : Fr (fun c j => ((c = 35 ∨ c = 36) ∧ i ≤ j ∧ j < 6) ∨ (c = 41 ∧ 4 + i ≤ j ∧ j < 10)) T T1 := by
      rw [← hT1]
      refine ⟨fun c j z => ?_, rfl⟩
      by_cases c1 : c = 41
      · subst c1; rw [zr_s, upd_n (by omega)]
      · rw [zr_n c1]
        by_cases c2 : c = 36
        · subst c2; rw [zr_s, upd_n (by omega)]
        · rw [zr_n c2]
          by_cases c3 : c = 35
          · subst c3; rw [zr_s, upd_n (by omega)]
          · rw [zr_n c3]
    obtain ⟨T', k1, k2, k3⟩ := ih (i + 1) fl T1 (by omega) (by omega) (by rw [f1.1 33 0 (by omega)]; exact h33)
    refine ⟨T', ?_, f1.trans (k2.mono (fun c j z => by omega)), fun v h1 h2 => ?_⟩
    · rw [f_X6_takeDraft_74, L_6, if_neg (fun z => by have := (nI_leI (by omega) (by omega)).mp z; omega), nI_add, if_pos (zin_nI (by omega) (by omega)), if_pos (zin_nI (by omega) (by omega)), if_pos (zin_nI (by omega) (by omega)), if_pos (zin_nI (by omega) (by omega)), cl (by omega), cl (by omega), zr_n (show (36 : Nat) ≠ 35 by decide), zr_n (show (33 : Nat) ≠ 36 by decide), zr_n (show (33 : Nat) ≠ 35 by decide), h33, L_4, nI_add]
      unfold f_X6_takeDraft_138
      rw [nI_1, cl (by omega), zr_n (show (41 : Nat) ≠ 36 by decide), zr_n (show (41 : Nat) ≠ 35 by decide), zr_n (show (34 : Nat) ≠ 36 by decide), zr_n (show (34 : Nat) ≠ 35 by decide), if_pos (zin_nI (by omega) (by omega)), if_pos (zin_nI (by omega) (by omega))]
      by_cases hv : nd ≤ i
      · rw [if_pos ((nI_leI (by omega) (by omega)).mpr hv)]
        rw [if_neg (by omega)] at hT1
        rw [hT1]; exact k1
      · rw [if_neg (fun z => hv ((nI_leI (by omega) (by omega)).mp z)), if_pos (zin_nI (by omega) (by omega))]
        rw [if_pos (by omega)] at hT1
        rw [hT1]; exact k1
    · by_cases hv : v = i
      · subst hv
        rw [k2.1 35 v (by omega), k2.1 36 v (by omega), k2.1 41 (4 + v) (by omega), ← hT1, zr_n (by decide), zr_n (by decide), zr_s, upd_s, zr_n (by decide), zr_s, upd_s, zr_s, upd_s]
        exact ⟨rfl, rfl, rfl⟩
      · have := k3 v (by omega) h2
        rw [f1.1 35 (6 + v) (by omega), f1.1 36 (6 + v) (by omega), f1.1 34 v (by omega)] at this
        exact this
theorem td146 : ∀ (m i fl : Nat) (T : zS), i + m = 36 → m < fl → ∃ T', f_X6_takeDraft_146 fl T (nI i) = f_X6_takeDraft_190 zN T' 0 ∧ Fr (fun c j => (c = 38 ∨ c = 39) ∧ i ≤ j ∧ j < 36) T T' ∧ ∀ v, i ≤ v → v < 36 → T'.1 38 v = T.1 38 (36 + v) ∧ T'.1 39 v = T.1 39 (36 + v) := by
  intro m
  induction m with
  | zero =>
    intro i fl T hi hf
    obtain ⟨fl, rfl⟩ : ∃ e, fl = e + 1 := ⟨fl - 1, by omega⟩
    refine ⟨T, ?_, Fr.rfl, fun j _ _ => by omega⟩
    rw [f_X6_takeDraft_146, L_36, if_pos ((nI_leI (by omega) (by omega)).mpr (by omega))]
  | succ m ih =>
    intro i fl T hi hf
    obtain ⟨fl, rfl⟩ : ∃ e, fl = e + 1 := ⟨fl - 1, by omega⟩
    generalize hT1 : zr (zr T 38 (upd (T.1 38) i (T.1 38 (36 + i)))) 39 (upd (T.1 39) i (T.1 39 (36 + i))) = T1
    have f1 : Fr (fun c j => (c = 38 ∨ c = 39) ∧ i ≤ j ∧ j < 36) T T1 := by
      rw [← hT1]
      refine ⟨fun c j z => ?_, rfl⟩
      by_cases c1 : c = 39
      · subst c1; rw [zr_s, upd_n (by omega)]
      · rw [zr_n c1]
        by_cases c2 : c = 38
        · subst c2; rw [zr_s, upd_n (by omega)]
        · rw [zr_n c2]
    obtain ⟨T', k1, k2, k3⟩ := ih (i + 1) fl T1 (by omega) (by omega)
    refine ⟨T', ?_, f1.trans (k2.mono (fun c j z => by omega)), fun v h1 h2 => ?_⟩
    · rw [f_X6_takeDraft_146, L_36, if_neg (fun z => by have := (nI_leI (by omega) (by omega)).mp z; omega), nI_add, if_pos (zin_nI (by omega) (by omega)), if_pos (zin_nI (by omega) (by omega)), if_pos (zin_nI (by omega) (by omega)), if_pos (zin_nI (by omega) (by omega)), cl (by omega), cl (by omega), zr_n (show (39 : Nat) ≠ 38 by decide), nI_1, hT1]
      exact k1
    · by_cases hv : v = i
      · subst hv
        rw [k2.1 38 v (by omega), k2.1 39 v (by omega), ← hT1, zr_n (by decide), zr_s, upd_s, zr_s, upd_s]
        exact ⟨rfl, rfl⟩
      · have := k3 v (by omega) h2
        rw [f1.1 38 (36 + v) (by omega), f1.1 39 (36 + v) (by omega)] at this
        exact this
/-- all of it -/
def KT (c j : Nat) : Prop := (c = 33 ∧ j = 0) ∨ (c = 37 ∧ j = 0) ∨ (c = 40 ∧ j < 3) ∨ (c = 41 ∧ j ≤ 28) ∨ ((c = 35 ∨ c = 36) ∧ j < 6) ∨ ((c = 38 ∨ c = 39) ∧ j < 36) ∨ c = 42
theorem take_ok (h : DR r nd S T) : ∃ T2, f_X6_takeDraft T = some T2 ∧ Fr KT T T2 ∧ T2.1 33 0 = nI nd ∧ T2.1 37 0 = T.1 37 1 ∧ (∀ j, j < 3 → T2.1 40 j = T.1 40 (3 + j)) ∧ (∀ v, v < 6 → T2.1 35 v = T.1 35 (6 + v) ∧ T2.1 36 v = T.1 36 (6 + v)) ∧ (∀ v, v < 36 → T2.1 39 v = T.1 39 (36 + v)) ∧
    (∀ W, zWay nd W → (∀ a b, a < 6 → b < 6 → T.1 38 (36 + (6 * a + b)) = nI (W a b)) → ∀ a b, a < 6 → b < 6 → T2.1 38 (6 * a + b) = nI (fwn W 6 a b)) ∧ T2.1 42 0 = 0 ∧ T2.1 42 1 = 0 ∧ T2.1 41 28 = 0 ∧ ∀ j, j < 28 → T2.1 41 j = (if j = 0 then (if nd = 0 then -9 else 0) else if j = 2 then T.1 40 5 else if 4 ≤ j ∧ j < 4 + nd then T.1 34 (j - 4) else 0) := by
  obtain ⟨hn, ⟨-, d33, -⟩, -, -, -, -, -, ⟨W, hW, hWv⟩, -⟩ := h
  unfold f_X6_takeDraft
  have f0 : Fr KT T (zr (zr T 33 (upd (T.1 33) 0 (T.1 33 1))) 37 (upd ((zr T 33 (upd (T.1 33) 0 (T.1 33 1))).1 37) 0 ((zr T 33 (upd (T.1 33) 0 (T.1 33 1))).1 37 1))) := Fr.trans (Fr_upd (by unfold KT; omega)) (Fr_upd (by unfold KT; omega))
  have a33 : (zr (zr T 33 (upd (T.1 33) 0 (T.1 33 1))) 37 (upd ((zr T 33 (upd (T.1 33) 0 (T.1 33 1))).1 37) 0 ((zr T 33 (upd (T.1 33) 0 (T.1 33 1))).1 37 1))).1 33 0 = nI nd := by rw [zr_n (by decide), zr_s, upd_s]; exact d33
  have a37 : (zr (zr T 33 (upd (T.1 33) 0 (T.1 33 1))) 37 (upd ((zr T 33 (upd (T.1 33) 0 (T.1 33 1))).1 37) 0 ((zr T 33 (upd (T.1 33) 0 (T.1 33 1))).1 37 1))).1 37 0 = T.1 37 1 := by rw [zr_s, upd_s, zr_n (by decide)]
  have ao : ∀ c, c ≠ 33 → c ≠ 37 → (zr (zr T 33 (upd (T.1 33) 0 (T.1 33 1))) 37 (upd ((zr T 33 (upd (T.1 33) 0 (T.1 33 1))).1 37) 0 ((zr T 33 (upd (T.1 33) 0 (T.1 33 1))).1 37 1))).1 c = T.1 c := fun c h1 h2 => by rw [zr_n h2, zr_n h1]
  generalize zr (zr T 33 (upd (T.1 33) 0 (T.1 33 1))) 37 (upd ((zr T 33 (upd (T.1 33) 0 (T.1 33 1))).1 37) 0 ((zr T 33 (upd (T.1 33) 0 (T.1 33 1))).1 37 1)) = A at f0 a33 a37 ao ⊢
  obtain ⟨B, b1, b2, b3⟩ := td26 3 0 zN A (by omega) (by have := zN_big; omega)
  obtain ⟨C, c1, c2, c3⟩ := td53 28 0 zN B (by omega) (by have := zN_big; omega)
  have c33 : C.1 33 0 = nI nd := by rw [c2.1 33 0 (by omega), b2.1 33 0 (by omega)]; exact a33
  obtain ⟨E, e1, e2, e3⟩ := td74 hn 6 0 zN C (by omega) (by have := zN_big; omega) c33
  obtain ⟨F, f1, f2, f3⟩ := td146 36 0 zN E (by omega) (by have := zN_big; omega)
  have up : ∀ c j, ¬ (c = 40 ∧ j < 3) → ¬ (c = 41 ∧ j < 28) → ¬ ((c = 35 ∨ c = 36) ∧ j < 6) → ¬ ((c = 38 ∨ c = 39) ∧ j < 36) → F.1 c j = A.1 c j := fun c j h1 h2 h3 h4 => by
    rw [f2.1 c j (by omega), e2.1 c j (by omega), c2.1 c j (by omega), b2.1 c j (by omega)]
  have fF : Fr KT A F := (b2.mono (fun c j z => by unfold KT; omega)).trans ((c2.mono (fun c j z => by unfold KT; omega)).trans ((e2.mono (fun c j z => by unfold KT; omega)).trans (f2.mono (fun c j z => by unfold KT; omega))))
  have w38 : ∀ v, v < 36 → F.1 38 v = T.1 38 (36 + v) := fun v hv => by
    rw [(f3 v (by omega) hv).1, e2.1 38 (36 + v) (by omega), c2.1 38 (36 + v) (by omega), b2.1 38 (36 + v) (by omega), ao 38 (by decide) (by decide)]
  obtain ⟨g, g1, g2, g3⟩ := td190 hW 6 0 zN F (by omega) (by have := zN_big; omega) (fun a b ha hb => by rw [w38 _ (by omega)]; exact (hWv a b ha hb).2)
  have z33 : (zr F 38 g).1 33 0 = nI nd := by rw [zr_n (by decide), up 33 0 (by omega) (by omega) (by omega) (by omega)]; exact a33
  have run : f_X6_takeDraft_26 zN A 0 = f_X6_takeDraft_293 (zr (zr F 38 g) 41 (upd (F.1 41) 0 (if nd = 0 then -9 else 0))) := by
    refine Eq.trans b1 (Eq.trans c1 (Eq.trans e1 (Eq.trans f1 (Eq.trans g1 ?_))))
    rw [z33, zr_n (show (41 : Nat) ≠ 38 by decide)]
    by_cases hz : nd = 0
    · rw [if_pos ((nI_le0 (by omega)).mpr hz), if_pos hz]
    · rw [if_neg (fun z => hz ((nI_le0 (by omega)).mp z)), if_neg hz]
  rw [run]
  have e293 : ∀ X : zS, f_X6_takeDraft_293 X = some (zu (zu (zu (zu X 41 2 (X.1 40 2)) 41 28 0) 42 0 0) 42 1 0) := fun X => by
    unfold f_X6_takeDraft_293
    rw [← zu_zr, ← zu_zr, ← zu_zr, ← zu_zr]
  rw [e293]
  generalize hX : zr (zr F 38 g) 41 (upd (F.1 41) 0 (if nd = 0 then -9 else 0)) = X
  have x40 : ∀ j, j < 3 → X.1 40 j = T.1 40 (3 + j) := fun j hj => by
    rw [← hX, zr_n (by decide), zr_n (by decide), f2.1 40 j (by omega), e2.1 40 j (by omega), c2.1 40 j (by omega), b3 j (by omega) hj, ao 40 (by decide) (by decide)]
  have fX : Fr KT A X := by
    refine fF.trans ?_
    rw [← hX]
    refine ⟨fun c j z => ?_, rfl⟩
    by_cases c1 : c = 41
    · subst c1; rw [zr_s, upd_n (by unfold KT at z; omega)]
    · rw [zr_n c1]
      by_cases c2 : c = 38
      · subst c2; rw [zr_s]; exact g2 j (by unfold KT at z; omega)
      · rw [zr_n c2]
  refine ⟨_, rfl, f0.trans (fX.trans (Fr.trans (Fr_zu (by unfold KT; omega)) (Fr.trans (Fr_zu (by unfold KT; omega)) (Fr.trans (Fr_zu (by unfold KT; omega)) (Fr_zu (by unfold KT; omega)))))), ?_, ?_, fun j hj => ?_, fun v hv => ⟨?_, ?_⟩, fun v hv => ?_, fun W' hW' hWv' a b ha hb => ?_, ?_, ?_, ?_, fun j hj => ?_⟩
  · rw [zu_n (by decide), zu_n (by decide), zu_n (by decide), zu_n (by decide), ← hX, zr_n (by decide)]; exact z33
  · rw [zu_n (by decide), zu_n (by decide), zu_n (by decide), zu_n (by decide), ← hX, zr_n (by decide), zr_n (by decide), up 37 0 (by omega) (by omega) (by omega) (by omega)]; exact a37
  · rw [zu_n (by decide), zu_n (by decide), zu_n (by decide), zu_n (by decide)]; exact x40 j hj
  · rw [zu_n (by decide), zu_n (by decide), zu_n (by decide), zu_n (by decide), ← hX, zr_n (by decide), zr_n (by decide), f2.1 35 v (by omega), (e3 v (by omega) hv).1, c2.1 35 (6 + v) (by omega), b2.1 35 (6 + v) (by omega), ao 35 (by decide) (by decide)]
  · rw [zu_n (by decide), zu_n (by decide), zu_n (by decide), zu_n (by decide), ← hX, zr_n (by decide), zr_n (by decide), f2.1 36 v (by omega), (e3 v (by omega) hv).2.1, c2.1 36 (6 + v) (by omega), b2.1 36 (6 + v) (by omega), ao 36 (by decide) (by decide)]
  · rw [zu_n (by decide), zu_n (by decide), zu_n (by decide), zu_n (by decide), ← hX, zr_n (by decide), zr_n (by decide), (f3 v (by omega) hv).2, e2.1 39 (36 + v) (by omega), c2.1 39 (36 + v) (by omega), b2.1 39 (36 + v) (by omega), ao 39 (by decide) (by decide)]
  · obtain ⟨g', q1, q2, q3⟩ := td190 hW' 6 0 zN F (by omega) (by have := zN_big; omega) (fun a b ha hb => by rw [w38 _ (by omega)]; exact hWv' a b ha hb)
    have : ∀ k, k ≤ 6 → ∀ a b, a < 6 → b < 6 → fwn W k a b = fwn W' k a b := by
      intro k
      induction k with
      | zero =>
        intro _ a b ha hb
        have e1 := (hWv a b ha hb).2
        have e2 := hWv' a b ha hb
        have w1 := way_le hW ha hb
        have w2 := way_le hW' ha hb
        show W a b = W' a b
        exact (nI_eq (by omega) (by omega)).mp (e1.symm.trans e2)
      | succ k ih =>
        intro hk a b ha hb
        show min (fwn W k a b) (fwn W k a k + fwn W k k b) = min (fwn W' k a b) (fwn W' k a k + fwn W' k k b)
        rw [ih (by omega) a b ha hb, ih (by omega) a k ha (by omega), ih (by omega) k b (by omega) hb]
    rw [zu_n (by decide), zu_n (by decide), zu_n (by decide), zu_n (by decide), ← hX, zr_n (by decide), zr_s, g3 a b ha hb, this 6 (Nat.le_refl _) a b ha hb]
  · rw [zu_off (Or.inr (by decide)), zu_at]
  · rw [zu_at]
  · rw [zu_n (by decide), zu_n (by decide), zu_at]
  · rw [zu_n (by decide), zu_n (by decide), zu_off (Or.inr (by omega))]
    by_cases h2 : j = 2
    · subst h2; rw [zu_at, if_neg (by decide), if_pos rfl]; exact x40 2 (by omega)
    · rw [zu_off (Or.inr h2), ← hX, zr_s]
      by_cases h0 : j = 0
      · subst h0; rw [upd_s, if_pos rfl]
      · rw [upd_n h0, if_neg h0, if_neg h2, f2.1 41 j (by omega)]
        by_cases h4 : 4 ≤ j ∧ j < 10
        · have := (e3 (j - 4) (by omega) (by omega)).2.2
          rw [show 4 + (j - 4) = j by omega] at this
          rw [this]
          by_cases hv : j - 4 < nd
          · rw [if_pos hv, if_pos (by omega), c2.1 34 (j - 4) (by omega), b2.1 34 (j - 4) (by omega), ao 34 (by decide) (by decide)]
          · rw [if_neg hv, if_neg (by omega)]
        · rw [if_neg (by omega), e2.1 41 j (by omega), c3 j (by omega) hj]
end TAKE2
