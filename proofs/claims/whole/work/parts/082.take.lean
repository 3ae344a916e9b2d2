section TAKE
variable {S T : zS} {nd r q : Nat}
theorem begin42 (hq : 17 ≤ q) (hn : nd ≤ 6) : ∀ (m i fl : Nat) (S : zS), i + m = nd → m < fl → S.1 q 6 = nI nd → ∃ S2, f_X2_begin_42 3 q fl S (nI i) = some S2 ∧ Fr (fun c j => c = 4 ∧ 4 + i ≤ j ∧ j < 4 + nd) S S2 ∧ ∀ v, i ≤ v → v < nd → S2.1 4 (4 + v) = S.1 (q + 1) v := by
  intro m
  induction m with
  | zero =>
    intro i fl S hi hf h6
    obtain ⟨fl, rfl⟩ : ∃ e, fl = e + 1 := ⟨fl - 1, by omega⟩
    refine ⟨S, ?_, Fr.rfl, fun v _ _ => by omega⟩
    rw [f_X2_begin_42, h6, if_pos ((nI_leI (by omega) (by omega)).mpr (by omega))]
  | succ m ih =>
    intro i fl S hi hf h6
    obtain ⟨fl, rfl⟩ : ∃ e, fl = e + 1 := ⟨fl - 1, by omega⟩
    have f1 : Fr (fun c j => c = 4 ∧ 4 + i ≤ j ∧ j < 4 + nd) S (zr S 4 (upd (S.1 4) (4 + i) (S.1 (q + 1) i))) := Fr_upd (by omega)
    obtain ⟨S2, k1, k2, k3⟩ := ih (i + 1) fl (zr S 4 (upd (S.1 4) (4 + i) (S.1 (q + 1) i))) (by omega) (by omega) (by rw [zr_n (by omega)]; exact h6)
    refine ⟨S2, ?_, f1.trans (k2.mono (fun c j z => by omega)), fun v h1 h2 => ?_⟩
    · rw [f_X2_begin_42, h6, if_neg (fun z => by have := (nI_leI (by omega) (by omega)).mp z; omega)]
      unfold f_X0_hensOf
      rw [knows_in S q h6 hn (show i < nd by omega), Option.bind_some, if_neg one_ne, if_pos (zin_nI (by omega) (by omega)), cl (by omega), Option.bind_some, L_4, nI_add, put_eq S 3 (by omega), Option.bind_some, nI_1]
      exact k1
    · by_cases hv : v = i
      · subst hv; rw [k2.1 4 (4 + v) (by omega), zr_s, upd_s]
      · rw [k3 v (by omega) h2, zr_n (by omega)]
theorem begin_ok (hq : 17 ≤ q) (hn : nd ≤ 6) (h6 : S.1 q 6 = nI nd) : ∃ S2, f_X2_begin S 3 q = some S2 ∧ Fr (fun c j => c = 4 ∨ (c = 3 ∧ j = 1)) S S2 ∧ S2.1 3 1 = 0 ∧ ∀ j, j < 308 → S2.1 4 j = (if j = 0 then (if nd = 0 then -9 else 0) else if j = 2 then S.1 q 10 else if 4 ≤ j ∧ j < 4 + nd then S.1 (q + 1) (j - 4) else 0) := by
  unfold f_X2_begin
  rw [fill_eq _ _ _ _ (by omega), Option.bind_some]
  generalize hg : (fun j => if j < 308 then (0 : Int32) else S.1 (3 + 1) j) = g0
  have hg0 : ∀ j, j < 308 → g0 j = 0 := fun j hj => by rw [← hg]; exact if_pos hj
  have e6 : (zu (zr S (3 + 1) g0) 3 1 (0 : Int32)).1 q 6 = nI nd := by rw [zu_n (by omega), zr_n (by omega)]; exact h6
  have key : ∀ x : Int32, (x = if nd = 0 then -9 else 0) → ∃ S2, ((f_X2_put (zu (zr S (3 + 1) g0) 3 1 (0 : Int32)) 3 (0 : Int32) x).bind (fun S5 => f_X2_begin_31 3 q S5)) = some S2 ∧ Fr (fun c j => c = 4 ∨ (c = 3 ∧ j = 1)) S S2 ∧ S2.1 3 1 = 0 ∧ ∀ j, j < 308 → S2.1 4 j = (if j = 0 then (if nd = 0 then -9 else 0) else if j = 2 then S.1 q 10 else if 4 ≤ j ∧ j < 4 + nd then S.1 (q + 1) (j - 4) else 0) := by
    intro x hx
    rw [L_0, put_eq _ 3 (by omega), Option.bind_some, ← L_0]
    unfold f_X2_begin_31
    rw [L_2, put_eq _ 3 (by omega), Option.bind_some]
    generalize hS5 : zr (zu (zr S (3 + 1) g0) 3 1 (0 : Int32)) (3 + 1) (upd ((zu (zr S (3 + 1) g0) 3 1 (0 : Int32)).1 (3 + 1)) 0 x) = S5
    have e4 : S5.1 4 = upd g0 0 x := by rw [← hS5]; rw [zr_s]; rfl
    have eo : ∀ c, c ≠ 3 → c ≠ 4 → S5.1 c = S.1 c := fun c h1 h2 => by rw [← hS5, zr_n h2, zu_n h1, zr_n h2]
    have e31 : S5.1 3 1 = 0 := by rw [← hS5, zr_n (by decide), zu_at]
    have f5 : Fr (fun c j => c = 4 ∨ (c = 3 ∧ j = 1)) S S5 := ⟨fun c j z => by
      rw [← hS5, zr_n (fun h => z (Or.inl h)), zu_off (by omega), zr_n (fun h => z (Or.inl h))], by rw [← hS5]; rfl⟩
    have f6 : Fr (fun c j => c = 4 ∨ (c = 3 ∧ j = 1)) S5 (zr S5 (3 + 1) (upd (S5.1 (3 + 1)) 2 (S5.1 q 10))) := Fr_upd (Or.inl rfl)
    obtain ⟨S2, k1, k2, k3⟩ := begin42 hq hn nd 0 zN (zr S5 (3 + 1) (upd (S5.1 (3 + 1)) 2 (S5.1 q 10))) (by omega) (by have := zN_big; omega) (by rw [zr_n (by omega), eo q (by omega) (by omega)]; exact h6)
    refine ⟨S2, k1, f5.trans (f6.trans (k2.mono (fun c j z => Or.inl z.1))), ?_, fun j hj => ?_⟩
    · rw [k2.1 3 1 (by omega), zr_n (by decide)]; exact e31
    · by_cases h4 : 4 ≤ j ∧ j < 4 + nd
      · rw [if_neg (by omega), if_neg (by omega), if_pos h4]
        have := k3 (j - 4) (by omega) (by omega)
        rw [show 4 + (j - 4) = j by omega] at this
        rw [this, zr_n (by omega), eo (q + 1) (by omega) (by omega)]
      · rw [k2.1 4 j (by omega)]
        show (zr S5 4 (upd (S5.1 4) 2 (S5.1 q 10))).1 4 j = _
        rw [zr_s, e4]
        by_cases h0 : j = 0
        · subst h0; rw [upd_n (by decide), upd_s, if_pos rfl, hx]
        · rw [if_neg h0]
          by_cases h2 : j = 2
          · subst h2; rw [upd_s, if_pos rfl, eo q (by omega) (by omega)]
          · rw [if_neg h2, upd_n h2, upd_n h0, if_neg h4]; exact hg0 j hj
  rw [e6]
  by_cases hz : nd = 0
  · rw [if_pos ((nI_le0 (by omega)).mpr hz)]; exact key (-9) (by rw [if_pos hz])
  · rw [if_neg (fun z => hz ((nI_le0 (by omega)).mp z))]; exact key 0 (by rw [if_neg hz])
/-- the reference takes its draft -/
theorem td26 : ∀ (m i fl : Nat) (T : zS), i + m = 3 → m < fl → ∃ T', f_X6_takeDraft_26 fl T (nI i) = f_X6_takeDraft_53 zN T' 0 ∧ Fr (fun c j => c = 40 ∧ i ≤ j ∧ j < 3) T T' ∧ ∀ j, i ≤ j → j < 3 → T'.1 40 j = T.1 40 (3 + j) := by
  intro m
  induction m with
  | zero =>
    intro i fl T hi hf
    obtain ⟨fl, rfl⟩ : ∃ e, fl = e + 1 := ⟨fl - 1, by omega⟩
    refine ⟨T, ?_, Fr.rfl, fun j _ _ => by omega⟩
    rw [f_X6_takeDraft_26, L_3, if_pos ((nI_leI (by omega) (by omega)).mpr (by omega))]
  | succ m ih =>
    intro i fl T hi hf
    obtain ⟨fl, rfl⟩ : ∃ e, fl = e + 1 := ⟨fl - 1, by omega⟩
    have f1 : Fr (fun c j => c = 40 ∧ i ≤ j ∧ j < 3) T (zr T 40 (upd (T.1 40) i (T.1 40 (3 + i)))) := Fr_upd (by omega)
    obtain ⟨T', k1, k2, k3⟩ := ih (i + 1) fl (zr T 40 (upd (T.1 40) i (T.1 40 (3 + i)))) (by omega) (by omega)
    have kk : ∀ j, j ≤ i → f_X6_takeDraft_26 (fl + 1) T (nI i) = f_X6_takeDraft_26 fl (zr T 40 (upd (T.1 40) i (T.1 40 (3 + i)))) (nI (i + 1)) := fun j _ => by
      rw [f_X6_takeDraft_26, L_3, if_neg (fun z => by have := (nI_leI (by omega) (by omega)).mp z; omega), nI_add, if_pos (zin_nI (by omega) (by omega)), if_pos (zin_nI (by omega) (by omega)), cl (by omega), cl (by omega), nI_1]
    refine ⟨T', (kk i (Nat.le_refl _)).trans k1, f1.trans (k2.mono (fun c j z => by omega)), fun j h1 h2 => ?_⟩
    by_cases hj : j = i
    · subst hj
      rw [k2.1 40 j (by omega), zr_s, upd_s]
    · rw [k3 j (by omega) h2, zr_s, upd_n (by omega)]
theorem td53 : ∀ (m i fl : Nat) (T : zS), i + m = 28 → m < fl → ∃ T', f_X6_takeDraft_53 fl T (nI i) = f_X6_takeDraft_74 zN T' 0 ∧ Fr (fun c j => c = 41 ∧ i ≤ j ∧ j < 28) T T' ∧ ∀ j, i ≤ j → j < 28 → T'.1 41 j = 0 := by
  intro m
  induction m with
  | zero =>
    intro i fl T hi hf
    obtain ⟨fl, rfl⟩ : ∃ e, fl = e + 1 := ⟨fl - 1, by omega⟩
    refine ⟨T, ?_, Fr.rfl, fun j _ _ => by omega⟩
    rw [f_X6_takeDraft_53, L_28, if_pos ((nI_leI (by omega) (by omega)).mpr (by omega))]
  | succ m ih =>
    intro i fl T hi hf
    obtain ⟨fl, rfl⟩ : ∃ e, fl = e + 1 := ⟨fl - 1, by omega⟩
    have f1 : Fr (fun c j => c = 41 ∧ i ≤ j ∧ j < 28) T (zr T 41 (upd (T.1 41) i 0)) := Fr_upd (by omega)
    obtain ⟨T', k1, k2, k3⟩ := ih (i + 1) fl (zr T 41 (upd (T.1 41) i 0)) (by omega) (by omega)
    refine ⟨T', ?_, f1.trans (k2.mono (fun c j z => by omega)), fun j h1 h2 => ?_⟩
    · rw [f_X6_takeDraft_53, L_28, if_neg (fun z => by have := (nI_leI (by omega) (by omega)).mp z; omega), if_pos (zin_nI (by omega) (by omega)), cl (by omega), nI_1]; exact k1
    · by_cases hj : j = i
      · subst hj; rw [k2.1 41 j (by omega), zr_s, upd_s]
      · exact k3 j (by omega) h2
end TAKE
