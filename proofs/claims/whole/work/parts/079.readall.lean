section READALL
variable {S T : zS} {n p r nd : Nat} {bt : Nat → Nat}
theorem read_loop (hr : 17 ≤ r) : ∀ (t p a nd fl fl' : Nat) (S T : zS), n ≤ p + t → t < fl → t + 1 < fl' → 2 * a ≤ p → Sim n p bt S T → DR r nd S T →
    (∃ st S' T', st < 1000 ∧ f_X0_readAll_10 r fl S (nI a) = some (-10 - nI st, S') ∧ f_X6_land_21 fl' T (nI a) = some (-10 - nI st, T') ∧ Fr (KC r) S S' ∧ Fr KR T T') ∨
    (∃ a' S' T' nd', a' ≤ 180 ∧ f_X0_readAll_10 r fl S (nI a) = f_X0_readAll_46 r S' (nI a') ∧ f_X6_land_21 fl' T (nI a) = f_X6_land_91 T' (nI a') ∧ T'.1 31 16 = -9 ∧ DR r nd' S' T' ∧ Fr (KC r) S S' ∧ Fr KR T T') := by
  intro t
  induction t with
  | zero =>
    intro p a nd fl fl' S T h1 h2 h3 h4 h hDR
    obtain ⟨fl, rfl⟩ : ∃ e, fl = e + 1 := ⟨fl - 1, by omega⟩
    obtain ⟨fl', rfl⟩ : ∃ e, fl' = e + 1 := ⟨fl' - 1, by omega⟩
    have hs := h
    obtain ⟨hS, hT, ⟨st, p', k1, k2, k3, k4, k5, k6, k7, k8⟩, h16⟩ := hs
    have hn := hS.1
    rcases k8 with ⟨q1, q2⟩ | ⟨hpp, -⟩
    · refine Or.inr ⟨a, S, T, nd, by omega, ?_, ?_, h16, hDR, Fr.rfl, Fr.rfl⟩
      · rw [f_X0_readAll_10, L_180, if_neg (fun z => by have := (nI_leI (by omega) (by omega)).mp z; omega), if_pos q1]
      · rw [f_X6_land_21, if_pos h16, if_pos q2]
    · omega
  | succ t ih =>
    intro p a nd fl fl' S T h1 h2 h3 h4 h hDR
    obtain ⟨fl, rfl⟩ : ∃ e, fl = e + 1 := ⟨fl - 1, by omega⟩
    obtain ⟨fl', rfl⟩ : ∃ e, fl' = e + 2 := ⟨fl' - 2, by omega⟩
    have hs := h
    obtain ⟨hS, hT, ⟨st, p', k1, k2, k3, k4, k5, k6, k7, k8⟩, h16⟩ := hs
    have hn := hS.1
    have e180 : ¬ nI 180 ≤ nI a := fun z => by have := (nI_leI (by omega) (by omega)).mp z; omega
    by_cases h0 : S.1 1 4 = 0
    · have q2 : T.1 31 14 = 3 := by
        rcases k8 with ⟨-, q2⟩ | ⟨hpp, ⟨q1, -⟩ | ⟨q1, -⟩ | ⟨q1, -⟩ | ⟨q1, -⟩ | ⟨q1, -⟩⟩
        · exact q2
        all_goals (rw [h0] at q1; exact absurd q1 (by decide))
      refine Or.inr ⟨a, S, T, nd, by omega, ?_, ?_, h16, hDR, Fr.rfl, Fr.rfl⟩
      · rw [f_X0_readAll_10, L_180, if_neg e180, if_pos h0]
      · rw [f_X6_land_21, if_pos h16, if_pos q2]
    · have eC : f_X0_readAll_10 r (fl + 1) S (nI a) = zb2 (f_X0_readItem S r) (fun x4 S5 => if x4 = 0 then some ((-10 : Int32) - (S5.1 1 3), S5) else f_X0_readAll_10 r fl S5 (nI (a + 1))) := by
        rw [f_X0_readAll_10, L_180, if_neg e180, if_neg h0, nI_1]
      rcases item_sim hr h hDR h0 fl' (nI a) with ⟨s2, S', T', g1, g2, g3, g4, g5, g6⟩ | ⟨S', T', nd', p2, g1, g2, g3, g4, g5, g6, g7⟩
      · refine Or.inl ⟨s2, S', T', g1, ?_, g4, g5, g6⟩
        rw [eC, g2, zb2_some, if_pos rfl, g3]
      · rw [nI_1] at g3
        rcases ih p2 (a + 1) nd' fl (fl' + 1) S' T' (by omega) (by omega) (by omega) (by omega) g6 g7 with ⟨s2, S2, T2, w1, w2, w3, w4, w5⟩ | ⟨a', S2, T2, nd2, w1, w2, w3, w4, w5, w6, w7⟩
        · exact Or.inl ⟨s2, S2, T2, w1, by rw [eC, g2, zb2_some, if_neg one_ne]; exact w2, g3.trans w3, g4.trans w4, g5.trans w5⟩
        · exact Or.inr ⟨a', S2, T2, nd2, w1, by rw [eC, g2, zb2_some, if_neg one_ne]; exact w2, g3.trans w3, w4, w5, g4.trans w6, g5.trans w7⟩
/-- the plain drafts -/
theorem empty_loop (hr : 17 ≤ r) : ∀ (m i fl : Nat) (S : zS), i + m = 6 → m < fl → ∃ S', f_X0_empty_51 r fl S (nI i) = some S' ∧ Fr (fun c _ => c = r + 4) S S' ∧ ∀ j, S'.1 (r + 4) j = (if (i ≤ j / 7 ∧ j / 7 < 6 ∧ j = 7 * (j / 7)) then 0 else S.1 (r + 4) j) := by
  intro m
  induction m with
  | zero =>
    intro i fl S h1 h2
    obtain ⟨fl, rfl⟩ : ∃ e, fl = e + 1 := ⟨fl - 1, by omega⟩
    refine ⟨S, ?_, Fr.rfl, fun j => by rw [if_neg (by omega)]⟩
    rw [f_X0_empty_51, L_6, if_pos ((nI_leI (by omega) (by omega)).mpr (by omega))]
  | succ m ih =>
    intro i fl S h1 h2
    obtain ⟨fl, rfl⟩ : ∃ e, fl = e + 1 := ⟨fl - 1, by omega⟩
    obtain ⟨S', k1, k2, k3⟩ := ih (i + 1) fl (zr S (r + 4) (upd (S.1 (r + 4)) (6 * i + i) 0)) (by omega) (by omega)
    refine ⟨S', ?_, Fr.trans (Fr_upd rfl) k2, fun j => ?_⟩
    · rw [f_X0_empty_51, L_6, if_neg (fun z => by have := (nI_leI (by omega) (by omega)).mp z; omega), ← L_6, ix_c, if_pos (zin_nI (by omega) (by omega)), cl (by omega), nI_1]; exact k1
    · rw [k3 j, zr_s]
      by_cases hj : j = 6 * i + i
      · rw [if_neg (by omega), hj, upd_s, if_pos (by omega)]
      · rw [upd_n hj]
        by_cases hc : i + 1 ≤ j / 7 ∧ j / 7 < 6 ∧ j = 7 * (j / 7)
        · rw [if_pos hc, if_pos (by omega)]
        · rw [if_neg hc, if_neg (by omega)]
theorem empty_ok (hr : 17 ≤ r) (S : zS) : ∃ S2, f_X0_empty S r = some S2 ∧ Fr (fun c _ => r ≤ c ∧ c ≤ r + 6) S S2 ∧ S2.1 r 6 = 0 ∧ S2.1 r 7 = 0 ∧ S2.1 r 8 = 3 ∧ S2.1 r 9 = 8 ∧ S2.1 r 10 = 0 ∧ S2.1 r 11 = 0 ∧ (∀ j, j < 36 → S2.1 (r + 5) j = 0) ∧ ∀ a b, a < 6 → b < 6 → S2.1 (r + 4) (6 * a + b) = (if a = b then 0 else 1000) := by
  unfold f_X0_empty
  rw [fill_eq _ _ _ _ (by omega), Option.bind_some, fill_eq _ _ _ _ (by omega), Option.bind_some]
  generalize hS0 : zu (zu (zu (zu (zu (zu S r 6 (0 : Int32)) r 7 (0 : Int32)) r 8 (3 : Int32)) r 9 (8 : Int32)) r 10 (0 : Int32)) r 11 (0 : Int32) = S0
  have f0 : Fr (fun c _ => r ≤ c ∧ c ≤ r + 6) S S0 := by
    rw [← hS0]
    exact Fr.trans (Fr_zu (by omega)) (Fr.trans (Fr_zu (by omega)) (Fr.trans (Fr_zu (by omega)) (Fr.trans (Fr_zu (by omega)) (Fr.trans (Fr_zu (by omega)) (Fr_zu (by omega))))))
  obtain ⟨S', k1, k2, k3⟩ := empty_loop hr 6 0 zN (zr (zr S0 (r + 5) (fun j => if j < 36 then 0 else S0.1 (r + 5) j)) (r + 4) (fun j => if j < 36 then 1000 else (zr S0 (r + 5) (fun j => if j < 36 then 0 else S0.1 (r + 5) j)).1 (r + 4) j)) (by omega) (by have := zN_big; omega)
  have f1 : Fr (fun c _ => r ≤ c ∧ c ≤ r + 6) S0 (zr (zr S0 (r + 5) (fun j => if j < 36 then 0 else S0.1 (r + 5) j)) (r + 4) (fun j => if j < 36 then 1000 else (zr S0 (r + 5) (fun j => if j < 36 then 0 else S0.1 (r + 5) j)).1 (r + 4) j)) := ⟨fun c j q => by rw [zr_n (by omega), zr_n (by omega)], rfl⟩
  refine ⟨S', k1, f0.trans (f1.trans (k2.mono (fun c j q => by omega))), ?_, ?_, ?_, ?_, ?_, ?_, fun j hj => ?_, fun a b ha hb => ?_⟩
  · rw [k2.1 r 6 (by omega), zr_n (by omega), zr_n (by omega), ← hS0, zu_off (Or.inr (by decide)), zu_off (Or.inr (by decide)), zu_off (Or.inr (by decide)), zu_off (Or.inr (by decide)), zu_off (Or.inr (by decide)), zu_at]
  · rw [k2.1 r 7 (by omega), zr_n (by omega), zr_n (by omega), ← hS0, zu_off (Or.inr (by decide)), zu_off (Or.inr (by decide)), zu_off (Or.inr (by decide)), zu_off (Or.inr (by decide)), zu_at]
  · rw [k2.1 r 8 (by omega), zr_n (by omega), zr_n (by omega), ← hS0, zu_off (Or.inr (by decide)), zu_off (Or.inr (by decide)), zu_off (Or.inr (by decide)), zu_at]
  · rw [k2.1 r 9 (by omega), zr_n (by omega), zr_n (by omega), ← hS0, zu_off (Or.inr (by decide)), zu_off (Or.inr (by decide)), zu_at]
  · rw [k2.1 r 10 (by omega), zr_n (by omega), zr_n (by omega), ← hS0, zu_off (Or.inr (by decide)), zu_at]
  · rw [k2.1 r 11 (by omega), zr_n (by omega), zr_n (by omega), ← hS0, zu_at]
  · rw [k2.1 (r + 5) j (by omega), zr_n (by omega), zr_s]; exact if_pos hj
  · rw [k3, zr_s]
    by_cases hab : a = b
    · subst hab; rw [if_pos rfl, if_pos (by omega)]
    · rw [if_neg hab, if_neg (by omega)]; exact if_pos (by omega)
theorem diag36 : ∀ a, a < 36 → (nI a / 6 = nI a - nI a / 6 * 6 ↔ a / 6 = a % 6) := by decide +kernel
theorem plain_loop : ∀ (m i fl : Nat) (T : zS), i + m = 36 → m < fl → ∃ T', f_X6_plain_43 fl T (nI i) = some T' ∧ Fr (fun c j => (c = 38 ∨ c = 39) ∧ 36 + i ≤ j) T T' ∧ ∀ j, i ≤ j → j < 36 → T'.1 38 (36 + j) = (if j / 6 = j % 6 then 0 else 1000) ∧ T'.1 39 (36 + j) = 0 := by
  intro m
  induction m with
  | zero =>
    intro i fl T h1 h2
    obtain ⟨fl, rfl⟩ : ∃ e, fl = e + 1 := ⟨fl - 1, by omega⟩
    refine ⟨T, ?_, Fr.rfl, fun j _ _ => by omega⟩
    rw [f_X6_plain_43, L_36, if_pos ((nI_leI (by omega) (by omega)).mpr (by omega))]
  | succ m ih =>
    intro i fl T h1 h2
    obtain ⟨fl, rfl⟩ : ∃ e, fl = e + 1 := ⟨fl - 1, by omega⟩
    obtain ⟨T', k1, k2, k3⟩ := ih (i + 1) fl (zr (zr T 38 (upd (T.1 38) (36 + i) (if i / 6 = i % 6 then 0 else 1000))) 39 (upd (T.1 39) (36 + i) 0)) (by omega) (by omega)
    refine ⟨T', ?_, ?_, fun j h3 h4 => ?_⟩
    · rw [f_X6_plain_43, L_36, if_neg (fun z => by have := (nI_leI (by omega) (by omega)).mp z; omega)]
      unfold f_X6_plain_76
      rw [L_36, nI_add, if_pos (zin_nI (by omega) (by omega)), if_pos (zin_nI (by omega) (by omega)), cl (by omega), nI_1]
      by_cases hd : i / 6 = i % 6
      · rw [if_pos ((diag36 i (by omega)).mpr hd), zr_n (show (39 : Nat) ≠ 38 by decide)]
        rw [if_pos hd] at k1
        exact k1
      · rw [if_neg (fun z => hd ((diag36 i (by omega)).mp z)), zr_n (show (39 : Nat) ≠ 38 by decide), if_pos (zin_nI (by omega) (by omega)), if_pos (zin_nI (by omega) (by omega))]
        rw [if_neg hd] at k1
        exact k1
    · refine Fr.trans (S' := zr (zr T 38 (upd (T.1 38) (36 + i) (if i / 6 = i % 6 then 0 else 1000))) 39 (upd (T.1 39) (36 + i) 0)) ⟨fun c j q => ?_, rfl⟩ (k2.mono (fun c j q => ⟨q.1, by have := q.2; omega⟩))
      by_cases c39 : c = 39
      · subst c39; rw [zr_s, upd_n (by omega)]
      · rw [zr_n c39]
        by_cases c38 : c = 38
        · subst c38; rw [zr_s, upd_n (by omega)]
        · rw [zr_n c38]
    · by_cases hj : j = i
      · subst hj
        rw [k2.1 38 (36 + j) (by omega), k2.1 39 (36 + j) (by omega), zr_n (by decide), zr_s, upd_s, zr_s, upd_s]
        exact ⟨rfl, rfl⟩
      · exact k3 j (by omega) h4
theorem plain_ok (T : zS) : ∃ T2, f_X6_plain T = some T2 ∧ Fr KD T T2 ∧ T2.1 33 1 = 0 ∧ T2.1 37 1 = 0 ∧ T2.1 40 3 = 3 ∧ T2.1 40 4 = 8 ∧ T2.1 40 5 = 0 ∧ T2.1 31 11 = 0 ∧ ∀ a b, a < 6 → b < 6 → T2.1 38 (36 + (6 * a + b)) = (if a = b then 0 else 1000) ∧ T2.1 39 (36 + (6 * a + b)) = 0 := by
  have e : f_X6_plain T = f_X6_plain_43 zN (zu (zu (zu (zu (zu (zu T 33 1 0) 37 1 0) 40 3 3) 40 4 8) 40 5 0) 31 11 0) 0 := by
    unfold f_X6_plain
    rw [← zu_zr, ← zu_zr, ← zu_zr, ← zu_zr, ← zu_zr]
  rw [e]
  generalize hT0 : zu (zu (zu (zu (zu (zu T 33 1 0) 37 1 0) 40 3 3) 40 4 8) 40 5 0) 31 11 0 = T0
  have f0 : Fr KD T T0 := by
    rw [← hT0]
    exact Fr.trans (Fr_zu (by unfold KD; omega)) (Fr.trans (Fr_zu (by unfold KD; omega)) (Fr.trans (Fr_zu (by unfold KD; omega)) (Fr.trans (Fr_zu (by unfold KD; omega)) (Fr.trans (Fr_zu (by unfold KD; omega)) (Fr_zu (by unfold KD; omega))))))
  obtain ⟨T', k1, k2, k3⟩ := plain_loop 36 0 zN T0 (by omega) (by have := zN_big; omega)
  refine ⟨T', k1, f0.trans (k2.mono (fun c j q => by unfold KD; omega)), ?_, ?_, ?_, ?_, ?_, ?_, fun a b ha hb => ?_⟩
  · rw [k2.1 33 1 (by omega), ← hT0]; rfl
  · rw [k2.1 37 1 (by omega), ← hT0]; rfl
  · rw [k2.1 40 3 (by omega), ← hT0]; rfl
  · rw [k2.1 40 4 (by omega), ← hT0]; rfl
  · rw [k2.1 40 5 (by omega), ← hT0]; rfl
  · rw [k2.1 31 11 (by omega), ← hT0]; rfl
  · have := k3 (6 * a + b) (by omega) (by omega)
    refine ⟨?_, this.2⟩
    rw [this.1]
    by_cases hab : a = b
    · rw [if_pos (by omega), if_pos hab]
    · rw [if_neg (by omega), if_neg hab]
theorem DR_plain {S2 T2 : zS} (h6 : S2.1 r 6 = 0) (h7 : S2.1 r 7 = 0) (h8 : S2.1 r 8 = 3) (h9 : S2.1 r 9 = 8) (h10 : S2.1 r 10 = 0) (h11 : S2.1 r 11 = 0) (hO : ∀ j, j < 36 → S2.1 (r + 5) j = 0) (hW : ∀ a b, a < 6 → b < 6 → S2.1 (r + 4) (6 * a + b) = (if a = b then 0 else 1000)) (g33 : T2.1 33 1 = 0) (g37 : T2.1 37 1 = 0) (g3 : T2.1 40 3 = 3) (g4 : T2.1 40 4 = 8) (g5 : T2.1 40 5 = 0) (g11 : T2.1 31 11 = 0) (gW : ∀ a b, a < 6 → b < 6 → T2.1 38 (36 + (6 * a + b)) = (if a = b then 0 else 1000) ∧ T2.1 39 (36 + (6 * a + b)) = 0) : DR r 0 S2 T2 := by
  refine ⟨by omega, ⟨h6, g33, fun v hv => by omega⟩, ⟨0, by omega, by omega, h7, g37⟩, ⟨3, by omega, by omega, h8, g3⟩, ⟨8, by omega, by omega, h9, g4⟩, ⟨0, by omega, by omega, h10, g5⟩, ⟨false, false, false, h11, g11⟩, ⟨fun a b => if a = b then 0 else 1000, ⟨fun a _ => if_pos rfl, fun a b _ _ h => Or.inr (if_neg h), fun a b _ _ => ?_, fun a b _ _ h _ => if_neg h⟩, fun a b ha hb => ⟨?_, ?_⟩⟩, ⟨fun _ _ => 0, fun a b ha hb => ⟨Nat.zero_le _, hO _ (by omega), (gW a b ha hb).2⟩⟩⟩
  · show (if a = b then 0 else 1000) = (if b = a then 0 else 1000)
    by_cases h : a = b
    · rw [if_pos h, if_pos h.symm]
    · rw [if_neg h, if_neg (fun z => h z.symm)]
  · show _ = nI (if a = b then 0 else 1000)
    rw [hW a b ha hb]
    by_cases h : a = b
    · rw [if_pos h, if_pos h]; rfl
    · rw [if_neg h, if_neg h]; rfl
  · show _ = nI (if a = b then 0 else 1000)
    rw [(gW a b ha hb).1]
    by_cases h : a = b
    · rw [if_pos h, if_pos h]; rfl
    · rw [if_neg h, if_neg h]; rfl
end READALL
