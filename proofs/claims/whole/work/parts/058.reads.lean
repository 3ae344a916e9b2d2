section READS
variable {S : zS} {nv : Nat}
theorem zb2_some {α β γ : Type} (x : α) (y : β) (g : α → β → Option γ) : zb2 (some (x, y)) g = g x y := rfl
def OK1 (A B : Option Int32) : Prop := ∃ x, A = some x ∧ B = some x
theorem type_ok (hI : InvN nv S) (c : Int32) : OK2 nv (f_X5_type S c) (fun S => f_X6_type S c) := by
  obtain ⟨i1, i2, ⟨n, hn, hs, ht, htx⟩, i4, i5, i6⟩ := id hI
  unfold f_X5_type
  rcases isw c 0 255 with h0 | ⟨h1, hr⟩
  · rw [h0, Option.bind_some, if_pos rfl]
    refine ⟨_, S, S, rfl, ?_, hI⟩
    show f_X6_type S _ = _
    unfold f_X6_type
    rw [in_isw, h0, Option.bind_some, if_pos rfl]
  · obtain ⟨q, hq0, hq255, rfl⟩ := rng hr L_0 L_255 (by omega) (by omega)
    rw [h1, Option.bind_some, if_neg one_ne]
    unfold f_X3_append
    rw [hs, if_neg (nI_pos (by omega)), L_180]
    by_cases h180 : n = 180
    · rw [if_neg (fun z => by have := (nI_ltI (by omega) (by omega)).mp z; omega), zb2_some, if_pos rfl]
      refine ⟨_, S, S, rfl, ?_, hI⟩
      show f_X6_type S _ = _
      unfold f_X6_type
      rw [in_isw, h1, Option.bind_some, if_neg one_ne, ht, if_pos (by rw [h180]; rfl)]
    · rw [if_pos ((nI_ltI (by omega) (by omega)).mpr (by omega)), if_pos (zin_nI (by omega) (by omega)), cl (by omega), zb2_some, if_neg one_ne]
      have e1 : (zr S 2 (upd (S.1 2) n (nI q))).1 1 1 + 1 = nI (n + 1) := by
        show S.1 1 1 + 1 = _
        rw [hs, nI_1]
      rw [e1]
      generalize hS1 : zu (zr S 2 (upd (S.1 2) n (nI q))) 1 1 (nI (n + 1)) = S1
      have a1 : S1.1 31 2 = nI n := by rw [← hS1]; exact ht
      refine OK2.mk (y := nI (n + 1)) (S1 := S1) (S2 := zu (zr S1 32 (upd (S1.1 32) n (nI q).toInt8.toInt32)) 31 2 (nI (n + 1))) rfl ?_ ?_ ?_
      · show f_X6_type S1 _ = _
        unfold f_X6_type
        rw [in_isw, h1, Option.bind_some, if_neg one_ne, a1, L_180, if_neg (fun z => by have := (nI_eq (by omega) (by omega)).mp z; omega), if_pos (zin_nI (by omega) (by omega)), cl (by omega), pk_vb]
        have e2 : (zr S1 32 (upd (S1.1 32) n (nI q).toInt8.toInt32)).1 31 2 + 1 = nI (n + 1) := by
          show S1.1 31 2 + 1 = _
          rw [a1, nI_1]
        rw [e2]
        rfl
      · rw [← hS1]; rfl
      · rw [← hS1]
        refine ⟨i1, i2, ⟨n + 1, by omega, rfl, rfl, fun j hj => ?_⟩, ?_, i5, i6⟩
        · by_cases hjn : j = n
          · subst hjn
            exact ⟨q, by omega, if_pos rfl, if_pos rfl⟩
          · obtain ⟨c, hc, hc1, hc2⟩ := htx j (by omega)
            exact ⟨c, hc, (if_neg hjn).trans hc1, (if_neg hjn).trans hc2⟩
        · obtain ⟨M, T, bt, bd⟩ := S
          cases bt <;> exact i4
theorem clear_ok (hI : InvN nv S) : OK2 nv (f_X5_clear S) (fun S => f_X6_clear S) := by
  obtain ⟨i1, i2, ⟨n, hn, hs, ht, htx⟩, i4, i5, i6⟩ := hI
  refine OK2.mk (S1 := zu S 1 1 0) (S2 := zu (zu S 1 1 0) 31 2 0) rfl rfl (ht.trans hs.symm) ⟨i1, i2, ⟨0, by omega, rfl, rfl, fun j hj => absurd hj (by omega)⟩, ?_, i5, i6⟩
  obtain ⟨M, T, bt, bd⟩ := S
  cases bt <;> exact i4
theorem trace_ok (hI : InvN nv S) : ∃ x, f_X5_trace S = some x ∧ f_X6_trace S = some x := ⟨_, rfl, by show some (S.2.1 1) = _; rw [← hI.2.1]⟩
theorem count_ok (hI : InvN nv S) (w : Int32) : OK1 (f_X5_count S w) (f_X6_count S w) := by
  obtain ⟨hn6, hL, h33⟩ := inv_nv hI
  obtain ⟨m, hm1, hm9, hLm, hlm⟩ := inv_mouths hI
  obtain ⟨k0, hk0, -, h28, hsto⟩ := inv_sto hI
  obtain ⟨w', hw10, hLw, hlw⟩ := hI.2.2.2.1.2.2.2.2.2.1
  obtain ⟨n, hn, hs, ht, htx⟩ := hI.2.2.1
  have h7 := hI.2.2.2.1.2.2.2.1
  unfold f_X5_count f_X6_count
  by_cases h : w = 0
  · rw [if_pos h, if_pos h]; exact ⟨_, rfl, by rw [hL, h33]⟩
  rw [if_neg h, if_neg h]
  by_cases h : w = 1
  · rw [if_pos h, if_pos h]; exact ⟨_, rfl, by rw [h7]⟩
  rw [if_neg h, if_neg h]
  by_cases h : w = 2
  · rw [if_pos h, if_pos h]
    subst h
    exact ⟨_, rfl, by rw [hLm, if_pos (by decide)]; exact congrArg some hlm⟩
  rw [if_neg h, if_neg h]
  by_cases h : w = 3
  · rw [if_pos h, if_pos h]
    subst h
    exact ⟨_, rfl, by rw [hLw, if_pos (by decide)]; exact congrArg some hlw⟩
  rw [if_neg h, if_neg h]
  by_cases h : w = 4
  · rw [if_pos h, if_pos h]; exact ⟨_, rfl, by rw [h28, hsto.1]⟩
  rw [if_neg h, if_neg h]
  by_cases h : w = 5
  · rw [if_pos h, if_pos h]; exact ⟨_, rfl, by rw [hs, ht]⟩
  rw [if_neg h, if_neg h]
  exact ⟨_, rfl, rfl⟩
theorem far_ok (hI : InvN nv S) (a b : Int32) : OK1 (f_X5_far S a b) (f_X6_far S a b) := by
  obtain ⟨hn6, hL, h33⟩ := inv_nv hI
  obtain ⟨D, hD, hf, hw⟩ := inv_far hI
  unfold f_X5_far f_X6_far
  rcases vill a nv with ⟨k, hk, rfl⟩ | hv
  · rw [knows_in S _ hL hn6 hk, isv_in S h33 hn6 hk, Option.bind_some, Option.bind_some, if_neg one_ne, if_neg one_ne]
    rcases vill b nv with ⟨l, hl, rfl⟩ | hv
    · rw [knows_in S _ hL hn6 hl, isv_in S h33 hn6 hl, Option.bind_some, Option.bind_some, if_neg one_ne, if_neg one_ne, days_eq S _ hL hn6 hk hl, Option.bind_some, L_6, pk_mul, nI_add, if_pos (zin_nI (by omega) (by omega)), cl (by omega), hw k l (by omega) (by omega), hf k l (by omega) (by omega)]
      by_cases hc : nI (D k l) < 1000
      · rw [if_pos hc, if_pos hc, if_pos (zin_nI (by omega) (by omega))]; exact ⟨_, rfl, rfl⟩
      · rw [if_neg hc, if_neg hc]; exact ⟨_, rfl, rfl⟩
    · rw [knows_out S _ hL hn6 hv, isv_out S h33 hn6 hv, Option.bind_some, Option.bind_some, if_pos rfl, if_pos rfl]; exact ⟨_, rfl, rfl⟩
  · rw [knows_out S _ hL hn6 hv, isv_out S h33 hn6 hv, Option.bind_some, Option.bind_some, if_pos rfl, if_pos rfl]; exact ⟨_, rfl, rfl⟩
theorem owes_ok (hI : InvN nv S) (a b : Int32) : OK1 (f_X5_owes S a b) (f_X6_owes S a b) := by
  obtain ⟨hn6, hL, h33⟩ := inv_nv hI
  obtain ⟨O, hO, hw⟩ := inv_debt hI
  unfold f_X5_owes f_X6_owes
  rcases vill a nv with ⟨k, hk, rfl⟩ | hv
  · rw [knows_in S _ hL hn6 hk, isv_in S h33 hn6 hk, Option.bind_some, Option.bind_some, if_neg one_ne, if_neg one_ne]
    rcases vill b nv with ⟨l, hl, rfl⟩ | hv
    · rw [knows_in S _ hL hn6 hl, isv_in S h33 hn6 hl, Option.bind_some, Option.bind_some, if_neg one_ne, if_neg one_ne]
      by_cases hc : nI k = nI l
      · rw [if_pos hc, if_pos hc]; exact ⟨_, rfl, rfl⟩
      · rw [if_neg hc, if_neg hc, debt_eq S _ hL hn6 hk hl, Option.bind_some, L_6, pk_mul, nI_add, if_pos (zin_nI (by omega) (by omega)), cl (by omega), hw k l (by omega) (by omega), (hO k l (by omega) (by omega)).2]
        exact ⟨_, rfl, rfl⟩
    · rw [knows_out S _ hL hn6 hv, isv_out S h33 hn6 hv, Option.bind_some, Option.bind_some, if_pos rfl, if_pos rfl]; exact ⟨_, rfl, rfl⟩
  · rw [knows_out S _ hL hn6 hv, isv_out S h33 hn6 hv, Option.bind_some, Option.bind_some, if_pos rfl, if_pos rfl]; exact ⟨_, rfl, rfl⟩
/-- what a village can spare -/
def spN (S : zS) (k : Nat) : Nat := if S.1 36 k = 1 then 0 else min (S.1 41 (4 + k)).toNatClampNeg ((S.1 41 (4 + k)).toNatClampNeg + (S.1 41 (10 + k)).toNatClampNeg - (S.1 35 k).toNatClampNeg)
theorem inv_hens (hI : InvN nv S) {k : Nat} (hk : k < nv) : ∃ s h x : Nat, s + h ≤ 60 ∧ x ≤ 60 ∧ S.1 41 (4 + k) = nI s ∧ S.1 41 (10 + k) = nI h ∧ S.1 35 k = nI x ∧ S.1 (lr S.2.2.1 + 2) k = nI x := by
  obtain ⟨s, h, hsum, hs, hh⟩ := (inv_mom hI).2.2.2.2 k (by have := (inv_nv hI).1; omega)
  obtain ⟨e, x, hx, hxx⟩ := hI.2.2.2.1.2.2.2.2.2.2.1 k hk
  exact ⟨s, h, x, hsum, hx, hs, hh, hxx, e.trans hxx⟩
theorem spN_le (hI : InvN nv S) {k : Nat} (hk : k < nv) : spN S k ≤ 60 := by
  obtain ⟨s, h, x, hsum, hx, hs, hh, hxx, -⟩ := inv_hens hI hk
  unfold spN
  rw [hs, hh, hxx, cl (by omega), cl (by omega), cl (by omega)]
  split <;> omega
theorem spareR (hI : InvN nv S) {k : Nat} (hk : k < nv) : f_X6_spare S (nI k) = some (nI (spN S k)) := by
  obtain ⟨s, h, x, hsum, hx, hs, hh, hxx, -⟩ := inv_hens hI hk
  have hn6 := (inv_nv hI).1
  have hch := (hI.2.2.2.1.2.2.2.2.2.2.2.1 k hk).2
  unfold f_X6_spare f_X6_spare_51 spN
  rw [L_4, L_10, nI_add, nI_add]
  simp only [if_pos (zin_nI (show 4 + k < 927 by omega) (by omega)), if_pos (zin_nI (show 10 + k < 927 by omega) (by omega)), if_pos (zin_nI (show k < 12 by omega) (by omega))]
  rw [cl (by omega), cl (by omega), cl (by omega), hs, hh, hxx, cl (by omega), cl (by omega), cl (by omega), nI_add]
  have eo : (nI (s + h) - nI x).toInt = (s + h : Int) - x := by
    rw [i_sub (by rw [nI_i (by omega), nI_i (by omega)]; omega) (by rw [nI_i (by omega), nI_i (by omega)]; omega), nI_i (by omega), nI_i (by omega)]; omega
  by_cases hc1 : S.1 36 k = 1
  · simp only [if_pos hc1]
    split <;> rfl
  · simp only [if_neg hc1]
    by_cases hc : nI s ≤ nI (s + h) - nI x
    · rw [if_pos hc, if_pos (nI_pos' (by omega))]
      rw [i_le, eo, nI_i (by omega)] at hc
      exact congrArg (fun z => some (nI z)) (by omega)
    · rw [if_neg hc]
      rw [i_le, eo, nI_i (by omega)] at hc
      by_cases hz : (0 : Int32) ≤ nI (s + h) - nI x
      · rw [if_pos hz]
        rw [i_le, eo, show (0 : Int32).toInt = 0 from rfl] at hz
        rw [pk_sub (by omega)]
        exact congrArg (fun z => some (nI z)) (by omega)
      · rw [if_neg hz]
        rw [i_le, eo, show (0 : Int32).toInt = 0 from rfl] at hz
        exact congrArg some (show nI 0 = nI _ from congrArg nI (by omega))
theorem spareC (hI : InvN nv S) {k : Nat} (hk : k < nv) : f_X5_spareOf S (nI k) = some (nI (spN S k)) := by
  obtain ⟨s, h, x, hsum, hx, hs, hh, hxx, hLx⟩ := inv_hens hI hk
  obtain ⟨hn6, hL, h33⟩ := inv_nv hI
  have hch := (hI.2.2.2.1.2.2.2.2.2.2.2.1 k hk)
  unfold f_X5_spareOf spN
  rw [charter_eq S _ hL hn6 hk, Option.bind_some, hch.1]
  by_cases hc1 : S.1 36 k = 1
  · rw [if_pos hc1, if_neg one_ne, if_pos hc1]; rfl
  · rw [if_neg hc1, if_pos rfl, if_neg hc1, L_4, L_10, nI_add, nI_add, get_eq S 3 (by omega), Option.bind_some, get_eq S 3 (by omega), Option.bind_some, need_eq S _ hL hn6 hk, Option.bind_some, show S.1 (3 + 1) (4 + k) = nI s from (inv_e41 hI _ (by omega)).trans hs, show S.1 (3 + 1) (10 + k) = nI h from (inv_e41 hI _ (by omega)).trans hh, hs, hh, hxx, hLx, cl (by omega), cl (by omega), cl (by omega), nI_add]
    have eo : (nI (s + h) - nI x).toInt = (s + h : Int) - x := by
      rw [i_sub (by rw [nI_i (by omega), nI_i (by omega)]; omega) (by rw [nI_i (by omega), nI_i (by omega)]; omega), nI_i (by omega), nI_i (by omega)]; omega
    by_cases hc : nI (s + h) - nI x < nI s
    · rw [if_pos hc]
      rw [i_lt, eo, nI_i (by omega)] at hc
      by_cases hz : 0 < nI (s + h) - nI x
      · rw [if_pos hz]
        rw [i_lt, eo, show (0 : Int32).toInt = 0 from rfl] at hz
        rw [pk_sub (by omega)]
        exact congrArg (fun z => some (nI z)) (by omega)
      · rw [if_neg hz]
        rw [i_lt, eo, show (0 : Int32).toInt = 0 from rfl] at hz
        exact congrArg some (show nI 0 = nI _ from congrArg nI (by omega))
    · rw [if_neg hc]
      rw [i_lt, eo, nI_i (by omega)] at hc
      by_cases hz : 0 < nI s
      · rw [if_pos hz]
        exact congrArg (fun z => some (nI z)) (by omega)
      · rw [if_neg hz]
        rw [i_lt, nI_i (by omega), show (0 : Int32).toInt = 0 from rfl] at hz
        exact congrArg some (show nI 0 = nI _ from congrArg nI (by omega))
theorem village_ok (hI : InvN nv S) (v w : Int32) : OK1 (f_X5_village S v w) (f_X6_village S v w) := by
  obtain ⟨hn6, hL, h33⟩ := inv_nv hI
  unfold f_X5_village f_X6_village
  rcases vill v nv with ⟨k, hk, rfl⟩ | hv
  · obtain ⟨s, h, x, hsum, hx, hs, hh, hxx, hLx⟩ := inv_hens hI hk
    have hch := (hI.2.2.2.1.2.2.2.2.2.2.2.1 k hk)
    rw [knows_in S _ hL hn6 hk, isv_in S h33 hn6 hk, Option.bind_some, Option.bind_some, if_neg one_ne, if_neg one_ne]
    have hget : ∀ o : Nat, o + 6 ≤ 28 → f_X2_get S 3 (nI (o + k)) = some (S.1 41 (o + k)) := fun o ho => by
      rw [get_eq S 3 (by omega)]; exact congrArg some (inv_e41 hI _ (by omega))
    by_cases h : w = 0
    · rw [if_pos h, if_pos h, L_4, nI_add, hget 4 (by omega), if_pos (zin_nI (by omega) (by omega)), cl (by omega)]; exact ⟨_, rfl, rfl⟩
    rw [if_neg h, if_neg h]
    by_cases h : w = 1
    · rw [if_pos h, if_pos h, L_10, nI_add, hget 10 (by omega), if_pos (zin_nI (by omega) (by omega)), cl (by omega)]; exact ⟨_, rfl, rfl⟩
    rw [if_neg h, if_neg h]
    by_cases h : w = 2
    · rw [if_pos h, if_pos h, need_eq S _ hL hn6 hk, hLx, if_pos (zin_nI (by omega) (by omega)), cl (by omega), hxx]; exact ⟨_, rfl, rfl⟩
    rw [if_neg h, if_neg h]
    by_cases h : w = 3
    · rw [if_pos h, if_pos h, charter_eq S _ hL hn6 hk, hch.1, Option.bind_some, if_pos (zin_nI (by omega) (by omega)), cl (by omega)]
      rcases hch.2 with hc | hc
      · rw [hc]; exact ⟨_, rfl, rfl⟩
      · rw [hc]; exact ⟨_, rfl, rfl⟩
    rw [if_neg h, if_neg h]
    by_cases h : w = 4
    · rw [if_pos h, if_pos h, L_16, nI_add, hget 16 (by omega), if_pos (zin_nI (by omega) (by omega)), cl (by omega)]; exact ⟨_, rfl, rfl⟩
    rw [if_neg h, if_neg h]
    by_cases h : w = 5
    · rw [if_pos h, if_pos h, L_22, nI_add, hget 22 (by omega), if_pos (zin_nI (by omega) (by omega)), cl (by omega)]; exact ⟨_, rfl, rfl⟩
    rw [if_neg h, if_neg h]
    by_cases h : w = 6
    · rw [if_pos h, if_pos h, spareC hI hk, spareR hI hk]; exact ⟨_, rfl, rfl⟩
    rw [if_neg h, if_neg h]
    exact ⟨_, rfl, rfl⟩
  · rw [knows_out S _ hL hn6 hv, isv_out S h33 hn6 hv, Option.bind_some, Option.bind_some, if_pos rfl, if_pos rfl]; exact ⟨_, rfl, rfl⟩
end READS
