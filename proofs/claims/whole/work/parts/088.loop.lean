/-! the law: its loop -/
section LAW2
variable {S : zS} {len : Nat} {xs : Nat → Int32} {k18 : zS → Int32 → Option (Int32 × zS)} {a3 : Int32}
theorem s_trace (hI : Inv S) : Step k18 a3 (f_law_891 k18 len xs S a3) := by
  obtain ⟨nv, hI⟩ := hI
  obtain ⟨x, e1, e2⟩ := trace_ok hI
  unfold f_law_891 f_law_905
  refine ⟨S, ?_, nv, hI⟩
  rw [e1, Option.bind_some, e2, Option.bind_some, if_pos]
  unfold lg_cmp
  simp
theorem s_none (hI : Inv S) : Step k18 a3 (f_law_905 k18 len xs S a3) := ⟨S, rfl, hI⟩
set_option maxRecDepth 100000 in
set_option maxHeartbeats 4000000 in
theorem s_all (n : Nat) (hI : Inv S) (h0 : zin a3 len) (h1 : zin (a3 + (1 : Int32)) len) (h2 : zin (a3 + (2 : Int32)) len) (h3 : zin (a3 + (3 : Int32)) len) (hg : ¬ ((nI len) - (4 : Int32)) < a3) : Step (f_law_18 len xs n) a3 (f_law_18 len xs (n + 1) S a3) := by
  rw [f_law_18, if_neg hg, if_pos h0]
  by_cases c0 : ((xs (a3).toNatClampNeg) &&& (31 : Int32)) = 0
  · rw [if_pos c0]; exact s_type hI h1
  rw [if_neg c0]
  by_cases c1 : ((xs (a3).toNatClampNeg) &&& (31 : Int32)) = 1
  · rw [if_pos c1]; exact s_clear hI 
  rw [if_neg c1]
  by_cases c2 : ((xs (a3).toNatClampNeg) &&& (31 : Int32)) = 2
  · rw [if_pos c2]; exact s_land hI 
  rw [if_neg c2]
  by_cases c3 : ((xs (a3).toNatClampNeg) &&& (31 : Int32)) = 3
  · rw [if_pos c3]; exact s_village hI h1 h2
  rw [if_neg c3]
  by_cases c4 : ((xs (a3).toNatClampNeg) &&& (31 : Int32)) = 4
  · rw [if_pos c4]; exact s_far hI h1 h2
  rw [if_neg c4]
  by_cases c5 : ((xs (a3).toNatClampNeg) &&& (31 : Int32)) = 5
  · rw [if_pos c5]; exact s_owes hI h1 h2
  rw [if_neg c5]
  by_cases c6 : ((xs (a3).toNatClampNeg) &&& (31 : Int32)) = 6
  · rw [if_pos c6]; exact s_goes hI h1
  rw [if_neg c6]
  by_cases c7 : ((xs (a3).toNatClampNeg) &&& (31 : Int32)) = 7
  · rw [if_pos c7]; exact s_stays hI 
  rw [if_neg c7]
  by_cases c8 : ((xs (a3).toNatClampNeg) &&& (31 : Int32)) = 8
  · rw [if_pos c8]; exact s_takes hI h1
  rw [if_neg c8]
  by_cases c9 : ((xs (a3).toNatClampNeg) &&& (31 : Int32)) = 9
  · rw [if_pos c9]; exact s_hides hI h1 h2
  rw [if_neg c9]
  by_cases c10 : ((xs (a3).toNatClampNeg) &&& (31 : Int32)) = 10
  · rw [if_pos c10]; exact s_shows hI h1 h2
  rw [if_neg c10]
  by_cases c11 : ((xs (a3).toNatClampNeg) &&& (31 : Int32)) = 11
  · rw [if_pos c11]; exact s_pays hI h1
  rw [if_neg c11]
  by_cases c12 : ((xs (a3).toNatClampNeg) &&& (31 : Int32)) = 12
  · rw [if_pos c12]; exact s_sells hI h1 h2
  rw [if_neg c12]
  by_cases c13 : ((xs (a3).toNatClampNeg) &&& (31 : Int32)) = 13
  · rw [if_pos c13]; exact s_undo hI 
  rw [if_neg c13]
  by_cases c14 : ((xs (a3).toNatClampNeg) &&& (31 : Int32)) = 14
  · rw [if_pos c14]; exact s_now hI h1
  rw [if_neg c14]
  by_cases c15 : ((xs (a3).toNatClampNeg) &&& (31 : Int32)) = 15
  · rw [if_pos c15]; exact s_tour hI h1 h2
  rw [if_neg c15]
  by_cases c16 : ((xs (a3).toNatClampNeg) &&& (31 : Int32)) = 16
  · rw [if_pos c16]; exact s_from hI h1
  rw [if_neg c16]
  by_cases c17 : ((xs (a3).toNatClampNeg) &&& (31 : Int32)) = 17
  · rw [if_pos c17]; exact s_had hI h1 h2
  rw [if_neg c17]
  by_cases c18 : ((xs (a3).toNatClampNeg) &&& (31 : Int32)) = 18
  · rw [if_pos c18]; exact s_odds hI h1 h2 h3
  rw [if_neg c18]
  by_cases c19 : ((xs (a3).toNatClampNeg) &&& (31 : Int32)) = 19
  · rw [if_pos c19]; exact s_rests hI h1 h2 h3
  rw [if_neg c19]
  by_cases c20 : ((xs (a3).toNatClampNeg) &&& (31 : Int32)) = 20
  · rw [if_pos c20]; exact s_mixed hI h1 h2 h3
  rw [if_neg c20]
  by_cases c21 : ((xs (a3).toNatClampNeg) &&& (31 : Int32)) = 21
  · rw [if_pos c21]; exact s_ring hI h1
  rw [if_neg c21]
  by_cases c22 : ((xs (a3).toNatClampNeg) &&& (31 : Int32)) = 22
  · rw [if_pos c22]; exact s_net hI h1
  rw [if_neg c22]
  by_cases c23 : ((xs (a3).toNatClampNeg) &&& (31 : Int32)) = 23
  · rw [if_pos c23]; exact s_mark hI h1 h2
  rw [if_neg c23]
  by_cases c24 : ((xs (a3).toNatClampNeg) &&& (31 : Int32)) = 24
  · rw [if_pos c24]; exact s_keep hI h1
  rw [if_neg c24]
  by_cases c25 : ((xs (a3).toNatClampNeg) &&& (31 : Int32)) = 25
  · rw [if_pos c25]; exact s_back hI h1
  rw [if_neg c25]
  by_cases c26 : ((xs (a3).toNatClampNeg) &&& (31 : Int32)) = 26
  · rw [if_pos c26]; exact s_count hI h1
  rw [if_neg c26]
  by_cases c27 : ((xs (a3).toNatClampNeg) &&& (31 : Int32)) = 27
  · rw [if_pos c27]; exact s_trace hI 
  rw [if_neg c27]
  exact s_none hI
theorem law_ok (hl : len ≤ 256) : ∀ (n j : Nat) (S : zS), Inv S → j ≤ len → len + 1 ≤ j + n → ∃ S', f_law_18 len xs n S (nI j) = some ((1 : Int32), S')
  | 0, j, S, _, h1, h2 => by omega
  | n + 1, j, S, hI, h1, h2 => by
    by_cases hg : ((nI len) - (4 : Int32)) < nI j
    · exact ⟨S, by rw [f_law_18, if_pos hg]⟩
    · have hj : j + 4 ≤ len := by
        rw [i_lt, L_4, i_sub (by rw [nI_i (by omega), nI_i (by omega)]; omega) (by rw [nI_i (by omega), nI_i (by omega)]; omega), nI_i (by omega), nI_i (by omega), nI_i (by omega)] at hg
        omega
      have hz : ∀ k : Nat, k < 4 → zin (nI (j + k)) len := fun k hk => by
        show 0 ≤ (nI (j + k)).toInt ∧ (nI (j + k)).toInt < (len : Int)
        rw [nI_i (by omega)]; omega
      have ha : ∀ k : Nat, k < 5 → nI j + nI k = nI (j + k) := fun k hk => nI_add j k
      obtain ⟨S2, e, hI2⟩ := s_all (xs := xs) n hI (by have := hz 0 (by omega); rwa [Nat.add_zero] at this) (by rw [L_1, ha 1 (by omega)]; exact hz 1 (by omega)) (by rw [L_2, ha 2 (by omega)]; exact hz 2 (by omega)) (by rw [L_3, ha 3 (by omega)]; exact hz 3 (by omega)) hg
      rw [e, show nI j + 4 = nI (j + 4) from ha 4 (by omega)]
      exact law_ok hl n (j + 4) S2 hI2 hj (by omega)
end LAW2
