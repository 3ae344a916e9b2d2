/-! what is done -/
def OK2 (nv : Nat) (A : Option (Int32 × zS)) (B : zS → Option (Int32 × zS)) : Prop := ∃ x S1 S2, A = some (x, S1) ∧ B S1 = some (x, S2) ∧ InvN nv S2
theorem zMom_congr {nv : Nat} {g g' : Nat → Int32} (h : zMom nv g) (he : ∀ j, j < 16 → g' j = g j) : zMom nv g' := by
  obtain ⟨a, b, c, d, e⟩ := h
  refine ⟨?_, ?_, ?_, ?_, fun v hv => ?_⟩
  · rw [he 0 (by omega)]; exact a
  · rw [he 1 (by omega)]; exact b
  · rw [he 2 (by omega)]; exact c
  · rw [he 3 (by omega)]; exact d
  · rw [he (4 + v) (by omega), he (10 + v) (by omega)]; exact e v hv
theorem zMoms_know {nv k : Nat} {g : Nat → Int32} (hk : k ≤ 10) (h : zMoms nv k g) : zMoms nv (min 10 (k + 1)) (knowR k g) := by
  obtain ⟨h0, h1⟩ := h
  refine ⟨zMom_congr h0 (fun j hj => knowR_now (by omega)), fun i hi => ?_⟩
  by_cases h10 : k = 10
  · by_cases hi9 : i = 9
    · refine zMom_congr h0 (fun j hj => ?_)
      unfold knowR
      rw [if_pos h10, if_neg (by omega), if_neg (by omega), if_pos (by omega)]
      exact congrArg g (by omega)
    · refine zMom_congr (h1 (i + 1) (by omega)) (fun j hj => ?_)
      unfold knowR
      rw [if_pos h10, if_neg (by omega), if_pos (by omega)]
      exact congrArg g (by omega)
  · by_cases hik : i = k
    · refine zMom_congr h0 (fun j hj => ?_)
      unfold knowR
      rw [if_neg h10, if_neg (by omega), if_pos (by omega)]
      exact congrArg g (by omega)
    · refine zMom_congr (h1 i (by omega)) (fun j hj => ?_)
      unfold knowR
      rw [if_neg h10, if_neg (by omega), if_neg (by omega)]
/-- one more deed -/
theorem zSto_step {nv k : Nat} {kc : Int32} {f g f' g' : Nat → Int32} (h : zSto nv k kc f g) (h1 : ∀ j, j < 28 → f' j = g' j) (h2 : ∀ j, 28 ≤ j → f' j = remC f j) (h3 : ∀ j, 28 ≤ j → j < 309 → g' j = knowR k g j) (hm : zMom nv g') : zSto nv (min 10 (k + 1)) (nI (min 10 (k + 1))) f' g' := by
  obtain ⟨a, b, c⟩ := h
  refine ⟨rfl, zRel_mod (zRel_know b) h1 h2 h3, hm, fun i hi => ?_⟩
  have := (zMoms_know b.1 c).2 i hi
  refine zMom_congr this (fun j hj => ?_)
  exact h3 _ (by omega) (by omega)
theorem upd_s (f : Nat → Int32) (k : Nat) (x : Int32) : upd f k x k = x := if_pos rfl
theorem upd_n {f : Nat → Int32} {k j : Nat} {x : Int32} (h : j ≠ k) : upd f k x j = f j := if_neg h
theorem one_ne : ¬ ((1 : Int32) = 0) := by decide
theorem remC_now {f : Nat → Int32} {j : Nat} (h : j < 28) : remC f j = f j := pk_cpy_out (Or.inl h)
section DEEDS
variable {S : zS} {nv : Nat}
theorem inv_nv (hI : InvN nv S) : nv ≤ 6 ∧ S.1 (lr S.2.2.1) 6 = nI nv ∧ S.1 33 0 = nI nv := ⟨hI.2.2.2.1.1, hI.2.2.2.1.2.1, hI.2.2.2.1.2.2.1⟩
theorem inv_sto (hI : InvN nv S) : ∃ k, k ≤ 10 ∧ cS S (S.1 4) (nI k) = S ∧ S.1 41 28 = nI k ∧ zSto nv k (S.1 3 1) (S.1 4) (S.1 41) := by
  obtain ⟨k, hk⟩ := hI.2.2.2.2.1
  exact ⟨k, hk.2.1.1, by rw [← hk.1]; exact cS_eta S, hk.2.1.2.1, hk⟩
theorem move_ok (hI : InvN nv S) (v n : Int32) (o i : Nat) (ho : (o = 4 ∧ i = 10) ∨ (o = 10 ∧ i = 4)) : OK2 nv (f_X5_moveHens S v n (nI o) (nI i)) (fun S => f_X6_shift S v n (nI o) (nI i)) := by
  obtain ⟨hn6, hL, h33⟩ := inv_nv hI
  obtain ⟨k0, hk0, hcS, h28, hsto⟩ := inv_sto hI
  rcases vill v nv with ⟨k, hk, rfl⟩ | hv
  · unfold f_X5_moveHens
    rw [knows_in S _ hL hn6 hk, Option.bind_some, if_neg one_ne]
    rcases isw n 1 60 with h0 | ⟨h1, hr⟩
    · rw [h0, Option.bind_some, if_pos rfl]
      refine ⟨_, S, S, rfl, ?_, hI⟩
      show f_X6_shift S _ _ _ _ = _
      unfold f_X6_shift
      rw [isv_in S h33 hn6 hk, Option.bind_some, if_neg one_ne, in_isw, h0, Option.bind_some, if_pos rfl]
    · obtain ⟨q, hq1, hq60, rfl⟩ := rng hr L_1 L_60 (by omega) (by omega)
      have hok : o + k < 28 := by omega
      have hik : i + k < 28 := by omega
      have e41 : ∀ j, j < 28 → S.1 4 j = S.1 41 j := hsto.2.1.2.2.1
      rw [h1, Option.bind_some, if_neg one_ne, nI_add, nI_add, get_eq S 3 hok, Option.bind_some]
      show OK2 nv (if nI q ≤ S.1 4 (o + k) then _ else _) _
      rw [e41 _ hok]
      by_cases hc : nI q ≤ S.1 41 (o + k)
      · rw [if_pos hc]
        have hrem := rem_eq S (S.1 4) hk0
        rw [hcS] at hrem
        rw [hrem, Option.bind_some, cS_add S _ _ hok, Option.bind_some, cS_add S _ _ hik, Option.bind_some, cS_get S _ _ hik, Option.bind_some]
        generalize hf3 : upd (upd (remC (S.1 4)) (o + k) (remC (S.1 4) (o + k) + -nI q)) (i + k) (upd (remC (S.1 4)) (o + k) (remC (S.1 4) (o + k) + -nI q) (i + k) + nI q) = f3
        refine ⟨_, _, zr (cS S f3 (nI (min 10 (k0 + 1)))) 41 (upd (upd (knowR k0 (S.1 41)) (o + k) (knowR k0 (S.1 41) (o + k) - nI q)) (i + k) (upd (knowR k0 (S.1 41)) (o + k) (knowR k0 (S.1 41) (o + k) - nI q) (i + k) + nI q)), rfl, ?_, ?_⟩
        · show f_X6_shift (cS S f3 (nI (min 10 (k0 + 1)))) _ _ _ _ = _
          unfold f_X6_shift
          rw [isv_in (cS S f3 (nI (min 10 (k0 + 1)))) (nv := nv) h33 hn6 hk, Option.bind_some, if_neg one_ne, in_isw, h1, Option.bind_some, if_neg one_ne, nI_add, nI_add, if_pos (zin_nI (by omega) (by omega)), cl (by omega), if_pos (show nI q ≤ (cS S f3 _).1 41 (o + k) from hc)]
          rw [know_eq (cS S f3 _) hk0 h28, Option.bind_some, cl (by omega)]
          simp only [if_pos (zin_nI (show o + k < 927 by omega) (by omega)), if_pos (zin_nI (show i + k < 927 by omega) (by omega)), zr_zr, zr_s]
          congr 2
          rw [upd_s, ← hf3, upd_s, upd_n (by omega), upd_n (by omega), remC_now hik, e41 _ hik]
          show knowR k0 (S.1 41) (i + k) + nI q = _
          rw [knowR_now hik]
        · refine Inv_sto hI (zSto_step hsto ?_ ?_ ?_ ?_) ?_
          · intro j hj
            rw [← hf3]
            have hb : ∀ j, j < 28 → remC (S.1 4) j = knowR k0 (S.1 41) j := fun j hj => by rw [remC_now hj, knowR_now hj, e41 j hj]
            unfold upd
            rw [hb _ hok, hb _ hik, hb j hj, Int32.sub_eq_add_neg]
          · intro j hj
            rw [← hf3, upd_n (by omega), upd_n (by omega)]
          · intro j hj _
            rw [upd_n (by omega), upd_n (by omega)]
          · have hm := hsto.2.2.1
            have hnow : ∀ j, j < 28 → j ≠ o + k → j ≠ i + k → upd (upd (knowR k0 (S.1 41)) (o + k) (knowR k0 (S.1 41) (o + k) - nI q)) (i + k) (upd (knowR k0 (S.1 41)) (o + k) (knowR k0 (S.1 41) (o + k) - nI q) (i + k) + nI q) j = S.1 41 j := fun j hj h1 h2 => by
              rw [upd_n h2, upd_n h1, knowR_now hj]
            refine ⟨?_, ?_, ?_, ?_, fun w hw => ?_⟩
            · rw [hnow 0 (by omega) (by omega) (by omega)]; exact hm.1
            · rw [hnow 1 (by omega) (by omega) (by omega)]; exact hm.2.1
            · rw [hnow 2 (by omega) (by omega) (by omega)]; exact hm.2.2.1
            · rw [hnow 3 (by omega) (by omega) (by omega)]; exact hm.2.2.2.1
            · obtain ⟨s, hh, hsum, hs, hhid⟩ := hm.2.2.2.2 w hw
              by_cases hwk : w = k
              · subst hwk
                rcases ho with ⟨rfl, rfl⟩ | ⟨rfl, rfl⟩
                · rw [hs] at hc
                  have hqs := (nI_leI (by omega) (by omega)).mp hc
                  refine ⟨s - q, hh + q, by omega, ?_, ?_⟩
                  · rw [upd_n (by omega), upd_s, knowR_now (by omega), hs, pk_sub hqs]
                  · rw [upd_s, upd_n (by omega), knowR_now (by omega), hhid, nI_add]
                · rw [hhid] at hc
                  have hqs := (nI_leI (by omega) (by omega)).mp hc
                  refine ⟨s + q, hh - q, by omega, ?_, ?_⟩
                  · rw [upd_s, upd_n (by omega), knowR_now (by omega), hs, nI_add]
                  · rw [upd_n (by omega), upd_s, knowR_now (by omega), hhid, pk_sub hqs]
              · refine ⟨s, hh, hsum, ?_, ?_⟩
                · rw [hnow _ (by omega) (by omega) (by omega)]; exact hs
                · rw [hnow _ (by omega) (by omega) (by omega)]; exact hhid
          · intro j hj
            rw [upd_n (by omega), upd_n (by omega), knowR_far hk0 hj]
      · rw [if_neg hc]
        refine ⟨_, S, S, rfl, ?_, hI⟩
        show f_X6_shift S _ _ _ _ = _
        unfold f_X6_shift
        rw [isv_in S h33 hn6 hk, Option.bind_some, if_neg one_ne, in_isw, h1, Option.bind_some, if_neg one_ne, nI_add, if_pos (zin_nI (by omega) (by omega)), cl (by omega), if_neg hc]
  · unfold f_X5_moveHens
    rw [knows_out S _ hL hn6 hv, Option.bind_some, if_pos rfl]
    refine ⟨_, S, S, rfl, ?_, hI⟩
    show f_X6_shift S _ _ _ _ = _
    unfold f_X6_shift
    rw [isv_out S h33 hn6 hv, Option.bind_some, if_pos rfl]
theorem hides_ok (hI : InvN nv S) (v n : Int32) : OK2 nv (f_X5_hides S v n) (fun S => f_X6_hides S v n) := by
  obtain ⟨x, S1, S2, h1, h2, h3⟩ := move_ok hI v n 4 10 (Or.inl ⟨rfl, rfl⟩)
  refine ⟨x, S1, S2, ?_, ?_, h3⟩
  · unfold f_X5_hides; rw [L_4, L_10, h1]; rfl
  · show f_X6_hides S1 v n = _
    unfold f_X6_hides; rw [L_4, L_10, show f_X6_shift S1 v n (nI 4) (nI 10) = _ from h2]; rfl
theorem shows_ok (hI : InvN nv S) (v n : Int32) : OK2 nv (f_X5_shows S v n) (fun S => f_X6_shows S v n) := by
  obtain ⟨x, S1, S2, h1, h2, h3⟩ := move_ok hI v n 10 4 (Or.inr ⟨rfl, rfl⟩)
  refine ⟨x, S1, S2, ?_, ?_, h3⟩
  · unfold f_X5_shows; rw [L_4, L_10, h1]; rfl
  · show f_X6_shows S1 v n = _
    unfold f_X6_shows; rw [L_4, L_10, show f_X6_shift S1 v n (nI 10) (nI 4) = _ from h2]; rfl
end DEEDS
