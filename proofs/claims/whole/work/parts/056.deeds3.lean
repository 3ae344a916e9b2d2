section DEEDS
variable {S : zS} {nv : Nat}
theorem nI_ne_m9 {n : Nat} (h : n < 2147483648) : ¬ nI n = -9 := fun q => by
  have := congrArg Int32.toInt q
  rw [nI_i h] at this
  have e : (-9 : Int32).toInt = -9 := by decide
  omega
theorem inv_mouths (hI : InvN nv S) : ∃ m : Nat, 1 ≤ m ∧ m ≤ 9 ∧ S.1 (lr S.2.2.1) 8 = nI m ∧ S.1 40 0 = nI m := hI.2.2.2.1.2.2.2.2.1
theorem inv_far (hI : InvN nv S) : ∃ D : Nat → Nat → Nat, zFar D ∧ (∀ a b, a < 6 → b < 6 → S.1 38 (6 * a + b) = nI (D a b)) ∧ ∀ a b, a < 6 → b < 6 → S.1 (lr S.2.2.1 + 4) (6 * a + b) = nI (D a b) := by
  have h1 := hI.2.2.2.1.2.2.2.2.2.2.2.2.1
  obtain ⟨D, hD, hf⟩ := hI.2.2.2.1.2.2.2.2.2.2.2.2.2.2.1
  exact ⟨D, hD, hf, fun a b ha hb => (h1 _ (by omega)).trans (hf a b ha hb)⟩
theorem inv_debt (hI : InvN nv S) : ∃ O : Nat → Nat → Nat, (∀ a b, a < 6 → b < 6 → O a b ≤ 999 ∧ S.1 39 (6 * a + b) = nI (O a b)) ∧ ∀ a b, a < 6 → b < 6 → S.1 (lr S.2.2.1 + 5) (6 * a + b) = nI (O a b) := by
  have h1 := hI.2.2.2.1.2.2.2.2.2.2.2.2.2.1
  obtain ⟨O, hO⟩ := hI.2.2.2.1.2.2.2.2.2.2.2.2.2.2.2
  exact ⟨O, hO, fun a b ha hb => (h1 _ (by omega)).trans (hO a b ha hb).2⟩
theorem lr_cS (S : zS) (f : Nat → Int32) (k : Int32) (b : Bool) : (cS S f k).1 (lr b) = S.1 (lr b) := by cases b <;> rfl
/-- days go by, then perhaps the court is elsewhere -/
theorem days_mom {day b hg m dd : Nat} {g g' : Nat → Int32} (hm : zMom nv g) (hd : day + dd ≤ 999) (hb : b ≤ 999) (h0 : (∃ c : Nat, c < nv ∧ g' 0 = nI c) ∨ (nv = 0 ∧ g' 0 = -9)) (h1 : ∀ j, 1 ≤ j → j < 16 → g' j = passF g day b hg m dd j) : zMom nv g' := by
  refine ⟨h0, ⟨day + dd, hd, ?_⟩, ⟨b - dd * m, by omega, ?_⟩, ⟨min 9999 (hg + (dd * m - b)), by omega, ?_⟩, fun v hv => ?_⟩
  · rw [h1 1 (by omega) (by omega)]; rfl
  · rw [h1 2 (by omega) (by omega)]; rfl
  · rw [h1 3 (by omega) (by omega)]; rfl
  · rw [h1 (4 + v) (by omega) (by omega), h1 (10 + v) (by omega) (by omega), passF_far (by omega), passF_far (by omega)]
    exact hm.2.2.2.2 v hv
theorem goes_ok (hI : InvN nv S) (v : Int32) : OK2 nv (f_X5_goes S v) (fun S => f_X6_goes S v) := by
  obtain ⟨hn6, hL, h33⟩ := inv_nv hI
  obtain ⟨k0, hk0, hrem, h28, hsto, -⟩ := inv_rem hI
  obtain ⟨m, hm1, hm9, hLm, hlm⟩ := inv_mouths hI
  obtain ⟨D, hD, hf, hw⟩ := inv_far hI
  have hm := inv_mom hI
  unfold f_X5_goes
  rcases vill v nv with ⟨k, hk, rfl⟩ | hv
  · rw [knows_in S _ hL hn6 hk, Option.bind_some, if_neg one_ne, L_0, get_eq S 3 (by omega), Option.bind_some, show S.1 (3 + 1) 0 = S.1 41 0 from inv_e41 hI 0 (by omega), ← L_0]
    rcases hm.1 with ⟨c, hc, hct⟩ | ⟨h0, -⟩
    · rw [hct, days_eq S _ hL hn6 hc hk, Option.bind_some, hw c k (by omega) (by omega)]
      have hDb := hD.2.2.1 c k (by omega) (by omega)
      have e6 : (6 : Int32) * nI c + nI k = nI (6 * c + k) := by rw [L_6, pk_mul, nI_add]
      obtain ⟨day, hday, hdd⟩ := hm.2.1
      obtain ⟨b, hb, hbb⟩ := hm.2.2.1
      obtain ⟨hg, hhg, hhh⟩ := hm.2.2.2.1
      by_cases hck : k = c
      · subst hck
        rw [hD.1 k (by omega), if_pos (show nI 0 < 1000 by decide), if_neg (show ¬ nI 0 = -9 by decide), if_pos (show nI 0 = 0 from rfl)]
        refine ⟨_, S, S, rfl, ?_, hI⟩
        show f_X6_goes S _ = _
        unfold f_X6_goes
        rw [isv_in S h33 hn6 hk, Option.bind_some, if_neg one_ne, hct, e6, if_pos (zin_nI (by omega) (by omega)), if_pos rfl]
      · have hD1 := hD.2.1 c k (by omega) (by omega) (fun q => hck q.symm)
        have hne : ¬ nI k = nI c := fun q => hck ((nI_eq (by omega) (by omega)).mp q)
        by_cases h1000 : D c k < 1000
        · rw [L_1000, if_pos ((nI_ltI (by omega) (by omega)).mpr h1000), if_neg (nI_ne_m9 (by omega)), if_neg (nI_ne0 (by omega) (by omega)), L_1, get_eq S 3 (by omega), Option.bind_some, show S.1 (3 + 1) 1 = S.1 41 1 from inv_e41 hI 1 (by omega), hdd, nI_add, L_999]
          have hnf : ¬ 1000 ≤ S.1 38 (6 * c + k) := by rw [hf c k (by omega) (by omega), L_1000]; exact fun q => by have := (nI_leI (by omega) (by omega)).mp q; omega
          by_cases h999 : day + D c k ≤ 999
          · rw [if_pos ((nI_leI (by omega) (by omega)).mpr h999), hrem, Option.bind_some]
            have eL : (cS S (remC (S.1 4)) (nI (min 10 (k0 + 1)))).1 (lr (cS S (remC (S.1 4)) (nI (min 10 (k0 + 1)))).2.2.1) 8 = nI m := by
              rw [show (cS S (remC (S.1 4)) (nI (min 10 (k0 + 1)))).2.2.1 = S.2.2.1 from rfl, lr_cS]; exact hLm
            have r1 : remC (S.1 4) 1 = nI day := by rw [remC_now (by omega), inv_e41 hI 1 (by omega)]; exact hdd
            have r2 : remC (S.1 4) 2 = nI b := by rw [remC_now (by omega), inv_e41 hI 2 (by omega)]; exact hbb
            have r3 : remC (S.1 4) 3 = nI hg := by rw [remC_now (by omega), inv_e41 hI 3 (by omega)]; exact hhh
            rw [eL, ldp_eq S _ _ hm9 r1 r2 r3 h999 hb hhg, Option.bind_some, L_0, cS_put S _ _ (by omega), Option.bind_some, cS_get S _ _ (by omega), Option.bind_some]
            generalize hf3 : upd (passF (remC (S.1 4)) day b hg m (D c k)) 0 (nI k) = f3
            refine ⟨_, _, zr (cS S f3 (nI (min 10 (k0 + 1)))) 41 (upd (passF (knowR k0 (S.1 41)) day b hg m (D c k)) 0 (nI k)), rfl, ?_, ?_⟩
            · show f_X6_goes (cS S f3 (nI (min 10 (k0 + 1)))) _ = _
              unfold f_X6_goes
              rw [isv_in (cS S f3 (nI (min 10 (k0 + 1)))) (nv := nv) h33 hn6 hk, Option.bind_some, if_neg one_ne, show (cS S f3 (nI (min 10 (k0 + 1)))).1 41 0 = nI c from hct, e6, if_pos (zin_nI (by omega) (by omega)), if_neg hne, cl (by omega), if_neg (show ¬ 1000 ≤ (cS S f3 (nI (min 10 (k0 + 1)))).1 38 (6 * c + k) from hnf), show (cS S f3 (nI (min 10 (k0 + 1)))).1 38 (6 * c + k) = nI (D c k) from hf c k (by omega) (by omega), show (cS S f3 (nI (min 10 (k0 + 1)))).1 41 1 = nI day from hdd, nI_add, L_999, if_pos ((nI_leI (by omega) (by omega)).mpr h999)]
              rw [know_eq (cS S f3 _) hk0 h28, Option.bind_some, pass_eq (day := day) (b := b) (hg := hg) (m := m) (zr (cS S f3 (nI (min 10 (k0 + 1)))) 41 (knowR k0 ((cS S f3 (nI (min 10 (k0 + 1)))).1 41))) hm1 hm9 hlm (by rw [zr_s, knowR_now (by omega)]; exact hdd) (by rw [zr_s, knowR_now (by omega)]; exact hbb) (by rw [zr_s, knowR_now (by omega)]; exact hhh) h999 hb hhg, Option.bind_some]
              simp only [zr_zr, zr_s]
              congr 2
              rw [← hf3]
              rfl
            · refine Inv_sto hI (zSto_step hsto ?_ ?_ ?_ ?_) ?_
              · intro j hj
                rw [← hf3]
                unfold upd
                rw [passF_at (rk_now hI (k := k0) hj)]
              · intro j hj
                rw [← hf3, upd_n (by omega), passF_far (by omega)]
              · intro j hj _
                rw [upd_n (by omega), passF_far (by omega)]
              · refine days_mom (m := m) (hg := hg) (g := knowR k0 (S.1 41)) (zMom_congr hm (fun j hj => knowR_now (k := k0) (by omega))) h999 hb (Or.inl ⟨k, hk, rfl⟩) (fun j h1 h2 => ?_)
                rw [upd_n (by omega)]
              · intro j hj
                rw [upd_n (by omega), passF_far (by omega), knowR_far hk0 hj]
          · rw [if_neg (fun q => h999 ((nI_leI (by omega) (by omega)).mp q))]
            refine ⟨_, S, S, rfl, ?_, hI⟩
            show f_X6_goes S _ = _
            unfold f_X6_goes
            rw [isv_in S h33 hn6 hk, Option.bind_some, if_neg one_ne, hct, e6, if_pos (zin_nI (by omega) (by omega)), if_neg hne, cl (by omega), if_neg hnf, hf c k (by omega) (by omega), hdd, nI_add, L_999, if_neg (fun q => h999 ((nI_leI (by omega) (by omega)).mp q))]
        · rw [L_1000, if_neg (fun q => h1000 ((nI_ltI (by omega) (by omega)).mp q)), if_pos rfl]
          refine ⟨_, S, S, rfl, ?_, hI⟩
          show f_X6_goes S _ = _
          unfold f_X6_goes
          rw [isv_in S h33 hn6 hk, Option.bind_some, if_neg one_ne, hct, e6, if_pos (zin_nI (by omega) (by omega)), if_neg hne, cl (by omega), if_pos (by rw [hf c k (by omega) (by omega), L_1000]; exact (nI_leI (by omega) (by omega)).mpr (by omega))]
    · exact absurd hk (by omega)
  · rw [knows_out S _ hL hn6 hv, Option.bind_some, if_pos rfl]
    refine ⟨_, S, S, rfl, ?_, hI⟩
    show f_X6_goes S _ = _
    unfold f_X6_goes
    rw [isv_out S h33 hn6 hv, Option.bind_some, if_pos rfl]
theorem stays_ok (hI : InvN nv S) : OK2 nv (f_X5_stays S) (fun S => f_X6_stays S) := by
  obtain ⟨hn6, hL, h33⟩ := inv_nv hI
  obtain ⟨k0, hk0, hrem, h28, hsto, -⟩ := inv_rem hI
  obtain ⟨m, hm1, hm9, hLm, hlm⟩ := inv_mouths hI
  have hm := inv_mom hI
  unfold f_X5_stays
  rw [hL]
  by_cases h0 : nv = 0
  · subst h0
    rw [if_pos (show nI 0 = 0 from rfl)]
    refine ⟨_, S, S, rfl, ?_, hI⟩
    show f_X6_stays S = _
    unfold f_X6_stays
    rw [h33, if_pos (show nI 0 = 0 from rfl)]
  · obtain ⟨day, hday, hdd⟩ := hm.2.1
    obtain ⟨b, hb, hbb⟩ := hm.2.2.1
    obtain ⟨hg, hhg, hhh⟩ := hm.2.2.2.1
    rw [if_neg (nI_ne0 (by omega) (by omega)), L_1, get_eq S 3 (by omega), Option.bind_some, show S.1 (3 + 1) 1 = S.1 41 1 from inv_e41 hI 1 (by omega), hdd, L_999]
    by_cases h999 : day < 999
    · rw [if_pos ((nI_ltI (by omega) (by omega)).mpr h999), hrem, Option.bind_some]
      have eL : (cS S (remC (S.1 4)) (nI (min 10 (k0 + 1)))).1 (lr (cS S (remC (S.1 4)) (nI (min 10 (k0 + 1)))).2.2.1) 8 = nI m := by
        rw [show (cS S (remC (S.1 4)) (nI (min 10 (k0 + 1)))).2.2.1 = S.2.2.1 from rfl, lr_cS]; exact hLm
      have r1 : remC (S.1 4) 1 = nI day := by rw [remC_now (by omega), inv_e41 hI 1 (by omega)]; exact hdd
      have r2 : remC (S.1 4) 2 = nI b := by rw [remC_now (by omega), inv_e41 hI 2 (by omega)]; exact hbb
      have r3 : remC (S.1 4) 3 = nI hg := by rw [remC_now (by omega), inv_e41 hI 3 (by omega)]; exact hhh
      rw [eL, ldp_eq S _ _ hm9 r1 r2 r3 (by omega) hb hhg, Option.bind_some, cS_get S _ _ (by omega), Option.bind_some]
      generalize hf3 : passF (remC (S.1 4)) day b hg m 1 = f3
      refine ⟨_, _, zr (cS S f3 (nI (min 10 (k0 + 1)))) 41 (passF (knowR k0 (S.1 41)) day b hg m 1), rfl, ?_, ?_⟩
      · show f_X6_stays (cS S f3 (nI (min 10 (k0 + 1)))) = _
        unfold f_X6_stays
        rw [show (cS S f3 (nI (min 10 (k0 + 1)))).1 33 0 = nI nv from h33, if_neg (nI_ne0 (by omega) (by omega)), show (cS S f3 (nI (min 10 (k0 + 1)))).1 41 1 = nI day from hdd, L_999, if_neg (fun q => by have := (nI_eq (by omega) (by omega)).mp q; omega)]
        rw [know_eq (cS S f3 _) hk0 h28, Option.bind_some, L_1, pass_eq (day := day) (b := b) (hg := hg) (m := m) (zr (cS S f3 (nI (min 10 (k0 + 1)))) 41 (knowR k0 ((cS S f3 (nI (min 10 (k0 + 1)))).1 41))) hm1 hm9 hlm (by rw [zr_s, knowR_now (by omega)]; exact hdd) (by rw [zr_s, knowR_now (by omega)]; exact hbb) (by rw [zr_s, knowR_now (by omega)]; exact hhh) (by omega) hb hhg, Option.bind_some]
        simp only [zr_zr, zr_s]
        congr 2
        rw [← hf3]
        rfl
      · refine Inv_sto hI (zSto_step hsto ?_ ?_ ?_ ?_) ?_
        · intro j hj
          rw [← hf3, passF_at (rk_now hI (k := k0) hj)]
        · intro j hj
          rw [← hf3, passF_far (by omega)]
        · intro j hj _
          rw [passF_far (by omega)]
        · refine days_mom (m := m) (hg := hg) (g := knowR k0 (S.1 41)) (zMom_congr hm (fun j hj => knowR_now (k := k0) (by omega))) (by omega) hb ?_ (fun j h1 h2 => rfl)
          show (∃ c : Nat, c < nv ∧ knowR k0 (S.1 41) 0 = nI c) ∨ (nv = 0 ∧ knowR k0 (S.1 41) 0 = -9)
          rw [knowR_now (by omega)]; exact hm.1
        · intro j hj
          rw [passF_far (by omega), knowR_far hk0 hj]
    · rw [if_neg (fun q => h999 ((nI_ltI (by omega) (by omega)).mp q))]
      refine ⟨_, S, S, rfl, ?_, hI⟩
      show f_X6_stays S = _
      unfold f_X6_stays
      rw [h33, if_neg (nI_ne0 (by omega) (by omega)), hdd, L_999, if_pos (by rw [show day = 999 by omega])]
theorem undo_ok (hI : InvN nv S) : OK2 nv (f_X5_undo S) (fun S => f_X6_undo S) := by
  obtain ⟨k0, hk0, hcS, h28, hsto⟩ := inv_sto hI
  have hgb := goBack_eq S (S.1 4) hk0
  rw [hcS] at hgb
  unfold f_X5_undo zb2
  rw [hgb]
  by_cases h0 : k0 = 0
  · rw [if_pos h0, Option.bind_some]
    subst h0
    refine ⟨-2, S, S, rfl, ?_, hI⟩
    show f_X6_undo S = _
    unfold f_X6_undo
    rw [h28, if_pos (show nI 0 = 0 from rfl)]
  · rw [if_neg h0, Option.bind_some]
    refine ⟨nI (k0 - 1), cS S (unC (S.1 4)) (nI (k0 - 1)), zr (cS S (unC (S.1 4)) (nI (k0 - 1))) 41 (undoR k0 (S.1 41)), rfl, ?_, ?_⟩
    · show f_X6_undo (cS S (unC (S.1 4)) (nI (k0 - 1))) = _
      rw [undo_eq (cS S (unC (S.1 4)) (nI (k0 - 1))) hk0 h0 h28]
      rfl
    · refine Inv_sto hI ⟨rfl, zRel_undo hsto.2.1 h0, ?_, fun i hi => ?_⟩ ?_
      · refine zMom_congr (hsto.2.2.2 (k0 - 1) (by omega)) (fun j hj => ?_)
        unfold undoR; rw [if_pos (by omega)]
      · refine zMom_congr (hsto.2.2.2 i (by omega)) (fun j hj => ?_)
        unfold undoR; rw [if_neg (by omega), if_neg (by omega)]
      · intro j hj
        unfold undoR; rw [if_neg (by omega), if_neg (by omega)]
end DEEDS
