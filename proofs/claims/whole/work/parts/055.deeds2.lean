section DEEDS
variable {S : zS} {nv : Nat}
theorem inv_rem (hI : InvN nv S) : ∃ k, k ≤ 10 ∧ f_X2_remember S 3 = some (cS S (remC (S.1 4)) (nI (min 10 (k + 1)))) ∧ S.1 41 28 = nI k ∧ zSto nv k (S.1 3 1) (S.1 4) (S.1 41) ∧ cS S (S.1 4) (nI k) = S := by
  obtain ⟨k0, hk0, hcS, h28, hsto⟩ := inv_sto hI
  have hrem := rem_eq S (S.1 4) hk0
  rw [hcS] at hrem
  exact ⟨k0, hk0, hrem, h28, hsto, hcS⟩
theorem inv_e41 (hI : InvN nv S) : ∀ j, j < 28 → S.1 4 j = S.1 41 j := by
  obtain ⟨k, hk⟩ := hI.2.2.2.2.1
  exact hk.2.1.2.2.1
theorem inv_mom (hI : InvN nv S) : zMom nv (S.1 41) := by
  obtain ⟨k, hk⟩ := hI.2.2.2.2.1
  exact hk.2.2.1
theorem rk_now (hI : InvN nv S) {k j : Nat} (hj : j < 28) : remC (S.1 4) j = knowR k (S.1 41) j := by
  rw [remC_now hj, knowR_now hj, inv_e41 hI j hj]
theorem pays_ok (hI : InvN nv S) (v : Int32) : OK2 nv (f_X5_pays S v) (fun S => f_X6_pays S v) := by
  obtain ⟨hn6, hL, h33⟩ := inv_nv hI
  obtain ⟨k0, hk0, hrem, h28, hsto, -⟩ := inv_rem hI
  unfold f_X5_pays
  rcases vill v nv with ⟨k, hk, rfl⟩ | hv
  · have h16 : 16 + k < 28 := by omega
    rw [knows_in S _ hL hn6 hk, Option.bind_some, if_neg one_ne, L_16, nI_add, get_eq S 3 h16, Option.bind_some, hrem, Option.bind_some, cS_put S _ _ h16, Option.bind_some]
    refine ⟨_, _, zr (cS S (upd (remC (S.1 4)) (16 + k) 0) (nI (min 10 (k0 + 1)))) 41 (upd (knowR k0 (S.1 41)) (16 + k) 0), rfl, ?_, ?_⟩
    · show f_X6_pays (cS S _ _) _ = _
      unfold f_X6_pays
      rw [isv_in (cS S _ _) (nv := nv) h33 hn6 hk, Option.bind_some, if_neg one_ne, know_eq (cS S _ _) hk0 h28, Option.bind_some, L_16, nI_add, cl (by omega)]
      simp only [if_pos (zin_nI (show 16 + k < 927 by omega) (by omega)), zr_zr, zr_s]
      congr 2
      show knowR k0 (S.1 41) (16 + k) = S.1 4 (16 + k)
      rw [knowR_now h16, inv_e41 hI _ h16]
    · refine Inv_sto hI (zSto_step hsto ?_ ?_ ?_ ?_) ?_
      · intro j hj
        unfold upd
        rw [rk_now hI (k := k0) hj]
      · intro j hj; rw [upd_n (by omega)]
      · intro j hj _; rw [upd_n (by omega)]
      · exact zMom_congr (inv_mom hI) (fun j hj => by rw [upd_n (by omega), knowR_now (by omega)])
      · intro j hj; rw [upd_n (by omega), knowR_far hk0 hj]
  · rw [knows_out S _ hL hn6 hv, Option.bind_some, if_pos rfl]
    refine ⟨_, S, S, rfl, ?_, hI⟩
    show f_X6_pays S _ = _
    unfold f_X6_pays
    rw [isv_out S h33 hn6 hv, Option.bind_some, if_pos rfl]
theorem sells_ok (hI : InvN nv S) (v n : Int32) : OK2 nv (f_X5_sells S v n) (fun S => f_X6_sells S v n) := by
  obtain ⟨hn6, hL, h33⟩ := inv_nv hI
  obtain ⟨k0, hk0, hrem, h28, hsto, -⟩ := inv_rem hI
  unfold f_X5_sells
  rcases vill v nv with ⟨k, hk, rfl⟩ | hv
  · have h16 : 16 + k < 28 := by omega
    have h22 : 22 + k < 28 := by omega
    rw [knows_in S _ hL hn6 hk, Option.bind_some, if_neg one_ne]
    rcases isw n 1 99 with h0 | ⟨h1, hr⟩
    · rw [h0, Option.bind_some, if_pos rfl]
      refine ⟨_, S, S, rfl, ?_, hI⟩
      show f_X6_sells S _ _ = _
      unfold f_X6_sells
      rw [isv_in S h33 hn6 hk, Option.bind_some, if_neg one_ne, in_isw, h0, Option.bind_some, if_pos rfl]
    · rw [h1, Option.bind_some, if_neg one_ne, L_16, L_22, nI_add, nI_add, get_eq S 3 h16, Option.bind_some]
      show OK2 nv (if n ≤ S.1 4 (16 + k) then _ else _) _
      rw [inv_e41 hI _ h16]
      by_cases hc : n ≤ S.1 41 (16 + k)
      · rw [if_pos hc, hrem, Option.bind_some, cS_add S _ _ h16, Option.bind_some, cS_add S _ _ h22, Option.bind_some, cS_get S _ _ h22, Option.bind_some]
        generalize hf3 : upd (upd (remC (S.1 4)) (16 + k) (remC (S.1 4) (16 + k) + -n)) (22 + k) (upd (remC (S.1 4)) (16 + k) (remC (S.1 4) (16 + k) + -n) (22 + k) + n / 3) = f3
        refine ⟨_, _, zr (cS S f3 (nI (min 10 (k0 + 1)))) 41 (upd (upd (knowR k0 (S.1 41)) (16 + k) (knowR k0 (S.1 41) (16 + k) - n)) (22 + k) (upd (knowR k0 (S.1 41)) (16 + k) (knowR k0 (S.1 41) (16 + k) - n) (22 + k) + n / 3)), rfl, ?_, ?_⟩
        · show f_X6_sells (cS S f3 (nI (min 10 (k0 + 1)))) _ _ = _
          unfold f_X6_sells
          rw [isv_in (cS S f3 (nI (min 10 (k0 + 1)))) (nv := nv) h33 hn6 hk, Option.bind_some, if_neg one_ne, in_isw, h1, Option.bind_some, if_neg one_ne, L_16, L_22, nI_add, nI_add, if_pos (zin_nI (by omega) (by omega)), cl (by omega), if_pos (show n ≤ (cS S f3 _).1 41 (16 + k) from hc)]
          rw [know_eq (cS S f3 _) hk0 h28, Option.bind_some, cl (by omega)]
          simp only [if_pos (zin_nI (show 16 + k < 927 by omega) (by omega)), if_pos (zin_nI (show 22 + k < 927 by omega) (by omega)), zr_zr, zr_s]
          congr 2
          rw [upd_s, ← hf3, upd_s, upd_n (by omega), upd_n (by omega)]
          show knowR k0 (S.1 41) (22 + k) + _ = _
          rw [rk_now hI (k := k0) h22]
        · refine Inv_sto hI (zSto_step hsto ?_ ?_ ?_ ?_) ?_
          · intro j hj
            rw [← hf3]
            unfold upd
            rw [rk_now hI (k := k0) h16, rk_now hI (k := k0) h22, rk_now hI (k := k0) hj, Int32.sub_eq_add_neg]
          · intro j hj
            rw [← hf3, upd_n (by omega), upd_n (by omega)]
          · intro j hj _
            rw [upd_n (by omega), upd_n (by omega)]
          · exact zMom_congr (inv_mom hI) (fun j hj => by rw [upd_n (by omega), upd_n (by omega), knowR_now (by omega)])
          · intro j hj
            rw [upd_n (by omega), upd_n (by omega), knowR_far hk0 hj]
      · rw [if_neg hc]
        refine ⟨_, S, S, rfl, ?_, hI⟩
        show f_X6_sells S _ _ = _
        unfold f_X6_sells
        rw [isv_in S h33 hn6 hk, Option.bind_some, if_neg one_ne, in_isw, h1, Option.bind_some, if_neg one_ne, L_16, nI_add, if_pos (zin_nI (by omega) (by omega)), cl (by omega), if_neg hc]
  · rw [knows_out S _ hL hn6 hv, Option.bind_some, if_pos rfl]
    refine ⟨_, S, S, rfl, ?_, hI⟩
    show f_X6_sells S _ _ = _
    unfold f_X6_sells
    rw [isv_out S h33 hn6 hv, Option.bind_some, if_pos rfl]
theorem charter_eq (S : zS) (r : Nat) {k nv : Nat} (h : S.1 r 6 = nI nv) (hn : nv ≤ 6) (hk : k < nv) : f_X0_hasCharter S r (nI k) = some (if S.1 (r + 3) k = 1 then 1 else 0) := by
  unfold f_X0_hasCharter
  rw [knows_in S r h hn hk, Option.bind_some, if_neg one_ne, if_pos (zin_nI (by omega) (by omega)), cl (by omega)]
  by_cases hc : S.1 (r + 3) k = 1
  · rw [if_pos hc, if_pos hc]
  · rw [if_neg hc, if_neg hc]
theorem need_eq (S : zS) (r : Nat) {k nv : Nat} (h : S.1 r 6 = nI nv) (hn : nv ≤ 6) (hk : k < nv) : f_X0_needOf S r (nI k) = some (S.1 (r + 2) k) := by
  unfold f_X0_needOf
  rw [knows_in S r h hn hk, Option.bind_some, if_neg one_ne, if_pos (zin_nI (by omega) (by omega)), cl (by omega)]
theorem days_eq (S : zS) (r : Nat) {a b nv : Nat} (h : S.1 r 6 = nI nv) (hn : nv ≤ 6) (ha : a < nv) (hb : b < nv) : f_X0_daysBetween S r (nI a) (nI b) = some (if S.1 (r + 4) (6 * a + b) < 1000 then S.1 (r + 4) (6 * a + b) else -9) := by
  unfold f_X0_daysBetween
  rw [knows_in S r h hn ha, Option.bind_some, if_neg one_ne, knows_in S r h hn hb, Option.bind_some, if_neg one_ne, L_6, pk_mul, nI_add, if_pos (zin_nI (by omega) (by omega)), cl (by omega), show a * 6 + b = 6 * a + b by omega]
  by_cases hc : S.1 (r + 4) (6 * a + b) < 1000
  · rw [if_pos hc, if_pos hc]
  · rw [if_neg hc, if_neg hc]
theorem debt_eq (S : zS) (r : Nat) {a b nv : Nat} (h : S.1 r 6 = nI nv) (hn : nv ≤ 6) (ha : a < nv) (hb : b < nv) : f_X0_debt S r (nI a) (nI b) = some (S.1 (r + 5) (6 * a + b)) := by
  unfold f_X0_debt
  rw [knows_in S r h hn ha, Option.bind_some, if_neg one_ne, knows_in S r h hn hb, Option.bind_some, if_neg one_ne, L_6, pk_mul, nI_add, if_pos (zin_nI (by omega) (by omega)), cl (by omega), show a * 6 + b = 6 * a + b by omega]
theorem takes_ok (hI : InvN nv S) (n : Int32) : OK2 nv (f_X5_takes S n) (fun S => f_X6_takes S n) := by
  obtain ⟨hn6, hL, h33⟩ := inv_nv hI
  obtain ⟨k0, hk0, hrem, h28, hsto, -⟩ := inv_rem hI
  have hm := inv_mom hI
  unfold f_X5_takes
  rcases isw n 1 60 with h0 | ⟨h1, hr⟩
  · rw [h0, Option.bind_some, if_pos rfl]
    refine ⟨_, S, S, rfl, ?_, hI⟩
    show f_X6_takes S _ = _
    unfold f_X6_takes
    rw [in_isw, h0, Option.bind_some, if_pos rfl]
  · obtain ⟨q, hq1, hq60, rfl⟩ := rng hr L_1 L_60 (by omega) (by omega)
    rw [h1, Option.bind_some, if_neg one_ne, L_0, get_eq S 3 (by omega), Option.bind_some]
    unfold f_X0_writtenFor
    rw [Option.bind_some]
    obtain ⟨w, hw10, hLw, hlw⟩ := hI.2.2.2.1.2.2.2.2.2.1
    have hch := hI.2.2.2.1.2.2.2.2.2.2.2.1
    rw [show S.1 (3 + 1) 0 = S.1 41 0 from inv_e41 hI 0 (by omega), hLw, ← L_0]
    rcases hm.1 with ⟨c, hc, hct⟩ | ⟨h0, hct⟩
    · have h4 : 4 + c < 28 := by omega
      have h16 : 16 + c < 28 := by omega
      rw [hct, knows_in S _ hL hn6 hc, Option.bind_some, if_neg one_ne, charter_eq S _ hL hn6 hc, Option.bind_some, (hch c hc).1]
      have hnz : ¬ S.1 33 0 = 0 := by rw [h33]; exact nI_ne0 (by omega) (by omega)
      by_cases hcc : S.1 36 c = 1
      · rw [if_pos hcc, if_neg one_ne]
        refine ⟨_, S, S, rfl, ?_, hI⟩
        show f_X6_takes S _ = _
        unfold f_X6_takes
        rw [in_isw, h1, Option.bind_some, if_neg one_ne, if_neg hnz, hct, if_pos (zin_nI (by omega) (by omega)), cl (by omega), if_pos hcc]
      · rw [if_neg hcc, if_pos rfl, L_4, L_16, L_2, nI_add, nI_add, get_eq S 3 h4, Option.bind_some, show S.1 (3 + 1) (4 + c) = S.1 41 (4 + c) from inv_e41 hI _ h4]
        have hsh : S.1 41 (4 + c) < nI q ↔ ¬ nI q ≤ S.1 41 (4 + c) := by rw [i_lt, i_le]; omega
        by_cases h5 : nI q ≤ S.1 41 (4 + c)
        · rw [if_pos h5, get_eq S 3 (by omega), Option.bind_some, show S.1 (3 + 1) 2 = S.1 41 2 from inv_e41 hI 2 (by omega)]
          by_cases h6 : 999 < S.1 41 2 + nI q
          · rw [if_pos h6]
            refine ⟨_, S, S, rfl, ?_, hI⟩
            show f_X6_takes S _ = _
            unfold f_X6_takes
            rw [in_isw, h1, Option.bind_some, if_neg one_ne, if_neg hnz, hct, if_pos (zin_nI (by omega) (by omega)), cl (by omega), if_neg hcc, L_4, nI_add, if_pos (zin_nI (by omega) (by omega)), cl (by omega), if_neg (fun z => hsh.mp z h5), if_pos h6]
            rfl
          · rw [if_neg h6, get_eq S 3 h16, Option.bind_some, show S.1 (3 + 1) (16 + c) = S.1 41 (16 + c) from inv_e41 hI _ h16]
            by_cases h7 : S.1 41 (16 + c) + nI w * nI q / 10 ≤ 999
            · rw [if_pos h7, hrem, Option.bind_some, cS_add S _ _ h4, Option.bind_some, cS_add S _ _ (show 2 < 28 by omega), Option.bind_some, cS_add S _ _ h16, Option.bind_some]
              generalize hwr : nI w * nI q / 10 = wr
              rw [hwr] at h7
              generalize hfr : remC (S.1 4) = fr
              generalize hgk : knowR k0 (S.1 41) = gk
              have hfg : ∀ j, j < 28 → fr j = gk j := fun j hj => by rw [← hfr, ← hgk]; exact rk_now hI hj
              have hgn : ∀ j, j < 28 → gk j = S.1 41 j := fun j hj => by rw [← hgk]; exact knowR_now hj
              generalize hf3 : upd (upd (upd fr (4 + c) (fr (4 + c) + -nI q)) 2 (upd fr (4 + c) (fr (4 + c) + -nI q) 2 + nI q)) (16 + c) (upd (upd fr (4 + c) (fr (4 + c) + -nI q)) 2 (upd fr (4 + c) (fr (4 + c) + -nI q) 2 + nI q) (16 + c) + wr) = f3
              refine ⟨_, _, zr (cS S f3 (nI (min 10 (k0 + 1)))) 41 (upd (upd (upd gk (4 + c) (gk (4 + c) - nI q)) 2 (upd gk (4 + c) (gk (4 + c) - nI q) 2 + nI q)) (16 + c) (upd (upd gk (4 + c) (gk (4 + c) - nI q)) 2 (upd gk (4 + c) (gk (4 + c) - nI q) 2 + nI q) (16 + c) + wr)), rfl, ?_, ?_⟩
              · show f_X6_takes (cS S f3 (nI (min 10 (k0 + 1)))) _ = _
                unfold f_X6_takes
                rw [in_isw, h1, Option.bind_some, if_neg one_ne, if_neg (show ¬ (cS S f3 (nI (min 10 (k0 + 1)))).1 33 0 = 0 from hnz), show (cS S f3 (nI (min 10 (k0 + 1)))).1 41 0 = nI c from hct, show (cS S f3 (nI (min 10 (k0 + 1)))).1 40 1 = nI w from hlw, hwr, if_pos (zin_nI (by omega) (by omega)), cl (by omega), if_neg (show ¬ (cS S f3 (nI (min 10 (k0 + 1)))).1 36 c = 1 from hcc), L_4, L_16, nI_add, nI_add, if_pos (zin_nI (by omega) (by omega)), cl (by omega), cl (by omega), if_neg (show ¬ (cS S f3 (nI (min 10 (k0 + 1)))).1 41 (4 + c) < nI q from fun z => hsh.mp z h5), if_neg (show ¬ 999 < (cS S f3 (nI (min 10 (k0 + 1)))).1 41 2 + nI q from h6), if_pos (zin_nI (by omega) (by omega)), if_pos (show (cS S f3 (nI (min 10 (k0 + 1)))).1 41 (16 + c) + wr ≤ 999 from h7)]
                rw [know_eq (cS S f3 _) hk0 h28, Option.bind_some]
                simp only [if_pos (zin_nI (show 4 + c < 927 by omega) (by omega)), if_pos (zin_nI (show 16 + c < 927 by omega) (by omega)), zr_zr, zr_s]
                rw [show knowR k0 ((cS S f3 (nI (min 10 (k0 + 1)))).1 41) = gk from hgk]
              · refine Inv_sto hI (zSto_step hsto ?_ ?_ ?_ ?_) ?_
                · intro j hj
                  rw [← hf3]
                  unfold upd
                  rw [hfg _ h4, hfg 2 (by omega), hfg _ h16, hfg j hj, Int32.sub_eq_add_neg]
                · intro j hj
                  rw [← hf3, upd_n (by omega), upd_n (by omega), upd_n (by omega), hfr]
                · intro j hj _
                  rw [upd_n (by omega), upd_n (by omega), upd_n (by omega), hgk]
                · have hoth : ∀ j, j < 16 → j ≠ 4 + c → j ≠ 2 → upd (upd (upd gk (4 + c) (gk (4 + c) - nI q)) 2 (upd gk (4 + c) (gk (4 + c) - nI q) 2 + nI q)) (16 + c) (upd (upd gk (4 + c) (gk (4 + c) - nI q)) 2 (upd gk (4 + c) (gk (4 + c) - nI q) 2 + nI q) (16 + c) + wr) j = S.1 41 j := fun j hj q1 q2 => by
                    rw [upd_n (by omega), upd_n q2, upd_n q1, hgn j (by omega)]
                  refine ⟨?_, ?_, ?_, ?_, fun w2 hw2 => ?_⟩
                  · rw [hoth 0 (by omega) (by omega) (by omega)]; exact hm.1
                  · rw [hoth 1 (by omega) (by omega) (by omega)]; exact hm.2.1
                  · obtain ⟨b, hb, hbb⟩ := hm.2.2.1
                    rw [hbb, L_999, nI_add] at h6
                    refine ⟨b + q, ?_, ?_⟩
                    · rcases Nat.lt_or_ge 999 (b + q) with z | z
                      · exact absurd ((nI_ltI (by omega) (by omega)).mpr z) h6
                      · exact z
                    · rw [upd_n (by omega), upd_s, upd_n (by omega), hgn 2 (by omega), hbb, nI_add]
                  · rw [hoth 3 (by omega) (by omega) (by omega)]; exact hm.2.2.2.1
                  · obtain ⟨s, hh, hsum, hs, hhid⟩ := hm.2.2.2.2 w2 hw2
                    by_cases hwc : w2 = c
                    · subst hwc
                      rw [hs] at h5
                      have hqs := (nI_leI (by omega) (by omega)).mp h5
                      refine ⟨s - q, hh, by omega, ?_, ?_⟩
                      · rw [upd_n (by omega), upd_n (by omega), upd_s, hgn _ (by omega), hs, pk_sub hqs]
                      · rw [hoth _ (by omega) (by omega) (by omega)]; exact hhid
                    · refine ⟨s, hh, hsum, ?_, ?_⟩
                      · rw [hoth _ (by omega) (by omega) (by omega)]; exact hs
                      · rw [hoth _ (by omega) (by omega) (by omega)]; exact hhid
                · intro j hj
                  rw [upd_n (by omega), upd_n (by omega), upd_n (by omega), ← hgk, knowR_far hk0 hj]
            · rw [if_neg h7]
              refine ⟨_, S, S, rfl, ?_, hI⟩
              show f_X6_takes S _ = _
              unfold f_X6_takes
              rw [in_isw, h1, Option.bind_some, if_neg one_ne, if_neg hnz, hct, hlw, if_pos (zin_nI (by omega) (by omega)), cl (by omega), if_neg hcc, L_4, L_16, nI_add, nI_add, if_pos (zin_nI (by omega) (by omega)), cl (by omega), cl (by omega), if_neg (fun z => hsh.mp z h5), if_neg h6, if_pos (zin_nI (by omega) (by omega)), if_neg h7]
              rfl
        · rw [if_neg h5]
          refine ⟨_, S, S, rfl, ?_, hI⟩
          show f_X6_takes S _ = _
          unfold f_X6_takes
          rw [in_isw, h1, Option.bind_some, if_neg one_ne, if_neg hnz, hct, if_pos (zin_nI (by omega) (by omega)), cl (by omega), if_neg hcc, L_4, nI_add, if_pos (zin_nI (by omega) (by omega)), cl (by omega), if_pos (hsh.mpr h5)]
          rfl
    · subst h0
      rw [hct, knows_out S _ hL hn6 (fun ⟨k, hk, _⟩ => absurd hk (by omega)), Option.bind_some, if_pos rfl]
      refine ⟨_, S, S, rfl, ?_, hI⟩
      show f_X6_takes S _ = _
      unfold f_X6_takes
      rw [in_isw, h1, Option.bind_some, if_neg one_ne, if_pos (show S.1 33 0 = 0 from h33)]
end DEEDS
