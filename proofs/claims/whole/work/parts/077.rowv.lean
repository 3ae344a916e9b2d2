section ROWV
variable {S T : zS} {n p r nd : Nat} {bt : Nat → Nat} {k : zS → Option (Int32 × zS)}
def vE (nd : Nat) (T : zS) (x : Int32) : zS := zr (zr T 36 (upd (T.1 36) (6 + nd) x)) 33 (upd (T.1 33) 1 (nI (nd + 1)))
theorem rowv_eq (hn : nd < 6) (h33 : T.1 33 1 = nI nd) {x37 x41 x45 : Int32} {S38 S42 S46 : zS} (e1 : f_X6_number T 0 60 = some (x37, S38)) (h38 : S38.1 33 1 = nI nd) (e2 : f_X6_number (zr S38 34 (upd (S38.1 34) nd x37)) 0 60 = some (x41, S42)) (h42 : S42.1 33 1 = nI nd) (e3 : f_X6_number (zr S42 35 (upd (S42.1 35) (6 + nd) x41)) 0 1 = some (x45, S46)) (h46 : S46.1 33 1 = nI nd) :
    f_X6_readRow T 118 = some (vE nd S46 x45) := by
  unfold f_X6_readRow
  rw [if_neg (by decide), if_neg (by decide), if_neg (by decide), if_pos rfl, e1, zb2_some, h33, if_pos (zin_nI (by omega) (by omega)), cl (by omega), e2, zb2_some, zr_n (show (33 : Nat) ≠ 34 by decide), h38, L_6, nI_add, if_pos (zin_nI (by omega) (by omega)), cl (by omega), e3, zb2_some, zr_n (show (33 : Nat) ≠ 35 by decide), h42, nI_add, if_pos (zin_nI (by omega) (by omega)), cl (by omega), zr_n (show (33 : Nat) ≠ 36 by decide), h46, nI_1]
  rfl
theorem vE_fr (nd : Nat) (T : zS) (x : Int32) : Fr KD T (vE nd T x) := by
  have f1 : Fr KD T (zr T 36 (upd (T.1 36) (6 + nd) x)) := Fr_upd (by unfold KD; omega)
  have f2 : Fr KD (zr T 36 (upd (T.1 36) (6 + nd) x)) (zr (zr T 36 (upd (T.1 36) (6 + nd) x)) 33 (upd ((zr T 36 (upd (T.1 36) (6 + nd) x)).1 33) 1 (nI (nd + 1)))) := Fr_upd (by unfold KD; omega)
  exact f1.trans f2
theorem mbv {x hi : Nat} (S : zS) (hx : x ≤ 99) {i : Nat} (hi3 : i < 3) (hh : (i < 2 → hi = 60) ∧ (i = 2 → hi = 1)) : ((0 ≤ x ∧ x ≤ hi) ∧ f_X0_mayBeTold S r 118 (nI i) (nI x) = some 1) ∨ (¬ (0 ≤ x ∧ x ≤ hi) ∧ f_X0_mayBeTold S r 118 (nI i) (nI x) = some 0) := by
  unfold f_X0_mayBeTold
  rw [if_neg (by decide), if_neg (by decide), if_neg (by decide), if_pos rfl]
  by_cases h2 : i < 2
  · rw [if_neg (show ¬ (2 : Int32) ≤ nI i from fun z => by have := (nI_leI (a := 2) (by omega) (by omega)).mp z; omega), hh.1 h2]
    by_cases q : 60 < x
    · rw [if_pos (show (60 : Int32) < nI x from (nI_ltI (a := 60) (by omega) (by omega)).mpr q)]; exact Or.inr ⟨by omega, rfl⟩
    · rw [if_neg (show ¬ (60 : Int32) < nI x from fun z => q ((nI_ltI (a := 60) (by omega) (by omega)).mp z))]; exact Or.inl ⟨by omega, rfl⟩
  · rw [if_pos (show (2 : Int32) ≤ nI i from (nI_leI (a := 2) (by omega) (by omega)).mpr (by omega)), hh.2 (by omega)]
    by_cases q : 1 < x
    · rw [if_pos (show (1 : Int32) < nI x from (nI_ltI (a := 1) (by omega) (by omega)).mpr q)]; exact Or.inr ⟨by omega, rfl⟩
    · rw [if_neg (show ¬ (1 : Int32) < nI x from fun z => q ((nI_ltI (a := 1) (by omega) (by omega)).mp z))]; exact Or.inl ⟨by omega, rfl⟩
theorem row_v (hr : 17 ≤ r) (h : Sim n p bt S T) (hDR : DR r nd S T) (h6 : nd < 6) (fl : Nat) : RowOut n p bt r S T k (f_X0_readItem_43 r (fl + 4) S 118 3 0) (f_X6_readRow T 118) := by
  have h0 := hDR
  obtain ⟨hnd, ⟨d1, d2, -⟩, -⟩ := h0
  have n16 : ∀ (Tx : zS) (st : Nat), st < 1000 → ¬ (zu Tx 31 16 (nI st)).1 31 16 = -9 := fun Tx st h => by rw [zu_at]; exact nI_st h
  have z33 : ∀ (Tx : zS) (x : Int32), (zu Tx 31 16 x).1 33 1 = Tx.1 33 1 := fun Tx x => by rw [zu_n (by decide)]
  have fin : ∀ (Sx T5 : zS) (st : Nat) (A : Option (Int32 × zS)) (R : Option zS), st < 1000 → A = some (0, Sx) → Sx.1 1 3 = nI st → R = some T5 → T5.1 31 16 = nI st → Fr (KC r) S Sx → Fr KR T T5 → RowOut n p bt r S T k A R := by
    intro Sx T5 st A R h1 h2 h3 h4 h5 h6 h7
    refine Or.inl ⟨st, Sx, T5, h1, h2, h3, ?_, h5, h6, h7⟩
    rw [h4]
    show Tail k _ = _
    exact Tail_x (by rw [h5]; exact nI_st h1)
  have fV1 : ∀ (Tx : zS) (x : Int32), Fr KD Tx (zr Tx 34 (upd (Tx.1 34) nd x)) := fun Tx x => Fr_upd (by unfold KD; omega)
  have fV2 : ∀ (Tx : zS) (x : Int32), Fr KD Tx (zr Tx 35 (upd (Tx.1 35) (6 + nd) x)) := fun Tx x => Fr_upd (by unfold KD; omega)
  have k16 : ∀ {A B : zS}, Fr KD A B → B.1 31 16 = A.1 31 16 := fun f => f.1 31 16 (fun q => by unfold KD at q; omega)
  have toR : ∀ {A B : zS}, Fr KD A B → Fr KR A B := fun f => f.mono (fun c j q => Or.inl q)
  obtain ⟨u1, u2, u3⟩ := num_of (T := T) 0 60 (fun x => 0 ≤ x ∧ x ≤ 60) (fun x hx => isw_w (lo := 0) (hi := 60) hx (by omega) (by omega))
  rcases numSim hr h 118 3 (i := 0) (by omega) (by decide) (fun x => 0 ≤ x ∧ x ≤ 60) (fun x hx => mbv S hx (by omega) ⟨fun _ => rfl, fun q => by omega⟩) (fun T => f_X6_number T 0 60) u1 u2 u3 (fl + 3) with ⟨st, y, a1, a2, a3, a4⟩ | ⟨x0, p1, S1, T1, a1, a2, a3, a4, a5, a6, a7, a8, a9⟩
  · have a4 : f_X6_number T 0 60 = some (y, zu T 31 16 (nI st)) := a4
    have f0 : Fr KR T (zu T 31 16 (nI st)) := Fr_zu (Or.inr ⟨rfl, by omega, by omega⟩)
    have g1 := fV1 (zu T 31 16 (nI st)) y
    have m1 := num_x (T := zr (zu T 31 16 (nI st)) 34 (upd ((zu T 31 16 (nI st)).1 34) nd y)) (by rw [k16 g1]; exact n16 T st a1) 0 60
    generalize (zr (zu T 31 16 (nI st)) 34 (upd ((zu T 31 16 (nI st)).1 34) nd y)).1 31 15 = y1 at m1
    have g2 := fV2 (zr (zu T 31 16 (nI st)) 34 (upd ((zu T 31 16 (nI st)).1 34) nd y)) y1
    have m2 := num_x (T := zr (zr (zu T 31 16 (nI st)) 34 (upd ((zu T 31 16 (nI st)).1 34) nd y)) 35 (upd ((zr (zu T 31 16 (nI st)) 34 (upd ((zu T 31 16 (nI st)).1 34) nd y)).1 35) (6 + nd) y1)) (by rw [k16 g2, k16 g1]; exact n16 T st a1) 0 1
    refine fin S _ st _ _ a1 a2 a3 (rowv_eq h6 d2 a4 (by rw [z33]; exact d2) m1 (by rw [zr_n (by decide), z33]; exact d2) m2 (by rw [zr_n (by decide), zr_n (by decide), z33]; exact d2)) (by rw [k16 (vE_fr nd _ _), k16 g2, k16 g1, zu_at]) Fr.rfl (((f0.trans (toR g1)).trans (toR g2)).trans (toR (vE_fr nd _ _)))
  have a5 : f_X6_number T 0 60 = some (nI x0, T1) := a5
  have t1 : T1.1 33 1 = nI nd := (a8.1 33 1 (fun q => by have := q.1; omega)).trans d2
  have fS1 := a6.mono (K' := KC r) (fun c j q => Kn_KC q)
  have g1 := fV1 T1 (nI x0)
  have fT1 : Fr KR T (zr T1 34 (upd (T1.1 34) nd (nI x0))) := (a8.mono (K' := KR) (fun c j q => K31_KR q)).trans (toR g1)
  have t1' : (zr T1 34 (upd (T1.1 34) nd (nI x0))).1 33 1 = nI nd := by rw [zr_n (by decide)]; exact t1
  have sim1 := Sim_fr a9 Fr.rfl g1
  obtain ⟨u1, u2, u3⟩ := num_of (T := zr T1 34 (upd (T1.1 34) nd (nI x0))) 0 60 (fun x => 0 ≤ x ∧ x ≤ 60) (fun x hx => isw_w (lo := 0) (hi := 60) hx (by omega) (by omega))
  rcases numSim hr sim1 118 3 (i := 1) (by omega) (by decide) (fun x => 0 ≤ x ∧ x ≤ 60) (fun x hx => mbv S1 hx (by omega) ⟨fun _ => rfl, fun q => by omega⟩) (fun T => f_X6_number T 0 60) u1 u2 u3 (fl + 2) with ⟨st, y, b1, b2, b3, b4⟩ | ⟨x1, p2, S2, T2, b1, b2, b3, b4, b5, b6, b7, b8, b9⟩
  · have b4 : f_X6_number (zr T1 34 (upd (T1.1 34) nd (nI x0))) 0 60 = some (y, zu (zr T1 34 (upd (T1.1 34) nd (nI x0))) 31 16 (nI st)) := b4
    generalize hU : zr T1 34 (upd (T1.1 34) nd (nI x0)) = U at b4 t1' fT1
    have f0 : Fr KR U (zu U 31 16 (nI st)) := Fr_zu (Or.inr ⟨rfl, by omega, by omega⟩)
    have g2 := fV2 (zu U 31 16 (nI st)) y
    have m2 := num_x (T := zr (zu U 31 16 (nI st)) 35 (upd ((zu U 31 16 (nI st)).1 35) (6 + nd) y)) (by rw [k16 g2]; exact n16 U st b1) 0 1
    refine fin S1 _ st _ _ b1 (Eq.trans a4 b2) b3 (rowv_eq h6 d2 a5 t1 (by rw [hU]; exact b4) (by rw [z33]; exact t1') m2 (by rw [zr_n (by decide), z33]; exact t1')) (by rw [k16 (vE_fr nd _ _), k16 g2, zu_at]) fS1 (((fT1.trans f0).trans (toR g2)).trans (toR (vE_fr nd _ _)))
  have b5 : f_X6_number (zr T1 34 (upd (T1.1 34) nd (nI x0))) 0 60 = some (nI x1, T2) := b5
  have t2 : T2.1 33 1 = nI nd := (b8.1 33 1 (fun q => by have := q.1; omega)).trans t1'
  have fS2 := fS1.trans (b6.mono (K' := KC r) (fun c j q => Kn_KC q))
  have g2 := fV2 T2 (nI x1)
  have fT2 : Fr KR T (zr T2 35 (upd (T2.1 35) (6 + nd) (nI x1))) := (fT1.trans (b8.mono (K' := KR) (fun c j q => K31_KR q))).trans (toR g2)
  have t2' : (zr T2 35 (upd (T2.1 35) (6 + nd) (nI x1))).1 33 1 = nI nd := by rw [zr_n (by decide)]; exact t2
  have sim2 := Sim_fr b9 Fr.rfl g2
  obtain ⟨u1, u2, u3⟩ := num_of (T := zr T2 35 (upd (T2.1 35) (6 + nd) (nI x1))) 0 1 (fun x => 0 ≤ x ∧ x ≤ 1) (fun x hx => isw_w (lo := 0) (hi := 1) hx (by omega) (by omega))
  rcases numSim hr sim2 118 3 (i := 2) (by omega) (by decide) (fun x => 0 ≤ x ∧ x ≤ 1) (fun x hx => mbv S2 hx (by omega) ⟨fun q => by omega, fun _ => rfl⟩) (fun T => f_X6_number T 0 1) u1 u2 u3 (fl + 1) with ⟨st, y, c1, c2, c3, c4⟩ | ⟨x2, p3, S3, T3, c1, c2, c3, c4, c5, c6, c7, c8, c9⟩
  · have c4 : f_X6_number (zr T2 35 (upd (T2.1 35) (6 + nd) (nI x1))) 0 1 = some (y, zu (zr T2 35 (upd (T2.1 35) (6 + nd) (nI x1))) 31 16 (nI st)) := c4
    generalize hU : zr T2 35 (upd (T2.1 35) (6 + nd) (nI x1)) = U at c4 t2' fT2
    have f0 : Fr KR U (zu U 31 16 (nI st)) := Fr_zu (Or.inr ⟨rfl, by omega, by omega⟩)
    refine fin S2 _ st _ _ c1 (Eq.trans a4 (Eq.trans b4 c2)) c3 (rowv_eq h6 d2 a5 t1 b5 t2 (by rw [hU]; exact c4) (by rw [z33]; exact t2')) (by rw [k16 (vE_fr nd _ _), zu_at]) fS2 ((fT2.trans f0).trans (toR (vE_fr nd _ _)))
  have c5 : f_X6_number (zr T2 35 (upd (T2.1 35) (6 + nd) (nI x1))) 0 1 = some (nI x2, T3) := c5
  have t3 : T3.1 33 1 = nI nd := (c8.1 33 1 (fun q => by have := q.1; omega)).trans t2'
  have fS3 := fS2.trans (c6.mono (K' := KC r) (fun c j q => Kn_KC q))
  have fT3 := fT2.trans (c8.mono (K' := KR) (fun c j q => K31_KR q))
  have eC : f_X0_readItem_43 r (fl + 4) S 118 3 0 = f_X0_readItem_104 r S3 118 := by
    refine Eq.trans a4 (Eq.trans b4 (Eq.trans c4 ?_))
    rw [f_X0_readItem_43, if_pos (by decide)]
  rw [eC, rowv_eq h6 d2 a5 t1 b5 t2 c5 t3]
  have v0 : S3.1 (r + 6) 0 = nI x0 := by
    rw [c6.1 (r + 6) 0 (fun q => by unfold Kn K1t at q; omega), b6.1 (r + 6) 0 (fun q => by unfold Kn K1t at q; omega)]; exact a7
  have v1 : S3.1 (r + 6) 1 = nI x1 := by
    rw [c6.1 (r + 6) 1 (fun q => by unfold Kn K1t at q; omega)]; exact b7
  refine rowEndE (nd' := nd + 1) hr (show p < p3 by omega) fS3 (fT3.trans (toR (vE_fr nd _ _))) (Sim_fr c9 Fr.rfl (vE_fr nd _ _)) (fun S4 f4 => ?_)
  have w : ∀ j, S4.1 (r + 6) j = S3.1 (r + 6) j := fun j => f4.1 (r + 6) j (fun q => by have := q.1; omega)
  have ff : Fr (fun c _ => c = 1 ∨ c = r + 6) S S4 := (((a6.mono (fun c j q => by unfold Kn K1t at q; omega)).trans (b6.mono (fun c j q => by unfold Kn K1t at q; omega))).trans (c6.mono (fun c j q => by unfold Kn K1t at q; omega))).trans (f4.mono (fun c j q => Or.inl q.1))
  have e6 : S4.1 r 6 = nI nd := (ff.1 r 6 (by omega)).trans d1
  have hcell : ∀ i, i < 6 → S4.1 (r + i) = S.1 (r + i) := fun i hi => ff.row (fun j q => by omega)
  have hc0 : S4.1 r = S.1 r := hcell 0 (by omega)
  refine ⟨zu (zr (zr (zr S4 (r + 1) (upd (S4.1 (r + 1)) nd (nI x0))) (r + 2) (upd (S4.1 (r + 2)) nd (nI x1))) (r + 3) (upd (S4.1 (r + 3)) nd (nI x2))) r 6 (nI (nd + 1)), ?_, ?_, fun T5 f5 => ?_⟩
  · unfold f_X0_takeItem
    rw [if_neg (by decide), if_neg (by decide), if_neg (by decide), if_pos rfl]
    unfold f_X0_takeVillage
    rw [e6, if_neg (nI_pos (by omega)), L_6, if_neg (fun z => by have := (nI_leI (by omega) (by omega)).mp z; omega), if_pos (zin_nI (by omega) (by omega)), if_pos (zin_nI (by omega) (by omega)), if_pos (zin_nI (by omega) (by omega)), cl (by omega)]
    have w0 := (w 0).trans v0
    have w1 := (w 1).trans v1
    have w2 := (w 2).trans c7
    rw [w0, zr_n (show r + 6 ≠ r + 1 by omega), w1, zr_n (show r + 2 ≠ r + 1 by omega), zr_n (show r + 6 ≠ r + 2 by omega), zr_n (show r + 6 ≠ r + 1 by omega), w2, zr_n (show r + 3 ≠ r + 2 by omega), zr_n (show r + 3 ≠ r + 1 by omega), zr_n (show r ≠ r + 3 by omega), zr_n (show r ≠ r + 2 by omega), zr_n (show r ≠ r + 1 by omega), e6, nI_1, Option.bind_some]
    unfold f_X0_takeItem_109
    rw [oncem.2.2.2.2.2, Option.bind_some, if_pos rfl]
  · exact ⟨fun c j q => by rw [zu_n (by omega), zr_n (by omega), zr_n (by omega), zr_n (by omega)], rfl⟩
  · obtain ⟨-, ⟨-, -, dv⟩, d3, d4, d5, d6, d7, ⟨W, hW, hWv⟩, d9⟩ := hDR
    have g : ∀ c, c ≠ 31 → T5.1 c = (vE nd T3 (nI x2)).1 c := fun c hc => f5.row (fun j q => hc q.1)
    have q3 : ∀ c, c ≠ 31 → T3.1 c = (zr T2 35 (upd (T2.1 35) (6 + nd) (nI x1))).1 c := fun c hc => c8.row (fun j q => hc q.1)
    have q2 : ∀ c, c ≠ 31 → T2.1 c = (zr T1 34 (upd (T1.1 34) nd (nI x0))).1 c := fun c hc => b8.row (fun j q => hc q.1)
    have q1 : ∀ c, c ≠ 31 → T1.1 c = T.1 c := fun c hc => a8.row (fun j q => hc q.1)
    have gg : ∀ c, c ≠ 31 → c ≠ 33 → c ≠ 34 → c ≠ 35 → c ≠ 36 → T5.1 c = T.1 c := fun c h1 h2 h3 h4 h5 => by
      rw [g c h1]; unfold vE; rw [zr_n h2, zr_n h5, q3 c h1, zr_n h4, q2 c h1, zr_n h3, q1 c h1]
    have g34 : T5.1 34 = upd (T.1 34) nd (nI x0) := by
      rw [g 34 (by decide)]; unfold vE; rw [zr_n (by decide), zr_n (by decide), q3 34 (by decide), zr_n (by decide), q2 34 (by decide), zr_s, q1 34 (by decide)]
    have g35 : T5.1 35 = upd (T.1 35) (6 + nd) (nI x1) := by
      rw [g 35 (by decide)]; unfold vE; rw [zr_n (by decide), zr_n (by decide), q3 35 (by decide), zr_s, q2 35 (by decide), zr_n (by decide), q1 35 (by decide)]
    have g36 : T5.1 36 = upd (T.1 36) (6 + nd) (nI x2) := by
      rw [g 36 (by decide)]; unfold vE; rw [zr_n (by decide), zr_s, q3 36 (by decide), zr_n (by decide), q2 36 (by decide), zr_n (by decide), q1 36 (by decide)]
    have g33 : T5.1 33 1 = nI (nd + 1) := by
      rw [g 33 (by decide)]; unfold vE; rw [zr_s, upd_s]
    have g31 : T5.1 31 11 = T.1 31 11 := by
      rw [f5.1 31 11 (fun q => by have := q.2; omega)]; unfold vE; rw [zr_n (by decide), zr_n (by decide), c8.1 31 11 (fun q => by have := q.2; omega), zr_n (by decide), b8.1 31 11 (fun q => by have := q.2; omega), zr_n (by decide), a8.1 31 11 (fun q => by have := q.2; omega)]
    have s1 : (zu (zr (zr (zr S4 (r + 1) (upd (S4.1 (r + 1)) nd (nI x0))) (r + 2) (upd (S4.1 (r + 2)) nd (nI x1))) (r + 3) (upd (S4.1 (r + 3)) nd (nI x2))) r 6 (nI (nd + 1))).1 (r + 1) = upd (S.1 (r + 1)) nd (nI x0) := by
      rw [zu_n (by omega), zr_n (by omega), zr_n (by omega), zr_s, hcell 1 (by omega)]
    have s2 : (zu (zr (zr (zr S4 (r + 1) (upd (S4.1 (r + 1)) nd (nI x0))) (r + 2) (upd (S4.1 (r + 2)) nd (nI x1))) (r + 3) (upd (S4.1 (r + 3)) nd (nI x2))) r 6 (nI (nd + 1))).1 (r + 2) = upd (S.1 (r + 2)) nd (nI x1) := by
      rw [zu_n (by omega), zr_n (by omega), zr_s, hcell 2 (by omega)]
    have s3 : (zu (zr (zr (zr S4 (r + 1) (upd (S4.1 (r + 1)) nd (nI x0))) (r + 2) (upd (S4.1 (r + 2)) nd (nI x1))) (r + 3) (upd (S4.1 (r + 3)) nd (nI x2))) r 6 (nI (nd + 1))).1 (r + 3) = upd (S.1 (r + 3)) nd (nI x2) := by
      rw [zu_n (by omega), zr_s, hcell 3 (by omega)]
    have s45 : ∀ i, 3 < i → i < 6 → (zu (zr (zr (zr S4 (r + 1) (upd (S4.1 (r + 1)) nd (nI x0))) (r + 2) (upd (S4.1 (r + 2)) nd (nI x1))) (r + 3) (upd (S4.1 (r + 3)) nd (nI x2))) r 6 (nI (nd + 1))).1 (r + i) = S.1 (r + i) := fun i h1 h2 => by
      rw [zu_n (by omega), zr_n (by omega), zr_n (by omega), zr_n (by omega), hcell i h2]
    have s0 : ∀ j, j ≠ 6 → (zu (zr (zr (zr S4 (r + 1) (upd (S4.1 (r + 1)) nd (nI x0))) (r + 2) (upd (S4.1 (r + 2)) nd (nI x1))) (r + 3) (upd (S4.1 (r + 3)) nd (nI x2))) r 6 (nI (nd + 1))).1 r j = S.1 r j := fun j hj => by
      rw [zu_off (Or.inr hj), zr_n (by omega), zr_n (by omega), zr_n (by omega), hc0]
    unfold DR
    rw [s1, s2, s3, s45 4 (by omega) (by omega), s45 5 (by omega) (by omega), zu_at, s0 7 (by omega), s0 8 (by omega), s0 9 (by omega), s0 10 (by omega), s0 11 (by omega), g33, g34, g35, g36, g31, gg 37 (by decide) (by decide) (by decide) (by decide) (by decide), gg 38 (by decide) (by decide) (by decide) (by decide) (by decide), gg 39 (by decide) (by decide) (by decide) (by decide) (by decide), gg 40 (by decide) (by decide) (by decide) (by decide) (by decide)]
    refine ⟨by omega, ⟨rfl, rfl, fun v hv => ?_⟩, d3, d4, d5, d6, d7, ⟨W, ⟨hW.1, hW.2.1, hW.2.2.1, fun a b ha hb hab ho => hW.2.2.2 a b ha hb hab (by omega)⟩, hWv⟩, d9⟩
    by_cases he : v = nd
    · subst he
      exact ⟨⟨x0, a1.2, upd_s .., upd_s ..⟩, ⟨x1, b1.2, upd_s .., upd_s ..⟩, ⟨x2, c1.2, upd_s .., upd_s ..⟩⟩
    · rw [upd_n he, upd_n he, upd_n he, upd_n he, upd_n (show 6 + v ≠ 6 + nd by omega), upd_n (show 6 + v ≠ 6 + nd by omega)]
      exact dv v (by omega)
end ROWV
