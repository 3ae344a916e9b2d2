section PAIRS
variable {S T : zS} {n p r nd nd' : Nat} {bt : Nat → Nat} {k : zS → Option (Int32 × zS)} {a : Int32}
theorem rowEndE (hr : 17 ≤ r) {S0 T0 : zS} {p0 : Nat} (hp0 : p0 < p) (f0 : Fr (KC r) S0 S) (g0 : Fr KR T0 T) (hsim : Sim n p bt S T) (hC : ∀ S2, Fr K1t S S2 → ∃ S5, f_X0_takeItem S2 r a = some S5 ∧ Fr (fun c _ => r ≤ c ∧ c ≤ r + 6) S2 S5 ∧ ∀ T2, Fr K31t T T2 → DR r nd' S5 T2) :
    RowOut n p0 bt r S0 T0 k (f_X0_readItem_104 r S a) (some T) := by
  rcases stopSim (r := r) hsim a with ⟨st, h1, h2, h3, h4, h5⟩ | ⟨p', S', T', h1, h2, h3, h4, h5, h6, h7⟩
  · refine Or.inl ⟨st, S, zu T 31 16 (nI st), h1, h2, h3, ?_, zu_at _ _ _ _, f0, g0.trans (Fr_zu (Or.inr ⟨rfl, by omega, by omega⟩))⟩
    show Tail k T = _
    unfold Tail
    rw [if_neg h4, h5]; rfl
  · obtain ⟨S5, c1, c2, c3⟩ := hC S' h5
    refine Or.inr ⟨S5, T', nd', p', by omega, ?_, ?_, f0.trans ((h5.mono (fun c j q => Or.inl q)).trans (c2.mono (fun c j q => Or.inr q))), g0.trans (h6.mono (fun c j q => Or.inr ⟨q.1, q.2.1, by have := q.2.2; omega⟩)), Sim_fr h7 (c2.mono (fun c j q => by omega)) Fr.rfl, c3 T' h6⟩
    · rw [h2, c1]; rfl
    · show Tail k T = _
      unfold Tail
      rw [if_pos h3, h4]; rfl
theorem mbe (hL : S.1 r 6 = nI nd) (hn : nd ≤ 6) {x : Nat} (hx : x ≤ 99) : (x < nd ∧ f_X0_mayBeEnd S r 0 (nI x) = some 1) ∨ (¬ x < nd ∧ f_X0_mayBeEnd S r 0 (nI x) = some 0) := by
  unfold f_X0_mayBeEnd
  by_cases h : x < nd
  · rw [knows_in S r hL hn h, Option.bind_some, if_neg one_ne, if_pos rfl]; exact Or.inl ⟨h, rfl⟩
  · rw [knows_out S r hL hn (by rintro ⟨j, hj, he⟩; have := (nI_eq (by omega) (by omega)).mp he; omega), Option.bind_some, if_pos rfl]; exact Or.inr ⟨h, rfl⟩
theorem mbe1 (hL : S.1 r 6 = nI nd) (hn : nd ≤ 6) {x x0 : Nat} (hx : x ≤ 99) (hx0 : x0 ≤ 99) (h0 : S.1 (r + 6) 0 = nI x0) : ((x < nd ∧ x ≠ x0) ∧ f_X0_mayBeEnd S r 1 (nI x) = some 1) ∨ (¬ (x < nd ∧ x ≠ x0) ∧ f_X0_mayBeEnd S r 1 (nI x) = some 0) := by
  unfold f_X0_mayBeEnd
  by_cases h : x < nd
  · rw [knows_in S r hL hn h, Option.bind_some, if_neg one_ne, if_neg one_ne, h0]
    by_cases he : x = x0
    · rw [if_pos (by rw [he])]; exact Or.inr ⟨by omega, rfl⟩
    · rw [if_neg (fun z => he ((nI_eq (by omega) (by omega)).mp z))]; exact Or.inl ⟨⟨h, he⟩, rfl⟩
  · rw [knows_out S r hL hn (by rintro ⟨j, hj, he⟩; have := (nI_eq (by omega) (by omega)).mp he; omega), Option.bind_some, if_pos rfl]; exact Or.inr ⟨by omega, rfl⟩
theorem in_nd {x : Nat} (hx : x ≤ 99) (hn : nd ≤ 6) : (x < nd ∧ f_X6_in (nI x) 0 (nI nd - 1) = some 1) ∨ (¬ x < nd ∧ f_X6_in (nI x) 0 (nI nd - 1) = some 0) := by
  unfold f_X6_in
  rw [if_neg (nI_pos (by omega))]
  have e : nI nd - 1 < nI x ↔ ¬ x < nd := by
    rw [i_lt, L_1, i_sub (by rw [nI_i (by omega), nI_i (by omega)]; omega) (by rw [nI_i (by omega), nI_i (by omega)]; omega), nI_i (by omega), nI_i (by omega), nI_i (by omega)]
    omega
  by_cases h : x < nd
  · rw [if_neg (fun z => (e.mp z) h)]; exact Or.inl ⟨h, rfl⟩
  · rw [if_pos (e.mpr h)]; exact Or.inr ⟨h, rfl⟩
theorem num_of (lo hi : Int32) (P : Nat → Prop) (hlo : ∀ x, x ≤ 99 → (P x ∧ f_X6_in (nI x) lo hi = some 1) ∨ (¬ P x ∧ f_X6_in (nI x) lo hi = some 0)) :
    (∀ x, x ≤ 99 → P x → T.1 31 14 = 1 → T.1 31 15 = nI x → f_X6_number T lo hi = f_X6_due T 1) ∧ (∀ x, x ≤ 99 → ¬ P x → T.1 31 14 = 1 → T.1 31 15 = nI x → f_X6_number T lo hi = f_X6_due T 0) ∧ (¬ T.1 31 14 = 1 → f_X6_number T lo hi = f_X6_due T 0) := by
  refine ⟨fun x hx hP h1 h2 => ?_, fun x hx hP h1 h2 => ?_, fun h1 => ?_⟩
  · rcases hlo x hx with ⟨-, q⟩ | ⟨q, -⟩
    · unfold f_X6_number
      rw [if_pos h1, h2, q, Option.bind_some, if_neg one_ne]; exact zb2_eta _
    · exact absurd hP q
  · rcases hlo x hx with ⟨q, -⟩ | ⟨-, q⟩
    · exact absurd q hP
    · unfold f_X6_number
      rw [if_pos h1, h2, q, Option.bind_some, if_pos rfl]; exact zb2_eta _
  · unfold f_X6_number
    rw [if_neg h1]; exact zb2_eta _
theorem another_of {x0 : Nat} (hx0 : x0 ≤ 99) (h33 : T.1 33 1 = nI nd) (hn : nd ≤ 6) :
    (∀ x, x ≤ 99 → (x < nd ∧ x ≠ x0) → T.1 31 14 = 1 → T.1 31 15 = nI x → f_X6_another T (nI x0) = f_X6_due T 1) ∧ (∀ x, x ≤ 99 → ¬ (x < nd ∧ x ≠ x0) → T.1 31 14 = 1 → T.1 31 15 = nI x → f_X6_another T (nI x0) = f_X6_due T 0) ∧ (¬ T.1 31 14 = 1 → f_X6_another T (nI x0) = f_X6_due T 0) := by
  refine ⟨fun x hx hP h1 h2 => ?_, fun x hx hP h1 h2 => ?_, fun h1 => ?_⟩
  · unfold f_X6_another
    rw [if_pos h1, h33, h2, if_neg (fun z => by have := (nI_leI (by omega) (by omega)).mp z; omega), if_neg (fun z => hP.2 ((nI_eq (by omega) (by omega)).mp z))]; exact zb2_eta _
  · unfold f_X6_another
    rw [if_pos h1, h33, h2]
    by_cases h : nd ≤ x
    · rw [if_pos ((nI_leI (by omega) (by omega)).mpr h)]; exact zb2_eta _
    · rw [if_neg (fun z => h ((nI_leI (by omega) (by omega)).mp z)), if_pos ((nI_eq (by omega) (by omega)).mpr (by omega))]; exact zb2_eta _
  · unfold f_X6_another
    rw [if_neg h1]; exact zb2_eta _
theorem row3 (hr : 17 ≤ r) (h : Sim n p bt S T) (hDR : DR r nd S T) {hi : Nat} (hhi : hi ≤ 99) (F : zS → zS) (E : Int32 → Int32 → Int32 → zS → Option zS) (hF : ∀ T, Fr KD T (F T))
    (hm0 : ∀ S x v, f_X0_mayBeEnd S r 0 x = some v → zbl v → f_X0_mayBeTold S r a 0 x = some v) (hm1 : ∀ S x v, f_X0_mayBeEnd S r 1 x = some v → zbl v → f_X0_mayBeTold S r a 1 x = some v) (hm2 : ∀ S x v, f_X5_isWithin x 1 (nI hi) = some v → zbl v → f_X0_mayBeTold S r a 2 x = some v)
    (hrow : f_X6_readRow T a = zb2 (f_X6_number T 0 (T.1 33 1 - 1)) (fun x3 S4 => zb2 (f_X6_another S4 x3) (fun x6 S7 => zb2 (f_X6_number S7 1 (nI hi)) (fun x9 S10 => if S10.1 31 16 = -9 then E x3 x6 x9 S10 else some (F S10)))))
    (hgood : ∀ x0 x1 x2 S3 T3, x0 < nd → x1 < nd → x1 ≠ x0 → 1 ≤ x2 → x2 ≤ hi → DR r nd S3 T3 → S3.1 (r + 6) 0 = nI x0 → S3.1 (r + 6) 1 = nI x1 → S3.1 (r + 6) 2 = nI x2 → S3.1 r 7 = S.1 r 7 → ∃ T4, E (nI x0) (nI x1) (nI x2) T3 = some T4 ∧ Fr KD T3 T4 ∧ ∃ S5, f_X0_takeItem S3 r a = some S5 ∧ Fr (fun c _ => r ≤ c ∧ c ≤ r + 6) S3 S5 ∧ DR r nd S5 T4) (fl : Nat) :
    RowOut n p bt r S T k (f_X0_readItem_43 r (fl + 4) S a 3 0) (f_X6_readRow T a) := by
  have h0 := hDR
  obtain ⟨hnd, ⟨d1, d2, -⟩, -⟩ := h0
  have fin : ∀ (Sx Tx : zS) (st : Nat) (A : Option (Int32 × zS)) (R : Option zS), st < 1000 → A = some (0, Sx) → Sx.1 1 3 = nI st → R = some (F (zu Tx 31 16 (nI st))) → Fr (KC r) S Sx → Fr KR T Tx → RowOut n p bt r S T k A R := by
    intro Sx Tx st A R h1 h2 h3 h4 h5 h6
    have e16 : (F (zu Tx 31 16 (nI st))).1 31 16 = nI st := ((hF (zu Tx 31 16 (nI st))).1 31 16 (fun q => by unfold KD at q; omega)).trans (zu_at _ _ _ _)
    refine Or.inl ⟨st, Sx, F (zu Tx 31 16 (nI st)), h1, h2, h3, ?_, e16, h5, h6.trans ((Fr_zu (Or.inr ⟨rfl, by omega, by omega⟩)).trans ((hF _).mono (fun c j q => Or.inl q)))⟩
    rw [h4]
    show Tail k _ = _
    exact Tail_x (by rw [e16]; exact nI_st h1)
  have n16 : ∀ (Tx : zS) (st : Nat), st < 1000 → ¬ (zu Tx 31 16 (nI st)).1 31 16 = -9 := fun Tx st h => by rw [zu_at]; exact nI_st h
  obtain ⟨u1, u2, u3⟩ := num_of (T := T) 0 (nI nd - 1) (fun x => x < nd) (fun x hx => in_nd hx hnd)
  rcases numSim hr h a 3 (i := 0) (by omega) (by decide) (fun x => x < nd) (fun x hx => by
      rcases mbe d1 hnd hx with ⟨q, e⟩ | ⟨q, e⟩
      · exact Or.inl ⟨q, hm0 S _ _ e zbl1⟩
      · exact Or.inr ⟨q, hm0 S _ _ e zbl0⟩) (fun T => f_X6_number T 0 (nI nd - 1)) u1 u2 u3 (fl + 3) with ⟨st, y, a1, a2, a3, a4⟩ | ⟨x0, p1, S1, T1, a1, a2, a3, a4, a5, a6, a7, a8, a9⟩
  · have a4 : f_X6_number T 0 (nI nd - 1) = some (y, zu T 31 16 (nI st)) := a4
    refine fin S T st _ _ a1 a2 a3 ?_ Fr.rfl Fr.rfl
    rw [hrow, d2, a4, zb2_some, another_x (n16 T st a1), zb2_some, num_x (n16 T st a1), zb2_some, if_neg (n16 T st a1)]
  have a5 : f_X6_number T 0 (nI nd - 1) = some (nI x0, T1) := a5
  have hDR1 : DR r nd S1 T1 := DR_fr hr hDR (a6.mono (fun c j q => by unfold Kn K1t at q; omega)) (a8.mono (fun c j q => by unfold K31t at q; omega))
  have h0 := hDR1
  obtain ⟨-, ⟨d1', d2', -⟩, -⟩ := h0
  obtain ⟨u1, u2, u3⟩ := another_of (T := T1) (x0 := x0) (by omega) d2' hnd
  have fS1 := a6.mono (K' := KC r) (fun c j q => Kn_KC q)
  have fT1 := a8.mono (K' := KR) (fun c j q => K31_KR q)
  rcases numSim hr a9 a 3 (i := 1) (by omega) (by decide) (fun x => x < nd ∧ x ≠ x0) (fun x hx => by
      rcases mbe1 d1' hnd hx (by omega) a7 with ⟨q, e⟩ | ⟨q, e⟩
      · exact Or.inl ⟨q, hm1 S1 _ _ e zbl1⟩
      · exact Or.inr ⟨q, hm1 S1 _ _ e zbl0⟩) (fun T => f_X6_another T (nI x0)) u1 u2 u3 (fl + 2) with ⟨st, y, b1, b2, b3, b4⟩ | ⟨x1, p2, S2, T2, b1, b2, b3, b4, b5, b6, b7, b8, b9⟩
  · have b4 : f_X6_another T1 (nI x0) = some (y, zu T1 31 16 (nI st)) := b4
    refine fin S1 T1 st _ _ b1 (Eq.trans a4 b2) b3 ?_ fS1 fT1
    rw [hrow, d2, a5, zb2_some, b4, zb2_some, num_x (n16 T1 st b1), zb2_some, if_neg (n16 T1 st b1)]
  have b5 : f_X6_another T1 (nI x0) = some (nI x1, T2) := b5
  have hDR2 : DR r nd S2 T2 := DR_fr hr hDR1 (b6.mono (fun c j q => by unfold Kn K1t at q; omega)) (b8.mono (fun c j q => by unfold K31t at q; omega))
  obtain ⟨u1, u2, u3⟩ := num_of (T := T2) 1 (nI hi) (fun x => 1 ≤ x ∧ x ≤ hi) (fun x hx => isw_w (lo := 1) (hi := hi) hx (by omega) (by omega))
  have fS2 := fS1.trans (b6.mono (K' := KC r) (fun c j q => Kn_KC q))
  have fT2 := fT1.trans (b8.mono (K' := KR) (fun c j q => K31_KR q))
  rcases numSim hr b9 a 3 (i := 2) (by omega) (by decide) (fun x => 1 ≤ x ∧ x ≤ hi) (fun x hx => by
      rcases isw_w (lo := 1) (hi := hi) hx (by omega) (by omega) with ⟨q, e⟩ | ⟨q, e⟩
      · exact Or.inl ⟨q, hm2 S2 _ _ e zbl1⟩
      · exact Or.inr ⟨q, hm2 S2 _ _ e zbl0⟩) (fun T => f_X6_number T 1 (nI hi)) u1 u2 u3 (fl + 1) with ⟨st, y, c1, c2, c3, c4⟩ | ⟨x2, p3, S3, T3, c1, c2, c3, c4, c5, c6, c7, c8, c9⟩
  · have c4 : f_X6_number T2 1 (nI hi) = some (y, zu T2 31 16 (nI st)) := c4
    refine fin S2 T2 st _ _ c1 (Eq.trans a4 (Eq.trans b4 c2)) c3 ?_ fS2 fT2
    rw [hrow, d2, a5, zb2_some, b5, zb2_some, c4, zb2_some, if_neg (n16 T2 st c1)]
  have c5 : f_X6_number T2 1 (nI hi) = some (nI x2, T3) := c5
  have hDR3 : DR r nd S3 T3 := DR_fr hr hDR2 (c6.mono (fun c j q => by unfold Kn K1t at q; omega)) (c8.mono (fun c j q => by unfold K31t at q; omega))
  have v0 : S3.1 (r + 6) 0 = nI x0 := by
    rw [c6.1 (r + 6) 0 (fun q => by unfold Kn K1t at q; omega), b6.1 (r + 6) 0 (fun q => by unfold Kn K1t at q; omega)]; exact a7
  have v1 : S3.1 (r + 6) 1 = nI x1 := by
    rw [c6.1 (r + 6) 1 (fun q => by unfold Kn K1t at q; omega)]; exact b7
  have v7 : S3.1 r 7 = S.1 r 7 := by
    rw [c6.1 r 7 (fun q => by unfold Kn K1t at q; omega), b6.1 r 7 (fun q => by unfold Kn K1t at q; omega), a6.1 r 7 (fun q => by unfold Kn K1t at q; omega)]
  obtain ⟨T4, e1, e2, -⟩ := hgood x0 x1 x2 S3 T3 a1 b1.1 b1.2 c1.1 c1.2 hDR3 v0 v1 c7 v7
  have eC : f_X0_readItem_43 r (fl + 4) S a 3 0 = f_X0_readItem_104 r S3 a := by
    refine Eq.trans a4 (Eq.trans b4 (Eq.trans c4 ?_))
    rw [f_X0_readItem_43, if_pos (by decide)]
  have eR : f_X6_readRow T a = some T4 := by
    rw [hrow, d2, a5, zb2_some, b5, zb2_some, c5, zb2_some, if_pos c9.2.2.2]; exact e1
  rw [eC, eR]
  refine rowEndE (nd' := nd) hr (show p < p3 by omega) (fS2.trans (c6.mono (fun c j q => Kn_KC q))) ((fT2.trans (c8.mono (fun c j q => K31_KR q))).trans (e2.mono (fun c j q => Or.inl q))) (Sim_fr c9 Fr.rfl e2) (fun S4 f4 => ?_)
  have w : ∀ j, S4.1 (r + 6) j = S3.1 (r + 6) j := fun j => f4.1 (r + 6) j (fun q => by have := q.1; omega)
  obtain ⟨T4', e1', -, S5, g1, g2, g3⟩ := hgood x0 x1 x2 S4 T3 a1 b1.1 b1.2 c1.1 c1.2 (DR_fr hr hDR3 (f4.mono (fun c j q => Or.inl q.1)) Fr.rfl) ((w 0).trans v0) ((w 1).trans v1) ((w 2).trans c7) ((f4.1 r 7 (fun q => by have := q.1; omega)).trans v7)
  have : T4' = T4 := Option.some.inj (e1'.symm.trans e1)
  subst this
  exact ⟨S5, g1, g2, fun T2 f2 => DR_fr hr g3 Fr.rfl (f2.mono (fun c j q => ⟨q.1, q.2.1⟩))⟩
end PAIRS
