/-! items: numbers and stops -/
def KD (c j : Nat) : Prop := (c = 31 ∧ j = 11) ∨ (c = 33 ∧ j = 1) ∨ c = 34 ∨ ((c = 35 ∨ c = 36) ∧ 6 ≤ j) ∨ (c = 37 ∧ j = 1) ∨ ((c = 38 ∨ c = 39) ∧ 36 ≤ j) ∨ (c = 40 ∧ 3 ≤ j)
def KR (c j : Nat) : Prop := KD c j ∨ (c = 31 ∧ 12 ≤ j ∧ j ≤ 16)
def KC (r c j : Nat) : Prop := K1t c j ∨ (r ≤ c ∧ c ≤ r + 6)
def Kn (r i c j : Nat) : Prop := K1t c j ∨ (c = r + 6 ∧ j = i)
def Sim (n p : Nat) (bt : Nat → Nat) (S T : zS) : Prop := TXc n bt S ∧ TXr n bt T ∧ TokR n p S T ∧ T.1 31 16 = -9
section ITEM
variable {S T S' T' : zS} {n p r : Nat} {bt : Nat → Nat}
theorem TokR_fr (h : TokR n p S T) (hS : ∀ j, S'.1 1 j = S.1 1 j) (hT : ∀ j, 12 ≤ j → j ≤ 15 → T'.1 31 j = T.1 31 j) : TokR n p S' T' := by
  unfold TokR
  rw [hS, hS, hS, hS, hT 12 (by omega) (by omega), hT 13 (by omega) (by omega), hT 14 (by omega) (by omega), hT 15 (by omega) (by omega)]
  exact h
theorem Sim_fr (h : Sim n p bt S T) (hS : Fr (fun c _ => 17 ≤ c) S S') (hT : Fr KD T T') : Sim n p bt S' T' := by
  obtain ⟨a, b, c, d⟩ := h
  have hk : ∀ j, j ≠ 11 → ¬ KD 31 j := fun j hj q => by unfold KD at q; omega
  refine ⟨⟨a.1, (hS.1 1 1 (by decide)).trans a.2.1, fun j hj => ⟨(a.2.2 j hj).1, (hS.1 2 j (by show ¬ (17 ≤ 2); omega)).trans (a.2.2 j hj).2⟩⟩, ⟨b.1, (hT.1 31 2 (hk 2 (by decide))).trans b.2.1, fun j hj => ⟨(b.2.2 j hj).1, ?_⟩⟩, TokR_fr c (fun j => hS.1 1 j (by show ¬ (17 ≤ 1); omega)) (fun j h1 h2 => hT.1 31 j (hk j (by omega))), (hT.1 31 16 (hk 16 (by decide))).trans d⟩
  rw [hT.1 32 j (fun q => by unfold KD at q; omega)]
  exact (b.2.2 j hj).2
theorem due0 (h : T.1 31 16 = -9) : f_X6_due T 0 = some (T.1 31 15, zu T 31 16 (T.1 31 13)) := by
  unfold f_X6_due
  rw [if_pos h, if_pos rfl]
theorem due1 (h : T.1 31 16 = -9) (hs : f_X6_step T = some T') : f_X6_due T 1 = some (T.1 31 15, T') := by
  unfold f_X6_due
  rw [if_pos h, if_neg one_ne, hs, Option.bind_some]
theorem due_x (h : ¬ T.1 31 16 = -9) (a : Int32) : f_X6_due T a = some (T.1 31 15, T) := by
  unfold f_X6_due
  rw [if_neg h]
theorem num_x (h : ¬ T.1 31 16 = -9) (a b : Int32) : f_X6_number T a b = some (T.1 31 15, T) := by
  unfold f_X6_number
  by_cases h1 : T.1 31 14 = 1
  · rw [if_pos h1, in_isw]
    rcases isw (T.1 31 15) a b with q | ⟨q, -⟩
    · rw [q, Option.bind_some, if_pos rfl, due_x h]; rfl
    · rw [q, Option.bind_some, if_neg one_ne, due_x h]; rfl
  · rw [if_neg h1, due_x h]; rfl
theorem another_x (h : ¬ T.1 31 16 = -9) (a : Int32) : f_X6_another T a = some (T.1 31 15, T) := by
  unfold f_X6_another
  rw [due_x h, due_x h]
  by_cases h1 : T.1 31 14 = 1
  · rw [if_pos h1]
    by_cases h2 : T.1 33 1 ≤ T.1 31 15
    · rw [if_pos h2]; rfl
    · rw [if_neg h2]
      by_cases h3 : T.1 31 15 = a
      · rw [if_pos h3]; rfl
      · rw [if_neg h3]; rfl
  · rw [if_neg h1]; rfl
/-- one number, on both sides -/
theorem numSim (hr : 17 ≤ r) (h : Sim n p bt S T) (a cnt : Int32) {i : Nat} (hi : i < 3) (hcnt : ¬ cnt ≤ nI i) (P : Nat → Prop) (hC : ∀ x, x ≤ 99 → (P x ∧ f_X0_mayBeTold S r a (nI i) (nI x) = some 1) ∨ (¬ P x ∧ f_X0_mayBeTold S r a (nI i) (nI x) = some 0))
    (N : zS → Option (Int32 × zS)) (hG : ∀ x, x ≤ 99 → P x → T.1 31 14 = 1 → T.1 31 15 = nI x → N T = f_X6_due T 1) (hB : ∀ x, x ≤ 99 → ¬ P x → T.1 31 14 = 1 → T.1 31 15 = nI x → N T = f_X6_due T 0) (hB2 : ¬ T.1 31 14 = 1 → N T = f_X6_due T 0) (fl : Nat) :
    (∃ st y, st < 1000 ∧ f_X0_readItem_43 r (fl + 1) S a cnt (nI i) = some (0, S) ∧ S.1 1 3 = nI st ∧ N T = some (y, zu T 31 16 (nI st))) ∨
    (∃ x p' S' T', P x ∧ x ≤ 99 ∧ p < p' ∧ f_X0_readItem_43 r (fl + 1) S a cnt (nI i) = f_X0_readItem_43 r fl S' a cnt (nI (i + 1)) ∧ N T = some (nI x, T') ∧ Fr (Kn r i) S S' ∧ S'.1 (r + 6) i = nI x ∧ Fr K31t T T' ∧ Sim n p' bt S' T') := by
  obtain ⟨hS, hT, ⟨st, p', k1, k2, k3, k4, k5, k6, k7, k8⟩, h16⟩ := h
  have hn := hS.1
  have e0 : f_X0_readItem_43 r (fl + 1) S a cnt (nI i) = (if (S.1 1 4) = (2 : Int32) then ((f_X0_mayBeTold S r a (nI i) (S.1 1 5)).bind (fun x5 => (if x5 = 0 then some ((0 : Int32), S) else ((f_X3_toNextToken (zr S (r + 6) (upd (S.1 (r + 6)) i (S.1 1 5)))).bind (fun S9 => f_X0_readItem_43 r fl S9 a cnt (nI (i + 1))))))) else some ((0 : Int32), S)) := by
    rw [f_X0_readItem_43, if_neg hcnt, L_3, if_neg (fun z => by have := (nI_leI (by omega) (by omega)).mp z; omega), if_pos (zin_nI (by omega) (by omega)), cl (by omega), nI_1]
  have bad : ¬ S.1 1 4 = 2 → ¬ T.1 31 14 = 1 → ∃ st y, st < 1000 ∧ f_X0_readItem_43 r (fl + 1) S a cnt (nI i) = some (0, S) ∧ S.1 1 3 = nI st ∧ N T = some (y, zu T 31 16 (nI st)) := fun q1 q2 => by
    refine ⟨st, T.1 31 15, by omega, by rw [e0, if_neg q1], k4, ?_⟩
    rw [hB2 q2, due0 h16, k5]
  rcases k8 with ⟨q1, q2⟩ | ⟨hpp, ⟨q1, x, x1, x2, q3, q4⟩ | ⟨q1, q2, q3⟩ | ⟨q1, q2, x, hx, q3, q4⟩ | ⟨q1, q2⟩ | ⟨q1, q2⟩⟩
  · exact Or.inl (bad (by rw [q1]; decide) (by rw [q2]; decide))
  · exact Or.inl (bad (by rw [q1]; decide) (by rw [q4]; exact fun z => by have := (nI_eq (b := 1) (by omega) (by omega)).mp z; omega))
  · exact Or.inl (bad (by rw [q1]; decide) (by rw [q3]; decide))
  · rw [e0, if_pos q1, q3]
    rcases hC x hx with ⟨hP, hM⟩ | ⟨hP, hM⟩
    · right
      rw [hM, Option.bind_some, if_neg one_ne]
      have f1 : Fr (Kn r i) S (zr S (r + 6) (upd (S.1 (r + 6)) i (nI x))) := Fr_upd (Or.inr ⟨rfl, rfl⟩)
      have hS1 : TXc n bt (zr S (r + 6) (upd (S.1 (r + 6)) i (nI x))) := ⟨hS.1, (f1.1 1 1 (fun q => by unfold Kn K1t at q; omega)).trans hS.2.1, fun j hj => ⟨(hS.2.2 j hj).1, (f1.1 2 j (fun q => by unfold Kn K1t at q; omega)).trans (hS.2.2 j hj).2⟩⟩
      obtain ⟨S', T', t1, t2, t3, t4, t5⟩ := tok_sim hS1 hT (p := p') (by rw [zr_n (by omega)]; exact k6) k7 k3
      have hx6 : S'.1 (r + 6) i = nI x := by
        rw [t3.1 (r + 6) i (fun q => by have := q.1; omega), zr_s, upd_s]
      refine ⟨x, p', S', T', hP, hx, hpp, by rw [t1, Option.bind_some], by rw [hG x hx hP q2 q4, due1 h16 t2, q4], f1.trans (t3.mono (fun c j q => Or.inl q)), hx6, t4, TXc_fr hS1 t3, TXr_fr hT t4, t5, (t4.1 31 16 (fun q => by have := q.2; omega)).trans h16⟩
    · left
      refine ⟨st, T.1 31 15, by omega, by rw [hM, Option.bind_some, if_pos rfl], k4, ?_⟩
      rw [hB x hx hP q2 q4, due0 h16, k5]
  · exact Or.inl (bad (by rw [q1]; decide) (by rw [q2]; decide))
  · exact Or.inl (bad (by rw [q1]; decide) (by rw [q2]; decide))
/-- the stop -/
theorem stopSim (h : Sim n p bt S T) (a : Int32) :
    (∃ st, st < 1000 ∧ f_X0_readItem_104 r S a = some (0, S) ∧ S.1 1 3 = nI st ∧ ¬ T.1 31 14 = 2 ∧ f_X6_due T 0 = some (T.1 31 15, zu T 31 16 (nI st))) ∨
    (∃ p' S' T', p < p' ∧ f_X0_readItem_104 r S a = (f_X0_takeItem S' r a).bind (fun S5 => some (1, S5)) ∧ T.1 31 14 = 2 ∧ f_X6_due T 1 = some (T.1 31 15, T') ∧ Fr K1t S S' ∧ Fr K31t T T' ∧ Sim n p' bt S' T') := by
  obtain ⟨hS, hT, ⟨st, p', k1, k2, k3, k4, k5, k6, k7, k8⟩, h16⟩ := h
  have hn := hS.1
  have bad : ¬ S.1 1 4 = 3 → ¬ T.1 31 14 = 2 → ∃ st, st < 1000 ∧ f_X0_readItem_104 r S a = some (0, S) ∧ S.1 1 3 = nI st ∧ ¬ T.1 31 14 = 2 ∧ f_X6_due T 0 = some (T.1 31 15, zu T 31 16 (nI st)) := fun q1 q2 => by
    refine ⟨st, by omega, ?_, k4, q2, by rw [due0 h16, k5]⟩
    unfold f_X0_readItem_104
    rw [if_neg q1]
  rcases k8 with ⟨q1, q2⟩ | ⟨hpp, ⟨q1, x, x1, x2, q3, q4⟩ | ⟨q1, q2, q3⟩ | ⟨q1, q2, x, hx, q3, q4⟩ | ⟨q1, q2⟩ | ⟨q1, q2⟩⟩
  · exact Or.inl (bad (by rw [q1]; decide) (by rw [q2]; decide))
  · exact Or.inl (bad (by rw [q1]; decide) (by rw [q4]; exact fun z => by have := (nI_eq (b := 2) (by omega) (by omega)).mp z; omega))
  · exact Or.inl (bad (by rw [q1]; decide) (by rw [q3]; decide))
  · exact Or.inl (bad (by rw [q1]; decide) (by rw [q2]; decide))
  · right
    obtain ⟨S', T', t1, t2, t3, t4, t5⟩ := tok_sim hS hT (p := p') k6 k7 k3
    refine ⟨p', S', T', hpp, ?_, q2, due1 h16 t2, t3, t4, TXc_fr hS t3, TXr_fr hT t4, t5, (t4.1 31 16 (fun q => by have := q.2; omega)).trans h16⟩
    unfold f_X0_readItem_104
    rw [if_pos q1, t1, Option.bind_some]
  · exact Or.inl (bad (by rw [q1]; decide) (by rw [q2]; decide))
end ITEM
