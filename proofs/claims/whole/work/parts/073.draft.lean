/-! the drafts -/
def cB (tm tw tb : Bool) : Int32 := (cond tm 4096 0) ||| (cond tw 4194304 0) ||| (cond tb 2 0)
def rB (tm tw tb : Bool) : Int32 := (cond tm 1 0) ||| (cond tw 2 0) ||| (cond tb 4 0)
def zWay (nd : Nat) (W : Nat → Nat → Nat) : Prop := (∀ a, a < 6 → W a a = 0) ∧ (∀ a b, a < 6 → b < 6 → a ≠ b → (1 ≤ W a b ∧ W a b ≤ 9) ∨ W a b = 1000) ∧ (∀ a b, a < 6 → b < 6 → W a b = W b a) ∧ (∀ a b, a < 6 → b < 6 → a ≠ b → nd ≤ a ∨ nd ≤ b → W a b = 1000)
def DVs (nd : Nat) (L6 : Int32) (h1 h2 h3 : Nat → Int32) (v1 : Int32) (g1 g2 g3 : Nat → Int32) : Prop := L6 = nI nd ∧ v1 = nI nd ∧ ∀ v, v < nd → (∃ x : Nat, x ≤ 60 ∧ h1 v = nI x ∧ g1 v = nI x) ∧ (∃ x : Nat, x ≤ 60 ∧ h2 v = nI x ∧ g2 (6 + v) = nI x) ∧ (∃ x : Nat, x ≤ 1 ∧ h3 v = nI x ∧ g3 (6 + v) = nI x)
def DNs (lo hi : Nat) (a b : Int32) : Prop := ∃ x : Nat, lo ≤ x ∧ x ≤ hi ∧ a = nI x ∧ b = nI x
def DTs (a b : Int32) : Prop := ∃ tm tw tb : Bool, a = cB tm tw tb ∧ b = rB tm tw tb
def DYs (nd : Nat) (f g : Nat → Int32) : Prop := ∃ W : Nat → Nat → Nat, zWay nd W ∧ ∀ a b, a < 6 → b < 6 → f (6 * a + b) = nI (W a b) ∧ g (36 + (6 * a + b)) = nI (W a b)
def DOs (f g : Nat → Int32) : Prop := ∃ O : Nat → Nat → Nat, ∀ a b, a < 6 → b < 6 → O a b ≤ 999 ∧ f (6 * a + b) = nI (O a b) ∧ g (36 + (6 * a + b)) = nI (O a b)
def DR (r nd : Nat) (S T : zS) : Prop := nd ≤ 6 ∧ DVs nd (S.1 r 6) (S.1 (r + 1)) (S.1 (r + 2)) (S.1 (r + 3)) (T.1 33 1) (T.1 34) (T.1 35) (T.1 36) ∧ DNs 0 10 (S.1 r 7) (T.1 37 1) ∧ DNs 1 9 (S.1 r 8) (T.1 40 3) ∧ DNs 0 10 (S.1 r 9) (T.1 40 4) ∧ DNs 0 99 (S.1 r 10) (T.1 40 5) ∧ DTs (S.1 r 11) (T.1 31 11) ∧ DYs nd (S.1 (r + 4)) (T.1 38) ∧ DOs (S.1 (r + 5)) (T.1 39)
def Tail (k : zS → Option (Int32 × zS)) (T : zS) : Option (Int32 × zS) := if T.1 31 14 = 2 then zb2 (f_X6_due T 1) (fun _ S => k S) else zb2 (f_X6_due T 0) (fun _ S => k S)
section DRAFT
variable {K : Nat → Nat → Prop} {S T S' T' : zS} {n p r nd nd' : Nat} {bt : Nat → Nat} {k : zS → Option (Int32 × zS)} {a : Int32}
theorem Fr.row (h : Fr K S S') {c : Nat} (hc : ∀ j, ¬ K c j) : S'.1 c = S.1 c := funext fun j => h.1 c j (hc j)
/-- what a change of other places leaves -/
theorem DR_fr (hr : 17 ≤ r) (h : DR r nd S T) (hS : Fr (fun c _ => c = 1 ∨ c = r + 6) S S') (hT : Fr (fun c j => c = 31 ∧ 12 ≤ j) T T') : DR r nd S' T' := by
  unfold DR
  have e : ∀ i, i < 6 → S'.1 (r + i) = S.1 (r + i) := fun i hi => hS.row (fun j q => by omega)
  have e0 := e 0 (by omega)
  rw [Nat.add_zero] at e0
  have g : ∀ c, c ≠ 31 → T'.1 c = T.1 c := fun c hc => hT.row (fun j q => by omega)
  rw [e0, e 1 (by omega), e 2 (by omega), e 3 (by omega), e 4 (by omega), e 5 (by omega), g 33 (by omega), g 34 (by omega), g 35 (by omega), g 36 (by omega), g 37 (by omega), g 38 (by omega), g 39 (by omega), g 40 (by omega), hT.1 31 11 (by omega)]
  exact h
theorem Tail_x (h : ¬ T.1 31 16 = -9) : Tail k T = k T := by
  unfold Tail
  rw [due_x h, due_x h]
  by_cases h1 : T.1 31 14 = 2
  · rw [if_pos h1]; rfl
  · rw [if_neg h1]; rfl
def RowOut (n p : Nat) (bt : Nat → Nat) (r : Nat) (S T : zS) (k : zS → Option (Int32 × zS)) (A : Option (Int32 × zS)) (R : Option zS) : Prop :=
  (∃ st S' T', st < 1000 ∧ A = some (0, S') ∧ S'.1 1 3 = nI st ∧ R.bind (Tail k) = k T' ∧ T'.1 31 16 = nI st ∧ Fr (KC r) S S' ∧ Fr KR T T') ∨
  (∃ S' T' nd' p', p + 2 ≤ p' ∧ A = some (1, S') ∧ R.bind (Tail k) = k T' ∧ Fr (KC r) S S' ∧ Fr KR T T' ∧ Sim n p' bt S' T' ∧ DR r nd' S' T')
theorem rowEnd (hr : 17 ≤ r) {S0 T0 : zS} {p0 : Nat} (hp0 : p0 < p) (f0 : Fr (KC r) S0 S) (g0 : Fr KR T0 T) (hsim : Sim n p bt S T) (C : zS → zS) (hC : ∀ S2, Fr K1t S S2 → f_X0_takeItem S2 r a = some (C S2) ∧ Fr (fun c _ => r ≤ c ∧ c ≤ r + 6) S2 (C S2)) (hD : ∀ S2 T2, Fr K1t S S2 → Fr K31t T T2 → DR r nd' (C S2) T2) :
    RowOut n p0 bt r S0 T0 k (f_X0_readItem_104 r S a) (some T) := by
  rcases stopSim (r := r) hsim a with ⟨st, h1, h2, h3, h4, h5⟩ | ⟨p', S', T', h1, h2, h3, h4, h5, h6, h7⟩
  · refine Or.inl ⟨st, S, zu T 31 16 (nI st), h1, h2, h3, ?_, zu_at _ _ _ _, f0, g0.trans (Fr_zu (Or.inr ⟨rfl, by omega, by omega⟩))⟩
    show Tail k T = _
    unfold Tail
    rw [if_neg h4, h5]; rfl
  · obtain ⟨c1, c2⟩ := hC S' h5
    refine Or.inr ⟨C S', T', nd', p', by omega, ?_, ?_, f0.trans ((h5.mono (fun c j q => Or.inl q)).trans (c2.mono (fun c j q => Or.inr q))), g0.trans (h6.mono (fun c j q => Or.inr ⟨q.1, q.2.1, by have := q.2.2; omega⟩)), Sim_fr h7 (c2.mono (fun c j q => by omega)) Fr.rfl, hD S' T' h5 h6⟩
    · rw [h2, c1]; rfl
    · show Tail k T = _
      unfold Tail
      rw [if_pos h3, h4]; rfl
theorem Kn_KC {i c j : Nat} (h : Kn r i c j) : KC r c j := by
  rcases h with h | h
  · exact Or.inl h
  · exact Or.inr (by omega)
theorem zb2_eta (A : Option (Int32 × zS)) : zb2 A (fun x S => some (x, S)) = A := by
  cases A with
  | none => rfl
  | some q => rfl
theorem K31_KR {c j : Nat} (h : K31t c j) : KR c j := by unfold K31t at h; unfold KR; omega
theorem nI_st {st : Nat} (h : st < 1000) : ¬ nI st = -9 := nI_ne_m9 (by omega)
/-- a row of one number -/
theorem row1 (hr : 17 ≤ r) (h : Sim n p bt S T) (hDR : DR r nd S T) (P : Nat → Prop) (hC : ∀ x, x ≤ 99 → (P x ∧ f_X0_mayBeTold S r a 0 (nI x) = some 1) ∨ (¬ P x ∧ f_X0_mayBeTold S r a 0 (nI x) = some 0)) (lo hi : Int32) (hlo : ∀ x, x ≤ 99 → (P x ∧ f_X6_in (nI x) lo hi = some 1) ∨ (¬ P x ∧ f_X6_in (nI x) lo hi = some 0))
    (E : Int32 → zS → zS) (hE : ∀ y T, Fr KD T (E y T)) (hrow : f_X6_readRow T a = zb2 (f_X6_number T lo hi) (fun y T1 => some (E y T1))) (C : zS → zS) (hCt : ∀ S2, f_X0_takeItem S2 r a = some (C S2) ∧ Fr (fun c _ => r ≤ c ∧ c ≤ r + 6) S2 (C S2))
    (hD : ∀ x S2 T1 T2, P x → x ≤ 99 → S2.1 (r + 6) 0 = nI x → DR r nd S2 T1 → Fr K31t (E (nI x) T1) T2 → DR r nd (C S2) T2) (fl : Nat) : RowOut n p bt r S T k (f_X0_readItem_43 r (fl + 2) S a 1 0) (f_X6_readRow T a) := by
  have hnum : ∀ v, f_X6_in (T.1 31 15) lo hi = some v → T.1 31 14 = 1 → f_X6_number T lo hi = (if v = 0 then f_X6_due T 0 else f_X6_due T 1) := fun v hv h1 => by
    unfold f_X6_number
    rw [if_pos h1, hv, Option.bind_some]
    by_cases h0 : v = 0
    · rw [if_pos h0, if_pos h0]; exact zb2_eta _
    · rw [if_neg h0, if_neg h0]; exact zb2_eta _
  rcases numSim hr h a 1 (i := 0) (by omega) (by decide) P hC (fun T => f_X6_number T lo hi) (fun x hx hP h1 h2 => by
      rcases hlo x hx with ⟨-, q⟩ | ⟨q, -⟩
      · show f_X6_number T lo hi = _
        rw [hnum 1 (by rw [h2]; exact q) h1, if_neg one_ne]
      · exact absurd hP q) (fun x hx hP h1 h2 => by
      rcases hlo x hx with ⟨q, -⟩ | ⟨-, q⟩
      · exact absurd q hP
      · show f_X6_number T lo hi = _
        rw [hnum 0 (by rw [h2]; exact q) h1, if_pos rfl]) (fun h1 => by
      show f_X6_number T lo hi = _
      unfold f_X6_number
      rw [if_neg h1]; exact zb2_eta _) (fl + 1) with ⟨st, y, h1, h2, h3, h4⟩ | ⟨x, p', S1, T1, h1, h2, h3, h4, h5, h6, h7, h8, h9⟩
  · have h4 : f_X6_number T lo hi = some (y, zu T 31 16 (nI st)) := h4
    rw [hrow, h4]
    have e16 : (E y (zu T 31 16 (nI st))).1 31 16 = nI st := ((hE y (zu T 31 16 (nI st))).1 31 16 (fun q => by unfold KD at q; omega)).trans (zu_at _ _ _ _)
    refine Or.inl ⟨st, S, E y (zu T 31 16 (nI st)), h1, h2, h3, ?_, e16, Fr.rfl, (Fr_zu (Or.inr ⟨rfl, by omega, by omega⟩)).trans ((hE _ _).mono (fun c j q => Or.inl q))⟩
    show Tail k (E y (zu T 31 16 (nI st))) = _
    exact Tail_x (by rw [e16]; exact nI_st h1)
  · have h5 : f_X6_number T lo hi = some (nI x, T1) := h5
    rw [hrow, h5, show f_X0_readItem_43 r (fl + 2) S a 1 0 = _ from h4, zb2_some]
    have e104 : f_X0_readItem_43 r (fl + 1) S1 a 1 (nI (0 + 1)) = f_X0_readItem_104 r S1 a := by
      rw [f_X0_readItem_43, if_pos (by decide)]
    rw [e104]
    have hDR1 : DR r nd S1 T1 := DR_fr hr hDR (h6.mono (fun c j q => by unfold Kn K1t at q; omega)) (h8.mono (fun c j q => by unfold K31t at q; omega))
    refine rowEnd hr h3 (h6.mono (fun c j q => Kn_KC q)) ((h8.mono (fun c j q => K31_KR q)).trans ((hE (nI x) T1).mono (fun c j q => Or.inl q))) (Sim_fr h9 Fr.rfl (hE (nI x) T1)) C (fun S2 _ => hCt S2) (fun S2 T2 f1 f2 => hD x S2 T1 T2 h1 h2 ?_ (DR_fr hr hDR1 (f1.mono (fun c j q => Or.inl q.1)) Fr.rfl) f2)
    rw [f1.1 (r + 6) 0 (fun q => by have := q.1; omega)]; exact h7
end DRAFT
