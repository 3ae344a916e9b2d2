section LAWS
variable {S T : zS} {n p r nd : Nat} {bt : Nat → Nat} {k : zS → Option (Int32 × zS)}
theorem zbl0 : zbl 0 := by decide
theorem zbl1 : zbl 1 := by decide
theorem isw_w {x lo hi : Nat} (hx : x ≤ 99) (hlo : lo ≤ 1000) (hhi : hi ≤ 1000) : ((lo ≤ x ∧ x ≤ hi) ∧ f_X5_isWithin (nI x) (nI lo) (nI hi) = some 1) ∨ (¬ (lo ≤ x ∧ x ≤ hi) ∧ f_X5_isWithin (nI x) (nI lo) (nI hi) = some 0) := by
  rw [isw_n (by omega) (by omega) (by omega)]
  by_cases h : lo ≤ x ∧ x ≤ hi
  · rw [if_pos h]; exact Or.inl ⟨h, rfl⟩
  · rw [if_neg h]; exact Or.inr ⟨h, rfl⟩
theorem bitm : f_X0_bitOf 109 = some 4096 ∧ f_X0_bitOf 119 = some 4194304 ∧ f_X0_bitOf 98 = some 2 := by decide
theorem oncem : f_X0_isToldOnce 109 = some 1 ∧ f_X0_isToldOnce 119 = some 1 ∧ f_X0_isToldOnce 98 = some 1 ∧ f_X0_isToldOnce 100 = some 0 ∧ f_X0_isToldOnce 114 = some 0 ∧ f_X0_isToldOnce 118 = some 0 := by decide
theorem bits_m (tm tw tb : Bool) : cB tm tw tb ||| 4096 = cB true tw tb ∧ rB tm tw tb ||| 1 = rB true tw tb := by cases tm <;> cases tw <;> cases tb <;> decide
theorem bits_w (tm tw tb : Bool) : cB tm tw tb ||| 4194304 = cB tm true tb ∧ rB tm tw tb ||| 2 = rB tm true tb := by cases tm <;> cases tw <;> cases tb <;> decide
theorem bits_b (tm tw tb : Bool) : cB tm tw tb ||| 2 = cB tm tw true ∧ rB tm tw tb ||| 4 = rB tm tw true := by cases tm <;> cases tw <;> cases tb <;> decide
theorem once109 (S2 : zS) (c : Int32) (v : Int32) (h1 : f_X0_isToldOnce c = some 1) (h2 : f_X0_bitOf c = some v) : f_X0_takeItem_109 r S2 c = some (zu S2 r 11 (S2.1 r 11 ||| v)) := by
  unfold f_X0_takeItem_109
  rw [h1, Option.bind_some, if_neg one_ne, h2, Option.bind_some]
/-- the new law's place and its mark -/
theorem DR_law (hr : 17 ≤ r) {S2 T1 T2 : zS} (h : DR r nd S2 T1) {j j' : Nat} {x : Int32} {v v' : Int32} (hj : j = 8 ∨ j = 9 ∨ j = 10) (hj' : j' = j - 5) (hn : (j = 8 → DNs 1 9 x x) ∧ (j = 9 → DNs 0 10 x x) ∧ (j = 10 → DNs 0 99 x x)) (hb : ∀ a b, DTs a b → DTs (a ||| v) (b ||| v')) (h2 : Fr K31t (zu (zr T1 40 (upd (T1.1 40) j' x)) 31 11 (T1.1 31 11 ||| v')) T2) :
    DR r nd (zu (zu S2 r j x) r 11 (S2.1 r 11 ||| v)) T2 := by
  obtain ⟨d1, d2, d3, d4, d5, d6, d7, d8, d9⟩ := h
  have g : ∀ c, c ≠ 31 → T2.1 c = (zu (zr T1 40 (upd (T1.1 40) j' x)) 31 11 (T1.1 31 11 ||| v')).1 c := fun c hc => h2.row (fun j q => by have := q.1; omega)
  have g31 : T2.1 31 11 = T1.1 31 11 ||| v' := (h2.1 31 11 (fun q => by have := q.2; omega)).trans (zu_at _ _ _ _)
  have g' : ∀ c, c ≠ 31 → c ≠ 40 → T2.1 c = T1.1 c := fun c h1 h2 => by rw [g c h1, zu_n h1, zr_n h2]
  have g40 : T2.1 40 = upd (T1.1 40) j' x := by rw [g 40 (by decide), zu_n (by decide), zr_s]
  have s : ∀ i, 0 < i → (zu (zu S2 r j x) r 11 (S2.1 r 11 ||| v)).1 (r + i) = S2.1 (r + i) := fun i hi => by rw [zu_n (by omega), zu_n (by omega)]
  have s0 : (zu (zu S2 r j x) r 11 (S2.1 r 11 ||| v)).1 r = upd (upd (S2.1 r) j x) 11 (S2.1 r 11 ||| v) := by rw [zu_s, zu_s]
  have su : ∀ i, i ≠ 11 → i ≠ j → upd (upd (S2.1 r) j x) 11 (S2.1 r 11 ||| v) i = S2.1 r i := fun i h1 h2 => by rw [upd_n h1, upd_n h2]
  have tu : ∀ i, i ≠ j' → upd (T1.1 40) j' x i = T1.1 40 i := fun i h1 => upd_n h1
  refine ⟨d1, ?_, ?_, ?_, ?_, ?_, ?_, ?_, ?_⟩
  · rw [s0, s 1 (by omega), s 2 (by omega), s 3 (by omega), g' 33 (by decide) (by decide), g' 34 (by decide) (by decide), g' 35 (by decide) (by decide), g' 36 (by decide) (by decide), su 6 (by omega) (by omega)]; exact d2
  · rw [s0, g' 37 (by decide) (by decide), su 7 (by omega) (by omega)]; exact d3
  · rw [s0, g40]
    by_cases h8 : j = 8
    · subst h8; subst hj'; rw [upd_n (by decide), upd_s, upd_s]; exact hn.1 rfl
    · rw [su 8 (by omega) (by omega), tu 3 (by omega)]; exact d4
  · rw [s0, g40]
    by_cases h8 : j = 9
    · subst h8; subst hj'; rw [upd_n (by decide), upd_s, upd_s]; exact hn.2.1 rfl
    · rw [su 9 (by omega) (by omega), tu 4 (by omega)]; exact d5
  · rw [s0, g40]
    by_cases h8 : j = 10
    · subst h8; subst hj'; rw [upd_n (by decide), upd_s, upd_s]; exact hn.2.2 rfl
    · rw [su 10 (by omega) (by omega), tu 5 (by omega)]; exact d6
  · rw [s0, upd_s, g31]; exact hb _ _ d7
  · rw [s 4 (by omega), g' 38 (by decide) (by decide)]; exact d8
  · rw [s 5 (by omega), g' 39 (by decide) (by decide)]; exact d9
theorem Fr_law (hr : 17 ≤ r) (S2 : zS) (j : Nat) (x y : Int32) : Fr (fun c _ => r ≤ c ∧ c ≤ r + 6) S2 (zu (zu S2 r j x) r 11 y) := (Fr_zu (by omega)).trans (Fr_zu (by omega))
theorem Fr_lawR (T : zS) (j : Nat) (hj : 3 ≤ j) (x y : Int32) : Fr KD T (zu (zr T 40 (upd (T.1 40) j x)) 31 11 y) := (Fr_upd (by unfold KD; omega)).trans (Fr_zu (by unfold KD; omega))
theorem row_m (hr : 17 ≤ r) (h : Sim n p bt S T) (hDR : DR r nd S T) (fl : Nat) : RowOut n p bt r S T k (f_X0_readItem_43 r (fl + 2) S 109 1 0) (f_X6_readRow T 109) :=
  row1 hr h hDR (fun x => 1 ≤ x ∧ x ≤ 9) (fun x hx => by
      unfold f_X0_mayBeTold
      rw [if_neg (by decide), if_pos rfl]
      rcases isw_w (lo := 1) (hi := 9) hx (by omega) (by omega) with ⟨q, e⟩ | ⟨q, e⟩
      · rw [show f_X5_isWithin (nI x) 1 9 = some 1 from e]; exact Or.inl ⟨q, rfl⟩
      · rw [show f_X5_isWithin (nI x) 1 9 = some 0 from e]; exact Or.inr ⟨q, rfl⟩) 1 9 (fun x hx => isw_w (lo := 1) (hi := 9) hx (by omega) (by omega))
    (fun y T1 => zu (zr T1 40 (upd (T1.1 40) 3 y)) 31 11 (T1.1 31 11 ||| 1)) (fun y T1 => Fr_lawR T1 3 (by omega) _ _) (by unfold f_X6_readRow; rw [if_neg (by decide), if_pos rfl]; rfl)
    (fun S2 => zu (zu S2 r 8 (S2.1 (r + 6) 0)) r 11 (S2.1 r 11 ||| 4096)) (fun S2 => ⟨by
      unfold f_X0_takeItem
      rw [if_neg (by decide), if_pos rfl, once109 _ _ _ oncem.1 bitm.1, zu_off (Or.inr (by decide))], Fr_law hr _ _ _ _⟩)
    (fun x S2 T1 T2 hP hx h6 hd h2 => by
      rw [h6]
      exact DR_law hr hd (Or.inl rfl) rfl ⟨fun _ => ⟨x, hP.1, hP.2, rfl, rfl⟩, fun q => by omega, fun q => by omega⟩ (fun a b ⟨tm, tw, tb, e1, e2⟩ => ⟨true, tw, tb, by rw [e1]; exact (bits_m tm tw tb).1, by rw [e2]; exact (bits_m tm tw tb).2⟩) h2) fl
theorem row_w (hr : 17 ≤ r) (h : Sim n p bt S T) (hDR : DR r nd S T) (fl : Nat) : RowOut n p bt r S T k (f_X0_readItem_43 r (fl + 2) S 119 1 0) (f_X6_readRow T 119) :=
  row1 hr h hDR (fun x => 0 ≤ x ∧ x ≤ 10) (fun x hx => by
      unfold f_X0_mayBeTold
      rw [if_neg (by decide), if_neg (by decide), if_neg (by decide), if_neg (by decide), if_pos rfl, L_10]
      by_cases q : 10 < x
      · rw [if_pos ((nI_ltI (by omega) (by omega)).mpr q)]; exact Or.inr ⟨by omega, rfl⟩
      · rw [if_neg (fun z => q ((nI_ltI (by omega) (by omega)).mp z))]; exact Or.inl ⟨by omega, rfl⟩) 0 10 (fun x hx => isw_w (lo := 0) (hi := 10) hx (by omega) (by omega))
    (fun y T1 => zu (zr T1 40 (upd (T1.1 40) 4 y)) 31 11 (T1.1 31 11 ||| 2)) (fun y T1 => Fr_lawR T1 4 (by omega) _ _) (by unfold f_X6_readRow; rw [if_neg (by decide), if_neg (by decide), if_neg (by decide), if_neg (by decide), if_pos rfl]; rfl)
    (fun S2 => zu (zu S2 r 9 (S2.1 (r + 6) 0)) r 11 (S2.1 r 11 ||| 4194304)) (fun S2 => ⟨by
      unfold f_X0_takeItem
      rw [if_neg (by decide), if_neg (by decide), if_neg (by decide), if_neg (by decide), if_pos rfl, once109 _ _ _ oncem.2.1 bitm.2.1, zu_off (Or.inr (by decide))], Fr_law hr _ _ _ _⟩)
    (fun x S2 T1 T2 hP hx h6 hd h2 => by
      rw [h6]
      exact DR_law hr hd (Or.inr (Or.inl rfl)) rfl ⟨fun q => by omega, fun _ => ⟨x, hP.1, hP.2, rfl, rfl⟩, fun q => by omega⟩ (fun a b ⟨tm, tw, tb, e1, e2⟩ => ⟨tm, true, tb, by rw [e1]; exact (bits_w tm tw tb).1, by rw [e2]; exact (bits_w tm tw tb).2⟩) h2) fl
theorem row_b (hr : 17 ≤ r) (h : Sim n p bt S T) (hDR : DR r nd S T) (fl : Nat) : RowOut n p bt r S T k (f_X0_readItem_43 r (fl + 2) S 98 1 0) (f_X6_readRow T 98) :=
  row1 hr h hDR (fun x => 0 ≤ x ∧ x ≤ 99) (fun x hx => by
      unfold f_X0_mayBeTold
      rw [if_neg (by decide), if_neg (by decide), if_neg (by decide), if_neg (by decide), if_neg (by decide), L_99]
      by_cases q : 99 < x
      · rw [if_pos ((nI_ltI (by omega) (by omega)).mpr q)]; exact Or.inr ⟨by omega, rfl⟩
      · rw [if_neg (fun z => q ((nI_ltI (by omega) (by omega)).mp z))]; exact Or.inl ⟨by omega, rfl⟩) 0 99 (fun x hx => isw_w (lo := 0) (hi := 99) hx (by omega) (by omega))
    (fun y T1 => zu (zr T1 40 (upd (T1.1 40) 5 y)) 31 11 (T1.1 31 11 ||| 4)) (fun y T1 => Fr_lawR T1 5 (by omega) _ _) (by unfold f_X6_readRow; rw [if_neg (by decide), if_neg (by decide), if_neg (by decide), if_neg (by decide), if_neg (by decide)]; rfl)
    (fun S2 => zu (zu S2 r 10 (S2.1 (r + 6) 0)) r 11 (S2.1 r 11 ||| 2)) (fun S2 => ⟨by
      unfold f_X0_takeItem
      rw [if_neg (by decide), if_neg (by decide), if_neg (by decide), if_neg (by decide), if_neg (by decide), once109 _ _ _ oncem.2.2.1 bitm.2.2, zu_off (Or.inr (by decide))], Fr_law hr _ _ _ _⟩)
    (fun x S2 T1 T2 hP hx h6 hd h2 => by
      rw [h6]
      exact DR_law hr hd (Or.inr (Or.inr rfl)) rfl ⟨fun q => by omega, fun q => by omega, fun _ => ⟨x, hP.1, hP.2, rfl, rfl⟩⟩ (fun a b ⟨tm, tw, tb, e1, e2⟩ => ⟨tm, tw, true, by rw [e1]; exact (bits_b tm tw tb).1, by rw [e2]; exact (bits_b tm tw tb).2⟩) h2) fl
end LAWS
