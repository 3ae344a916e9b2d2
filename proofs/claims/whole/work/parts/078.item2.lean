section ITEM2
variable {S T : zS} {n p r nd : Nat} {bt : Nat → Nat}
def ItemOut (n p : Nat) (bt : Nat → Nat) (r : Nat) (S T : zS) (fl : Nat) (a1 : Int32) : Prop :=
  (∃ st S' T', st < 1000 ∧ f_X0_readItem S r = some (0, S') ∧ S'.1 1 3 = nI st ∧ f_X6_land_21 (fl + 2) T a1 = some (-10 - nI st, T') ∧ Fr (KC r) S S' ∧ Fr KR T T') ∨
  (∃ S' T' nd' p', p + 2 ≤ p' ∧ f_X0_readItem S r = some (1, S') ∧ f_X6_land_21 (fl + 2) T a1 = f_X6_land_21 (fl + 1) T' (a1 + 1) ∧ Fr (KC r) S S' ∧ Fr KR T T' ∧ Sim n p' bt S' T' ∧ DR r nd' S' T')
theorem land_f {st fl : Nat} (hst : st < 1000) (h : T.1 31 16 = nI st) (a : Int32) : f_X6_land_21 (fl + 1) T a = some (-10 - nI st, T) := by
  rw [f_X6_land_21, h, if_neg (nI_st hst)]
  unfold f_X6_land_91
  rw [h, if_neg (nI_st hst)]
theorem item_bad (h : Sim n p bt S T) (h3 : ¬ T.1 31 14 = 3) (hC : f_X0_readItem S r = some (0, S)) (hm : f_X6_mayBe T (T.1 31 14) = some 0) (fl : Nat) (a1 : Int32) : ItemOut n p bt r S T fl a1 := by
  obtain ⟨hS, hT, ⟨st, p', k1, k2, k3, k4, k5, k6, k7, k8⟩, h16⟩ := h
  have hn := hS.1
  refine Or.inl ⟨st, S, zu T 31 16 (nI st), by omega, hC, k4, ?_, Fr.rfl, Fr_zu (Or.inr ⟨rfl, by omega, by omega⟩)⟩
  rw [f_X6_land_21, if_pos h16, if_neg h3, hm, Option.bind_some, due0 h16, zb2_some, k5, zu_at, if_neg (nI_st (by omega))]
  unfold f_X6_land_88
  exact land_f (by omega) (zu_at _ _ _ _) a1
theorem item_good (hr : 17 ≤ r) (h : Sim n p bt S T) (hDR : DR r nd S T) {a o cnt : Int32} (h4 : S.1 1 4 = 1) (h5 : S.1 1 5 = a) (h14 : T.1 31 14 = a) (h3 : ¬ a = 3) (hb : f_X0_mayBegin S r a = some 1) (hm : f_X6_mayBe T a = some 1) (ho : f_X0_isToldOnce a = some o) (hoc : (if o = 0 then (3 : Int32) else 1) = cnt) (fl : Nat) (a1 : Int32)
    (hrow : ∀ (k : zS → Option (Int32 × zS)) S6 T1 p1 fl', Sim n p1 bt S6 T1 → DR r nd S6 T1 → S6.1 r 7 = S.1 r 7 → RowOut n p1 bt r S6 T1 k (f_X0_readItem_43 r (fl' + 4) S6 a cnt 0) (f_X6_readRow T1 a)) : ItemOut n p bt r S T fl a1 := by
  obtain ⟨hS, hT, ⟨st, p', k1, k2, k3, k4, k5, k6, k7, k8⟩, h16⟩ := h
  have hn := hS.1
  have hpp : p ≤ p' := by omega
  obtain ⟨S6, T1, t1, t2, t3, t4, t5⟩ := tok_sim hS hT (p := p') k6 k7 k3
  have sim : Sim n p' bt S6 T1 := ⟨TXc_fr hS t3, TXr_fr hT t4, t5, (t4.1 31 16 (fun q => by have := q.2; omega)).trans h16⟩
  have hDR1 : DR r nd S6 T1 := DR_fr hr hDR (t3.mono (fun c j q => Or.inl q.1)) (t4.mono (fun c j q => ⟨q.1, q.2.1⟩))
  obtain ⟨z, hz⟩ : ∃ z, zN = z + 4 := ⟨zN - 4, by have := zN_big; omega⟩
  have eC : f_X0_readItem S r = f_X0_readItem_43 r (z + 4) S6 a cnt 0 := by
    unfold f_X0_readItem
    rw [if_pos h4, h5, hb, Option.bind_some, if_neg one_ne, t1, Option.bind_some, ho, Option.bind_some]
    unfold f_X0_readItem_40
    rw [← hz, ← hoc]
    by_cases h0 : o = 0
    · rw [if_pos h0, if_pos h0]
    · rw [if_neg h0, if_neg h0]
  have eR : f_X6_land_21 (fl + 2) T a1 = (f_X6_readRow T1 a).bind (Tail (fun S => f_X6_land_21 (fl + 1) S (a1 + 1))) := by
    rw [f_X6_land_21, if_pos h16, h14, if_neg h3, hm, Option.bind_some, due1 h16 t2, zb2_some, if_pos sim.2.2.2]
    rfl
  have fS := t3.mono (K' := KC r) (fun c j q => Or.inl q)
  have fT := t4.mono (K' := KR) (fun c j q => K31_KR q)
  rcases hrow (fun S => f_X6_land_21 (fl + 1) S (a1 + 1)) S6 T1 p' z sim hDR1 (t3.1 r 7 (fun q => by have := q.1; omega)) with ⟨s2, S', T', g1, g2, g3, g4, g5, g6, g7⟩ | ⟨S', T', nd', p2, g1, g2, g3, g4, g5, g6, g7⟩
  · exact Or.inl ⟨s2, S', T', g1, eC.trans g2, g3, eR.trans (g4.trans (land_f g1 g5 _)), fS.trans g6, fT.trans g7⟩
  · exact Or.inr ⟨S', T', nd', p2, by omega, eC.trans g2, eR.trans g3, fS.trans g4, fT.trans g5, g6, g7⟩
theorem bits_t (tm tw tb : Bool) : ((cB tm tw tb &&& 4096 = 0 ↔ tm = false) ∧ (rB tm tw tb &&& 1 = 0 ↔ tm = false)) ∧ ((cB tm tw tb &&& 4194304 = 0 ↔ tw = false) ∧ (rB tm tw tb &&& 2 = 0 ↔ tw = false)) ∧ ((cB tm tw tb &&& 2 = 0 ↔ tb = false) ∧ (rB tm tw tb &&& 4 = 0 ↔ tb = false)) := by cases tm <;> cases tw <;> cases tb <;> decide
theorem begin_once {c : Int32} {v : Int32} (h1 : ¬ c = 100) (h2 : ¬ c = 114) (h3 : ¬ c = 118) (ho : f_X0_isToldOnce c = some 1) (hb : f_X0_bitOf c = some v) : f_X0_mayBegin S r c = (if (S.1 r 11) &&& v = 0 then some 1 else some 0) := by
  unfold f_X0_mayBegin
  rw [if_neg h1, if_neg h2, if_neg h3, ho, Option.bind_some, if_neg one_ne, hb, Option.bind_some]
theorem item_sim (hr : 17 ≤ r) (h : Sim n p bt S T) (hDR : DR r nd S T) (h4 : ¬ S.1 1 4 = 0) (fl : Nat) (a1 : Int32) : ItemOut n p bt r S T fl a1 := by
  have hs := h
  obtain ⟨hS, hT, ⟨st, p', k1, k2, k3, k4, k5, k6, k7, k8⟩, h16⟩ := hs
  have hd := hDR
  obtain ⟨hnd, ⟨d1, d2, -⟩, ⟨rd, -, hrd, e7, e37⟩, -, -, -, ⟨tm, tw, tb, eb, ebr⟩, -, -⟩ := hd
  have bad1 : ¬ S.1 1 4 = 1 → f_X0_readItem S r = some (0, S) := fun q => by
    unfold f_X0_readItem
    rw [if_neg q]
  have bad2 : ∀ x, S.1 1 4 = 1 → S.1 1 5 = x → f_X0_mayBegin S r x = some 0 → f_X0_readItem S r = some (0, S) := fun x q1 q2 q3 => by
    unfold f_X0_readItem
    rw [if_pos q1, q2, q3, Option.bind_some, if_pos rfl]
  have mb4 : f_X6_mayBe T 4 = some 0 := by unfold f_X6_mayBe; rw [if_neg (by decide), if_neg (by decide), if_neg (by decide), if_neg (by decide), if_neg (by decide), if_neg (by decide)]
  have mb1 : f_X6_mayBe T 1 = some 0 := by unfold f_X6_mayBe; rw [if_neg (by decide), if_neg (by decide), if_neg (by decide), if_neg (by decide), if_neg (by decide), if_neg (by decide)]
  have mb2 : f_X6_mayBe T 2 = some 0 := by unfold f_X6_mayBe; rw [if_neg (by decide), if_neg (by decide), if_neg (by decide), if_neg (by decide), if_neg (by decide), if_neg (by decide)]
  have bt3 := bits_t tm tw tb
  rcases k8 with ⟨q1, q2⟩ | ⟨hpp, ⟨q1, x, x1, x2, q3, q4⟩ | ⟨q1, q2, q3⟩ | ⟨q1, q2, x, hx, q3, q4⟩ | ⟨q1, q2⟩ | ⟨q1, q2⟩⟩
  · exact absurd q1 h4
  · have hne3 : ¬ nI x = 3 := fun z => by have := (nI_eq (b := 3) (by omega) (by omega)).mp z; omega
    have lit : ∀ c : Nat, c < 1000 → (nI x = nI c ↔ x = c) := fun c hc => nI_eq (by omega) (by omega)
    by_cases c98 : x = 98
    · subst c98
      have hb : f_X0_mayBegin S r 98 = (if (S.1 r 11) &&& 2 = 0 then some 1 else some 0) := begin_once (by decide) (by decide) (by decide) oncem.2.2.1 bitm.2.2
      have hm : f_X6_mayBe T 98 = (if (T.1 31 11) &&& 4 = 0 then some 1 else some 0) := by unfold f_X6_mayBe; rw [if_pos rfl]
      rw [eb] at hb
      rw [ebr] at hm
      by_cases ht : tb = false
      · rw [if_pos (bt3.2.2.1.mpr ht)] at hb
        rw [if_pos (bt3.2.2.2.mpr ht)] at hm
        exact item_good hr h hDR q1 q3 q4 (by decide) hb hm oncem.2.2.1 (by decide) fl a1 (fun k S6 T1 p1 fl' g1 g2 _ => row_b hr g1 g2 (fl' + 2))
      · rw [if_neg (fun z => ht (bt3.2.2.1.mp z))] at hb
        rw [if_neg (fun z => ht (bt3.2.2.2.mp z))] at hm
        exact item_bad h (by rw [q4]; decide) (bad2 _ q1 q3 hb) (by rw [q4]; exact hm) fl a1
    by_cases c100 : x = 100
    · subst c100
      exact item_good hr h hDR q1 q3 q4 (by decide) (by unfold f_X0_mayBegin; exact if_pos rfl) (by unfold f_X6_mayBe; rw [if_neg (by decide)]; exact if_pos rfl) oncem.2.2.2.1 (by decide) fl a1 (fun k S6 T1 p1 fl' g1 g2 _ => row_d hr g1 g2 fl')
    by_cases c109 : x = 109
    · subst c109
      have hb : f_X0_mayBegin S r 109 = (if (S.1 r 11) &&& 4096 = 0 then some 1 else some 0) := begin_once (by decide) (by decide) (by decide) oncem.1 bitm.1
      have hm : f_X6_mayBe T 109 = (if (T.1 31 11) &&& 1 = 0 then some 1 else some 0) := by unfold f_X6_mayBe; rw [if_neg (by decide), if_neg (by decide), if_pos rfl]
      rw [eb] at hb
      rw [ebr] at hm
      by_cases ht : tm = false
      · rw [if_pos (bt3.1.1.mpr ht)] at hb
        rw [if_pos (bt3.1.2.mpr ht)] at hm
        exact item_good hr h hDR q1 q3 q4 (by decide) hb hm oncem.1 (by decide) fl a1 (fun k S6 T1 p1 fl' g1 g2 _ => row_m hr g1 g2 (fl' + 2))
      · rw [if_neg (fun z => ht (bt3.1.1.mp z))] at hb
        rw [if_neg (fun z => ht (bt3.1.2.mp z))] at hm
        exact item_bad h (by rw [q4]; decide) (bad2 _ q1 q3 hb) (by rw [q4]; exact hm) fl a1
    by_cases c119 : x = 119
    · subst c119
      have hb : f_X0_mayBegin S r 119 = (if (S.1 r 11) &&& 4194304 = 0 then some 1 else some 0) := begin_once (by decide) (by decide) (by decide) oncem.2.1 bitm.2.1
      have hm : f_X6_mayBe T 119 = (if (T.1 31 11) &&& 2 = 0 then some 1 else some 0) := by unfold f_X6_mayBe; rw [if_neg (by decide), if_neg (by decide), if_neg (by decide), if_neg (by decide), if_neg (by decide), if_pos rfl]
      rw [eb] at hb
      rw [ebr] at hm
      by_cases ht : tw = false
      · rw [if_pos (bt3.2.1.1.mpr ht)] at hb
        rw [if_pos (bt3.2.1.2.mpr ht)] at hm
        exact item_good hr h hDR q1 q3 q4 (by decide) hb hm oncem.2.1 (by decide) fl a1 (fun k S6 T1 p1 fl' g1 g2 _ => row_w hr g1 g2 (fl' + 2))
      · rw [if_neg (fun z => ht (bt3.2.1.1.mp z))] at hb
        rw [if_neg (fun z => ht (bt3.2.1.2.mp z))] at hm
        exact item_bad h (by rw [q4]; decide) (bad2 _ q1 q3 hb) (by rw [q4]; exact hm) fl a1
    by_cases c114 : x = 114
    · subst c114
      have hb : f_X0_mayBegin S r 114 = (if (10 : Int32) ≤ (S.1 r 7) then some 0 else some 1) := by unfold f_X0_mayBegin; rw [if_neg (by decide), if_pos rfl]
      have hm : f_X6_mayBe T 114 = (if (10 : Int32) ≤ (T.1 37 1) then some 0 else some 1) := by unfold f_X6_mayBe; rw [if_neg (by decide), if_neg (by decide), if_neg (by decide), if_pos rfl]
      rw [e37, ← e7] at hm
      by_cases ht : (10 : Int32) ≤ S.1 r 7
      · rw [if_pos ht] at hb hm
        exact item_bad h (by rw [q4]; decide) (bad2 _ q1 q3 hb) (by rw [q4]; exact hm) fl a1
      · rw [if_neg ht] at hb hm
        exact item_good hr h hDR q1 q3 q4 (by decide) hb hm oncem.2.2.2.2.1 (by decide) fl a1 (fun k S6 T1 p1 fl' g1 g2 g3 => row_r hr g1 g2 (by rw [g3]; exact ht) fl')
    by_cases c118 : x = 118
    · subst c118
      have hb : f_X0_mayBegin S r 118 = (if (6 : Int32) ≤ (S.1 r 6) then some 0 else some 1) := by unfold f_X0_mayBegin; rw [if_neg (by decide), if_neg (by decide), if_pos rfl]
      have hm : f_X6_mayBe T 118 = (if (6 : Int32) ≤ (T.1 33 1) then some 0 else some 1) := by unfold f_X6_mayBe; rw [if_neg (by decide), if_neg (by decide), if_neg (by decide), if_neg (by decide), if_pos rfl]
      rw [d2] at hm
      rw [d1] at hb
      by_cases ht : (6 : Int32) ≤ nI nd
      · rw [if_pos ht] at hb hm
        exact item_bad h (by rw [q4]; decide) (bad2 _ q1 q3 hb) (by rw [q4]; exact hm) fl a1
      · rw [if_neg ht] at hb hm
        have h6 : nd < 6 := by
          rcases Nat.lt_or_ge nd 6 with z | z
          · exact z
          · exact absurd ((nI_leI (a := 6) (by omega) (by omega)).mpr z) ht
        exact item_good hr h hDR q1 q3 q4 (by decide) hb hm oncem.2.2.2.2.2 (by decide) fl a1 (fun k S6 T1 p1 fl' g1 g2 _ => row_v hr g1 g2 h6 fl')
    · have n98 : ¬ nI x = 98 := fun z => c98 ((lit 98 (by omega)).mp z)
      have n100 : ¬ nI x = 100 := fun z => c100 ((lit 100 (by omega)).mp z)
      have n109 : ¬ nI x = 109 := fun z => c109 ((lit 109 (by omega)).mp z)
      have n114 : ¬ nI x = 114 := fun z => c114 ((lit 114 (by omega)).mp z)
      have n118 : ¬ nI x = 118 := fun z => c118 ((lit 118 (by omega)).mp z)
      have n119 : ¬ nI x = 119 := fun z => c119 ((lit 119 (by omega)).mp z)
      refine item_bad h (by rw [q4]; exact hne3) (bad2 _ q1 q3 ?_) ?_ fl a1
      · unfold f_X0_mayBegin f_X0_isToldOnce
        rw [if_neg n100, if_neg n114, if_neg n118, if_neg n109, if_neg n119, if_neg n98, Option.bind_some, if_pos rfl]
      · rw [q4]
        unfold f_X6_mayBe
        rw [if_neg n98, if_neg n100, if_neg n109, if_neg n114, if_neg n118, if_neg n119]
  · refine item_bad h (by rw [q3]; decide) (bad2 0 q1 q2 ?_) (by rw [q3]; exact mb4) fl a1
    unfold f_X0_mayBegin f_X0_isToldOnce
    rw [if_neg (by decide), if_neg (by decide), if_neg (by decide), if_neg (by decide), if_neg (by decide), if_neg (by decide), Option.bind_some, if_pos rfl]
  · exact item_bad h (by rw [q2]; decide) (bad1 (by rw [q1]; decide)) (by rw [q2]; exact mb1) fl a1
  · exact item_bad h (by rw [q2]; decide) (bad1 (by rw [q1]; decide)) (by rw [q2]; exact mb2) fl a1
  · exact item_bad h (by rw [q2]; decide) (bad1 (by rw [q1]; decide)) (by rw [q2]; exact mb4) fl a1
end ITEM2
