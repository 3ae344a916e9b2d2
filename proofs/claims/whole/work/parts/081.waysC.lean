section WAYSC
variable {nd r : Nat} {M W : Nat → Nat → Nat}
def mixC (nd k : Nat) (M : Nat → Nat → Nat) (i j : Nat) : Nat → Nat → Nat := fun a b => if a < nd ∧ b < nd ∧ (a < i ∨ (a = i ∧ b < j)) then rnd k M a b else M a b
theorem mix_col {k jj i j : Nat} (hk : k < 6) (hM : FWI nd jj M) {a : Nat} (ha : a < 6) : mixC nd k M i j a k = M a k := by
  unfold mixC
  split
  · unfold rnd; have := hM.1 k hk; omega
  · rfl
theorem mix_row {k jj i j : Nat} (hk : k < 6) (hM : FWI nd jj M) {b : Nat} (hb : b < 6) : mixC nd k M i j k b = M k b := by
  unfold mixC
  split
  · unfold rnd; have := hM.1 k hk; omega
  · rfl
theorem ways22 (hr : 17 ≤ r) (hn : nd ≤ 6) {k jj : Nat} (hk : k < nd) (hM : FWI nd jj M) (k2 : zS → Int32 → Option zS) (k12 : zS → Int32 → Int32 → Option zS) {i : Nat} (hi : i < nd) : ∀ (m j fl : Nat) (S : zS), j + m = nd → m < fl → S.1 r 6 = nI nd → (∀ a b, a < 6 → b < 6 → S.1 (r + 4) (6 * a + b) = nI (mixC nd k M i j a b)) →
    ∃ g, f_X0_findShortestWays_22 k2 k12 r fl S (nI k) (nI i) (nI j) = k12 (zr S (r + 4) g) (nI k) (nI (i + 1)) ∧ ∀ a b, a < 6 → b < 6 → g (6 * a + b) = nI (mixC nd k M (i + 1) 0 a b) := by
  have h3 := hM.2.2.1
  intro m
  induction m with
  | zero =>
    intro j fl S hj hf h6 hT
    obtain ⟨fl, rfl⟩ : ∃ e, fl = e + 1 := ⟨fl - 1, by omega⟩
    refine ⟨S.1 (r + 4), ?_, fun a b ha hb => ?_⟩
    · rw [f_X0_findShortestWays_22, h6, if_pos ((nI_leI (by omega) (by omega)).mpr (by omega)), nI_1, zr_eta]
    · rw [hT a b ha hb]
      congr 1
      unfold mixC
      by_cases h : a < nd ∧ b < nd ∧ (a < i ∨ (a = i ∧ b < j))
      · rw [if_pos h, if_pos (by omega)]
      · rw [if_neg h, if_neg (by omega)]
  | succ m ih =>
    intro j fl S hj hf h6 hT
    obtain ⟨fl, rfl⟩ : ∃ e, fl = e + 1 := ⟨fl - 1, by omega⟩
    have b1 := h3 i k (by omega) (by omega)
    have b2 := h3 k j (by omega) (by omega)
    have b3 := h3 i j (by omega) (by omega)
    have hmij : mixC nd k M i j i j = M i j := by unfold mixC; rw [if_neg (by omega)]
    have next : ∀ (S2 : zS) (v : Nat), S2.1 r 6 = nI nd → (S2 = S ∧ M i j = rnd k M i j ∨ S2 = zr S (r + 4) (upd (S.1 (r + 4)) (6 * i + j) (nI (rnd k M i j)))) → ∃ g, f_X0_findShortestWays_71 k2 k12 (f_X0_findShortestWays_22 k2 k12 r fl) r S2 (nI k) (nI i) (nI j) = k12 (zr S (r + 4) g) (nI k) (nI (i + 1)) ∧ ∀ a b, a < 6 → b < 6 → g (6 * a + b) = nI (mixC nd k M (i + 1) 0 a b) := by
      intro S2 v h62 hS2
      have hT2 : ∀ a b, a < 6 → b < 6 → S2.1 (r + 4) (6 * a + b) = nI (mixC nd k M i (j + 1) a b) := by
        intro a b ha hb
        have hmix : mixC nd k M i (j + 1) a b = (if a = i ∧ b = j then rnd k M i j else mixC nd k M i j a b) := by
          unfold mixC
          by_cases h : a = i ∧ b = j
          · rw [if_pos h, if_pos (by omega), h.1, h.2]
          · rw [if_neg h]
            by_cases h' : a < nd ∧ b < nd ∧ (a < i ∨ (a = i ∧ b < j))
            · rw [if_pos h', if_pos (by omega)]
            · rw [if_neg h', if_neg (by omega)]
        rw [hmix]
        rcases hS2 with ⟨rfl, he⟩ | rfl
        · rw [hT a b ha hb]
          by_cases h : a = i ∧ b = j
          · rw [if_pos h, h.1, h.2, hmij, he]
          · rw [if_neg h]
        · rw [zr_s]
          by_cases h : a = i ∧ b = j
          · rw [if_pos h, h.1, h.2, upd_s]
          · rw [if_neg h, upd_n (fun z => h (mul6 hb (by omega) z))]; exact hT a b ha hb
      unfold f_X0_findShortestWays_71
      rw [nI_1]
      obtain ⟨g, g1, g2⟩ := ih (j + 1) fl S2 (by omega) (by omega) h62 hT2
      refine ⟨g, ?_, g2⟩
      rw [g1]
      rcases hS2 with ⟨rfl, -⟩ | rfl
      · rfl
      · rw [zr_zr]
    rw [f_X0_findShortestWays_22, h6, if_neg (fun z => by have := (nI_leI (by omega) (by omega)).mp z; omega), days_eq S r h6 hn hi hk, Option.bind_some, days_eq S r h6 hn hk (show j < nd by omega), Option.bind_some, hT i k (by omega) (by omega), hT k j (by omega) (by omega), mix_col (by omega) hM (by omega), mix_row (by omega) hM (by omega), L_1000]
    by_cases c1 : M i k < 1000
    · rw [if_pos ((nI_ltI (by omega) (by omega)).mpr c1), if_neg (nI_ne_m9 (by omega))]
      by_cases c2 : M k j < 1000
      · rw [if_pos ((nI_ltI (by omega) (by omega)).mpr c2), if_neg (nI_ne_m9 (by omega)), nI_add, short_eq h6 hn hT (by rw [hmij]; exact b3) hi (show j < nd by omega) (by omega), Option.bind_some, hmij]
        refine next _ 0 (by rw [zr_n (by omega)]; exact h6) (Or.inr ?_)
        rw [show min (M i k + M k j) (M i j) = rnd k M i j by unfold rnd; omega]
      · rw [if_neg (fun z => c2 ((nI_ltI (by omega) (by omega)).mp z)), if_pos rfl]
        exact next S 0 h6 (Or.inl ⟨rfl, by unfold rnd; omega⟩)
    · rw [if_neg (fun z => c1 ((nI_ltI (by omega) (by omega)).mp z)), if_pos rfl]
      exact next S 0 h6 (Or.inl ⟨rfl, by unfold rnd; omega⟩)
theorem ways12 (hr : 17 ≤ r) (hn : nd ≤ 6) {k jj : Nat} (hk : k < nd) (hM : FWI nd jj M) (k2 : zS → Int32 → Option zS) : ∀ (m i fl : Nat) (S : zS), i + m = nd → m < fl → S.1 r 6 = nI nd → (∀ a b, a < 6 → b < 6 → S.1 (r + 4) (6 * a + b) = nI (mixC nd k M i 0 a b)) →
    ∃ g, f_X0_findShortestWays_12 k2 r fl S (nI k) (nI i) = k2 (zr S (r + 4) g) (nI (k + 1)) ∧ ∀ a b, a < 6 → b < 6 → g (6 * a + b) = nI (rnd k M a b) := by
  intro m
  induction m with
  | zero =>
    intro i fl S hi hf h6 hT
    obtain ⟨fl, rfl⟩ : ∃ e, fl = e + 1 := ⟨fl - 1, by omega⟩
    refine ⟨S.1 (r + 4), ?_, fun a b ha hb => ?_⟩
    · rw [f_X0_findShortestWays_12, h6, if_pos ((nI_leI (by omega) (by omega)).mpr (by omega)), nI_1, zr_eta]
    · rw [hT a b ha hb]
      congr 1
      unfold mixC
      by_cases h : a < nd ∧ b < nd ∧ (a < i ∨ (a = i ∧ b < 0))
      · rw [if_pos h]
      · rw [if_neg h, rnd_out (by omega) hM ha hb (by omega)]
  | succ m ih =>
    intro i fl S hi hf h6 hT
    obtain ⟨fl, rfl⟩ : ∃ e, fl = e + 1 := ⟨fl - 1, by omega⟩
    obtain ⟨g, g1, g2⟩ := ways22 hr hn hk hM k2 (f_X0_findShortestWays_12 k2 r fl) (i := i) (by omega) nd 0 zN S (by omega) (by have := zN_big; omega) h6 hT
    obtain ⟨g', q1, q2⟩ := ih (i + 1) fl (zr S (r + 4) g) (by omega) (by omega) (by rw [zr_n (by omega)]; exact h6) (fun a b ha hb => by rw [zr_s]; exact g2 a b ha hb)
    refine ⟨g', ?_, q2⟩
    rw [f_X0_findShortestWays_12, h6, if_neg (fun z => by have := (nI_leI (by omega) (by omega)).mp z; omega)]
    refine Eq.trans g1 ?_
    rw [q1, zr_zr]
theorem ways2 (hr : 17 ≤ r) (hn : nd ≤ 6) (h : zWay nd W) : ∀ (m k fl : Nat) (S : zS), k + m = nd → m < fl → S.1 r 6 = nI nd → (∀ a b, a < 6 → b < 6 → S.1 (r + 4) (6 * a + b) = nI (fwn W k a b)) →
    ∃ g, f_X0_findShortestWays_2 r fl S (nI k) = some (zr S (r + 4) g) ∧ ∀ a b, a < 6 → b < 6 → g (6 * a + b) = nI (fwn W 6 a b) := by
  intro m
  induction m with
  | zero =>
    intro k fl S hk hf h6 hT
    obtain ⟨fl, rfl⟩ : ∃ e, fl = e + 1 := ⟨fl - 1, by omega⟩
    have : k = nd := by omega
    subst this
    refine ⟨S.1 (r + 4), ?_, fun a b ha hb => ?_⟩
    · rw [f_X0_findShortestWays_2, h6, if_pos ((nI_leI (by omega) (by omega)).mpr (by omega)), zr_eta]
    · rw [hT a b ha hb]
      have := fwn_nd h hn ha hb (6 - k) (by omega)
      rw [show k + (6 - k) = 6 by omega] at this
      rw [this]
  | succ m ih =>
    intro k fl S hk hf h6 hT
    obtain ⟨fl, rfl⟩ : ∃ e, fl = e + 1 := ⟨fl - 1, by omega⟩
    obtain ⟨g, g1, g2⟩ := ways12 hr hn (k := k) (by omega) (FWI_n h k (by omega)) (f_X0_findShortestWays_2 r fl) nd 0 zN S (by omega) (by have := zN_big; omega) h6 (fun a b ha hb => by
      rw [hT a b ha hb]; congr 1; unfold mixC; rw [if_neg (by omega)])
    obtain ⟨g', q1, q2⟩ := ih (k + 1) fl (zr S (r + 4) g) (by omega) (by omega) (by rw [zr_n (by omega)]; exact h6) (fun a b ha hb => by rw [zr_s]; exact g2 a b ha hb)
    refine ⟨g', ?_, q2⟩
    rw [f_X0_findShortestWays_2, h6, if_neg (fun z => by have := (nI_leI (by omega) (by omega)).mp z; omega)]
    refine Eq.trans g1 ?_
    rw [q1, zr_zr]
end WAYSC
