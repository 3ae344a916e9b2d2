/-! the shortest ways -/
def rnd (k : Nat) (M : Nat → Nat → Nat) : Nat → Nat → Nat := fun i j => min (M i j) (M i k + M k j)
def fwn (W : Nat → Nat → Nat) : Nat → Nat → Nat → Nat
  | 0 => W
  | k + 1 => rnd k (fwn W k)
def FWI (nd k : Nat) (M : Nat → Nat → Nat) : Prop := (∀ a, a < 6 → M a a = 0) ∧ (∀ a b, a < 6 → b < 6 → a ≠ b → 1 ≤ M a b) ∧ (∀ a b, a < 6 → b < 6 → M a b ≤ 1000) ∧ (∀ a b, a < 6 → b < 6 → M a b < 1000 → M a b ≤ 9 * 2 ^ k) ∧
  (∀ a b c, a < 6 → b < 6 → c < 6 → c < k → M a b ≤ M a c + M c b) ∧ (∀ a b c, a < 6 → b < 6 → c < 6 → c < k → M a c < 1000 → M c b < 1000 → M a b < 1000) ∧ (∀ a b, a < 6 → b < 6 → a ≠ b → nd ≤ a ∨ nd ≤ b → M a b = 1000)
section WAYS
variable {S T : zS} {nd r : Nat} {M W : Nat → Nat → Nat}
theorem FWI_0 (h : zWay nd W) : FWI nd 0 W := by
  refine ⟨h.1, fun a b ha hb hab => ?_, fun a b ha hb => way_le h ha hb, fun a b ha hb hl => ?_, fun a b c _ _ _ hc => by omega, fun a b c _ _ _ hc => by omega, h.2.2.2⟩
  · have := h.2.1 a b ha hb hab; omega
  · by_cases hab : a = b
    · subst hab; rw [h.1 a ha]; omega
    · have := h.2.1 a b ha hb hab
      omega
theorem pow5 : ∀ k, k < 6 → 2 ^ k ≤ 32 := by decide
theorem FWI_s {k : Nat} (hk : k < 6) (h : FWI nd k M) : FWI nd (k + 1) (rnd k M) := by
  obtain ⟨h1, h2, h3, h4, h5, h6, h7⟩ := h
  have hp := pow5 k hk
  have e2 : 2 ^ (k + 1) = 2 * 2 ^ k := by rw [Nat.pow_succ]; omega
  have low : ∀ a b, rnd k M a b ≤ M a b ∧ rnd k M a b ≤ M a k + M k b := fun a b => ⟨Nat.min_le_left _ _, Nat.min_le_right _ _⟩
  have cas : ∀ a b, rnd k M a b = M a b ∨ rnd k M a b = M a k + M k b := fun a b => by unfold rnd; omega
  have fin : ∀ a b, a < 6 → b < 6 → rnd k M a b < 1000 → M a b < 1000 ∨ (M a k < 1000 ∧ M k b < 1000) := fun a b ha hb hl => by
    rcases cas a b with q | q
    · left; omega
    · right; omega
  have fin' : ∀ a b, a < 6 → b < 6 → M a k < 1000 → M k b < 1000 → rnd k M a b < 1000 := fun a b ha hb q1 q2 => by
    have := h4 a k ha hk q1
    have := h4 k b hk hb q2
    have := (low a b).2
    omega
  have col : ∀ a, a < 6 → rnd k M a k = M a k := fun a ha => by
    have := h1 k hk
    unfold rnd; omega
  have row : ∀ b, b < 6 → rnd k M k b = M k b := fun b hb => by
    have := h1 k hk
    unfold rnd; omega
  refine ⟨fun a ha => ?_, fun a b ha hb hab => ?_, fun a b ha hb => ?_, fun a b ha hb hl => ?_, fun a b c ha hb hc hck => ?_, fun a b c ha hb hc hck q1 q2 => ?_, fun a b ha hb hab ho => ?_⟩
  · have := (low a a).1; have := h1 a ha; omega
  · have e1 := h2 a b ha hb hab
    rcases cas a b with q | q
    · omega
    · by_cases hak : a = k
      · have : b ≠ k := fun z => hab (hak.trans z.symm)
        have := h2 k b hk hb (fun z => this z.symm); omega
      · have := h2 a k ha hk hak; omega
  · have := (low a b).1; have := h3 a b ha hb; omega
  · rcases cas a b with q | q
    · have := h4 a b ha hb (by omega); omega
    · have := h4 a k ha hk (by omega)
      have := h4 k b hk hb (by omega)
      omega
  · by_cases hc2 : c = k
    · subst hc2; rw [col a ha, row b hb]; exact (low a b).2
    · have l1 := low a b
      have t1 := h5 a b c ha hb hc (by omega)
      have t2 := h5 a k c ha hk hc (by omega)
      have t3 := h5 k b c hk hb hc (by omega)
      have c1 := cas a c
      have c2 := cas c b
      omega
  · by_cases hc2 : c = k
    · subst hc2; rw [col a ha] at q1; rw [row b hb] at q2; exact fin' a b ha hb q1 q2
    · have l1 := (low a b).1
      rcases fin a c ha hc q1 with u | ⟨u1, u2⟩
      · rcases fin c b hc hb q2 with v | ⟨v1, v2⟩
        · have := h6 a b c ha hb hc (by omega) u v; omega
        · exact fin' a b ha hb (h6 a k c ha hk hc (by omega) u v1) v2
      · rcases fin c b hc hb q2 with v | ⟨v1, v2⟩
        · exact fin' a b ha hb u1 (h6 k b c hk hb hc (by omega) u2 v)
        · exact fin' a b ha hb u1 v2
  · have e := h7 a b ha hb hab ho
    rcases cas a b with q | q
    · omega
    · rcases ho with ho | ho
      · by_cases hak : a = k
        · rw [q, hak, h1 k hk, ← hak, e]
        · have := h7 a k ha hk hak (Or.inl ho)
          have := (low a b).1; omega
      · by_cases hbk : b = k
        · rw [q, hbk, h1 k hk, ← hbk, e]
        · have := h7 k b hk hb (fun z => hbk z.symm) (Or.inr ho)
          have := (low a b).1; omega
theorem FWI_n (h : zWay nd W) : ∀ k, k ≤ 6 → FWI nd k (fwn W k)
  | 0, _ => FWI_0 h
  | k + 1, hk => FWI_s (by omega) (FWI_n h k (by omega))
theorem fw_far (h : zWay nd W) : zFar (fwn W 6) := by
  obtain ⟨h1, h2, h3, h4, h5, h6, h7⟩ := FWI_n h 6 (Nat.le_refl _)
  exact ⟨h1, h2, h3, fun a b c ha hb hc => h5 a b c ha hb hc hc, fun a b c ha hb hc => h6 a b c ha hb hc hc⟩
/-- a village that is none shortens nothing -/
theorem rnd_out {k : Nat} (hk : k < 6) {j : Nat} (h : FWI nd j M) {a b : Nat} (ha : a < 6) (hb : b < 6) (ho : nd ≤ k ∨ nd ≤ a ∨ nd ≤ b) : rnd k M a b = M a b := by
  obtain ⟨h1, h2, h3, h4, h5, h6, h7⟩ := h
  have e := h3 a b ha hb
  unfold rnd
  by_cases hak : a = k
  · subst hak; rw [h1 a ha]; omega
  · by_cases hbk : b = k
    · subst hbk; rw [h1 b hb]; omega
    · rcases ho with ho | ho | ho
      · have := h7 a k ha hk hak (Or.inr ho); omega
      · have := h7 a k ha hk hak (Or.inl ho); omega
      · have := h7 k b hk hb (fun z => hbk z.symm) (Or.inr ho); omega
theorem fwn_nd (h : zWay nd W) (hn : nd ≤ 6) {a b : Nat} (ha : a < 6) (hb : b < 6) : ∀ m, nd + m ≤ 6 → fwn W (nd + m) a b = fwn W nd a b
  | 0, _ => rfl
  | m + 1, hm => by
    have := fwn_nd h hn ha hb m (by omega)
    show rnd (nd + m) (fwn W (nd + m)) a b = _
    rw [rnd_out (by omega) (FWI_n h (nd + m) (by omega)) ha hb (Or.inl (by omega))]
    exact this
/-- the reference -/
theorem div36 : ∀ c, c < 36 → nI c / 6 * 6 = nI (6 * (c / 6)) ∧ nI c - nI c / 6 * 6 = nI (c % 6) := by decide +kernel
theorem td198 {k : Nat} (hk : k < 6) {j : Nat} (hM : FWI nd j M) (k190 : zS → Int32 → Option zS) : ∀ (m c fl : Nat) (T : zS), c + m = 36 → m < fl → (∀ a b, a < 6 → b < 6 → T.1 38 (6 * a + b) = nI (if 6 * a + b < c then rnd k M a b else M a b)) →
    ∃ g, f_X6_takeDraft_198 k190 fl T (nI k) (nI c) = k190 (zr T 38 g) (nI (k + 1)) ∧ (∀ i, 36 ≤ i → g i = T.1 38 i) ∧ ∀ a b, a < 6 → b < 6 → g (6 * a + b) = nI (rnd k M a b) := by
  obtain ⟨h1, h2, h3, h4, h5, h6, h7⟩ := hM
  intro m
  induction m with
  | zero =>
    intro c fl T hc hf hT
    obtain ⟨fl, rfl⟩ : ∃ e, fl = e + 1 := ⟨fl - 1, by omega⟩
    refine ⟨T.1 38, ?_, fun _ _ => rfl, fun a b ha hb => ?_⟩
    · rw [f_X6_takeDraft_198, L_36, if_pos ((nI_leI (by omega) (by omega)).mpr (by omega)), nI_1, zr_eta]
    · rw [hT a b ha hb, if_pos (by omega)]
  | succ m ih =>
    intro c fl T hc hf hT
    obtain ⟨fl, rfl⟩ : ∃ e, fl = e + 1 := ⟨fl - 1, by omega⟩
    have hq : 6 * (c / 6) + c % 6 = c := by omega
    have ha : c / 6 < 6 := by omega
    have hb : c % 6 < 6 := by omega
    have r1 : T.1 38 (6 * (c / 6) + k) = nI (M (c / 6) k) := by
      rw [hT _ k ha hk]
      by_cases h : 6 * (c / 6) + k < c
      · rw [if_pos h]; congr 1; unfold rnd; have := h1 k hk; omega
      · rw [if_neg h]
    have r2 : T.1 38 (6 * k + c % 6) = nI (M k (c % 6)) := by
      rw [hT k _ hk hb]
      by_cases h : 6 * k + c % 6 < c
      · rw [if_pos h]; congr 1; unfold rnd; have := h1 k hk; omega
      · rw [if_neg h]
    have r3 : T.1 38 c = nI (M (c / 6) (c % 6)) := by
      have := hT (c / 6) (c % 6) ha hb
      rw [hq, if_neg (by omega)] at this
      exact this
    have b1 := h3 (c / 6) k ha hk
    have b2 := h3 k (c % 6) hk hb
    have b3 := h3 (c / 6) (c % 6) ha hb
    have e : f_X6_takeDraft_198 k190 (fl + 1) T (nI k) (nI c) = f_X6_takeDraft_198 k190 fl (zr T 38 (upd (T.1 38) c (nI (rnd k M (c / 6) (c % 6))))) (nI k) (nI (c + 1)) := by
      rw [f_X6_takeDraft_198, L_36, if_neg (fun z => by have := (nI_leI (by omega) (by omega)).mp z; omega), (div36 c (by omega)).2, (div36 c (by omega)).1, nI_add, L_6, pk_mul, nI_add, if_pos (zin_nI (by omega) (by omega)), if_pos (zin_nI (by omega) (by omega)), if_pos (zin_nI (by omega) (by omega)), cl (by omega), cl (by omega), cl (by omega), r1, r2, r3, nI_add, if_pos (zin_nI (by omega) (by omega)), if_pos (zin_nI (by omega) (by omega))]
      unfold f_X6_takeDraft_260
      rw [nI_1]
      by_cases hle : M (c / 6) (c % 6) ≤ M (c / 6) k + M k (c % 6)
      · rw [if_pos ((nI_leI (by omega) (by omega)).mpr hle), show rnd k M (c / 6) (c % 6) = M (c / 6) (c % 6) by unfold rnd; omega]
      · rw [if_neg (fun z => hle ((nI_leI (by omega) (by omega)).mp z)), if_pos (zin_nI (by omega) (by omega)), show rnd k M (c / 6) (c % 6) = M (c / 6) k + M k (c % 6) by unfold rnd; omega]
    obtain ⟨g, g1, g2, g3⟩ := ih (c + 1) fl (zr T 38 (upd (T.1 38) c (nI (rnd k M (c / 6) (c % 6))))) (by omega) (by omega) (fun a b ha' hb' => by
      rw [zr_s]
      by_cases hx : 6 * a + b = c
      · have hdm : c / 6 = a ∧ c % 6 = b := by omega
        rw [hx, upd_s, if_pos (by omega), hdm.1, hdm.2]
      · rw [upd_n hx, hT a b ha' hb']
        by_cases hl : 6 * a + b < c
        · rw [if_pos hl, if_pos (by omega)]
        · rw [if_neg hl, if_neg (by omega)])
    refine ⟨g, ?_, fun i hi => ?_, g3⟩
    · rw [e, g1, zr_zr]
    · rw [g2 i hi, zr_s, upd_n (by omega)]
theorem td190 (h : zWay nd W) : ∀ (m k fl : Nat) (T : zS), k + m = 6 → m < fl → (∀ a b, a < 6 → b < 6 → T.1 38 (6 * a + b) = nI (fwn W k a b)) →
    ∃ g, f_X6_takeDraft_190 fl T (nI k) = (if (zr T 38 g).1 33 0 ≤ 0 then f_X6_takeDraft_293 (zr (zr T 38 g) 41 (upd ((zr T 38 g).1 41) 0 (-9 : Int32))) else f_X6_takeDraft_293 (zr (zr T 38 g) 41 (upd ((zr T 38 g).1 41) 0 (0 : Int32)))) ∧ (∀ i, 36 ≤ i → g i = T.1 38 i) ∧ ∀ a b, a < 6 → b < 6 → g (6 * a + b) = nI (fwn W 6 a b) := by
  intro m
  induction m with
  | zero =>
    intro k fl T hk hf hT
    obtain ⟨fl, rfl⟩ : ∃ e, fl = e + 1 := ⟨fl - 1, by omega⟩
    have : k = 6 := by omega
    subst this
    refine ⟨T.1 38, ?_, fun _ _ => rfl, hT⟩
    rw [f_X6_takeDraft_190, L_6, if_pos ((nI_leI (by omega) (by omega)).mpr (by omega)), zr_eta]
  | succ m ih =>
    intro k fl T hk hf hT
    obtain ⟨fl, rfl⟩ : ∃ e, fl = e + 1 := ⟨fl - 1, by omega⟩
    obtain ⟨g, g1, g2, g3⟩ := td198 (k := k) (by omega) (FWI_n h k (by omega)) (f_X6_takeDraft_190 fl) 36 0 zN T (by omega) (by have := zN_big; omega) (fun a b ha hb => by rw [if_neg (by omega)]; exact hT a b ha hb)
    obtain ⟨g', q1, q2, q3⟩ := ih (k + 1) fl (zr T 38 g) (by omega) (by omega) (fun a b ha hb => by rw [zr_s]; exact g3 a b ha hb)
    refine ⟨g', ?_, fun i hi => ?_, q3⟩
    · rw [f_X6_takeDraft_190, L_6, if_neg (fun z => by have := (nI_leI (by omega) (by omega)).mp z; omega)]
      refine Eq.trans g1 ?_
      rw [q1, zr_zr]
    · rw [q2 i hi, zr_s]; exact g2 i hi
end WAYS
