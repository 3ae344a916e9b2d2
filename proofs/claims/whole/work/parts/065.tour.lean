/-! tours: what they are -/
def tpl (c : Nat) (x : Nat → Nat) (i : Nat) : Nat := if i = 0 then c else x (i - 1)
def tds (D : Nat → Nat → Nat) (c : Nat) (x : Nat → Nat) : Nat → Nat
  | 0 => 0
  | i + 1 => tds D c x i + D (tpl c x i) (x i)
def tsm (sp x : Nat → Nat) : Nat → Nat
  | 0 => 0
  | i + 1 => tsm sp x i + sp (x i)
def Feas (nv : Nat) (D : Nat → Nat → Nat) (sp : Nat → Nat) (c B m goal n : Nat) (x : Nat → Nat) : Prop :=
  (∀ i, i < n → x i < nv) ∧ (∀ i j, i < j → j < n → x i ≠ x j) ∧ (∀ i, i < n → D (tpl c x i) (x i) < 1000 ∧ m * tds D c x (i + 1) ≤ B + tsm sp x i) ∧ goal ≤ B + tsm sp x n
section TOUR
variable {nv c B m goal n : Nat} {D : Nat → Nat → Nat} {sp : Nat → Nat}
theorem tpl_congr {x y : Nat → Nat} {n : Nat} (h : ∀ i, i < n → x i = y i) {i : Nat} (hi : i ≤ n) : tpl c x i = tpl c y i := by
  unfold tpl
  by_cases h0 : i = 0
  · rw [if_pos h0, if_pos h0]
  · rw [if_neg h0, if_neg h0, h _ (by omega)]
theorem tds_congr {x y : Nat → Nat} {n : Nat} (h : ∀ i, i < n → x i = y i) : ∀ i, i ≤ n → tds D c x i = tds D c y i
  | 0, _ => rfl
  | i + 1, hi => by
    show tds D c x i + _ = tds D c y i + _
    rw [tds_congr h i (by omega), tpl_congr h (by omega), h i (by omega)]
theorem tsm_congr {x y : Nat → Nat} {n : Nat} (h : ∀ i, i < n → x i = y i) : ∀ i, i ≤ n → tsm sp x i = tsm sp y i
  | 0, _ => rfl
  | i + 1, hi => by
    show tsm sp x i + _ = tsm sp y i + _
    rw [tsm_congr h i (by omega), h i (by omega)]
theorem tds_mono (x : Nat → Nat) : ∀ {i j : Nat}, i ≤ j → tds D c x i ≤ tds D c x j
  | i, 0, h => by have : i = 0 := by omega
                  subst this; exact Nat.le_refl _
  | i, j + 1, h => by
    by_cases hij : i = j + 1
    · subst hij; exact Nat.le_refl _
    · have := tds_mono x (i := i) (j := j) (by omega)
      show _ ≤ tds D c x j + _
      omega
theorem Feas_congr {x y : Nat → Nat} (h : ∀ i, i < n → x i = y i) (hF : Feas nv D sp c B m goal n x) : Feas nv D sp c B m goal n y := by
  obtain ⟨a, b, d, e⟩ := hF
  refine ⟨fun i hi => by rw [← h i hi]; exact a i hi, fun i j hij hj => by rw [← h i (by omega), ← h j hj]; exact b i j hij hj, fun i hi => ?_, by rw [← tsm_congr h n (Nat.le_refl _)]; exact e⟩
  rw [← tpl_congr h (by omega), ← h i hi, ← tds_congr h (i + 1) (by omega), ← tsm_congr h i (by omega)]
  exact d i hi
/-- a village that can spare nothing is not needed -/
def cut (j : Nat) (x : Nat → Nat) : Nat → Nat := fun i => if i < j then x i else x (i + 1)
theorem Feas_cut (hD : zFar D) (hn6 : nv ≤ 6) (hc : 0 < nv → c < nv) {x : Nat → Nat} (hF : Feas nv D sp c B m goal (n + 1) x) {j : Nat} (hj : j < n + 1) (hz : sp (x j) = 0) : Feas nv D sp c B m goal n (cut j x) := by
  obtain ⟨a, b, d, e⟩ := hF
  have hnv : 0 < nv := by have := a 0 (by omega); omega
  have hc6 : c < 6 := by have := hc hnv; omega
  have p1 : ∀ i, i < j → cut j x i = x i := fun i hi => if_pos hi
  have p2 : ∀ i, j ≤ i → cut j x i = x (i + 1) := fun i hi => if_neg (by omega)
  have pl6 : ∀ i, i < n + 1 → tpl c x i < 6 := fun i hi => by
    unfold tpl
    by_cases h0 : i = 0
    · rw [if_pos h0]; exact hc6
    · rw [if_neg h0]; have := a (i - 1) (by omega); omega
  have x6 : ∀ i, i < n + 1 → x i < 6 := fun i hi => by have := a i hi; omega
  -- the places
  have q1 : ∀ i, i ≤ j → tpl c (cut j x) i = tpl c x i := fun i hi => by
    unfold tpl
    by_cases h0 : i = 0
    · rw [if_pos h0, if_pos h0]
    · rw [if_neg h0, if_neg h0, p1 _ (by omega)]
  have q2 : ∀ i, j < i → tpl c (cut j x) i = tpl c x (i + 1) := fun i hi => by
    unfold tpl
    rw [if_neg (by omega), if_neg (by omega), p2 _ (by omega)]
    congr 1
    omega
  have s1 : ∀ i, i ≤ j → tsm sp (cut j x) i = tsm sp x i := by
    intro i
    induction i with
    | zero => intro _; rfl
    | succ i ih =>
      intro hi
      show tsm sp (cut j x) i + _ = tsm sp x i + _
      rw [ih (by omega), p1 i (by omega)]
  have s2 : ∀ i, j ≤ i → tsm sp (cut j x) i = tsm sp x (i + 1) := by
    intro i
    induction i with
    | zero =>
      intro hi
      have : j = 0 := by omega
      subst this
      show 0 = 0 + sp (x 0)
      rw [hz]
    | succ i ih =>
      intro hi
      by_cases hij : j = i + 1
      · subst hij
        rw [s1 (i + 1) (Nat.le_refl _)]
        show tsm sp x (i + 1) = tsm sp x (i + 1) + sp (x (i + 1))
        rw [hz]; omega
      · show tsm sp (cut j x) i + _ = tsm sp x (i + 1) + _
        rw [ih (by omega), p2 i (by omega)]
  have t1 : ∀ i, i ≤ j → tds D c (cut j x) i = tds D c x i := by
    intro i
    induction i with
    | zero => intro _; rfl
    | succ i ih =>
      intro hi
      show tds D c (cut j x) i + _ = tds D c x i + _
      rw [ih (by omega), q1 i (by omega), p1 i (by omega)]
  have tri : j + 1 < n + 1 → D (tpl c (cut j x) j) (cut j x j) ≤ D (tpl c x j) (x j) + D (tpl c x (j + 1)) (x (j + 1)) ∧ D (tpl c (cut j x) j) (cut j x j) < 1000 := by
    intro h
    rw [q1 j (Nat.le_refl _), p2 j (Nat.le_refl _)]
    have e1 : tpl c x (j + 1) = x j := by unfold tpl; rw [if_neg (by omega)]; congr 1
    rw [e1]
    refine ⟨hD.2.2.2.1 _ _ _ (pl6 j hj) (x6 _ h) (x6 j hj), hD.2.2.2.2 _ _ _ (pl6 j hj) (x6 _ h) (x6 j hj) (d j hj).1 ?_⟩
    have := (d (j + 1) h).1
    rw [e1] at this
    exact this
  have t2 : ∀ i, j ≤ i → i < n → tds D c (cut j x) (i + 1) ≤ tds D c x (i + 2) := by
    intro i
    induction i with
    | zero =>
      intro hi hn
      have : j = 0 := by omega
      subst this
      have : D (tpl c (cut 0 x) 0) (cut 0 x 0) ≤ D (tpl c x 0) (x 0) + D (tpl c x 1) (x 1) := (tri (by omega)).1
      show 0 + D (tpl c (cut 0 x) 0) (cut 0 x 0) ≤ 0 + D (tpl c x 0) (x 0) + D (tpl c x 1) (x 1)
      omega
    | succ i ih =>
      intro hi hn
      by_cases hij : j = i + 1
      · subst hij
        have h1 := (tri (by omega)).1
        have h2 := t1 (i + 1) (Nat.le_refl _)
        show tds D c (cut (i + 1) x) (i + 1) + D (tpl c (cut (i + 1) x) (i + 1)) (cut (i + 1) x (i + 1)) ≤ tds D c x (i + 1) + D (tpl c x (i + 1)) (x (i + 1)) + D (tpl c x (i + 1 + 1)) (x (i + 1 + 1))
        omega
      · have : tds D c (cut j x) (i + 1) ≤ tds D c x (i + 1 + 1) := ih (by omega) (by omega)
        show tds D c (cut j x) (i + 1) + D (tpl c (cut j x) (i + 1)) (cut j x (i + 1)) ≤ tds D c x (i + 1 + 1) + D (tpl c x (i + 1 + 1)) (x (i + 1 + 1))
        rw [q2 (i + 1) (by omega), p2 (i + 1) (by omega)]
        omega
  refine ⟨fun i hi => ?_, fun i k hik hk => ?_, fun i hi => ?_, ?_⟩
  · by_cases h : i < j
    · rw [p1 i h]; exact a i (by omega)
    · rw [p2 i (by omega)]; exact a (i + 1) (by omega)
  · by_cases h : k < j
    · rw [p1 i (by omega), p1 k h]; exact b i k hik (by omega)
    · by_cases h' : i < j
      · rw [p1 i h', p2 k (by omega)]; exact b i (k + 1) (by omega) (by omega)
      · rw [p2 i (by omega), p2 k (by omega)]; exact b (i + 1) (k + 1) (by omega) (by omega)
  · by_cases h : i < j
    · rw [q1 i (by omega), p1 i h, t1 (i + 1) (by omega), s1 i (by omega)]; exact d i (by omega)
    · refine ⟨?_, ?_⟩
      · by_cases h2 : i = j
        · subst h2; exact (tri (by omega)).2
        · rw [q2 i (by omega), p2 i (by omega)]; exact (d (i + 1) (by omega)).1
      · rw [s2 i (by omega)]
        exact Nat.le_trans (Nat.mul_le_mul_left m (t2 i (by omega) hi)) (d (i + 1) (by omega)).2
  · rw [s2 n (by omega)]; exact e
/-- better: fewer days; of as many the first -/
def Upd (D : Nat → Nat → Nat) (c n : Nat) (Reg : (Nat → Nat) → Prop) (β β' : Option (Nat → Nat)) : Prop :=
  (β' = β ∧ ∀ z, Reg z → ∃ y, β = some y ∧ tds D c y n ≤ tds D c z n) ∨ (∃ z, β' = some z ∧ Reg z ∧ (∀ y, β = some y → tds D c z n < tds D c y n) ∧ ∀ w, Reg w → tds D c z n ≤ tds D c w n ∧ (tds D c w n = tds D c z n → ¬ lexlt n w z))
theorem lex_asymm {x y : Nat → Nat} {n : Nat} (h : lexlt n x y) : ¬ lexlt n y x := by
  obtain ⟨i, h1, h2, h3⟩ := h
  rintro ⟨j, k1, k2, k3⟩
  rcases Nat.lt_trichotomy i j with q | q | q
  · have := k2 i q; omega
  · subst q; omega
  · have := h2 j q; omega
theorem Upd_none {Reg : (Nat → Nat) → Prop} {β : Option (Nat → Nat)} (h : ∀ z, ¬ Reg z) : Upd D c n Reg β β := Or.inl ⟨rfl, fun z hz => absurd hz (h z)⟩
theorem Upd_comp {R1 R2 R : (Nat → Nat) → Prop} {β β1 β2 : Option (Nat → Nat)} (h1 : Upd D c n R1 β β1) (h2 : Upd D c n R2 β1 β2) (hlex : ∀ x y, R1 x → R2 y → lexlt n x y) (hR : ∀ z, R z → R1 z ∨ R2 z) (hR1 : ∀ z, R1 z → R z) (hR2 : ∀ z, R2 z → R z) : Upd D c n R β β2 := by
  rcases h1 with ⟨rfl, a⟩ | ⟨z1, rfl, a1, a2, a3⟩
  · rcases h2 with ⟨rfl, b⟩ | ⟨z2, rfl, b1, b2, b3⟩
    · exact Or.inl ⟨rfl, fun z hz => (hR z hz).elim (a z) (b z)⟩
    · refine Or.inr ⟨z2, rfl, hR2 _ b1, b2, fun w hw => ?_⟩
      rcases hR w hw with q | q
      · obtain ⟨y, hy, hle⟩ := a w q
        have := b2 y hy
        exact ⟨by omega, fun he => by omega⟩
      · exact b3 w q
  · rcases h2 with ⟨rfl, b⟩ | ⟨z2, rfl, b1, b2, b3⟩
    · refine Or.inr ⟨z1, rfl, hR1 _ a1, a2, fun w hw => ?_⟩
      rcases hR w hw with q | q
      · exact a3 w q
      · obtain ⟨y, hy, hle⟩ := b w q
        cases hy
        exact ⟨hle, fun _ => lex_asymm (hlex z1 w a1 q)⟩
    · have hlt := b2 z1 rfl
      refine Or.inr ⟨z2, rfl, hR2 _ b1, fun y hy => by have := a2 y hy; omega, fun w hw => ?_⟩
      rcases hR w hw with q | q
      · have := (a3 w q).1
        exact ⟨by omega, fun he => by omega⟩
      · exact b3 w q
/-- sets and rows -/
theorem or_cnt : ∀ G, G < 64 → ∀ v, v < 6 → G / 2 ^ v % 2 = 0 → cnt (G ||| 2 ^ v) = cnt G + 1 := by decide +kernel
theorem or_bit2 : ∀ G, G < 64 → ∀ v, v < 6 → ∀ w, w < 6 → (G ||| 2 ^ v) / 2 ^ w % 2 = (if w = v then 1 else G / 2 ^ w % 2) := by decide +kernel
theorem or_lt2 : ∀ nv, nv ≤ 6 → ∀ v, v < nv → ∀ G, G < 2 ^ nv → (G ||| 2 ^ v) < 2 ^ nv := by decide +kernel
theorem tog_or {G v : Nat} (hG : G < 64) (hv : v < 6) (hb : G / 2 ^ v % 2 = 0) : ∀ k, k ≤ 6 → tog sp (G ||| 2 ^ v) k = tog sp G k + (if v < k then sp v else 0)
  | 0, _ => by rw [if_neg (by omega)]; rfl
  | k + 1, hk => by
    show tog sp (G ||| 2 ^ v) k + ((G ||| 2 ^ v) / 2 ^ k % 2) * sp k = tog sp G k + (G / 2 ^ k % 2) * sp k + _
    rw [tog_or hG hv hb k (by omega), or_bit2 G hG v hv k (by omega)]
    by_cases hkv : k = v
    · subst hkv
      rw [if_pos rfl, if_neg (by omega), if_pos (by omega), hb]; omega
    · rw [if_neg hkv]
      by_cases hlt : v < k
      · rw [if_pos hlt, if_pos (by omega)]; omega
      · rw [if_neg hlt, if_neg (by omega)]; omega
theorem row_set (hn6 : nv ≤ 6) {x : Nat → Nat} : ∀ n, (∀ i, i < n → x i < nv) → (∀ i j, i < j → j < n → x i ≠ x j) → ∃ G, isSet G n x ∧ G < 2 ^ nv ∧ cnt G = n ∧ tog sp G nv = tsm sp x n
  | 0, _, _ => ⟨0, isSet_0 x, Nat.pow_pos (by omega), rfl, by
      have : ∀ k, tog sp 0 k = 0 := by
        intro k
        induction k with
        | zero => rfl
        | succ k ih => show tog sp 0 k + (0 / 2 ^ k % 2) * sp k = 0; rw [ih, Nat.zero_div]; omega
      exact this nv⟩
  | n + 1, h1, h2 => by
    obtain ⟨G, g1, g2, g3, g4⟩ := row_set hn6 n (fun i hi => h1 i (by omega)) (fun i j hij hj => h2 i j hij (by omega))
    have hx := h1 n (by omega)
    have hb : G / 2 ^ x n % 2 = 0 := by
      have h3 : G / 2 ^ x n % 2 < 2 := Nat.mod_lt _ (by omega)
      rcases (show G / 2 ^ x n % 2 = 0 ∨ G / 2 ^ x n % 2 = 1 by omega) with q | q
      · exact q
      · obtain ⟨i, hi, he⟩ := (g1.2 (x n) (by omega)).mp q
        exact absurd he (h2 i n hi (by omega))
    refine ⟨G ||| 2 ^ x n, isSet_add g1 (by omega) rfl, or_lt2 nv hn6 (x n) hx G g2, by rw [or_cnt G g1.1 (x n) (by omega) hb, g3], ?_⟩
    rw [tog_or g1.1 (by omega) hb nv hn6, if_pos hx, g4]
    rfl
theorem fw_spec (n0 : Int32) : ∀ (m i : Nat) (best : Option Nat), (best = none → ∀ b, b < i → nI (tog sp b nv) < n0) → (∀ b0, best = some b0 → b0 < i ∧ ¬ nI (tog sp b0 nv) < n0 ∧ ∀ b, b < i → ¬ nI (tog sp b nv) < n0 → cnt b0 ≤ cnt b) →
    (fw sp nv n0 m i best = none → ∀ b, b < i + m → nI (tog sp b nv) < n0) ∧ (∀ b0, fw sp nv n0 m i best = some b0 → b0 < i + m ∧ ¬ nI (tog sp b0 nv) < n0 ∧ ∀ b, b < i + m → ¬ nI (tog sp b nv) < n0 → cnt b0 ≤ cnt b) := by
  intro m
  induction m with
  | zero => intro i best h1 h2; exact ⟨h1, h2⟩
  | succ m ih =>
    intro i best h1 h2
    have hs : i + (m + 1) = i + 1 + m := by omega
    rw [hs]
    cases best with
    | none =>
      show (fw sp nv n0 m (i + 1) (if nI (tog sp i nv) < n0 then none else some i) = none → _) ∧ ∀ b0, fw sp nv n0 m (i + 1) (if nI (tog sp i nv) < n0 then none else some i) = some b0 → _
      have h1 := h1 rfl
      by_cases hc : nI (tog sp i nv) < n0
      · rw [if_pos hc]
        refine ih (i + 1) none (fun _ b hb => ?_) (fun b0 hb => by cases hb)
        by_cases hbi : b = i
        · subst hbi; exact hc
        · exact h1 b (by omega)
      · rw [if_neg hc]
        refine ih (i + 1) (some i) (fun h => by cases h) (fun b0 hb => ?_)
        cases hb
        refine ⟨by omega, hc, fun b hb hn => ?_⟩
        by_cases hbi : b = i
        · subst hbi; exact Nat.le_refl _
        · exact absurd (h1 b (by omega)) hn
    | some b1 =>
      obtain ⟨k1, k2, k3⟩ := h2 b1 rfl
      show (fw sp nv n0 m (i + 1) (if cnt b1 ≤ cnt i then some b1 else if nI (tog sp i nv) < n0 then some b1 else some i) = none → _) ∧ ∀ b0, fw sp nv n0 m (i + 1) (if cnt b1 ≤ cnt i then some b1 else if nI (tog sp i nv) < n0 then some b1 else some i) = some b0 → _
      by_cases hcc : cnt b1 ≤ cnt i
      · rw [if_pos hcc]
        refine ih (i + 1) (some b1) (fun h => by cases h) (fun b0 hb => ?_)
        cases hb
        refine ⟨by omega, k2, fun b hb hn => ?_⟩
        by_cases hbi : b = i
        · subst hbi; exact hcc
        · exact k3 b (by omega) hn
      · rw [if_neg hcc]
        by_cases hc : nI (tog sp i nv) < n0
        · rw [if_pos hc]
          refine ih (i + 1) (some b1) (fun h => by cases h) (fun b0 hb => ?_)
          cases hb
          refine ⟨by omega, k2, fun b hb hn => ?_⟩
          by_cases hbi : b = i
          · subst hbi; exact absurd hc hn
          · exact k3 b (by omega) hn
        · rw [if_neg hc]
          refine ih (i + 1) (some i) (fun h => by cases h) (fun b0 hb => ?_)
          cases hb
          refine ⟨by omega, hc, fun b hb hn => ?_⟩
          by_cases hbi : b = i
          · subst hbi; exact Nat.le_refl _
          · have := k3 b (by omega) hn; omega
end TOUR
