/-! the class and the reference hold the same -/
def zMom (nv : Nat) (g : Nat → Int32) : Prop :=
  ((∃ c : Nat, c < nv ∧ g 0 = nI c) ∨ (nv = 0 ∧ g 0 = -9)) ∧ (∃ d : Nat, d ≤ 999 ∧ g 1 = nI d) ∧ (∃ b : Nat, b ≤ 999 ∧ g 2 = nI b) ∧ (∃ h : Nat, h ≤ 9999 ∧ g 3 = nI h) ∧
  ∀ v : Nat, v < 6 → ∃ s h : Nat, s + h ≤ 60 ∧ g (4 + v) = nI s ∧ g (10 + v) = nI h
def zMoms (nv k : Nat) (g : Nat → Int32) : Prop := zMom nv g ∧ ∀ i : Nat, i < k → zMom nv (fun j => g (29 + 28 * i + j))
def zSto (nv k : Nat) (kc : Int32) (f g : Nat → Int32) : Prop := kc = nI k ∧ zRel f g k ∧ zMoms nv k g
def zImg (nv : Nat) (kept k0 : Int32) (f0 : Nat → Int32) (k1 : Int32) (f1 ik g : Nat → Int32) : Prop := ∃ b0 b1 : Bool, kept = nI (b0.toNat + 2 * b1.toNat) ∧ ik 0 = nI b0.toNat ∧ ik 1 = nI b1.toNat ∧
  (b0 = true → ∃ k, zSto nv k k0 f0 (fun j => g (309 + j))) ∧ (b1 = true → ∃ k, zSto nv k k1 f1 (fun j => g (618 + j)))
def zTxt (sz : Int32) (bs : Nat → Int32) (ty : Int32) (tx : Nat → Int32) : Prop := ∃ n : Nat, n ≤ 180 ∧ sz = nI n ∧ ty = nI n ∧ ∀ j, j < n → ∃ c : Nat, c < 256 ∧ bs j = nI c ∧ tx j = (nI c).toInt8.toInt32
/-- distances: 1000 where there is no way -/
def zFar (D : Nat → Nat → Nat) : Prop := (∀ a, a < 6 → D a a = 0) ∧ (∀ a b, a < 6 → b < 6 → a ≠ b → 1 ≤ D a b) ∧ (∀ a b, a < 6 → b < 6 → D a b ≤ 1000) ∧
  (∀ a b c, a < 6 → b < 6 → c < 6 → D a b ≤ D a c + D c b) ∧ (∀ a b c, a < 6 → b < 6 → c < 6 → D a c < 1000 → D c b < 1000 → D a b < 1000)
def zLd (nv : Nat) (L nd ch wy db : Nat → Int32) (v0 r0 : Int32) (lw need chr far owed : Nat → Int32) : Prop :=
  nv ≤ 6 ∧ L 6 = nI nv ∧ v0 = nI nv ∧ L 7 = r0 ∧ (∃ m : Nat, 1 ≤ m ∧ m ≤ 9 ∧ L 8 = nI m ∧ lw 0 = nI m) ∧ (∃ w : Nat, w ≤ 10 ∧ L 9 = nI w ∧ lw 1 = nI w) ∧
  (∀ v, v < nv → nd v = need v ∧ ∃ x : Nat, x ≤ 60 ∧ need v = nI x) ∧ (∀ v, v < nv → ch v = chr v ∧ (chr v = 0 ∨ chr v = 1)) ∧ (∀ k, k < 36 → wy k = far k) ∧ (∀ k, k < 36 → db k = owed k) ∧
  (∃ D : Nat → Nat → Nat, zFar D ∧ ∀ a b, a < 6 → b < 6 → far (6 * a + b) = nI (D a b)) ∧ (∃ O : Nat → Nat → Nat, ∀ a b, a < 6 → b < 6 → O a b ≤ 999 ∧ owed (6 * a + b) = nI (O a b))
def InvN (nv : Nat) (S : zS) : Prop := S.2.2.2 = !S.2.2.1 ∧ S.2.1 0 = S.2.1 1 ∧ zTxt (S.1 1 1) (S.1 2) (S.1 31 2) (S.1 32) ∧
  zLd nv (S.1 (lr S.2.2.1)) (S.1 (lr S.2.2.1 + 2)) (S.1 (lr S.2.2.1 + 3)) (S.1 (lr S.2.2.1 + 4)) (S.1 (lr S.2.2.1 + 5)) (S.1 33 0) (S.1 37 0) (S.1 40) (S.1 35) (S.1 36) (S.1 38) (S.1 39) ∧
  (∃ k, zSto nv k (S.1 3 1) (S.1 4) (S.1 41)) ∧ zImg nv (S.1 0 8) (S.1 6 1) (S.1 7) (S.1 8 1) (S.1 9) (S.1 42) (S.1 41)
def Inv (S : zS) : Prop := ∃ nv, InvN nv S
theorem vill (v : Int32) (nv : Nat) : (∃ k, k < nv ∧ v = nI k) ∨ ¬ ∃ k, k < nv ∧ v = nI k := Classical.em _
theorem nI_of' {x : Int32} (h : ¬ x < 0) : ∃ j : Nat, j < 2147483648 ∧ x = nI j := nI_of h
theorem knows_in (S : zS) (r : Nat) {k nv : Nat} (h : S.1 r 6 = nI nv) (hn : nv ≤ 6) (hk : k < nv) : f_X0_knows S r (nI k) = some 1 := by
  unfold f_X0_knows
  rw [if_neg (nI_pos (by omega)), h, if_neg (fun q => by have := (nI_leI (by omega) (by omega)).mp q; omega), L_6, if_neg (fun q => by have := (nI_leI (by omega) (by omega)).mp q; omega)]
theorem knows_out (S : zS) (r : Nat) {v : Int32} {nv : Nat} (h : S.1 r 6 = nI nv) (hn : nv ≤ 6) (hv : ¬ ∃ k, k < nv ∧ v = nI k) : f_X0_knows S r v = some 0 := by
  unfold f_X0_knows
  by_cases h0 : v < 0
  · rw [if_pos h0]
  · rw [if_neg h0, h]
    obtain ⟨j, hj, rfl⟩ := nI_of' h0
    rw [if_pos ((nI_leI (by omega) (by omega)).mpr (by
      rcases Nat.lt_or_ge j nv with q | q
      · exact absurd ⟨j, q, rfl⟩ hv
      · exact q))]
theorem isv_in (S : zS) {k nv : Nat} (h : S.1 33 0 = nI nv) (hn : nv ≤ 6) (hk : k < nv) : f_X6_isVillage S (nI k) = some 1 := by
  unfold f_X6_isVillage f_X6_in
  have e : nI nv - 1 = nI (nv - 1) := pk_sub (b := 1) (by omega)
  rw [if_neg (nI_pos (by omega)), h, e, if_neg (fun q => by have := (nI_ltI (by omega) (by omega)).mp q; omega)]
  rfl
theorem isv_out (S : zS) {v : Int32} {nv : Nat} (h : S.1 33 0 = nI nv) (hn : nv ≤ 6) (hv : ¬ ∃ k, k < nv ∧ v = nI k) : f_X6_isVillage S v = some 0 := by
  unfold f_X6_isVillage f_X6_in
  by_cases h0 : v < 0
  · rw [if_pos h0]; rfl
  · rw [if_neg h0, h]
    obtain ⟨j, hj, rfl⟩ := nI_of' h0
    have hj2 : nv ≤ j := by
      rcases Nat.lt_or_ge j nv with q | q
      · exact absurd ⟨j, q, rfl⟩ hv
      · exact q
    have : nI nv - 1 < nI j := by
      rw [i_lt, L_1, i_sub (by rw [nI_i (by omega), nI_i (by omega)]; omega) (by rw [nI_i (by omega), nI_i (by omega)]; omega), nI_i (by omega), nI_i (by omega), nI_i (by omega)]
      omega
    rw [if_pos this]; rfl
theorem isw (a lo hi : Int32) : f_X5_isWithin a lo hi = some 0 ∨ (f_X5_isWithin a lo hi = some 1 ∧ lo ≤ a ∧ a ≤ hi) := by
  unfold f_X5_isWithin
  by_cases h1 : a < lo
  · rw [if_pos h1]; exact Or.inl rfl
  · rw [if_neg h1]
    by_cases h2 : hi < a
    · rw [if_pos h2]; exact Or.inl rfl
    · rw [if_neg h2]
      exact Or.inr ⟨rfl, by rw [i_le]; rw [i_lt] at h1; omega, by rw [i_le]; rw [i_lt] at h2; omega⟩
theorem in_isw (a lo hi : Int32) : f_X6_in a lo hi = f_X5_isWithin a lo hi := rfl
theorem rng {a lo hi : Int32} {n m : Nat} (h : lo ≤ a ∧ a ≤ hi) (hl : lo = nI m) (hh : hi = nI n) (hn : n < 2147483648) (hmn : m ≤ n) : ∃ k : Nat, m ≤ k ∧ k ≤ n ∧ a = nI k := by
  have h1 := i_le.mp h.1
  have h2 := i_le.mp h.2
  rw [hl, nI_i (by omega)] at h1
  rw [hh, nI_i hn] at h2
  obtain ⟨k, hk, rfl⟩ := ofI n (by omega) h2
  rw [nI_i (by omega)] at h1
  exact ⟨k, by omega, hk, rfl⟩
/-- what a change of the story leaves -/
theorem Inv_sto {S : zS} {nv k' : Nat} {f' g' : Nat → Int32} (hI : InvN nv S) (hs : zSto nv k' (nI k') f' g') (hg : ∀ j, 309 ≤ j → g' j = S.1 41 j) : InvN nv (zr (cS S f' (nI k')) 41 g') := by
  obtain ⟨h1, h2, h3, h4, h5, b0, b1, h6, h7, h8, h9, h10⟩ := hI
  refine ⟨h1, h2, h3, ?_, ⟨k', hs⟩, b0, b1, h6, h7, h8, fun q => ?_, fun q => ?_⟩
  · obtain ⟨M, T, bt, bd⟩ := S
    cases bt <;> exact h4
  · obtain ⟨k, a, b, c⟩ := h9 q
    refine ⟨k, a, ?_, ?_⟩
    · show zRel (S.1 7) (fun j => g' (309 + j)) k
      rw [show (fun j => g' (309 + j)) = (fun j => S.1 41 (309 + j)) from funext fun j => hg _ (by omega)]; exact b
    · show zMoms nv k (fun j => g' (309 + j))
      rw [show (fun j => g' (309 + j)) = (fun j => S.1 41 (309 + j)) from funext fun j => hg _ (by omega)]; exact c
  · obtain ⟨k, a, b, c⟩ := h10 q
    refine ⟨k, a, ?_, ?_⟩
    · show zRel (S.1 9) (fun j => g' (618 + j)) k
      rw [show (fun j => g' (618 + j)) = (fun j => S.1 41 (618 + j)) from funext fun j => hg _ (by omega)]; exact b
    · show zMoms nv k (fun j => g' (618 + j))
      rw [show (fun j => g' (618 + j)) = (fun j => S.1 41 (618 + j)) from funext fun j => hg _ (by omega)]; exact c
