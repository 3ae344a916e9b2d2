section GAMES
variable {S : zS} {nv : Nat}
theorem vh_eq (a b h f : Int32) : f_X5_villageHas a b h f = f_X6_villageHas a b h f := by
  unfold f_X5_villageHas f_X6_villageHas
  rw [Int32.neg_add, Int32.sub_eq_add_neg]
theorem bh_eq {a b : Int32} (ha : a = 0 ∨ a = 1) (hb : b = 0 ∨ b = 1) (h c : Int32) : f_X5_buyerHas a b h c = f_X6_buyerHas a b h c := by
  rcases ha with rfl | rfl <;> rcases hb with rfl | rfl <;> rfl
theorem vh_some (a b h f : Int32) : ∃ x, f_X6_villageHas a b h f = some x := by
  unfold f_X6_villageHas
  (repeat' split) <;> exact ⟨_, rfl⟩
theorem bh_some {a b : Int32} (ha : a = 0 ∨ a = 1) (hb : b = 0 ∨ b = 1) (h c : Int32) : ∃ x, f_X6_buyerHas a b h c = some x := by
  rcases ha with rfl | rfl <;> rcases hb with rfl | rfl <;> exact ⟨_, rfl⟩
theorem or0 (x : Int32) : x ||| 0 = x := Int32.or_zero
theorem rests38 (h c f : Int32) : ∀ (m i n n' : Nat) (a : Int32), i + m = 4 → m < n → m < n' → f_X5_rests_38 n S h c f a (nI i) = f_X6_rests_38 n' S h c f a (nI i) ∧ ∃ x, f_X6_rests_38 n' S h c f a (nI i) = some x := by
  intro m
  induction m with
  | zero =>
    intro i n n' a h1 h2 h3
    obtain ⟨n, rfl⟩ : ∃ e, n = e + 1 := ⟨n - 1, by omega⟩
    obtain ⟨n', rfl⟩ : ∃ e, n' = e + 1 := ⟨n' - 1, by omega⟩
    rw [f_X5_rests_38, f_X6_rests_38, L_4, if_pos ((nI_leI (by omega) (by omega)).mpr (by omega)), if_pos ((nI_leI (by omega) (by omega)).mpr (by omega))]
    exact ⟨rfl, _, rfl⟩
  | succ m ih =>
    intro i n n' a h1 h2 h3
    obtain ⟨n, rfl⟩ : ∃ e, n = e + 1 := ⟨n - 1, by omega⟩
    obtain ⟨n', rfl⟩ : ∃ e, n' = e + 1 := ⟨n' - 1, by omega⟩
    have hc : ¬ nI 4 ≤ nI i := fun q => by have := (nI_leI (by omega) (by omega)).mp q; omega
    have key : ∀ (hd sr hd' sr' : Int32), (hd = 0 ∨ hd = 1) → (sr = 0 ∨ sr = 1) → hd' = 1 - hd → sr' = 1 - sr →
        f_X5_rests_72 (f_X5_rests_38 n) S h c f a (nI i) hd sr = ((f_X6_villageHas hd sr h f).bind (fun x3 => (f_X6_villageHas hd' sr h f).bind (fun x5 => if x3 < x5 then f_X6_rests_106 (f_X6_rests_38 n') S h c f a (nI i) else (f_X6_buyerHas hd sr h c).bind (fun x8 => (f_X6_buyerHas hd sr' h c).bind (fun x10 => if x8 < x10 then f_X6_rests_106 (f_X6_rests_38 n') S h c f a (nI i) else f_X6_rests_109 (f_X6_rests_38 n') S h c f a (nI i) 1))))) ∧
        ∃ x, ((f_X6_villageHas hd sr h f).bind (fun x3 => (f_X6_villageHas hd' sr h f).bind (fun x5 => if x3 < x5 then f_X6_rests_106 (f_X6_rests_38 n') S h c f a (nI i) else (f_X6_buyerHas hd sr h c).bind (fun x8 => (f_X6_buyerHas hd sr' h c).bind (fun x10 => if x8 < x10 then f_X6_rests_106 (f_X6_rests_38 n') S h c f a (nI i) else f_X6_rests_109 (f_X6_rests_38 n') S h c f a (nI i) 1))))) = some x := by
      intro hd sr hd' sr' h1' h2' h3' h4'
      have hd'' : hd' = 0 ∨ hd' = 1 := by rcases h1' with rfl | rfl <;> rw [h3'] <;> decide
      have sr'' : sr' = 0 ∨ sr' = 1 := by rcases h2' with rfl | rfl <;> rw [h4'] <;> decide
      obtain ⟨v1, e1⟩ := vh_some hd sr h f
      obtain ⟨v2, e2⟩ := vh_some hd' sr h f
      obtain ⟨b1, e3⟩ := bh_some h1' h2' h c
      obtain ⟨b2, e4⟩ := bh_some h1' sr'' h c
      have cls : f_X5_rests_72 (f_X5_rests_38 n) S h c f a (nI i) hd sr = (if v1 < v2 then f_X5_rests_108 (f_X5_rests_38 n) S h c f a (nI i) hd sr 0 else f_X5_rests_108 (f_X5_rests_38 n) S h c f a (nI i) hd sr 1) := by
        unfold f_X5_rests_72 f_X5_rests_105 f_X5_rests_101
        rw [vh_eq, e1, Option.bind_some]
        rcases h1' with rfl | rfl
        · rw [if_pos rfl, vh_eq, show f_X6_villageHas 1 sr h f = some v2 by rw [← e2, h3']; rfl, Option.bind_some]
        · rw [if_neg one_ne, vh_eq, show f_X6_villageHas 0 sr h f = some v2 by rw [← e2, h3']; rfl, Option.bind_some]
      have cls2 : ∀ a8, f_X5_rests_108 (f_X5_rests_38 n) S h c f a (nI i) hd sr a8 = (if b1 < b2 then f_X5_rests_144 (f_X5_rests_38 n) S h c f a (nI i) a8 0 else f_X5_rests_144 (f_X5_rests_38 n) S h c f a (nI i) a8 1) := by
        intro a8
        unfold f_X5_rests_108 f_X5_rests_141 f_X5_rests_137
        rw [bh_eq h1' h2', e3, Option.bind_some]
        rcases h2' with rfl | rfl
        · rw [if_pos rfl, bh_eq h1' (Or.inr rfl), show f_X6_buyerHas hd 1 h c = some b2 by rw [← e4, h4']; rfl, Option.bind_some]
        · rw [if_neg one_ne, bh_eq h1' (Or.inl rfl), show f_X6_buyerHas hd 0 h c = some b2 by rw [← e4, h4']; rfl, Option.bind_some]
      rw [cls, cls2, cls2, e1, e2, Option.bind_some, Option.bind_some, e3, e4, Option.bind_some, Option.bind_some]
      unfold f_X5_rests_144 f_X5_rests_163 f_X6_rests_106 f_X6_rests_109 f_X6_rests_127
      rw [nI_1]
      obtain ⟨r1, r2⟩ := ih (i + 1) n n' a (by omega) (by omega) (by omega)
      obtain ⟨r3, r4⟩ := ih (i + 1) n n' (a ||| (1 <<< (nI i &&& 31))) (by omega) (by omega) (by omega)
      simp only [if_pos (show (0 : Int32) = 0 from rfl), if_neg one_ne, or0]
      by_cases q1 : v1 < v2
      · simp only [if_pos q1]
        refine ⟨?_, r2⟩
        split <;> exact r1
      · simp only [if_neg q1]
        by_cases q2 : b1 < b2
        · simp only [if_pos q2]; exact ⟨r1, r2⟩
        · simp only [if_neg q2]; exact ⟨r3, r4⟩
    rw [f_X5_rests_38, f_X6_rests_38, L_4, if_neg hc, if_neg hc]
    unfold f_X5_rests_58
    rcases (show i = 0 ∨ i = 1 ∨ i = 2 ∨ i = 3 by omega) with rfl | rfl | rfl | rfl
    · rw [if_pos (show nI 0 &&& 2 = 0 by decide), if_pos (show nI 0 &&& 1 = 0 by decide), show nI 0 / 2 = 0 by decide, show nI 0 - 0 * 2 = 0 by decide]
      exact key 0 0 _ _ (Or.inl rfl) (Or.inl rfl) rfl rfl
    · rw [if_pos (show nI 1 &&& 2 = 0 by decide), if_neg (show ¬ nI 1 &&& 1 = 0 by decide), show nI 1 / 2 = 0 by decide, show nI 1 - 0 * 2 = 1 by decide]
      exact key 0 1 _ _ (Or.inl rfl) (Or.inr rfl) rfl rfl
    · rw [if_neg (show ¬ nI 2 &&& 2 = 0 by decide), if_pos (show nI 2 &&& 1 = 0 by decide), show nI 2 / 2 = 1 by decide, show nI 2 - 1 * 2 = 0 by decide]
      exact key 1 0 _ _ (Or.inr rfl) (Or.inl rfl) rfl rfl
    · rw [if_neg (show ¬ nI 3 &&& 2 = 0 by decide), if_neg (show ¬ nI 3 &&& 1 = 0 by decide), show nI 3 / 2 = 1 by decide, show nI 3 - 1 * 2 = 1 by decide]
      exact key 1 1 _ _ (Or.inr rfl) (Or.inr rfl) rfl rfl
theorem rests_ok (h c f : Int32) : OK1 (f_X5_rests S h c f) (f_X6_rests S h c f) := by
  have hz := zN_big
  unfold f_X5_rests f_X6_rests
  rw [in_isw, in_isw, in_isw]
  rcases isw h 1 60 with h0 | ⟨h1, hr⟩
  · rw [h0]; exact ⟨_, rfl, rfl⟩
  · rw [h1, Option.bind_some, Option.bind_some, if_neg one_ne, if_neg one_ne]
    rcases isw c 0 60 with h0 | ⟨h1, hr⟩
    · rw [h0]; exact ⟨_, rfl, rfl⟩
    · rw [h1, Option.bind_some, Option.bind_some, if_neg one_ne, if_neg one_ne]
      rcases isw f 0 60 with h0 | ⟨h1, hr⟩
      · rw [h0]; exact ⟨_, rfl, rfl⟩
      · rw [h1, Option.bind_some, Option.bind_some, if_neg one_ne, if_neg one_ne]
        obtain ⟨e1, x, e2⟩ := rests38 (S := S) h c f 4 0 zN zN 0 (by omega) (by omega) (by omega)
        exact ⟨x, e1.trans e2, e2⟩
/-- the greatest divisor -/
theorem mod_half {a b k : Nat} (hb : b < 2 ^ (k + 1)) (h0 : b ≠ 0) (h1 : a % b ≠ 0) : b % (a % b) < 2 ^ k := by
  have h2 : a % b < b := Nat.mod_lt _ (by omega)
  have h3 : b % (a % b) < a % b := Nat.mod_lt _ (by omega)
  have h4 : b % (a % b) ≤ b - a % b := by
    have e := Nat.mod_add_div b (a % b)
    have h5 : 1 ≤ b / (a % b) := (Nat.le_div_iff_mul_le (by omega)).mpr (by omega)
    have h6 : a % b * 1 ≤ a % b * (b / (a % b)) := Nat.mul_le_mul_left _ h5
    omega
  rw [Nat.pow_succ] at hb
  omega
theorem gcdC : ∀ (k a b i n : Nat), b < 2 ^ k → k ≤ 30 → a < 2147483648 → i + 2 * k ≤ 63 → 2 * k + 1 < n → f_X5_greatestDivisor_7 n (nI a) (nI b) (nI i) = some (nI (Nat.gcd a b)) := by
  have base : ∀ (a i n : Nat), a < 2147483648 → i ≤ 63 → 0 < n → f_X5_greatestDivisor_7 n (nI a) (nI 0) (nI i) = some (nI a) := by
    intro a i n ha hi hn
    obtain ⟨n, rfl⟩ : ∃ e, n = e + 1 := ⟨n - 1, by omega⟩
    rw [f_X5_greatestDivisor_7, L_64, if_neg (fun q => by have := (nI_leI (by omega) (by omega)).mp q; omega), if_pos (show nI 0 = 0 from rfl)]
  have step : ∀ (a b i n : Nat), a < 2147483648 → b < 2147483648 → b ≠ 0 → i ≤ 63 → f_X5_greatestDivisor_7 (n + 1) (nI a) (nI b) (nI i) = f_X5_greatestDivisor_7 n (nI b) (nI (a % b)) (nI (i + 1)) := by
    intro a b i n ha hb h0 hi
    rw [f_X5_greatestDivisor_7, L_64, if_neg (fun q => by have := (nI_leI (by omega) (by omega)).mp q; omega), if_neg (nI_ne0 (by omega) hb), if_neg (nI_ne0 (by omega) hb), pk_rem ha (by omega) hb, nI_1]
  intro k
  induction k with
  | zero =>
    intro a b i n hb hk ha hi hn
    have : b = 0 := by omega
    subst this
    rw [base a i n ha (by omega) (by omega), Nat.gcd_zero_right]
  | succ k ih =>
    intro a b i n hb hk ha hi hn
    have hp : (2 : Nat) ^ (k + 1) ≤ 2 ^ 30 := Nat.pow_le_pow_right (by omega) hk
    by_cases h0 : b = 0
    · subst h0
      rw [base a i n ha (by omega) (by omega), Nat.gcd_zero_right]
    · obtain ⟨n, rfl⟩ : ∃ e, n = e + 1 := ⟨n - 1, by omega⟩
      have hr : a % b < b := Nat.mod_lt _ (by omega)
      rw [step a b i n ha (by omega) h0 (by omega), Nat.gcd_comm a b, Nat.gcd_rec b a]
      by_cases h1 : a % b = 0
      · rw [h1, base b (i + 1) n (by omega) (by omega) (by omega), Nat.gcd_zero_left]
      · obtain ⟨n, rfl⟩ : ∃ e, n = e + 1 := ⟨n - 1, by omega⟩
        rw [step b (a % b) (i + 1) n (by omega) (by omega) h1 (by omega), ih (a % b) (b % (a % b)) (i + 1 + 1) n (mod_half hb h0 h1) (by omega) (by omega) (by omega) (by omega), Nat.gcd_rec (a % b) b, Nat.gcd_comm]
theorem partR (u d w : Int32) : ∀ (k a b n : Nat), b < 2 ^ k → k ≤ 30 → a < 2147483648 → 2 * k + 1 < n → f_X6_part_5 n u d w (nI a) (nI b) = (if w = 0 then (if nI (Nat.gcd a b) = 0 then none else some (u / nI (Nat.gcd a b))) else (if nI (Nat.gcd a b) = 0 then none else some (d / nI (Nat.gcd a b)))) := by
  have base : ∀ (a n : Nat), 0 < n → f_X6_part_5 n u d w (nI a) (nI 0) = (if w = 0 then (if nI a = 0 then none else some (u / nI a)) else (if nI a = 0 then none else some (d / nI a))) := by
    intro a n hn
    obtain ⟨n, rfl⟩ : ∃ e, n = e + 1 := ⟨n - 1, by omega⟩
    rw [f_X6_part_5, if_pos (show nI 0 = 0 from rfl)]
  have step : ∀ (a b n : Nat), a < 2147483648 → b < 2147483648 → b ≠ 0 → f_X6_part_5 (n + 1) u d w (nI a) (nI b) = f_X6_part_5 n u d w (nI b) (nI (a % b)) := by
    intro a b n ha hb h0
    rw [f_X6_part_5, if_neg (nI_ne0 (by omega) hb), if_neg (nI_ne0 (by omega) hb), pk_rem ha (by omega) hb]
  intro k
  induction k with
  | zero =>
    intro a b n hb hk ha hn
    have : b = 0 := by omega
    subst this
    rw [base a n (by omega), Nat.gcd_zero_right]
  | succ k ih =>
    intro a b n hb hk ha hn
    have hp : (2 : Nat) ^ (k + 1) ≤ 2 ^ 30 := Nat.pow_le_pow_right (by omega) hk
    by_cases h0 : b = 0
    · subst h0
      rw [base a n (by omega), Nat.gcd_zero_right]
    · obtain ⟨n, rfl⟩ : ∃ e, n = e + 1 := ⟨n - 1, by omega⟩
      have hr : a % b < b := Nat.mod_lt _ (by omega)
      rw [step a b n ha (by omega) h0]
      have eg : Nat.gcd a b = Nat.gcd (a % b) b := by rw [Nat.gcd_comm a b, Nat.gcd_rec b a]
      rw [eg]
      by_cases h1 : a % b = 0
      · rw [h1, base b n (by omega), Nat.gcd_zero_left]
      · obtain ⟨n, rfl⟩ : ∃ e, n = e + 1 := ⟨n - 1, by omega⟩
        have eg2 : Nat.gcd (a % b) b = Nat.gcd (a % b) (b % (a % b)) := by rw [Nat.gcd_rec (a % b) b, Nat.gcd_comm]
        rw [step b (a % b) n (by omega) (by omega) h1, ih (a % b) (b % (a % b)) n (mod_half hb h0 h1) (by omega) (by omega) (by omega), eg2]
theorem part_ok {u d : Nat} (hu : u < 2147483648) (hd1 : 1 ≤ d) (hd : d < 2 ^ 20) (w : Int32) : OK1 (f_X5_partOfFraction (nI u) (nI d) w) (f_X6_part (nI u) (nI d) w) := by
  have hz := zN_big
  unfold f_X5_partOfFraction f_X5_greatestDivisor f_X6_part
  have hg1 : 1 ≤ Nat.gcd u d := Nat.gcd_pos_of_pos_right u (by omega)
  have hg2 : Nat.gcd u d ≤ d := Nat.le_of_dvd (by omega) (Nat.gcd_dvd_right u d)
  rw [L_0, gcdC 20 u d 0 zN hd (by omega) hu (by omega) (by omega), Option.bind_some, partR _ _ _ 20 u d zN hd (by omega) hu (by omega), L_1, if_pos ((nI_leI (by omega) (by omega)).mpr hg1), ← L_0]
  by_cases hw : w = 0
  · rw [if_pos hw, if_neg (nI_ne0 (by omega) (by omega))]; exact ⟨_, rfl, rfl⟩
  · rw [if_neg hw, if_neg (nI_ne0 (by omega) (by omega))]; exact ⟨_, rfl, rfl⟩
theorem mixed_ok (h f w : Int32) : OK1 (f_X5_mixed S h f w) (f_X6_mixed S h f w) := by
  unfold f_X5_mixed f_X6_mixed
  rw [in_isw, in_isw, in_isw]
  rcases isw h 1 60 with h0 | ⟨h1, hr⟩
  · rw [h0]; exact ⟨_, rfl, rfl⟩
  · rw [h1, Option.bind_some, Option.bind_some, if_neg one_ne, if_neg one_ne]
    rcases isw f 0 60 with h0 | ⟨h1, hr2⟩
    · rw [h0]; exact ⟨_, rfl, rfl⟩
    · rw [h1, Option.bind_some, Option.bind_some, if_neg one_ne, if_neg one_ne]
      rcases isw w 0 1 with h0 | ⟨h1, hr3⟩
      · rw [h0]; exact ⟨_, rfl, rfl⟩
      · rw [h1, Option.bind_some, Option.bind_some, if_neg one_ne, if_neg one_ne]
        obtain ⟨q, hq1, hq60, rfl⟩ := rng hr L_1 L_60 (by omega) (by omega)
        obtain ⟨p, hp1, hp60, rfl⟩ := rng hr2 L_0 L_60 (by omega) (by omega)
        rw [nI_add]
        obtain ⟨x, e1, e2⟩ := part_ok (u := q) (d := q + p) (by omega) (by omega) (by omega) w
        rw [e1, e2]
        exact ⟨x, rfl, rfl⟩
end GAMES
