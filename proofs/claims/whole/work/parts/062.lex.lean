/-! rows of villages, by numbers -/
def lexlt (n : Nat) (x y : Nat → Nat) : Prop := ∃ i, i < n ∧ (∀ j, j < i → x j = y j) ∧ x i < y i
theorem lex_tri (x y : Nat → Nat) : ∀ n, (∀ i, i < n → x i = y i) ∨ lexlt n x y ∨ lexlt n y x
  | 0 => Or.inl (fun i h => absurd h (by omega))
  | n + 1 => by
    rcases lex_tri x y n with h | ⟨i, h1, h2, h3⟩ | ⟨i, h1, h2, h3⟩
    · rcases Nat.lt_trichotomy (x n) (y n) with q | q | q
      · exact Or.inr (Or.inl ⟨n, by omega, h, q⟩)
      · exact Or.inl (fun i hi => by
          by_cases hin : i = n
          · subst hin; exact q
          · exact h i (by omega))
      · exact Or.inr (Or.inr ⟨n, by omega, fun j hj => (h j hj).symm, q⟩)
    · exact Or.inr (Or.inl ⟨i, by omega, h2, h3⟩)
    · exact Or.inr (Or.inr ⟨i, by omega, h2, h3⟩)
def code6 : Nat → (Nat → Nat) → Nat
  | 0, _ => 0
  | n + 1, x => code6 n x * 6 + x n
def dig (n c : Nat) : Nat → Nat := fun i => c / 6 ^ (n - 1 - i) % 6
theorem code6_lt {x : Nat → Nat} : ∀ {n : Nat}, (∀ i, i < n → x i < 6) → code6 n x < 6 ^ n
  | 0, _ => by show 0 < 1; omega
  | n + 1, h => by
    have h1 := code6_lt (n := n) (fun i hi => h i (by omega))
    have h2 := h n (by omega)
    show code6 n x * 6 + x n < 6 ^ n * 6
    omega
theorem code6_congr {x y : Nat → Nat} : ∀ {n : Nat}, (∀ i, i < n → x i = y i) → code6 n x = code6 n y
  | 0, _ => rfl
  | n + 1, h => by
    show code6 n x * 6 + x n = code6 n y * 6 + y n
    rw [code6_congr (fun i hi => h i (by omega)), h n (by omega)]
theorem code6_lex {x y : Nat → Nat} : ∀ {n : Nat}, (∀ i, i < n → x i < 6) → lexlt n x y → code6 n x < code6 n y
  | 0, _, ⟨i, h, _⟩ => absurd h (by omega)
  | n + 1, hx, ⟨i, h1, h2, h3⟩ => by
    show code6 n x * 6 + x n < code6 n y * 6 + y n
    have hxn := hx n (by omega)
    by_cases hin : i = n
    · subst hin
      rw [code6_congr (n := i) (fun j hj => h2 j hj)]
      omega
    · have := code6_lex (n := n) (fun i hi => hx i (by omega)) ⟨i, by omega, h2, h3⟩
      omega
theorem dig_lt (n c i : Nat) : dig n c i < 6 := Nat.mod_lt _ (by omega)
theorem dig_succ (n c i : Nat) (h : i < n) : dig (n + 1) c i = dig n (c / 6) i := by
  unfold dig
  rw [show n + 1 - 1 - i = (n - 1 - i) + 1 by omega, Nat.pow_succ, Nat.mul_comm, Nat.div_div_eq_div_mul]
theorem dig_last (n c : Nat) : dig (n + 1) c n = c % 6 := by
  unfold dig
  rw [show n + 1 - 1 - n = 0 by omega, Nat.pow_zero, Nat.div_one]
theorem code_dig : ∀ (n c : Nat), c < 6 ^ n → code6 n (dig n c) = c
  | 0, c, h => by
    have : c = 0 := by have : c < 1 := h; omega
    subst this; rfl
  | n + 1, c, h => by
    show code6 n (dig (n + 1) c) * 6 + dig (n + 1) c n = c
    rw [dig_last, code6_congr (y := dig n (c / 6)) (fun i hi => dig_succ n c i hi), code_dig n (c / 6) (by rw [Nat.pow_succ] at h; omega)]
    omega
theorem dig_code {x : Nat → Nat} : ∀ (n : Nat), (∀ i, i < n → x i < 6) → ∀ i, i < n → dig n (code6 n x) i = x i
  | 0, _, i, hi => absurd hi (by omega)
  | n + 1, hx, i, hi => by
    have hxn := hx n (by omega)
    have e : (code6 (n + 1) x) / 6 = code6 n x := by show (code6 n x * 6 + x n) / 6 = _; omega
    by_cases hin : i = n
    · subst hin
      rw [dig_last]
      show (code6 i x * 6 + x i) % 6 = _
      omega
    · rw [dig_succ n _ i (by omega), e, dig_code n (fun j hj => hx j (by omega)) i (by omega)]
theorem six_pow {n : Nat} (h : n ≤ 6) : 6 ^ n ≤ 46656 := Nat.pow_le_pow_right (n := 6) (by omega) h
theorem takeRow7 : ∀ (m fuel c : Nat) (S : zS), m ≤ 6 → m < fuel → c < 46656 → f_X6_takeRow_7 fuel S (nI c) (nI m - 1) = some (zr S 43 (fun j => if j < m then nI (dig m c j) else S.1 43 j)) := by
  intro m
  induction m with
  | zero =>
    intro fuel c S h1 h2 h3
    obtain ⟨fuel, rfl⟩ : ∃ e, fuel = e + 1 := ⟨fuel - 1, by omega⟩
    rw [f_X6_takeRow_7, if_pos (by decide)]
    have : (fun j => if j < 0 then nI (dig 0 c j) else S.1 43 j) = S.1 43 := funext fun j => if_neg (by omega)
    rw [this, zr_eta]
  | succ m ih =>
    intro fuel c S h1 h2 h3
    obtain ⟨fuel, rfl⟩ : ∃ e, fuel = e + 1 := ⟨fuel - 1, by omega⟩
    rw [f_X6_takeRow_7, nI_pred, if_neg (nI_pos (by omega)), if_pos (zin_nI (by omega) (by omega)), L_6, pk_rem (by omega) (by omega) (by omega), pk_div (by omega) (by omega) (by omega), cl (by omega), ← Int32.sub_eq_add_neg, ih fuel (c / 6) _ (by omega) (by omega) (by omega), zr_zr, zr_s]
    congr 2
    funext j
    unfold upd
    by_cases h : j < m
    · rw [if_pos h, if_pos (by omega), dig_succ m c j h]
    · rw [if_neg h]
      by_cases hj : j = m
      · rw [if_pos hj, if_pos (by omega), hj, dig_last]
      · rw [if_neg hj, if_neg (by omega)]
theorem takeRow_eq (S : zS) {n c : Nat} (hn : n ≤ 6) (hc : c < 46656) : f_X6_takeRow S (nI c) (nI n) = some (zr S 43 (fun j => if j < n then nI (dig n c j) else S.1 43 j)) := by
  unfold f_X6_takeRow
  exact takeRow7 n zN c S hn (by have := zN_big; omega) hc
/-- sets of villages as bits -/
theorem or_all : ∀ G, G < 64 → ∀ v, v < 6 → (nI G ||| ((1 : Int32) <<< (nI v &&& 31))) = nI (G ||| 2 ^ v) := by decide +kernel
theorem or_bit : ∀ G, G < 64 → ∀ v, v < 6 → ∀ w, w < 6 → ((G ||| 2 ^ v) / 2 ^ w % 2 = 1 ↔ (G / 2 ^ w % 2 = 1 ∨ w = v)) := by decide +kernel
theorem or_lt : ∀ G, G < 64 → ∀ v, v < 6 → (G ||| 2 ^ v) < 64 := by decide +kernel
theorem pow_bit : ∀ v, v < 6 → ∀ w, w < 6 → (2 ^ v / 2 ^ w % 2 = 1 ↔ w = v) := by decide +kernel
theorem pow_lt : ∀ v, v < 6 → 2 ^ v < 64 := by decide +kernel
/-- the villages of a row's beginning, as bits -/
def isSet (G k : Nat) (p : Nat → Nat) : Prop := G < 64 ∧ ∀ v, v < 6 → (G / 2 ^ v % 2 = 1 ↔ ∃ i, i < k ∧ p i = v)
theorem isSet_add {G k v : Nat} {p : Nat → Nat} (h : isSet G k p) (hv : v < 6) (hp : p k = v) : isSet (G ||| 2 ^ v) (k + 1) p := by
  refine ⟨or_lt G h.1 v hv, fun w hw => ?_⟩
  rw [or_bit G h.1 v hv w hw, h.2 w hw]
  constructor
  · rintro (⟨i, hi, hpi⟩ | rfl)
    · exact ⟨i, by omega, hpi⟩
    · exact ⟨k, by omega, hp⟩
  · rintro ⟨i, hi, hpi⟩
    by_cases hik : i = k
    · subst hik; exact Or.inr (by omega)
    · exact Or.inl ⟨i, by omega, hpi⟩
theorem isSet_congr {G k : Nat} {p p' : Nat → Nat} (h : isSet G k p) (he : ∀ i, i < k → p' i = p i) : isSet G k p' := by
  refine ⟨h.1, fun v hv => ?_⟩
  rw [h.2 v hv]
  constructor
  · rintro ⟨i, hi, hpi⟩; exact ⟨i, hi, (he i hi).trans hpi⟩
  · rintro ⟨i, hi, hpi⟩; exact ⟨i, hi, (he i hi).symm.trans hpi⟩
theorem isSet_0 (p : Nat → Nat) : isSet 0 0 p := ⟨by omega, fun v hv => by
  constructor
  · intro h; rw [Nat.zero_div] at h; omega
  · rintro ⟨i, hi, _⟩; omega⟩
