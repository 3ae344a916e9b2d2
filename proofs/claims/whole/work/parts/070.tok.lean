/-! the tokens of a telling -/
def Fr (K : Nat → Nat → Prop) (S S' : zS) : Prop := (∀ c j, ¬ K c j → S'.1 c j = S.1 c j) ∧ S'.2 = S.2
section TOK
variable {K K' : Nat → Nat → Prop} {S S' S'' T T' : zS} {n p st : Nat} {bt : Nat → Nat}
theorem Fr.rfl : Fr K S S := ⟨fun _ _ _ => Eq.refl _, Eq.refl _⟩
theorem Fr.trans (h : Fr K S S') (h' : Fr K S' S'') : Fr K S S'' := ⟨fun c j q => (h'.1 c j q).trans (h.1 c j q), h'.2.trans h.2⟩
theorem Fr.mono (h : Fr K S S') (hk : ∀ c j, K c j → K' c j) : Fr K' S S' := ⟨fun c j q => h.1 c j (fun z => q (hk c j z)), h.2⟩
theorem zu_at (S : zS) (k j : Nat) (x : Int32) : (zu S k j x).1 k j = x := by rw [zu_s, upd_s]
theorem zu_off {S : zS} {k j c i : Nat} {x : Int32} (h : c ≠ k ∨ i ≠ j) : (zu S k j x).1 c i = S.1 c i := by
  by_cases hc : c = k
  · subst hc; rw [zu_s, upd_n (by rcases h with q | q; exact absurd (Eq.refl _) q; exact q)]
  · rw [zu_n hc]
theorem Fr_zu {k j : Nat} {x : Int32} (h : K k j) : Fr K S (zu S k j x) := ⟨fun c i q => zu_off (by
  by_cases hc : c = k
  · right; intro hi; subst hc; subst hi; exact q h
  · exact Or.inl hc), Eq.refl _⟩
theorem Fr_upd {k j : Nat} {x : Int32} (h : K k j) : Fr K S (zr S k (upd (S.1 k) j x)) := by
  rw [← zu_zr]; exact Fr_zu h
def K1t (c j : Nat) : Prop := c = 1 ∧ 2 ≤ j ∧ j ≤ 5
def K31t (c j : Nat) : Prop := c = 31 ∧ 12 ≤ j ∧ j ≤ 15
def TXc (n : Nat) (bt : Nat → Nat) (S : zS) : Prop := n ≤ 180 ∧ S.1 1 1 = nI n ∧ ∀ j, j < n → bt j < 256 ∧ S.1 2 j = nI (bt j)
def TXr (n : Nat) (bt : Nat → Nat) (T : zS) : Prop := n ≤ 180 ∧ T.1 31 2 = nI n ∧ ∀ j, j < n → bt j < 256 ∧ T.1 32 j &&& 255 = nI (bt j)
theorem TXc_fr (h : TXc n bt S) (hf : Fr K1t S S') : TXc n bt S' := ⟨h.1, (hf.1 1 1 (fun q => by have := q.2; omega)).trans h.2.1, fun j hj => ⟨(h.2.2 j hj).1, (hf.1 2 j (fun q => by have := q.1; omega)).trans (h.2.2 j hj).2⟩⟩
theorem TXr_fr (h : TXr n bt T) (hf : Fr K31t T T') : TXr n bt T' := ⟨h.1, (hf.1 31 2 (fun q => by have := q.2; omega)).trans h.2.1, fun j hj => ⟨(h.2.2 j hj).1, by rw [hf.1 32 j (fun q => by have := q.1; omega)]; exact (h.2.2 j hj).2⟩⟩
theorem isw_n {x a b : Nat} (hx : x < 100000) (ha : a < 100000) (hb : b < 100000) : f_X5_isWithin (nI x) (nI a) (nI b) = some (if a ≤ x ∧ x ≤ b then 1 else 0) := by
  unfold f_X5_isWithin
  by_cases h1 : x < a
  · rw [if_pos ((nI_ltI (by omega) (by omega)).mpr h1), if_neg (fun q => by omega)]
  · rw [if_neg (fun z => h1 ((nI_ltI (by omega) (by omega)).mp z))]
    by_cases h2 : b < x
    · rw [if_pos ((nI_ltI (by omega) (by omega)).mpr h2), if_neg (fun q => by omega)]
    · rw [if_neg (fun z => h2 ((nI_ltI (by omega) (by omega)).mp z)), if_pos (by omega)]
theorem byte_eq (h : TXc n bt S) (hp : p < n) : f_X3_byteAt S (nI p) = some (nI (bt p)) := by
  unfold f_X3_byteAt
  have := h.1
  rw [if_neg (nI_pos (by omega)), L_180, if_neg (fun z => by have := (nI_leI (by omega) (by omega)).mp z; omega), if_pos (zin_nI (by omega) (by omega)), cl (by omega), (h.2.2 p hp).2]
theorem here_eq (h : TXr n bt T) (hq : T.1 31 12 = nI p) (hp : p < n) : f_X6_here T = some (nI (bt p)) := by
  unfold f_X6_here
  have := h.1
  rw [hq, h.2.1, if_neg (fun z => by have := (nI_leI (by omega) (by omega)).mp z; omega), if_pos (zin_nI (by omega) (by omega)), cl (by omega), (h.2.2 p hp).2]
theorem here_end (h : TXr n bt T) (hq : T.1 31 12 = nI n) : f_X6_here T = some (-1) := by
  unfold f_X6_here
  have := h.1
  rw [hq, h.2.1, if_pos ((nI_leI (by omega) (by omega)).mpr (Nat.le_refl _))]
theorem in_m1 : f_X6_in (-1) 97 122 = some 0 ∧ f_X6_in (-1) 48 57 = some 0 := by decide
/-- letters -/
theorem letters_end (hS : TXc n bt S) (hst : st < n) (s2 : S.1 1 2 = nI p) (s3 : S.1 1 3 = nI st) (hsp : st < p) (hp : p ≤ n) : f_X3_readLetters_42 S = some (zu (zu S 1 4 1) 1 5 (if p - st = 1 then nI (bt st) else 0)) := by
  have hn := hS.1
  unfold f_X3_readLetters_42
  rw [zu_off (Or.inr (by decide)), zu_off (Or.inr (by decide)), s2, s3, pk_sub (by omega), L_1]
  by_cases h : p - st = 1
  · rw [if_pos ((nI_eq (by omega) (by omega)).mpr h), if_pos h, byte_eq (TXc_fr hS (Fr_zu ⟨rfl, by omega, by omega⟩)) hst]; rfl
  · rw [if_neg (fun z => h ((nI_eq (by omega) (by omega)).mp z)), if_neg h]
theorem letters (hst : st < n) : ∀ (t p fl fl' : Nat) (S T : zS) (a1 : Int32), n - p = t → p ≤ n → t < fl → t < fl' → TXc n bt S → TXr n bt T → S.1 1 2 = nI p → T.1 31 12 = nI p → S.1 1 3 = nI st → T.1 31 13 = nI st → st ≤ p → (p = st → 97 ≤ bt st ∧ bt st ≤ 122) →
    ∃ S' T' p', p ≤ p' ∧ p' ≤ n ∧ st < p' ∧ f_X3_readLetters_0 fl S = some S' ∧ f_X6_step_63 fl' T a1 = some T' ∧ Fr K1t S S' ∧ Fr K31t T T' ∧ S'.1 1 2 = nI p' ∧ T'.1 31 12 = nI p' ∧ S'.1 1 3 = nI st ∧ T'.1 31 13 = nI st ∧ S'.1 1 4 = 1 ∧ S'.1 1 5 = (if p' - st = 1 then nI (bt st) else 0) ∧ T'.1 31 14 = (if p' - st = 1 then a1 else 4) := by
  have stop : ∀ (p fl fl' : Nat) (S T : zS) (a1 : Int32), p ≤ n → TXc n bt S → TXr n bt T → S.1 1 2 = nI p → T.1 31 12 = nI p → S.1 1 3 = nI st → T.1 31 13 = nI st → st < p → f_X3_readLetters_0 fl S = f_X3_readLetters_42 S → f_X6_step_63 fl' T a1 = (if ((T.1 31 12) - (T.1 31 13)) = (1 : Int32) then some (zu T 31 14 a1) else some (zu T 31 14 (4 : Int32))) →
      ∃ S' T' p', p ≤ p' ∧ p' ≤ n ∧ st < p' ∧ f_X3_readLetters_0 fl S = some S' ∧ f_X6_step_63 fl' T a1 = some T' ∧ Fr K1t S S' ∧ Fr K31t T T' ∧ S'.1 1 2 = nI p' ∧ T'.1 31 12 = nI p' ∧ S'.1 1 3 = nI st ∧ T'.1 31 13 = nI st ∧ S'.1 1 4 = 1 ∧ S'.1 1 5 = (if p' - st = 1 then nI (bt st) else 0) ∧ T'.1 31 14 = (if p' - st = 1 then a1 else 4) := by
    intro p fl fl' S T a1 hpn hS hT s2 t12 s3 t13 hsp e1 e2
    have hn := hS.1
    refine ⟨zu (zu S 1 4 1) 1 5 (if p - st = 1 then nI (bt st) else 0), zu T 31 14 (if p - st = 1 then a1 else 4), p, Nat.le_refl _, hpn, hsp, e1.trans (letters_end hS hst s2 s3 hsp hpn), ?_, (Fr_zu ⟨rfl, by omega, by omega⟩).trans (Fr_zu ⟨rfl, by omega, by omega⟩), Fr_zu ⟨rfl, by omega, by omega⟩, ?_, ?_, ?_, ?_, ?_, zu_at _ _ _ _, zu_at _ _ _ _⟩
    · rw [e2, t12, t13, pk_sub (by omega), L_1]
      by_cases h : p - st = 1
      · rw [if_pos ((nI_eq (by omega) (by omega)).mpr h), if_pos h]
      · rw [if_neg (fun z => h ((nI_eq (by omega) (by omega)).mp z)), if_neg h]
    · rw [zu_off (Or.inr (by decide)), zu_off (Or.inr (by decide))]; exact s2
    · rw [zu_off (Or.inr (by decide))]; exact t12
    · rw [zu_off (Or.inr (by decide)), zu_off (Or.inr (by decide))]; exact s3
    · rw [zu_off (Or.inr (by decide))]; exact t13
    · rw [zu_off (Or.inr (by decide)), zu_at]
  intro t
  induction t with
  | zero =>
    intro p fl fl' S T a1 ht hpn h1 h2 hS hT s2 t12 s3 t13 hsp hfirst
    obtain ⟨fl, rfl⟩ : ∃ e, fl = e + 1 := ⟨fl - 1, by omega⟩
    obtain ⟨fl', rfl⟩ : ∃ e, fl' = e + 1 := ⟨fl' - 1, by omega⟩
    have hn := hS.1
    have : p = n := by omega
    subst this
    refine stop p _ _ S T a1 hpn hS hT s2 t12 s3 t13 hst ?_ ?_
    · rw [f_X3_readLetters_0, hS.2.1, s2, if_pos ((nI_leI (by omega) (by omega)).mpr (Nat.le_refl _))]
    · rw [f_X6_step_63, here_end hT t12, Option.bind_some, in_m1.1, Option.bind_some, if_pos rfl]
  | succ t ih =>
    intro p fl fl' S T a1 ht hpn h1 h2 hS hT s2 t12 s3 t13 hsp hfirst
    obtain ⟨fl, rfl⟩ : ∃ e, fl = e + 1 := ⟨fl - 1, by omega⟩
    obtain ⟨fl', rfl⟩ : ∃ e, fl' = e + 1 := ⟨fl' - 1, by omega⟩
    have hn := hS.1
    have hb := (hS.2.2 p (by omega)).1
    have e1 : f_X3_readLetters_0 (fl + 1) S = (if (if 97 ≤ bt p ∧ bt p ≤ 122 then (1 : Int32) else 0) = 0 then f_X3_readLetters_42 S else f_X3_readLetters_0 fl (zu S 1 2 (nI (p + 1)))) := by
      rw [f_X3_readLetters_0, hS.2.1, s2, if_neg (fun z => by have := (nI_leI (by omega) (by omega)).mp z; omega), byte_eq hS (by omega), Option.bind_some, L_97, L_122, isw_n (by omega) (by omega) (by omega), Option.bind_some, nI_1]
    have e2 : f_X6_step_63 (fl' + 1) T a1 = (if (if 97 ≤ bt p ∧ bt p ≤ 122 then (1 : Int32) else 0) = 0 then (if ((T.1 31 12) - (T.1 31 13)) = (1 : Int32) then some (zu T 31 14 a1) else some (zu T 31 14 (4 : Int32))) else f_X6_step_63 fl' (zu T 31 12 (nI (p + 1))) a1) := by
      rw [f_X6_step_63, here_eq hT t12 (by omega), Option.bind_some, in_isw, L_97, L_122, isw_n (by omega) (by omega) (by omega), Option.bind_some, t12, nI_1]
    by_cases hl : 97 ≤ bt p ∧ bt p ≤ 122
    · rw [if_pos hl, if_neg one_ne] at e1 e2
      have f1 : Fr K1t S (zu S 1 2 (nI (p + 1))) := Fr_zu ⟨rfl, by omega, by omega⟩
      have f2 : Fr K31t T (zu T 31 12 (nI (p + 1))) := Fr_zu ⟨rfl, by omega, by omega⟩
      obtain ⟨S', T', p', k1, k2, k3, k4, k5, k6, k7, k8⟩ := ih (p + 1) fl fl' (zu S 1 2 (nI (p + 1))) (zu T 31 12 (nI (p + 1))) a1 (by omega) (by omega) (by omega) (by omega) (TXc_fr hS f1) (TXr_fr hT f2) (zu_at _ _ _ _) (zu_at _ _ _ _) (by rw [zu_off (Or.inr (by decide))]; exact s3) (by rw [zu_off (Or.inr (by decide))]; exact t13) (by omega) (fun h => by omega)
      exact ⟨S', T', p', by omega, k2, k3, e1.trans k4, e2.trans k5, f1.trans k6, f2.trans k7, k8⟩
    · rw [if_neg hl, if_pos rfl] at e1 e2
      refine stop p _ _ S T a1 hpn hS hT s2 t12 s3 t13 ?_ e1 e2
      by_cases h : p = st
      · exact absurd (h ▸ hfirst h) hl
      · omega
/-- numbers -/
theorem number_end (hS : TXc n bt S) (hst : st < n) {v : Nat} (hv : v ≤ 100) (s2 : S.1 1 2 = nI p) (s3 : S.1 1 3 = nI st) (s5 : S.1 1 5 = nI v) (hsp : st < p) (hp : p ≤ n) : f_X3_readNumber_70 S = some (zu S 1 4 (if 99 < v ∨ (bt st = 48 ∧ 1 < p - st) then 4 else 2)) := by
  have hn := hS.1
  have hb := (hS.2.2 st (by omega)).1
  have fin : ∀ a1 : Nat, a1 < 2 → f_X3_readNumber_102 S (nI a1) = some (zu S 1 4 (if 99 < v ∨ a1 = 1 then 4 else 2)) := by
    intro a1 ha
    unfold f_X3_readNumber_102
    rw [s5, L_99]
    by_cases h1 : 99 < v
    · rw [if_pos ((nI_ltI (by omega) (by omega)).mpr h1), if_pos (Or.inl h1)]
    · rw [if_neg (fun z => h1 ((nI_ltI (by omega) (by omega)).mp z)), L_0]
      by_cases h2 : a1 = 0
      · rw [if_pos ((nI_eq (by omega) (by omega)).mpr h2), if_neg (by omega)]
      · rw [if_neg (fun z => h2 ((nI_eq (by omega) (by omega)).mp z)), if_pos (by omega)]
  unfold f_X3_readNumber_70 f_X3_readNumber_100
  rw [s2, s3, pk_sub (by omega), L_1]
  by_cases h : p - st ≤ 1
  · rw [if_pos ((nI_leI (by omega) (by omega)).mpr h), L_0, fin 0 (by omega)]
    by_cases h1 : 99 < v
    · rw [if_pos (Or.inl h1), if_pos (Or.inl h1)]
    · rw [if_neg (by omega), if_neg (by omega)]
  · rw [if_neg (fun z => h ((nI_leI (by omega) (by omega)).mp z)), byte_eq hS hst, Option.bind_some, L_48]
    by_cases h2 : bt st = 48
    · rw [if_pos ((nI_eq (by omega) (by omega)).mpr h2), fin 1 (by omega), if_pos (Or.inr rfl), if_pos (Or.inr ⟨h2, by omega⟩)]
    · rw [if_neg (fun z => h2 ((nI_eq (by omega) (by omega)).mp z)), L_0, fin 0 (by omega)]
      by_cases h1 : 99 < v
      · rw [if_pos (Or.inl h1), if_pos (Or.inl h1)]
      · rw [if_neg (by omega), if_neg (by omega)]
theorem number_endR {w : Nat} (hw : w < 100000) (hn : n ≤ 180) (hb : bt st < 256) (t12 : T.1 31 12 = nI p) (t13 : T.1 31 13 = nI st) (t15 : T.1 31 15 = nI w) (hsp : st < p) (hp : p ≤ n) : (if (99 : Int32) < (T.1 31 15) then some (zu T 31 14 (4 : Int32)) else (if nI (bt st) = (48 : Int32) then (if ((T.1 31 12) - (T.1 31 13)) ≤ (1 : Int32) then some (zu T 31 14 (1 : Int32)) else some (zu T 31 14 (4 : Int32))) else some (zu T 31 14 (1 : Int32)))) = some (zu T 31 14 (if 99 < w ∨ (bt st = 48 ∧ 1 < p - st) then 4 else 1)) := by
  rw [t12, t13, t15, pk_sub (by omega), L_99, L_48, L_1]
  by_cases h1 : 99 < w
  · rw [if_pos ((nI_ltI (by omega) (by omega)).mpr h1), if_pos (Or.inl h1)]
  · rw [if_neg (fun z => h1 ((nI_ltI (by omega) (by omega)).mp z))]
    by_cases h2 : bt st = 48
    · rw [if_pos ((nI_eq (by omega) (by omega)).mpr h2)]
      by_cases h : p - st ≤ 1
      · rw [if_pos ((nI_leI (by omega) (by omega)).mpr h), if_neg (by omega)]
      · rw [if_neg (fun z => h ((nI_leI (by omega) (by omega)).mp z)), if_pos (by omega)]
    · rw [if_neg (fun z => h2 ((nI_eq (by omega) (by omega)).mp z)), if_neg (by omega)]
theorem number (hst : st < n) : ∀ (t p fl fl' w : Nat) (S T : zS), n - p = t → p ≤ n → t < fl → t < fl' → TXc n bt S → TXr n bt T → S.1 1 2 = nI p → T.1 31 12 = nI p → S.1 1 3 = nI st → T.1 31 13 = nI st → S.1 1 5 = nI (min w 100) → T.1 31 15 = nI w → w ≤ 1000 → st ≤ p → (p = st → 48 ≤ bt st ∧ bt st ≤ 57) →
    ∃ S' T' p' w', p ≤ p' ∧ p' ≤ n ∧ st < p' ∧ f_X3_readNumber_0 fl S = some S' ∧ f_X6_step_126 fl' T (nI (bt st)) = some T' ∧ Fr K1t S S' ∧ Fr K31t T T' ∧ S'.1 1 2 = nI p' ∧ T'.1 31 12 = nI p' ∧ S'.1 1 3 = nI st ∧ T'.1 31 13 = nI st ∧ S'.1 1 5 = nI (min w' 100) ∧ T'.1 31 15 = nI w' ∧ S'.1 1 4 = (if 99 < w' ∨ (bt st = 48 ∧ 1 < p' - st) then 4 else 2) ∧ T'.1 31 14 = (if 99 < w' ∨ (bt st = 48 ∧ 1 < p' - st) then 4 else 1) := by
  have stop : ∀ (p fl fl' w : Nat) (S T : zS), p ≤ n → TXc n bt S → TXr n bt T → S.1 1 2 = nI p → T.1 31 12 = nI p → S.1 1 3 = nI st → T.1 31 13 = nI st → S.1 1 5 = nI (min w 100) → T.1 31 15 = nI w → w ≤ 1000 → st < p → f_X3_readNumber_0 fl S = f_X3_readNumber_70 S → f_X6_step_126 fl' T (nI (bt st)) = (if (99 : Int32) < (T.1 31 15) then some (zu T 31 14 (4 : Int32)) else (if nI (bt st) = (48 : Int32) then (if ((T.1 31 12) - (T.1 31 13)) ≤ (1 : Int32) then some (zu T 31 14 (1 : Int32)) else some (zu T 31 14 (4 : Int32))) else some (zu T 31 14 (1 : Int32)))) →
      ∃ S' T' p' w', p ≤ p' ∧ p' ≤ n ∧ st < p' ∧ f_X3_readNumber_0 fl S = some S' ∧ f_X6_step_126 fl' T (nI (bt st)) = some T' ∧ Fr K1t S S' ∧ Fr K31t T T' ∧ S'.1 1 2 = nI p' ∧ T'.1 31 12 = nI p' ∧ S'.1 1 3 = nI st ∧ T'.1 31 13 = nI st ∧ S'.1 1 5 = nI (min w' 100) ∧ T'.1 31 15 = nI w' ∧ S'.1 1 4 = (if 99 < w' ∨ (bt st = 48 ∧ 1 < p' - st) then 4 else 2) ∧ T'.1 31 14 = (if 99 < w' ∨ (bt st = 48 ∧ 1 < p' - st) then 4 else 1) := by
    intro p fl fl' w S T hpn hS hT s2 t12 s3 t13 s5 t15 hw hsp e1 e2
    have hn := hS.1
    have hb := (hS.2.2 st hst).1
    have h99 : (99 < min w 100 ∨ (bt st = 48 ∧ 1 < p - st)) ↔ (99 < w ∨ (bt st = 48 ∧ 1 < p - st)) := by omega
    have hite : (if 99 < min w 100 ∨ (bt st = 48 ∧ 1 < p - st) then (4 : Int32) else 2) = (if 99 < w ∨ (bt st = 48 ∧ 1 < p - st) then 4 else 2) := by
      by_cases h : 99 < w ∨ (bt st = 48 ∧ 1 < p - st)
      · rw [if_pos h, if_pos (h99.mpr h)]
      · rw [if_neg h, if_neg (fun z => h (h99.mp z))]
    refine ⟨zu S 1 4 (if 99 < w ∨ (bt st = 48 ∧ 1 < p - st) then 4 else 2), zu T 31 14 (if 99 < w ∨ (bt st = 48 ∧ 1 < p - st) then 4 else 1), p, w, Nat.le_refl _, hpn, hsp, ?_, ?_, Fr_zu ⟨rfl, by omega, by omega⟩, Fr_zu ⟨rfl, by omega, by omega⟩, ?_, ?_, ?_, ?_, ?_, ?_, zu_at _ _ _ _, zu_at _ _ _ _⟩
    · rw [e1, number_end hS hst (by omega) s2 s3 s5 hsp hpn, hite]
    · rw [e2, number_endR (by omega) hn hb t12 t13 t15 hsp hpn]
    · rw [zu_off (Or.inr (by decide))]; exact s2
    · rw [zu_off (Or.inr (by decide))]; exact t12
    · rw [zu_off (Or.inr (by decide))]; exact s3
    · rw [zu_off (Or.inr (by decide))]; exact t13
    · rw [zu_off (Or.inr (by decide))]; exact s5
    · rw [zu_off (Or.inr (by decide))]; exact t15
  intro t
  induction t with
  | zero =>
    intro p fl fl' w S T ht hpn h1 h2 hS hT s2 t12 s3 t13 s5 t15 hw hsp hfirst
    obtain ⟨fl, rfl⟩ : ∃ e, fl = e + 1 := ⟨fl - 1, by omega⟩
    obtain ⟨fl', rfl⟩ : ∃ e, fl' = e + 1 := ⟨fl' - 1, by omega⟩
    have hn := hS.1
    have : p = n := by omega
    subst this
    refine stop p _ _ w S T hpn hS hT s2 t12 s3 t13 s5 t15 hw hst ?_ ?_
    · rw [f_X3_readNumber_0, hS.2.1, s2, if_pos ((nI_leI (by omega) (by omega)).mpr (Nat.le_refl _))]
    · rw [f_X6_step_126, here_end hT t12, Option.bind_some, in_m1.2, Option.bind_some, if_pos rfl]
  | succ t ih =>
    intro p fl fl' w S T ht hpn h1 h2 hS hT s2 t12 s3 t13 s5 t15 hw hsp hfirst
    obtain ⟨fl, rfl⟩ : ∃ e, fl = e + 1 := ⟨fl - 1, by omega⟩
    obtain ⟨fl', rfl⟩ : ∃ e, fl' = e + 1 := ⟨fl' - 1, by omega⟩
    have hn := hS.1
    have hb := (hS.2.2 p (by omega)).1
    have e1 : f_X3_readNumber_0 (fl + 1) S = (if (if 48 ≤ bt p ∧ bt p ≤ 57 then (1 : Int32) else 0) = 0 then f_X3_readNumber_70 S else f_X3_readNumber_0 fl (zu (zu S 1 5 (if ((((S.1 1 5) * (10 : Int32)) + nI (bt p)) - (48 : Int32)) < (100 : Int32) then ((((S.1 1 5) * (10 : Int32)) + nI (bt p)) - (48 : Int32)) else (100 : Int32))) 1 2 (nI (p + 1)))) := by
      rw [f_X3_readNumber_0, hS.2.1, s2, if_neg (fun z => by have := (nI_leI (by omega) (by omega)).mp z; omega), byte_eq hS (by omega), Option.bind_some, L_48, L_57, isw_n (by omega) (by omega) (by omega), Option.bind_some, Option.bind_some, zu_off (Or.inr (by decide)), s2, nI_1]
    have e2 : f_X6_step_126 (fl' + 1) T (nI (bt st)) = (if (if 48 ≤ bt p ∧ bt p ≤ 57 then (1 : Int32) else 0) = 0 then (if (99 : Int32) < (T.1 31 15) then some (zu T 31 14 (4 : Int32)) else (if nI (bt st) = (48 : Int32) then (if ((T.1 31 12) - (T.1 31 13)) ≤ (1 : Int32) then some (zu T 31 14 (1 : Int32)) else some (zu T 31 14 (4 : Int32))) else some (zu T 31 14 (1 : Int32)))) else (if (T.1 31 15) ≤ (99 : Int32) then f_X6_step_126 fl' (zu (zu T 31 15 ((((10 : Int32) * (T.1 31 15)) + nI (bt p)) - (48 : Int32))) 31 12 (nI (p + 1))) (nI (bt st)) else f_X6_step_126 fl' (zu (zu T 31 15 (T.1 31 15)) 31 12 (nI (p + 1))) (nI (bt st)))) := by
      rw [f_X6_step_126, here_eq hT t12 (by omega), Option.bind_some, in_isw, L_57, show f_X5_isWithin (nI (bt p)) 48 (nI 57) = some (if 48 ≤ bt p ∧ bt p ≤ 57 then 1 else 0) from isw_n (a := 48) (by omega) (by omega) (by omega), Option.bind_some, Option.bind_some]
      unfold f_X6_step_175
      rw [zu_off (Or.inr (by decide)), zu_off (Or.inr (by decide)), t12, nI_1]
    by_cases hl : 48 ≤ bt p ∧ bt p ≤ 57
    · rw [if_pos hl, if_neg one_ne] at e1 e2
      have hv : (if ((((S.1 1 5) * (10 : Int32)) + nI (bt p)) - (48 : Int32)) < (100 : Int32) then ((((S.1 1 5) * (10 : Int32)) + nI (bt p)) - (48 : Int32)) else (100 : Int32)) = nI (min (min w 100 * 10 + bt p - 48) 100) := by
        rw [s5, L_10, pk_mul, nI_add, L_48, pk_sub (by omega), L_100]
        by_cases h : min w 100 * 10 + bt p - 48 < 100
        · rw [if_pos ((nI_ltI (by omega) (by omega)).mpr h)]; congr 1; omega
        · rw [if_neg (fun z => h ((nI_ltI (by omega) (by omega)).mp z))]; congr 1; omega
      have hr : ∃ w', w' ≤ 1000 ∧ min w' 100 = min (min w 100 * 10 + bt p - 48) 100 ∧ f_X6_step_126 (fl' + 1) T (nI (bt st)) = f_X6_step_126 fl' (zu (zu T 31 15 (nI w')) 31 12 (nI (p + 1))) (nI (bt st)) := by
        rw [e2, t15, L_99]
        by_cases h : w ≤ 99
        · refine ⟨10 * w + bt p - 48, by omega, by omega, ?_⟩
          rw [if_pos ((nI_leI (by omega) (by omega)).mpr h), L_10, pk_mul, nI_add, L_48, pk_sub (by omega)]
        · refine ⟨w, by omega, by omega, ?_⟩
          rw [if_neg (fun z => h ((nI_leI (by omega) (by omega)).mp z))]
      obtain ⟨w', hw', hmin, e2⟩ := hr
      rw [hv, ← hmin] at e1
      have f1 : Fr K1t S (zu (zu S 1 5 (nI (min w' 100))) 1 2 (nI (p + 1))) := (Fr_zu ⟨rfl, by omega, by omega⟩).trans (Fr_zu ⟨rfl, by omega, by omega⟩)
      have f2 : Fr K31t T (zu (zu T 31 15 (nI w')) 31 12 (nI (p + 1))) := (Fr_zu ⟨rfl, by omega, by omega⟩).trans (Fr_zu ⟨rfl, by omega, by omega⟩)
      obtain ⟨S', T', p', w2, k1, k2, k3, k4, k5, k6, k7, k8⟩ := ih (p + 1) fl fl' w' _ _ (by omega) (by omega) (by omega) (by omega) (TXc_fr hS f1) (TXr_fr hT f2) (zu_at _ _ _ _) (zu_at _ _ _ _) (by rw [zu_off (Or.inr (by decide)), zu_off (Or.inr (by decide))]; exact s3) (by rw [zu_off (Or.inr (by decide)), zu_off (Or.inr (by decide))]; exact t13) (by rw [zu_off (Or.inr (by decide)), zu_at]) (by rw [zu_off (Or.inr (by decide)), zu_at]) hw' (by omega) (fun h => by omega)
      exact ⟨S', T', p', w2, by omega, k2, k3, e1.trans k4, e2.trans k5, f1.trans k6, f2.trans k7, k8⟩
    · rw [if_neg hl, if_pos rfl] at e1 e2
      refine stop p _ _ w S T hpn hS hT s2 t12 s3 t13 s5 t15 hw ?_ e1 e2
      by_cases h : p = st
      · exact absurd (h ▸ hfirst h) hl
      · omega
end TOK
