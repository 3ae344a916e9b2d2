section TOK2
variable {S T : zS} {n p : Nat} {bt : Nat → Nat}
/-- the token both stand at -/
def TokR (n p : Nat) (S T : zS) : Prop := ∃ st p' : Nat, p ≤ st ∧ st ≤ p' ∧ p' ≤ n ∧ S.1 1 3 = nI st ∧ T.1 31 13 = nI st ∧ S.1 1 2 = nI p' ∧ T.1 31 12 = nI p' ∧
  ((S.1 1 4 = 0 ∧ T.1 31 14 = 3) ∨ (p < p' ∧ ((S.1 1 4 = 1 ∧ ∃ x : Nat, 97 ≤ x ∧ x ≤ 122 ∧ S.1 1 5 = nI x ∧ T.1 31 14 = nI x) ∨ (S.1 1 4 = 1 ∧ S.1 1 5 = 0 ∧ T.1 31 14 = 4) ∨ (S.1 1 4 = 2 ∧ T.1 31 14 = 1 ∧ ∃ x : Nat, x ≤ 99 ∧ S.1 1 5 = nI x ∧ T.1 31 15 = nI x) ∨ (S.1 1 4 = 3 ∧ T.1 31 14 = 2) ∨ (S.1 1 4 = 4 ∧ T.1 31 14 = 4))))
theorem nI_nn (a : Nat) (h : a < 2147483648) : (0 : Int32) ≤ nI a := by
  rw [L_0]; exact (nI_leI (by omega) h).mpr (Nat.zero_le _)
theorem tok37 (hS : TXc n bt S) (hT : TXr n bt T) (s2 : S.1 1 2 = nI p) (t12 : T.1 31 12 = nI p) (hp : p ≤ n) {fl' : Nat} (h32 : p < n → bt p ≠ 32) :
    ∃ S' T', f_X3_toNextToken_37 S = some S' ∧ f_X6_step_0 (fl' + 1) T = some T' ∧ Fr K1t S S' ∧ Fr K31t T T' ∧ TokR n p S' T' := by
  have hn := hS.1
  have f1 : Fr K1t S (zu (zu S 1 3 (nI p)) 1 5 (0 : Int32)) := (Fr_zu ⟨rfl, by omega, by omega⟩).trans (Fr_zu ⟨rfl, by omega, by omega⟩)
  have f2 : Fr K31t T (zu (zu T 31 13 (nI p)) 31 15 (0 : Int32)) := (Fr_zu ⟨rfl, by omega, by omega⟩).trans (Fr_zu ⟨rfl, by omega, by omega⟩)
  have hS1 := TXc_fr hS f1
  have hT1 := TXr_fr hT f2
  have a2 : (zu (zu S 1 3 (nI p)) 1 5 (0 : Int32)).1 1 2 = nI p := by rw [zu_off (Or.inr (by decide)), zu_off (Or.inr (by decide))]; exact s2
  have a3 : (zu (zu S 1 3 (nI p)) 1 5 (0 : Int32)).1 1 3 = nI p := by rw [zu_off (Or.inr (by decide)), zu_at]
  have a5 : (zu (zu S 1 3 (nI p)) 1 5 (0 : Int32)).1 1 5 = 0 := zu_at _ _ _ _
  have b12 : (zu (zu T 31 13 (nI p)) 31 15 (0 : Int32)).1 31 12 = nI p := by rw [zu_off (Or.inr (by decide)), zu_off (Or.inr (by decide))]; exact t12
  have b13 : (zu (zu T 31 13 (nI p)) 31 15 (0 : Int32)).1 31 13 = nI p := by rw [zu_off (Or.inr (by decide)), zu_at]
  have b15 : (zu (zu T 31 13 (nI p)) 31 15 (0 : Int32)).1 31 15 = 0 := zu_at _ _ _ _
  unfold f_X3_toNextToken_37
  rw [f_X6_step_0, s2, t12]
  generalize zu (zu S 1 3 (nI p)) 1 5 (0 : Int32) = S1 at f1 hS1 a2 a3 a5 ⊢
  generalize zu (zu T 31 13 (nI p)) 31 15 (0 : Int32) = T1 at f2 hT1 b12 b13 b15 ⊢
  rw [a2, hS1.2.1, b12]
  rcases Nat.lt_or_ge p n with hlt | hge
  · have hb := (hS.2.2 p hlt).1
    rw [byte_eq hS1 hlt, Option.bind_some, if_pos ((nI_ltI (by omega) (by omega)).mpr hlt), here_eq hT t12 hlt, Option.bind_some, if_neg (show ¬ nI (bt p) = 32 from fun z => h32 hlt ((nI_eq (b := 32) (by omega) (by omega)).mp z)), here_eq hT1 b12 hlt, Option.bind_some, if_pos (nI_nn _ (by omega)), in_isw, in_isw, L_97, L_122, isw_n (by omega) (by omega) (by omega), Option.bind_some, Option.bind_some]
    by_cases hl : 97 ≤ bt p ∧ bt p ≤ 122
    · rw [if_pos hl, if_neg one_ne, if_neg one_ne]
      obtain ⟨S', T', p', k1, k2, k3, k4, k5, k6, k7, k8, k9, k10, k11, k12, k13, k14⟩ := letters (st := p) hlt (n - p) p zN zN S1 T1 (nI (bt p)) rfl hp (by have := zN_big; omega) (by have := zN_big; omega) hS1 hT1 a2 b12 a3 b13 (Nat.le_refl _) (fun _ => hl)
      unfold f_X3_readLetters
      rw [k4, k5]
      refine ⟨S', T', rfl, rfl, f1.trans k6, f2.trans k7, p, p', Nat.le_refl _, by omega, k2, k10, k11, k8, k9, Or.inr ⟨k3, ?_⟩⟩
      by_cases h1 : p' - p = 1
      · rw [if_pos h1] at k13 k14
        exact Or.inl ⟨k12, bt p, hl.1, hl.2, k13, k14⟩
      · rw [if_neg h1] at k13 k14
        exact Or.inr (Or.inl ⟨k12, k13, k14⟩)
    · rw [if_neg hl, if_pos rfl, if_pos rfl, L_48, L_57, isw_n (by omega) (by omega) (by omega), Option.bind_some, Option.bind_some]
      by_cases hd : 48 ≤ bt p ∧ bt p ≤ 57
      · rw [if_pos hd, if_neg one_ne, if_neg one_ne]
        obtain ⟨S', T', p', w', k1, k2, k3, k4, k5, k6, k7, k8, k9, k10, k11, k12, k13, k14, k15⟩ := number (st := p) hlt (n - p) p zN zN 0 S1 T1 rfl hp (by have := zN_big; omega) (by have := zN_big; omega) hS1 hT1 a2 b12 a3 b13 a5 b15 (by omega) (Nat.le_refl _) (fun _ => hd)
        unfold f_X3_readNumber
        rw [k4, k5]
        refine ⟨S', T', rfl, rfl, f1.trans k6, f2.trans k7, p, p', Nat.le_refl _, by omega, k2, k10, k11, k8, k9, Or.inr ⟨k3, ?_⟩⟩
        by_cases h1 : 99 < w' ∨ (bt p = 48 ∧ 1 < p' - p)
        · rw [if_pos h1] at k14 k15
          exact Or.inr (Or.inr (Or.inr (Or.inr ⟨k14, k15⟩)))
        · rw [if_neg h1] at k14 k15
          exact Or.inr (Or.inr (Or.inl ⟨k14, k15, w', by omega, by rw [k12]; congr 1; omega, k13⟩))
      · rw [if_neg hd, if_pos rfl, if_pos rfl]
        unfold f_X3_toNextToken_129
        by_cases h59 : nI (bt p) = 59
        · rw [if_pos h59, if_pos h59]
          refine ⟨_, _, rfl, rfl, f1.trans ((Fr_zu ⟨rfl, by omega, by omega⟩).trans (Fr_zu ⟨rfl, by omega, by omega⟩)), f2.trans ((Fr_zu ⟨rfl, by omega, by omega⟩).trans (Fr_zu ⟨rfl, by omega, by omega⟩)), p, p + 1, Nat.le_refl _, by omega, by omega, ?_, ?_, ?_, ?_, Or.inr ⟨by omega, Or.inr (Or.inr (Or.inr (Or.inl ⟨?_, ?_⟩)))⟩⟩
          · rw [zu_off (Or.inr (by decide)), zu_off (Or.inr (by decide))]; exact a3
          · rw [zu_off (Or.inr (by decide)), zu_off (Or.inr (by decide))]; exact b13
          · rw [zu_at, zu_off (Or.inr (by decide)), a2, nI_1]
          · rw [zu_off (Or.inr (by decide)), zu_at, nI_1]
          · rw [zu_off (Or.inr (by decide)), zu_at]
          · rw [zu_at]
        · rw [if_neg h59, if_neg h59]
          refine ⟨_, _, rfl, rfl, f1.trans ((Fr_zu ⟨rfl, by omega, by omega⟩).trans (Fr_zu ⟨rfl, by omega, by omega⟩)), f2.trans ((Fr_zu ⟨rfl, by omega, by omega⟩).trans (Fr_zu ⟨rfl, by omega, by omega⟩)), p, p + 1, Nat.le_refl _, by omega, by omega, ?_, ?_, ?_, ?_, Or.inr ⟨by omega, Or.inr (Or.inr (Or.inr (Or.inr ⟨?_, ?_⟩)))⟩⟩
          · rw [zu_off (Or.inr (by decide)), zu_off (Or.inr (by decide))]; exact a3
          · rw [zu_off (Or.inr (by decide)), zu_off (Or.inr (by decide))]; exact b13
          · rw [zu_at, zu_off (Or.inr (by decide)), a2, nI_1]
          · rw [zu_off (Or.inr (by decide)), zu_at, nI_1]
          · rw [zu_off (Or.inr (by decide)), zu_at]
          · rw [zu_at]
  · have : p = n := by omega
    subst this
    have hby : ∃ x, f_X3_byteAt S1 (nI p) = some x := by
      unfold f_X3_byteAt
      rw [if_neg (nI_pos (by omega)), L_180]
      by_cases h : 180 ≤ p
      · rw [if_pos ((nI_leI (by omega) (by omega)).mpr h)]; exact ⟨_, rfl⟩
      · rw [if_neg (fun z => h ((nI_leI (by omega) (by omega)).mp z)), if_pos (zin_nI (by omega) (by omega))]; exact ⟨_, rfl⟩
    obtain ⟨x, hx⟩ := hby
    rw [hx, Option.bind_some, if_neg (fun z => by have := (nI_ltI (by omega) (by omega)).mp z; omega), here_end hT t12, Option.bind_some, if_neg (by decide), here_end hT1 b12, Option.bind_some, if_neg (by decide)]
    refine ⟨_, _, rfl, rfl, f1.trans (Fr_zu ⟨rfl, by omega, by omega⟩), f2.trans (Fr_zu ⟨rfl, by omega, by omega⟩), p, p, Nat.le_refl _, Nat.le_refl _, Nat.le_refl _, ?_, ?_, ?_, ?_, Or.inl ⟨zu_at _ _ _ _, zu_at _ _ _ _⟩⟩
    · rw [zu_off (Or.inr (by decide))]; exact a3
    · rw [zu_off (Or.inr (by decide))]; exact b13
    · rw [zu_off (Or.inr (by decide))]; exact a2
    · rw [zu_off (Or.inr (by decide))]; exact b12
theorem TokR_mono {p' : Nat} (h : TokR n p' S T) (hp : p ≤ p') : TokR n p S T := by
  obtain ⟨st, q, k1, k2, k3, k4, k5, k6, k7, k8⟩ := h
  refine ⟨st, q, by omega, k2, k3, k4, k5, k6, k7, ?_⟩
  rcases k8 with k8 | ⟨k8, k9⟩
  · exact Or.inl k8
  · exact Or.inr ⟨by omega, k9⟩
theorem tok_sim (hS : TXc n bt S) (hT : TXr n bt T) (s2 : S.1 1 2 = nI p) (t12 : T.1 31 12 = nI p) (hp : p ≤ n) :
    ∃ S' T', f_X3_toNextToken S = some S' ∧ f_X6_step T = some T' ∧ Fr K1t S S' ∧ Fr K31t T T' ∧ TokR n p S' T' := by
  have key : ∀ (t p fl fl' : Nat) (S T : zS), n - p = t → p ≤ n → t < fl → t < fl' → TXc n bt S → TXr n bt T → S.1 1 2 = nI p → T.1 31 12 = nI p →
      ∃ S' T', f_X3_toNextToken_0 fl S = some S' ∧ f_X6_step_0 fl' T = some T' ∧ Fr K1t S S' ∧ Fr K31t T T' ∧ TokR n p S' T' := by
    intro t
    induction t with
    | zero =>
      intro p fl fl' S T ht hp h1 h2 hS hT s2 t12
      obtain ⟨fl, rfl⟩ : ∃ e, fl = e + 1 := ⟨fl - 1, by omega⟩
      obtain ⟨fl', rfl⟩ : ∃ e, fl' = e + 1 := ⟨fl' - 1, by omega⟩
      have hn := hS.1
      rw [f_X3_toNextToken_0, hS.2.1, s2, if_pos ((nI_leI (by omega) (by omega)).mpr (by omega))]
      exact tok37 hS hT s2 t12 hp (fun h => by omega)
    | succ t ih =>
      intro p fl fl' S T ht hp h1 h2 hS hT s2 t12
      obtain ⟨fl, rfl⟩ : ∃ e, fl = e + 1 := ⟨fl - 1, by omega⟩
      obtain ⟨fl', rfl⟩ : ∃ e, fl' = e + 1 := ⟨fl' - 1, by omega⟩
      have hn := hS.1
      have hb := (hS.2.2 p (by omega)).1
      rw [f_X3_toNextToken_0, hS.2.1, s2, if_neg (fun z => by have := (nI_leI (by omega) (by omega)).mp z; omega), byte_eq hS (by omega), Option.bind_some]
      by_cases h32 : bt p = 32
      · have e32 : nI (bt p) = 32 := (nI_eq (b := 32) (by omega) (by omega)).mpr h32
        rw [if_pos e32, f_X6_step_0, here_eq hT t12 (by omega), Option.bind_some, if_pos e32, t12, nI_1]
        have f1 : Fr K1t S (zu S 1 2 (nI (p + 1))) := Fr_zu ⟨rfl, by omega, by omega⟩
        have f2 : Fr K31t T (zu T 31 12 (nI (p + 1))) := Fr_zu ⟨rfl, by omega, by omega⟩
        obtain ⟨S', T', k1, k2, k3, k4, k5⟩ := ih (p + 1) fl fl' _ _ (by omega) (by omega) (by omega) (by omega) (TXc_fr hS f1) (TXr_fr hT f2) (zu_at _ _ _ _) (zu_at _ _ _ _)
        exact ⟨S', T', k1, k2, f1.trans k3, f2.trans k4, TokR_mono k5 (by omega)⟩
      · rw [if_neg (show ¬ nI (bt p) = 32 from fun z => h32 ((nI_eq (b := 32) (by omega) (by omega)).mp z))]
        exact tok37 hS hT s2 t12 hp (fun _ => h32)
  exact key (n - p) p zN zN S T rfl hp (by have := zN_big; have := hS.1; omega) (by have := zN_big; have := hS.1; omega) hS hT s2 t12
end TOK2
