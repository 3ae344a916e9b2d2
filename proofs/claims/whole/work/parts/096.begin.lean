/-! the class and the reference begin alike -/
theorem init_ok : ∃ E F B T1 T2 : zS, f_X0_empty Z0 17 = some E ∧ f_X0_empty Z0 24 = some F ∧ f_X2_begin (zmix E F) 3 17 = some B ∧ f_X6_plain (zmix2 B) = some T1 ∧ f_X6_takeDraft T1 = some T2 ∧ Inv T2 := by
  obtain ⟨E, hE, -, e6, e7, e8, e9, e10, e11, eO, eW⟩ := empty_ok (r := 17) (by omega) Z0
  obtain ⟨F, hF, -⟩ := empty_ok (r := 24) (by omega) Z0
  obtain ⟨B, hB, b2, b3, b4⟩ := begin_ok (q := 17) (nd := 0) (S := zmix E F) (by omega) (by omega) (show E.1 17 6 = nI 0 from e6)
  obtain ⟨T1, h1, t2, g33, g37, g3, g4, g5, g11, gW⟩ := plain_ok (zmix2 B)
  have hDR : DR 17 0 E T1 := DR_plain e6 e7 e8 e9 e10 e11 eO eW g33 g37 g3 g4 g5 g11 gW
  obtain ⟨T2, h2, k2, t33, t37, t40, t35, t39, t38, t420, t421, t28, tm⟩ := take_ok hDR
  have hDR0 := hDR
  obtain ⟨-, -, -, -, -, -, -, ⟨W, hW, hWv⟩, -⟩ := hDR0
  have cB : ∀ c j, c < 31 → T2.1 c j = B.1 c j := fun c j hc => by
    rw [k2.1 c j (fun z => by unfold KT at z; omega), t2.1 c j (fun z => by unfold KD at z; omega)]
    show (cond (Nat.blt c 31) (B.1 c) (fun _ => 0)) j = B.1 c j
    rw [show Nat.blt c 31 = true from Nat.ble_eq_true_of_le (by omega)]
    rfl
  have cM : ∀ c j, c < 31 → ¬ (c = 4 ∨ (c = 3 ∧ j = 1)) → T2.1 c j = (zmix E F).1 c j := fun c j hc hk => by rw [cB c j hc]; exact b2.1 c j hk
  have x2 : T2.2 = (fun c => cond (Nat.beq c 0) (B.2.1 0) 0, B.2.2) := k2.2.trans t2.2
  have xB : B.2 = ((fun _ => 0), false, true) := b2.2
  refine ⟨E, F, B, T1, T2, hE, hF, hB, h1, h2, 0, ?_⟩
  refine Inv_new (X := T2) (S' := E) (T' := T1) (W := W) (r := 17) hDR hW ?_ ?_ ?_ (fun j => cM 17 j (by omega) (by omega)) (fun j => cM 19 j (by omega) (by omega)) (fun j => cM 20 j (by omega) (by omega)) (fun j => cM 22 j (by omega) (by omega)) (fun a b ha hb => ?_) ?_ ?_ ?_ (fun j hj => ?_) t33 t37 t40 t35 t39 (fun a b ha hb => t38 W hW (fun a b ha hb => (hWv a b ha hb).2) a b ha hb) t420 t421 t28 ?_ tm
  · rw [x2, xB]; rfl
  · rw [x2, xB]; rfl
  · rw [x2, xB]; rfl
  · have h9 := fwn_nd hW (by omega) ha hb 6 (by omega)
    rw [show (6 : Nat) = 0 + 6 from rfl, h9]
    exact (cM 21 _ (by omega) (by omega)).trans (hWv a b ha hb).1
  · exact cM 1 1 (by omega) (by omega)
  · rw [cB 3 1 (by omega)]; exact b3
  · exact cM 0 8 (by omega) (by omega)
  · rw [cB 4 j (by omega), b4 j (by omega)]; rfl
  · rw [k2.1 31 2 (fun z => by unfold KT at z; omega), t2.1 31 2 (fun z => by unfold KD at z; omega)]; rfl
