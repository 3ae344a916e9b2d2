section LAND
variable {S T : zS} {nv n r : Nat} {bt : Nat → Nat}
theorem neg10 {st : Nat} (h : st < 1000) : ¬ (0 : Int32) ≤ -10 - nI st := by
  rw [i_le]
  have e0 : (0 : Int32).toInt = 0 := by decide
  have e1 : (-10 : Int32).toInt = -10 := by decide
  rw [i_sub (by rw [e1, nI_i (by omega)]; omega) (by rw [e1, nI_i (by omega)]; omega), e0, e1, nI_i (by omega)]
  omega
/-- the telling, on both sides -/
theorem tell_sim (hr : 17 ≤ r) (hS : TXc n bt S) (hT : TXr n bt T) :
    (∃ st S' T', st < 1000 ∧ f_X0_readAll S r = some (-10 - nI st, S') ∧ f_X6_land T = some (-10 - nI st, T') ∧ Fr (KC r) S S' ∧ Fr KR T T') ∨
    (∃ a nd S' T' W g, a ≤ 180 ∧ f_X0_readAll S r = some (nI a, zr S' (r + 4) g) ∧ f_X6_land T = ((f_X6_takeDraft T').bind (fun S3 => some (nI a, (zu S3 31 2 (0 : Int32))))) ∧ DR r nd S' T' ∧ zWay nd W ∧ (∀ x y, x < 6 → y < 6 → T'.1 38 (36 + (6 * x + y)) = nI (W x y)) ∧ (∀ x y, x < 6 → y < 6 → g (6 * x + y) = nI (fwn W 6 x y)) ∧ Fr (KC r) S S' ∧ Fr KR T T') := by
  obtain ⟨S2, s1, s2, s6, s7, s8, s9, s10, s11, sO, sW⟩ := empty_ok hr S
  obtain ⟨T2, t1, t2, t33, t37, t3, t4, t5, t11, tW⟩ := plain_ok (zu (zu T 31 12 (0 : Int32)) 31 16 (-9 : Int32))
  have f1 : Fr (KC r) S (zu S2 1 2 0) := (s2.mono (fun c j z => Or.inr z)).trans (Fr_zu (Or.inl ⟨rfl, by omega, by omega⟩))
  have g1 : Fr KR T T2 := Fr.trans (Fr_zu (Or.inr ⟨rfl, by omega, by omega⟩)) (Fr.trans (Fr_zu (Or.inr ⟨rfl, by omega, by omega⟩)) (t2.mono (fun c j z => Or.inl z)))
  have hS2 : TXc n bt (zu S2 1 2 0) := ⟨hS.1, (f1.1 1 1 (fun z => by unfold KC K1t at z; omega)).trans hS.2.1, fun j hj => ⟨(hS.2.2 j hj).1, (f1.1 2 j (fun z => by unfold KC K1t at z; omega)).trans (hS.2.2 j hj).2⟩⟩
  have hT2 : TXr n bt T2 := ⟨hT.1, (g1.1 31 2 (fun z => by unfold KR KD at z; omega)).trans hT.2.1, fun j hj => ⟨(hT.2.2 j hj).1, by rw [g1.1 32 j (fun z => by unfold KR KD at z; omega)]; exact (hT.2.2 j hj).2⟩⟩
  have k12 : T2.1 31 12 = nI 0 := by
    rw [t2.1 31 12 (fun z => by unfold KD at z; omega), zu_off (Or.inr (by decide)), zu_at]; rfl
  have k16 : T2.1 31 16 = -9 := by
    rw [t2.1 31 16 (fun z => by unfold KD at z; omega), zu_at]
  obtain ⟨S4, T4, u1, u2, u3, u4, u5⟩ := tok_sim hS2 hT2 (p := 0) (zu_at _ _ _ _) k12 (Nat.zero_le _)
  have sim : Sim n 0 bt S4 T4 := ⟨TXc_fr hS2 u3, TXr_fr hT2 u4, u5, (u4.1 31 16 (fun q => by have := q.2; omega)).trans k16⟩
  have hd : DR r 0 S4 T4 := DR_fr hr (DR_plain s6 s7 s8 s9 s10 s11 sO sW t33 t37 t3 t4 t5 t11 tW) ((Fr_zu (Or.inl rfl)).trans (u3.mono (fun c j q => Or.inl q.1))) (u4.mono (fun c j q => ⟨q.1, q.2.1⟩))
  have eC : f_X0_readAll S r = f_X0_readAll_10 r zN S4 (nI 0) := by
    unfold f_X0_readAll f_X3_toFirstToken
    rw [s1, Option.bind_some, u1, Option.bind_some, Option.bind_some]; rfl
  have eR : f_X6_land T = f_X6_land_21 zN T4 (nI 0) := by
    unfold f_X6_land
    rw [t1, Option.bind_some, u2, Option.bind_some]; rfl
  have f4 := f1.trans (u3.mono (K' := KC r) (fun c j q => Or.inl q))
  have g4 := g1.trans (u4.mono (K' := KR) (fun c j q => K31_KR q))
  rcases read_loop hr n 0 0 0 zN zN S4 T4 (by omega) (by have := zN_big; have := hS.1; omega) (by have := zN_big; have := hS.1; omega) (by omega) sim hd with ⟨st, S', T', w1, w2, w3, w4, w5⟩ | ⟨a, S', T', nd, w1, w2, w3, w4, w5, w6, w7⟩
  · exact Or.inl ⟨st, S', T', w1, eC.trans w2, eR.trans w3, f4.trans w4, g4.trans w5⟩
  · right
    have w5' := w5
    obtain ⟨hnd, ⟨d6, -, -⟩, -, -, -, -, -, ⟨W, hW, hWv⟩, -⟩ := w5'
    obtain ⟨g, q1, q2⟩ := ways2 hr hnd hW nd 0 zN S' (by omega) (by have := zN_big; omega) d6 (fun x y hx hy => (hWv x y hx hy).1)
    refine ⟨a, nd, S', T', W, g, w1, ?_, ?_, w5, hW, fun x y hx hy => (hWv x y hx hy).2, q2, f4.trans w6, g4.trans w7⟩
    · rw [eC, w2]
      unfold f_X0_readAll_46 f_X0_findShortestWays
      rw [show f_X0_findShortestWays_2 r zN S' 0 = _ from q1, Option.bind_some]
    · rw [eR, w3]
      unfold f_X6_land_91
      rw [if_pos w4]
theorem Inv_fault {S1 T1 : zS} (hI : InvN nv S) (h1 : Fr (KC (lr S.2.2.2)) S S1) (h2 : Fr KR S1 T1) : InvN nv T1 := by
  obtain ⟨i1, i2, ⟨n, hn, e1, e2, e3⟩, ⟨l1, l2, l3, l4, l5, l6, l7, l8, l9, l10, ⟨D, hD, hDv⟩, ⟨O, hO⟩⟩, i5, i6⟩ := hI
  have eS : T1.2 = S.2 := h2.2.trans h1.2
  have hlr : lr S.2.2.1 = 17 ∧ lr S.2.2.2 = 24 ∨ lr S.2.2.1 = 24 ∧ lr S.2.2.2 = 17 := by
    rw [i1]; cases S.2.2.1 <;> decide
  have cl : ∀ c j, c < 31 → ¬ KC (lr S.2.2.2) c j → T1.1 c j = S.1 c j := fun c j hc hk => by
    rw [h2.1 c j (fun z => by unfold KR KD at z; omega)]; exact h1.1 c j hk
  have rf : ∀ c j, 31 ≤ c → ¬ KR c j → T1.1 c j = S.1 c j := fun c j hc hk => by
    rw [h2.1 c j hk]; exact h1.1 c j (fun z => by unfold KC K1t at z; omega)
  have told : ∀ i j, i ≤ 6 → T1.1 (lr S.2.2.1 + i) j = S.1 (lr S.2.2.1 + i) j := fun i j hi => cl _ j (by omega) (fun z => by unfold KC K1t at z; omega)
  have told0 : ∀ j, T1.1 (lr S.2.2.1) j = S.1 (lr S.2.2.1) j := fun j => told 0 j (by omega)
  have cell : ∀ c, c < 17 → c ≠ 1 → T1.1 c = S.1 c := fun c h1 h2 => funext fun j => cl c j (by omega) (fun z => by unfold KC K1t at z; omega)
  have r41 : T1.1 41 = S.1 41 := funext fun j => rf 41 j (by omega) (fun z => by unfold KR KD at z; omega)
  have r42 : T1.1 42 = S.1 42 := funext fun j => rf 42 j (by omega) (fun z => by unfold KR KD at z; omega)
  unfold InvN
  rw [eS, cell 2 (by omega) (by omega), cell 3 (by omega) (by omega), cell 4 (by omega) (by omega), cell 0 (by omega) (by omega), cell 6 (by omega) (by omega), cell 7 (by omega) (by omega), cell 8 (by omega) (by omega), cell 9 (by omega) (by omega), r41, r42]
  refine ⟨i1, i2, ⟨n, hn, ?_, ?_, fun j hj => ?_⟩, ⟨l1, ?_, ?_, ?_, ?_, ?_, fun v hv => ?_, fun v hv => ?_, fun k hk => ?_, fun k hk => ?_, ⟨D, hD, fun a b ha hb => ?_⟩, ⟨O, fun a b ha hb => ⟨(hO a b ha hb).1, ?_⟩⟩⟩, i5, i6⟩
  · rw [cl 1 1 (by omega) (fun z => by unfold KC K1t at z; omega)]; exact e1
  · rw [rf 31 2 (by omega) (fun z => by unfold KR KD at z; omega)]; exact e2
  · rw [rf 32 j (by omega) (fun z => by unfold KR KD at z; omega)]; exact e3 j hj
  · rw [told0]; exact l2
  · rw [rf 33 0 (by omega) (fun z => by unfold KR KD at z; omega)]; exact l3
  · rw [told0, rf 37 0 (by omega) (fun z => by unfold KR KD at z; omega)]; exact l4
  · rw [told0, rf 40 0 (by omega) (fun z => by unfold KR KD at z; omega)]; exact l5
  · rw [told0, rf 40 1 (by omega) (fun z => by unfold KR KD at z; omega)]; exact l6
  · rw [told 2 v (by omega), rf 35 v (by omega) (fun z => by unfold KR KD at z; omega)]; exact l7 v hv
  · rw [told 3 v (by omega), rf 36 v (by omega) (fun z => by unfold KR KD at z; omega)]; exact l8 v hv
  · rw [told 4 k (by omega), rf 38 k (by omega) (fun z => by unfold KR KD at z; omega)]; exact l9 k hk
  · rw [told 5 k (by omega), rf 39 k (by omega) (fun z => by unfold KR KD at z; omega)]; exact l10 k hk
  · rw [rf 38 _ (by omega) (fun z => by unfold KR KD at z; omega)]; exact hDv a b ha hb
  · rw [rf 39 _ (by omega) (fun z => by unfold KR KD at z; omega)]; exact (hO a b ha hb).2
theorem and255 : ∀ c, c < 256 → (nI c).toInt8.toInt32 &&& 255 = nI c := by decide +kernel
end LAND
