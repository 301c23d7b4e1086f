/-! THE LAW -/
theorem K_pairIs {S : St} (h : IV S) (v1 v2 : Int32) : CC S (fun s => f_X11_pairIs s v1 v2) (fun s => f_X12_pairIs s v1 v2) := by
  have hT := h.1.1
  have hW := h.1.2.1
  have hk2 := hW.nk
  have hM : S.1 173 = S.1 173 := rfl
  have hs : f_X5_size S 33 = some (nI (w (S.1 173) 2)) := cNk hT hW (Or.inl rfl)
  rcases wi_p (v := v1) (n := w (S.1 173) 2) (by omega) with e | ⟨p, hp, rfl, e⟩
  · refine CC.err h (k := 1) (φ := fun a => a) (by decide) ?_ ?_
    · show f_X11_pairIs S v1 v2 = _
      unfold f_X11_pairIs
      rw [hs, bnd_some, cIn, bnd_some, e, if_pos rfl]; rfl
    · show f_X12_pairIs (E1 S 1) v1 v2 = _
      unfold f_X12_pairIs
      rw [E1_nek (by decide), hk2.1, mIn, bnd_some, e, if_pos rfl]; rfl
  · rcases wi_n (v := v2) (n := 3) (by decide) with e2 | ⟨x, hx, rfl, e2⟩
    · refine CC.err h (k := 1) (φ := fun a => a) (by decide) ?_ ?_
      · show f_X11_pairIs S (nI p) v2 = _
        unfold f_X11_pairIs
        rw [hs, bnd_some, cIn, bnd_some, e, if_neg (by decide), cIn, bnd_some, k3, e2, if_pos rfl]; rfl
      · show f_X12_pairIs (E1 S 1) (nI p) v2 = _
        unfold f_X12_pairIs
        rw [E1_nek (by decide), hk2.1, mIn, bnd_some, e, if_neg (by decide), mIn, bnd_some, k3, e2, if_pos rfl]; rfl
    · have hc : ∀ r, (if nI x = 0 then bnd (f_X5_at S 29 (nI p)) (fun a => some (a, S)) else if nI x = 1 then bnd (f_X5_at S 31 (nI p)) (fun a => some (a, S)) else if nI x = 2 then bnd (f_X5_at S 33 (nI p)) (fun a => some (a, S)) else bnd (f_X9_bonusOwner S 8 (nI p)) (fun a => some (a, S))) = some (r, S) → f_X11_pairIs S (nI p) (nI x) = some (r, S) := fun r e3 => by
        unfold f_X11_pairIs
        rw [hs, bnd_some, cIn, bnd_some, e, if_neg (by decide), cIn, bnd_some, show (3 : Int32) = nI 3 from rfl, e2, if_neg (by decide)]
        exact e3
      have hm : ∀ r, (if (3 : Int32) ≤ nI x then bnd (f_X12_hasBonus S (nI p)) (fun a => some (a, S)) else bnd (f_X12_pairIts S (nI p) (nI x)) (fun a => some (a, S))) = some (r, S) → f_X12_pairIs S (nI p) (nI x) = some (r, S) := fun r e3 => by
        unfold f_X12_pairIs
        rw [hk2.1, mIn, bnd_some, e, if_neg (by decide), mIn, bnd_some, show (3 : Int32) = nI 3 from rfl, e2, if_neg (by decide)]
        exact e3
      have ex : x = 0 ∨ x = 1 ∨ x = 2 ∨ x = 3 := by omega
      rcases ex with rfl | rfl | rfl | rfl
      · refine CC.same h (r := S.1 173 (92 + 3 * p)) (hc _ ?_) (hm _ ?_)
        · rw [if_pos (show nI 0 = (0 : Int32) from rfl), show f_X5_at S 29 (nI p) = _ from cOne hT hW (Or.inl rfl) hp, bnd_some]
        · rw [if_neg (show ¬ (3 : Int32) ≤ nI 0 by decide), show f_X12_pairIts S (nI p) (nI 0) = _ from mOne hM (by omega), bnd_some]
      · refine CC.same h (r := S.1 173 (93 + 3 * p)) (hc _ ?_) (hm _ ?_)
        · rw [if_neg (show ¬ nI 1 = (0 : Int32) by decide), if_pos (show nI 1 = (1 : Int32) from rfl), show f_X5_at S 31 (nI p) = _ from cOther hT hW (Or.inl rfl) hp, bnd_some]
        · rw [if_neg (show ¬ (3 : Int32) ≤ nI 1 by decide), show f_X12_pairIts S (nI p) (nI 1) = _ from mOther hM (by omega), bnd_some]
      · refine CC.same h (r := S.1 173 (94 + 3 * p)) (hc _ ?_) (hm _ ?_)
        · rw [if_neg (show ¬ nI 2 = (0 : Int32) by decide), if_neg (show ¬ nI 2 = (1 : Int32) by decide), if_pos (show nI 2 = (2 : Int32) from rfl), show f_X5_at S 33 (nI p) = _ from cBonus hT hW (Or.inl rfl) hp, bnd_some]
        · rw [if_neg (show ¬ (3 : Int32) ≤ nI 2 by decide), show f_X12_pairIts S (nI p) (nI 2) = _ from mBonus hM (by omega), bnd_some]
      · refine CC.same h (r := hb (S.1 173) p) (hc _ ?_) (hm _ ?_)
        · rw [if_neg (show ¬ nI 3 = (0 : Int32) by decide), if_neg (show ¬ nI 3 = (1 : Int32) by decide), if_neg (show ¬ nI 3 = (2 : Int32) by decide), cHb hT hW (Or.inl rfl) hp, bnd_some]
        · rw [if_pos (show (3 : Int32) ≤ nI 3 by decide), mHb hM hW hp, bnd_some]
theorem WF0 : WF mdl0 := by
  have h : (List.range 516).all (fun x => decide (0 < lim x → mdl0 x = nI (w mdl0 x) ∧ w mdl0 x < lim x)) = true := by decide +kernel
  have z : ∀ x, x < 3 → w mdl0 x = 0 := by decide +kernel
  refine ⟨fun x hx => ?_, fun p hp => ?_, fun i hi => ?_, fun k hk => ?_, TX.none (by decide +kernel), TX.none (by decide +kernel)⟩
  · exact of_decide_eq_true (List.all_eq_true.mp h x (List.mem_range.mpr (lim_516 hx))) hx
  · rw [z 0 (by decide)] at hp; exact absurd hp (Nat.not_lt_zero _)
  · rw [z 1 (by decide)] at hi; exact absurd hi (Nat.not_lt_zero _)
  · rw [z 2 (by decide)] at hk; exact absurd hk (Nat.not_lt_zero _)
theorem RT0 : RT S0 8 mdl0 := by
  have h : (List.range 15).all (fun k => decide (S0f (8 + off k) 1 = nI (siz mdl0 k)) && (List.range (siz mdl0 k)).all (fun i => decide (S0f (8 + off k + 1) i = mdl0 (bas k + stp k * i)))) = true := by decide +kernel
  have z : w mdl0 (tb 0) = 0 ∧ w mdl0 (tb 1) = 0 := by decide +kernel
  refine ⟨fun k hk => ?_, ⟨by rw [z.1]; decide +kernel, fun k hk => ?_, by decide +kernel⟩, ⟨by rw [z.2]; decide +kernel, fun k hk => ?_, by decide +kernel⟩, by decide +kernel, by decide +kernel, by decide +kernel, by decide +kernel⟩
  · have h1 := List.all_eq_true.mp h k (List.mem_range.mpr hk)
    rw [Bool.and_eq_true] at h1
    exact ⟨of_decide_eq_true h1.1, fun i hi => of_decide_eq_true (List.all_eq_true.mp h1.2 i (List.mem_range.mpr hi))⟩
  · rw [z.1] at hk; exact absurd hk (Nat.not_lt_zero _)
  · rw [z.2] at hk; exact absurd hk (Nat.not_lt_zero _)
theorem e173 : S0.1 173 = mdl0 := rfl
theorem IV0 : IV S0 := by
  refine ⟨⟨RT0, WF0, 0, by decide, by decide +kernel⟩, ⟨by decide +kernel, Or.inl (by decide +kernel)⟩, ⟨by decide +kernel, by decide +kernel⟩, ⟨0, by decide, by decide +kernel, by decide +kernel, fun i hi => absurd hi (Nat.not_lt_zero _)⟩, fun i hi => ⟨0, by decide, ?_, Or.inl ?_, ?_, ?_, fun j hj => absurd hj (Nat.not_lt_zero _)⟩, by decide +kernel, by decide +kernel, by decide +kernel, by decide +kernel⟩
  · have h : ∀ i, i < 4 → S0f (158 + 3 * i) 1 = S0f 181 i := by decide +kernel
    exact h i hi
  · have h : ∀ i, i < 4 → S0f 181 i = 0 := by decide +kernel
    exact h i hi
  · have h : ∀ i, i < 4 → S0f (159 + 3 * i) 1 = nI 0 := by decide +kernel
    exact h i hi
  · have h : ∀ i, i < 4 → S0f 182 i = nI 0 := by decide +kernel
    exact h i hi
theorem in_L {p L j : Nat} (h : p + j < L) (hL : L ≤ 3072) : inb (nI p + nI j) L = true := by
  rw [nI_add]; exact inb_nI h (by omega)
set_option maxHeartbeats 4000000 in
theorem law_step {N L : Nat} {xs : Nat → Int32} (hN : 1000 < N) (hL : L ≤ 3072) {n p : Nat} {S : St} (h : IV S) (hp : p + 6 ≤ L) (ih : ∀ S', IV S' → f_L_law_18 N L xs n S' (nI p + 6) = some 1) : f_L_law_18 N L xs (n + 1) S (nI p) = some 1 := by
  have i0 : inb (nI p) L = true := inb_nI (by omega) (by omega)
  have i1 : inb (nI p + (1 : Int32)) L = true := in_L (j := 1) (by omega) hL
  have i2 : inb (nI p + (2 : Int32)) L = true := in_L (j := 2) (by omega) hL
  have i3 : inb (nI p + (3 : Int32)) L = true := in_L (j := 3) (by omega) hL
  have i4 : inb (nI p + (4 : Int32)) L = true := in_L (j := 4) (by omega) hL
  have i5 : inb (nI p + (5 : Int32)) L = true := in_L (j := 5) (by omega) hL
  have hN2 : 100 < N := by omega
  have hneg : ¬ (Int32.ofNat L - 6 : Int32) < nI p := by
    rw [show Int32.ofNat L = nI L from rfl, k6, nI_sub (by omega)]
    exact nI_nlt (by omega) (by omega)
  rw [f_L_law_18, if_neg hneg, if_pos i0]
  clear i0
  by_cases c0 : xs (nI p).toNatClampNeg &&& (63 : Int32) = 0
  · rw [if_pos c0]
    obtain ⟨r, S1, S2, a, _, b, d⟩ := K_person h (xs (nI p + (1 : Int32)).toNatClampNeg) (xs (nI p + (2 : Int32)).toNatClampNeg) (xs (nI p + (3 : Int32)).toNatClampNeg)
    dsimp only at a b
    rw [if_pos i1, if_pos i2, if_pos i3, a, bnd2_some, if_pos i1, if_pos i2, if_pos i3, b, bnd2_some, if_pos (rfl)]
    exact ih S2 d
  rw [if_neg c0]
  clear c0
  by_cases c1 : xs (nI p).toNatClampNeg &&& (63 : Int32) = 1
  · rw [if_pos c1]
    obtain ⟨r, S1, S2, a, _, b, d⟩ := K_personIs hN2 h (xs (nI p + (1 : Int32)).toNatClampNeg) (xs (nI p + (2 : Int32)).toNatClampNeg)
    dsimp only at a b
    rw [if_pos i1, if_pos i2, a, bnd2_some, if_pos i1, if_pos i2, b, bnd2_some, if_pos (rfl)]
    exact ih S2 d
  rw [if_neg c1]
  clear c1
  by_cases c2 : xs (nI p).toNatClampNeg &&& (63 : Int32) = 2
  · rw [if_pos c2]
    obtain ⟨r, S1, S2, a, _, b, d⟩ := K_as hN2 h (xs (nI p + (1 : Int32)).toNatClampNeg) (xs (nI p + (2 : Int32)).toNatClampNeg)
    dsimp only at a b
    rw [if_pos i1, if_pos i2, a, bnd2_some, if_pos i1, if_pos i2, b, bnd2_some, if_pos (rfl)]
    exact ih S2 d
  rw [if_neg c2]
  clear c2
  by_cases c3 : xs (nI p).toNatClampNeg &&& (63 : Int32) = 3
  · rw [if_pos c3]
    obtain ⟨r, S1, S2, a, _, b, d⟩ := K_become h (xs (nI p + (1 : Int32)).toNatClampNeg) (xs (nI p + (2 : Int32)).toNatClampNeg)
    dsimp only at a b
    rw [if_pos i1, if_pos i2, a, bnd2_some, if_pos i1, if_pos i2, b, bnd2_some, if_pos (rfl)]
    exact ih S2 d
  rw [if_neg c3]
  clear c3
  by_cases c4 : xs (nI p).toNatClampNeg &&& (63 : Int32) = 4
  · rw [if_pos c4]
    obtain ⟨r, S1, S2, a, _, b, d⟩ := K_purse h (xs (nI p + (1 : Int32)).toNatClampNeg) (xs (nI p + (2 : Int32)).toNatClampNeg)
    dsimp only at a b
    rw [if_pos i1, if_pos i2, a, bnd2_some, if_pos i1, if_pos i2, b, bnd2_some, if_pos (rfl)]
    exact ih S2 d
  rw [if_neg c4]
  clear c4
  by_cases c5 : xs (nI p).toNatClampNeg &&& (63 : Int32) = 5
  · rw [if_pos c5]
    obtain ⟨r, S1, S2, a, _, b, d⟩ := K_thing h (xs (nI p + (1 : Int32)).toNatClampNeg) (xs (nI p + (2 : Int32)).toNatClampNeg)
    dsimp only at a b
    rw [if_pos i1, if_pos i2, a, bnd2_some, if_pos i1, if_pos i2, b, bnd2_some, if_pos (rfl)]
    exact ih S2 d
  rw [if_neg c5]
  clear c5
  by_cases c6 : xs (nI p).toNatClampNeg &&& (63 : Int32) = 6
  · rw [if_pos c6]
    obtain ⟨r, S1, S2, a, _, b, d⟩ := K_thingIs hN2 h (xs (nI p + (1 : Int32)).toNatClampNeg) (xs (nI p + (2 : Int32)).toNatClampNeg)
    dsimp only at a b
    rw [if_pos i1, if_pos i2, a, bnd2_some, if_pos i1, if_pos i2, b, bnd2_some, if_pos (rfl)]
    exact ih S2 d
  rw [if_neg c6]
  clear c6
  by_cases c7 : xs (nI p).toNatClampNeg &&& (63 : Int32) = 7
  · rw [if_pos c7]
    obtain ⟨r, S1, S2, a, _, b, d⟩ := K_worth h (xs (nI p + (1 : Int32)).toNatClampNeg) (xs (nI p + (2 : Int32)).toNatClampNeg) (xs (nI p + (3 : Int32)).toNatClampNeg)
    dsimp only at a b
    rw [if_pos i1, if_pos i2, if_pos i3, a, bnd2_some, if_pos i1, if_pos i2, if_pos i3, b, bnd2_some, if_pos (rfl)]
    exact ih S2 d
  rw [if_neg c7]
  clear c7
  by_cases c8 : xs (nI p).toNatClampNeg &&& (63 : Int32) = 8
  · rw [if_pos c8]
    obtain ⟨r, S1, S2, a, _, b, d⟩ := K_price h (xs (nI p + (1 : Int32)).toNatClampNeg) (xs (nI p + (2 : Int32)).toNatClampNeg)
    dsimp only at a b
    rw [if_pos i1, if_pos i2, a, bnd2_some, if_pos i1, if_pos i2, b, bnd2_some, if_pos (rfl)]
    exact ih S2 d
  rw [if_neg c8]
  clear c8
  by_cases c9 : xs (nI p).toNatClampNeg &&& (63 : Int32) = 9
  · rw [if_pos c9]
    obtain ⟨r, S1, S2, a, _, b, d⟩ := K_keep hN2 h (xs (nI p + (1 : Int32)).toNatClampNeg) (xs (nI p + (2 : Int32)).toNatClampNeg)
    dsimp only at a b
    rw [if_pos i1, if_pos i2, a, bnd2_some, if_pos i1, if_pos i2, b, bnd2_some, if_pos (rfl)]
    exact ih S2 d
  rw [if_neg c9]
  clear c9
  by_cases c10 : xs (nI p).toNatClampNeg &&& (63 : Int32) = 10
  · rw [if_pos c10]
    obtain ⟨r, S1, S2, a, _, b, d⟩ := K_pair h (xs (nI p + (1 : Int32)).toNatClampNeg) (xs (nI p + (2 : Int32)).toNatClampNeg) (xs (nI p + (3 : Int32)).toNatClampNeg)
    dsimp only at a b
    rw [if_pos i1, if_pos i2, if_pos i3, a, bnd2_some, if_pos i1, if_pos i2, if_pos i3, b, bnd2_some, if_pos (rfl)]
    exact ih S2 d
  rw [if_neg c10]
  clear c10
  by_cases c11 : xs (nI p).toNatClampNeg &&& (63 : Int32) = 11
  · rw [if_pos c11]
    obtain ⟨r, S1, S2, a, _, b, d⟩ := K_pairIs h (xs (nI p + (1 : Int32)).toNatClampNeg) (xs (nI p + (2 : Int32)).toNatClampNeg)
    dsimp only at a b
    rw [if_pos i1, if_pos i2, a, bnd2_some, if_pos i1, if_pos i2, b, bnd2_some, if_pos (rfl)]
    exact ih S2 d
  rw [if_neg c11]
  clear c11
  by_cases c12 : xs (nI p).toNatClampNeg &&& (63 : Int32) = 12
  · rw [if_pos c12]
    obtain ⟨r, S1, S2, a, _, b, d⟩ := K_rule h (xs (nI p + (1 : Int32)).toNatClampNeg) (xs (nI p + (2 : Int32)).toNatClampNeg)
    dsimp only at a b
    rw [if_pos i1, if_pos i2, a, bnd2_some, if_pos i1, if_pos i2, b, bnd2_some, if_pos (rfl)]
    exact ih S2 d
  rw [if_neg c12]
  clear c12
  by_cases c13 : xs (nI p).toNatClampNeg &&& (63 : Int32) = 13
  · rw [if_pos c13]
    obtain ⟨r, S1, S2, a, _, b, d⟩ := K_feed hN2 h ((((xs (nI p + (1 : Int32)).toNatClampNeg)).toInt64 <<< ((32 : Int32).toInt64 &&& 63)) ||| (((xs (nI p + (2 : Int32)).toNatClampNeg)).toInt64 &&& (4294967295 : Int64))) (xs (nI p + (3 : Int32)).toNatClampNeg)
    dsimp only at a b
    rw [if_pos i1, if_pos i2, if_pos i3, a, bnd2_some, if_pos i1, if_pos i2, if_pos i3, b, bnd2_some, if_pos (rfl)]
    exact ih S2 d
  rw [if_neg c13]
  clear c13
  by_cases c14 : xs (nI p).toNatClampNeg &&& (63 : Int32) = 14
  · rw [if_pos c14]
    obtain ⟨r, S1, S2, a, _, b, d⟩ := K_text hN h (xs (nI p + (1 : Int32)).toNatClampNeg)
    dsimp only at a b
    rw [if_pos i1, a, bnd2_some, if_pos i1, b, bnd2_some, if_pos (rfl)]
    exact ih S2 d
  rw [if_neg c14]
  clear c14
  by_cases c15 : xs (nI p).toNatClampNeg &&& (63 : Int32) = 15
  · rw [if_pos c15]
    obtain ⟨r, S1, S2, a, _, b, d⟩ := K_untell hN2 h (xs (nI p + (1 : Int32)).toNatClampNeg)
    dsimp only at a b
    rw [if_pos i1, a, bnd2_some, if_pos i1, b, bnd2_some, if_pos (rfl)]
    exact ih S2 d
  rw [if_neg c15]
  clear c15
  by_cases c16 : xs (nI p).toNatClampNeg &&& (63 : Int32) = 16
  · rw [if_pos c16]
    obtain ⟨r, S1, S2, a, _, b, d⟩ := K_named hN2 h (xs (nI p + (1 : Int32)).toNatClampNeg)
    dsimp only at a b
    rw [if_pos i1, a, bnd2_some, if_pos i1, b, bnd2_some, if_pos (rfl)]
    exact ih S2 d
  rw [if_neg c16]
  clear c16
  by_cases c17 : xs (nI p).toNatClampNeg &&& (63 : Int32) = 17
  · rw [if_pos c17]
    obtain ⟨r, S1, S2, a, _, b, d⟩ := K_mended hN2 h (xs (nI p + (1 : Int32)).toNatClampNeg)
    dsimp only at a b
    rw [if_pos i1, a, bnd2_some, if_pos i1, b, bnd2_some, if_pos (rfl)]
    exact ih S2 d
  rw [if_neg c17]
  clear c17
  by_cases c18 : xs (nI p).toNatClampNeg &&& (63 : Int32) = 18
  · rw [if_pos c18]
    obtain ⟨r, S1, S2, a, _, b, d⟩ := K_years hN h (xs (nI p + (1 : Int32)).toNatClampNeg)
    dsimp only at a b
    rw [if_pos i1, a, bnd2_some, if_pos i1, b, bnd2_some, if_pos (rfl)]
    exact ih S2 d
  rw [if_neg c18]
  clear c18
  by_cases c19 : xs (nI p).toNatClampNeg &&& (63 : Int32) = 19
  · rw [if_pos c19]
    obtain ⟨r, S1, S2, a, _, b, d⟩ := K_seed h (xs (nI p + (1 : Int32)).toNatClampNeg)
    dsimp only at a b
    rw [if_pos i1, a, bnd2_some, if_pos i1, b, bnd2_some, if_pos (rfl)]
    exact ih S2 d
  rw [if_neg c19]
  clear c19
  by_cases c20 : xs (nI p).toNatClampNeg &&& (63 : Int32) = 20
  · rw [if_pos c20]
    obtain ⟨r, S1, S2, a, _, b, d⟩ := K_taken hN2 h (xs (nI p + (1 : Int32)).toNatClampNeg) (xs (nI p + (2 : Int32)).toNatClampNeg) (xs (nI p + (3 : Int32)).toNatClampNeg)
    dsimp only at a b
    rw [if_pos i1, if_pos i2, if_pos i3, a, bnd2_some, if_pos i1, if_pos i2, if_pos i3, b, bnd2_some, if_pos ((lg_cmp_eq r r).mpr rfl)]
    exact ih S2 d
  rw [if_neg c20]
  clear c20
  by_cases c21 : xs (nI p).toNatClampNeg &&& (63 : Int32) = 21
  · rw [if_pos c21]
    obtain ⟨r, S1, S2, a, _, b, d⟩ := K_gain hN2 h (xs (nI p + (1 : Int32)).toNatClampNeg) (xs (nI p + (2 : Int32)).toNatClampNeg) (xs (nI p + (3 : Int32)).toNatClampNeg)
    dsimp only at a b
    rw [if_pos i1, if_pos i2, if_pos i3, a, bnd2_some, if_pos i1, if_pos i2, if_pos i3, b, bnd2_some, if_pos ((lg_cmp_eq r r).mpr rfl)]
    exact ih S2 d
  rw [if_neg c21]
  clear c21
  by_cases c22 : xs (nI p).toNatClampNeg &&& (63 : Int32) = 22
  · rw [if_pos c22]
    obtain ⟨r, S1, S2, a, _, b, d⟩ := K_best hN2 h (xs (nI p + (1 : Int32)).toNatClampNeg)
    dsimp only at a b
    rw [if_pos i1, a, bnd2_some, if_pos i1, b, bnd2_some, if_pos (rfl)]
    exact ih S2 d
  rw [if_neg c22]
  clear c22
  by_cases c23 : xs (nI p).toNatClampNeg &&& (63 : Int32) = 23
  · rw [if_pos c23]
    obtain ⟨r, S1, S2, a, _, b, d⟩ := K_right hN2 h (xs (nI p + (1 : Int32)).toNatClampNeg)
    dsimp only at a b
    rw [if_pos i1, a, bnd2_some, if_pos i1, b, bnd2_some, if_pos (rfl)]
    exact ih S2 d
  rw [if_neg c23]
  clear c23
  by_cases c24 : xs (nI p).toNatClampNeg &&& (63 : Int32) = 24
  · rw [if_pos c24]
    obtain ⟨r, S1, S2, a, _, b, d⟩ := K_town hN2 h (xs (nI p + (1 : Int32)).toNatClampNeg)
    dsimp only at a b
    rw [if_pos i1, a, bnd2_some, if_pos i1, b, bnd2_some, if_pos (rfl)]
    exact ih S2 d
  rw [if_neg c24]
  clear c24
  by_cases c25 : xs (nI p).toNatClampNeg &&& (63 : Int32) = 25
  · rw [if_pos c25]
    obtain ⟨r, S1, S2, a, _, b, d⟩ := K_firm hN2 h (xs (nI p + (1 : Int32)).toNatClampNeg) (xs (nI p + (2 : Int32)).toNatClampNeg)
    dsimp only at a b
    rw [if_pos i1, if_pos i2, a, bnd2_some, if_pos i1, if_pos i2, b, bnd2_some, if_pos (rfl)]
    exact ih S2 d
  rw [if_neg c25]
  clear c25
  by_cases c26 : xs (nI p).toNatClampNeg &&& (63 : Int32) = 26
  · rw [if_pos c26]
    obtain ⟨r, S1, S2, a, _, b, d⟩ := K_then hN h (xs (nI p + (1 : Int32)).toNatClampNeg) (xs (nI p + (2 : Int32)).toNatClampNeg)
    dsimp only at a b
    rw [if_pos i1, if_pos i2, a, bnd2_some, if_pos i1, if_pos i2, b, bnd2_some, if_pos (rfl)]
    exact ih S2 d
  rw [if_neg c26]
  clear c26
  by_cases c27 : xs (nI p).toNatClampNeg &&& (63 : Int32) = 27
  · rw [if_pos c27]
    obtain ⟨r, S1, S2, a, _, b, d⟩ := K_whose hN h (xs (nI p + (1 : Int32)).toNatClampNeg) (xs (nI p + (2 : Int32)).toNatClampNeg)
    dsimp only at a b
    rw [if_pos i1, if_pos i2, a, bnd2_some, if_pos i1, if_pos i2, b, bnd2_some, if_pos (rfl)]
    exact ih S2 d
  rw [if_neg c27]
  clear c27
  by_cases c28 : xs (nI p).toNatClampNeg &&& (63 : Int32) = 28
  · rw [if_pos c28]
    obtain ⟨r, S1, S2, a, _, b, d⟩ := K_part hN h (xs (nI p + (1 : Int32)).toNatClampNeg)
    dsimp only at a b
    rw [if_pos i1, a, bnd2_some, if_pos i1, b, bnd2_some, if_pos (rfl)]
    exact ih S2 d
  rw [if_neg c28]
  clear c28
  by_cases c29 : xs (nI p).toNatClampNeg &&& (63 : Int32) = 29
  · rw [if_pos c29]
    obtain ⟨r, S1, S2, a, _, b, d⟩ := K_voice hN2 h (xs (nI p + (1 : Int32)).toNatClampNeg) (xs (nI p + (2 : Int32)).toNatClampNeg) (xs (nI p + (3 : Int32)).toNatClampNeg)
    dsimp only at a b
    rw [if_pos i1, if_pos i2, if_pos i3, a, bnd2_some, if_pos i1, if_pos i2, if_pos i3, b, bnd2_some, if_pos (rfl)]
    exact ih S2 d
  rw [if_neg c29]
  clear c29
  by_cases c30 : xs (nI p).toNatClampNeg &&& (63 : Int32) = 30
  · rw [if_pos c30]
    obtain ⟨r, S1, S2, a, _, b, d⟩ := K_body h (xs (nI p + (1 : Int32)).toNatClampNeg)
    dsimp only at a b
    rw [if_pos i1, a, bnd2_some, if_pos i1, b, bnd2_some, if_pos (rfl)]
    exact ih S2 d
  rw [if_neg c30]
  clear c30
  by_cases c31 : xs (nI p).toNatClampNeg &&& (63 : Int32) = 31
  · rw [if_pos c31]
    obtain ⟨r, S1, S2, a, _, b, d⟩ := K_sheet hN2 h (xs (nI p + (1 : Int32)).toNatClampNeg) (xs (nI p + (2 : Int32)).toNatClampNeg) (xs (nI p + (3 : Int32)).toNatClampNeg)
    dsimp only at a b
    rw [if_pos i1, if_pos i2, if_pos i3, a, bnd2_some, if_pos i1, if_pos i2, if_pos i3, b, bnd2_some, if_pos (rfl)]
    exact ih S2 d
  rw [if_neg c31]
  clear c31
  by_cases c32 : xs (nI p).toNatClampNeg &&& (63 : Int32) = 32
  · rw [if_pos c32]
    obtain ⟨r, S1, S2, a, _, b, d⟩ := K_put h (xs (nI p + (1 : Int32)).toNatClampNeg) (xs (nI p + (2 : Int32)).toNatClampNeg) (xs (nI p + (3 : Int32)).toNatClampNeg)
    dsimp only at a b
    rw [if_pos i1, if_pos i2, if_pos i3, a, bnd2_some, if_pos i1, if_pos i2, if_pos i3, b, bnd2_some, if_pos (rfl)]
    exact ih S2 d
  rw [if_neg c32]
  clear c32
  by_cases c33 : xs (nI p).toNatClampNeg &&& (63 : Int32) = 33
  · rw [if_pos c33]
    obtain ⟨r, S1, S2, a, _, b, d⟩ := K_move hN2 h (xs (nI p + (1 : Int32)).toNatClampNeg) (xs (nI p + (2 : Int32)).toNatClampNeg) (xs (nI p + (3 : Int32)).toNatClampNeg) (xs (nI p + (4 : Int32)).toNatClampNeg) (xs (nI p + (5 : Int32)).toNatClampNeg)
    dsimp only at a b
    rw [if_pos i1, if_pos i2, if_pos i3, if_pos i4, if_pos i5, a, bnd2_some, if_pos i1, if_pos i2, if_pos i3, if_pos i4, if_pos i5, b, bnd2_some, if_pos (rfl)]
    exact ih S2 d
  rw [if_neg c33]
  clear c33
  by_cases c34 : xs (nI p).toNatClampNeg &&& (63 : Int32) = 34
  · rw [if_pos c34]
    obtain ⟨r, S1, S2, a, _, b, d⟩ := K_worths hN2 h (xs (nI p + (1 : Int32)).toNatClampNeg) (xs (nI p + (2 : Int32)).toNatClampNeg)
    dsimp only at a b
    rw [if_pos i1, if_pos i2, a, bnd2_some, if_pos i1, if_pos i2, b, bnd2_some, if_pos (rfl)]
    exact ih S2 d
  rw [if_neg c34]
  clear c34
  by_cases c35 : xs (nI p).toNatClampNeg &&& (63 : Int32) = 35
  · rw [if_pos c35]
    obtain ⟨r, S1, S2, a, _, b, d⟩ := K_judge hN2 h (xs (nI p + (1 : Int32)).toNatClampNeg)
    dsimp only at a b
    rw [if_pos i1, a, bnd2_some, if_pos i1, b, bnd2_some, if_pos (rfl)]
    exact ih S2 d
  rw [if_neg c35]
  clear c35
  by_cases c36 : xs (nI p).toNatClampNeg &&& (63 : Int32) = 36
  · rw [if_pos c36]
    obtain ⟨r, S1, S2, a, _, b, d⟩ := K_image hN h 
    dsimp only at a b
    rw [a, bnd2_some, b, bnd2_some, if_pos (rfl)]
    exact ih S2 d
  rw [if_neg c36]
  clear c36
  by_cases c37 : xs (nI p).toNatClampNeg &&& (63 : Int32) = 37
  · rw [if_pos c37]
    obtain ⟨r, S1, S2, a, _, b, d⟩ := K_restore hN h 
    dsimp only at a b
    rw [a, bnd2_some, b, bnd2_some, if_pos (rfl)]
    exact ih S2 d
  rw [if_neg c37]
  clear c37
  by_cases c38 : xs (nI p).toNatClampNeg &&& (63 : Int32) = 38
  · rw [if_pos c38]
    obtain ⟨r, S1, S2, a, _, b, d⟩ := K_tell h (xs (nI p + (1 : Int32)).toNatClampNeg)
    dsimp only at a b
    rw [if_pos i1, a, bnd2_some, if_pos i1, b, bnd2_some, if_pos (rfl)]
    exact ih S2 d
  rw [if_neg c38]
  clear c38
  by_cases c39 : xs (nI p).toNatClampNeg &&& (63 : Int32) = 39
  · rw [if_pos c39]
    obtain ⟨r, S1, S2, a, _, b, d⟩ := K_check hN2 h (xs (nI p + (1 : Int32)).toNatClampNeg)
    dsimp only at a b
    rw [if_pos i1, a, bnd2_some, if_pos i1, b, bnd2_some, if_pos (rfl)]
    exact ih S2 d
  rw [if_neg c39]
  clear c39
  by_cases c40 : xs (nI p).toNatClampNeg &&& (63 : Int32) = 40
  · rw [if_pos c40]
    obtain ⟨r, S1, S2, a, _, b, d⟩ := K_count h (xs (nI p + (1 : Int32)).toNatClampNeg)
    dsimp only at a b
    rw [if_pos i1, a, bnd2_some, if_pos i1, b, bnd2_some, if_pos (rfl)]
    exact ih S2 d
  rw [if_neg c40]
  clear c40
  by_cases c41 : xs (nI p).toNatClampNeg &&& (63 : Int32) = 41
  · rw [if_pos c41]
    obtain ⟨r, S1, S2, a, _, b, d⟩ := K_told h (xs (nI p + (1 : Int32)).toNatClampNeg)
    dsimp only at a b
    rw [if_pos i1, a, bnd2_some, if_pos i1, b, bnd2_some, if_pos (rfl)]
    exact ih S2 d
  rw [if_neg c41]
  clear c41
  exact ih S h
theorem law_end {N L : Nat} {xs : Nat → Int32} (hL : L ≤ 3072) {p n : Nat} {S : St} (hp : p ≤ 4000) (h : L < p + 6) : f_L_law_18 N L xs (n + 1) S (nI p) = some 1 := by
  have e : (Int32.ofNat L - 6 : Int32) < nI p := by
    rw [show Int32.ofNat L = nI L from rfl, k6, Int32.lt_iff_toInt_lt, pk_sub_toInt (by omega) (by omega), nI_toInt (by omega)]
    omega
  rw [f_L_law_18, if_pos e]
theorem law_loop {N L : Nat} {xs : Nat → Int32} (hN : 1000 < N) (hL : L ≤ 3072) : ∀ (k p n : Nat) (S : St), IV S → p ≤ 3072 → L < p + 6 + 6 * k → k < n → f_L_law_18 N L xs n S (nI p) = some 1 := by
  intro k
  induction k with
  | zero =>
    intro p n S h h0 h1 h2
    obtain ⟨n, rfl⟩ := fuel h2
    exact law_end hL (by omega) (by omega)
  | succ k ih =>
    intro p n S h h0 h1 h2
    obtain ⟨n, rfl⟩ := fuel h2
    by_cases c : p + 6 ≤ L
    · refine law_step hN hL h c (fun S' h' => ?_)
      rw [k6, nI_add]
      exact ih (p + 6) n S' h' (by omega) (by omega) (by omega)
    · exact law_end hL (by omega) (by omega)
/-- fuel for the loops of the methods -/
def NN : Nat := 100000000
theorem lawful {L : Nat} {xs : Nat → Int32} (hL : L ≤ 3072) : f_L_law_18 NN L xs 1000 S0 0 = some 1 := law_loop (by unfold NN; omega) hL 600 0 1000 S0 IV0 (by omega) (by omega) (by omega)

