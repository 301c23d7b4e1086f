/-! CALLS THAT READ -/
theorem K_personIs {N : Nat} (hN : 100 < N) {S : St} (h : IV S) (v1 v2 : Int32) : CC S (fun s => f_X11_personIs N s v1 v2) (fun s => f_X12_personIs N s v1 v2) := by
  have hT := h.1.1
  have hW := h.1.2.1
  have hM : S.1 173 = S.1 173 := rfl
  have hp6 := hW.np.2
  refine CC.gp h (fun _ => rfl) (fun _ => rfl) (fun p hp e => ?_)
  subst e
  refine CC.gw 6 h rfl (by decide) (fun _ => rfl) (fun _ => rfl) (fun x hx e => ?_)
  subst e
  have e : x = 0 ∨ x = 1 ∨ x = 2 ∨ x = 3 ∨ x = 4 ∨ x = 5 ∨ x = 6 := by omega
  rcases e with rfl | rfl | rfl | rfl | rfl | rfl | rfl
  · refine CC.same h (r := S.1 173 (20 + 4 * p)) ?_ ?_
    · (try dsimp only)
      rw [if_pos (show nI 0 = (0 : Int32) from rfl), show f_X5_at S 10 (nI p) = _ from cKind hT hW (Or.inl rfl) hp, bnd_some]
    · (try dsimp only)
      rw [if_pos (show nI 0 = (0 : Int32) from rfl), mKind hM (by omega), bnd_some]
  · refine CC.same h (r := S.1 173 (21 + 4 * p)) ?_ ?_
    · (try dsimp only)
      rw [if_neg (show ¬ nI 1 = (0 : Int32) by decide), if_pos (show nI 1 = (1 : Int32) from rfl), show f_X5_at S 12 (nI p) = _ from cPurse hT hW (Or.inl rfl) hp, bnd_some]
    · (try dsimp only)
      rw [if_neg (show ¬ nI 1 = (0 : Int32) by decide), if_pos (show nI 1 = (1 : Int32) from rfl), mPurse hM (by omega), bnd_some]
  · refine CC.same h (r := S.1 173 (22 + 4 * p) * 10 + S.1 173 (23 + 4 * p)) ?_ ?_
    · (try dsimp only)
      rw [if_neg (show ¬ nI 2 = (0 : Int32) by decide), if_neg (show ¬ nI 2 = (1 : Int32) by decide), if_pos (show nI 2 = (2 : Int32) from rfl), show f_X5_at S 14 (nI p) = _ from cChance hT hW (Or.inl rfl) hp, bnd_some, show f_X5_at S 16 (nI p) = _ from cOutOf hT hW (Or.inl rfl) hp, bnd_some]
    · (try dsimp only)
      rw [if_neg (show ¬ nI 2 = (0 : Int32) by decide), if_neg (show ¬ nI 2 = (1 : Int32) by decide), if_pos (show nI 2 = (2 : Int32) from rfl), mChance hM (by omega), bnd_some, mOutOf hM (by omega), bnd_some, Int32.mul_comm]
  · refine CC.same h (r := oSum (S.1 173) p (fun _ => 1)) ?_ ?_
    · (try dsimp only)
      rw [if_neg (show ¬ nI 3 = (0 : Int32) by decide), if_neg (show ¬ nI 3 = (1 : Int32) by decide), if_neg (show ¬ nI 3 = (2 : Int32) by decide), if_pos (show nI 3 = (3 : Int32) from rfl), show f_X8_ownedBy N S 18 (nI p) = _ from cOwned hN hT hW (Or.inl rfl) (by omega), bnd_some]
    · (try dsimp only)
      rw [if_neg (show ¬ nI 3 = (0 : Int32) by decide), if_neg (show ¬ nI 3 = (1 : Int32) by decide), if_neg (show ¬ nI 3 = (2 : Int32) by decide), if_neg (show ¬ nI 3 = (5 : Int32) by decide), mOwns hN hM hW (by omega), bnd_some]
      rfl
  · refine CC.same h (r := oSum (S.1 173) p (fun i => S.1 173 (47 + 4 * i))) ?_ ?_
    · (try dsimp only)
      rw [if_neg (show ¬ nI 4 = (0 : Int32) by decide), if_neg (show ¬ nI 4 = (1 : Int32) by decide), if_neg (show ¬ nI 4 = (2 : Int32) by decide), if_neg (show ¬ nI 4 = (3 : Int32) by decide), if_pos (show nI 4 = (4 : Int32) from rfl), show f_X8_keptBy N S 18 (nI p) = _ from cKeptBy hN hT hW (Or.inl rfl) (by omega), bnd_some]
    · (try dsimp only)
      rw [if_neg (show ¬ nI 4 = (0 : Int32) by decide), if_neg (show ¬ nI 4 = (1 : Int32) by decide), if_neg (show ¬ nI 4 = (2 : Int32) by decide), if_neg (show ¬ nI 4 = (5 : Int32) by decide), mOwns hN hM hW (by omega), bnd_some]
      rfl
  · refine CC.same h (r := lp (lackS (S.1 173) p) (w (S.1 173) 2) 0 0) ?_ ?_
    · (try dsimp only)
      rw [if_neg (show ¬ nI 5 = (0 : Int32) by decide), if_neg (show ¬ nI 5 = (1 : Int32) by decide), if_neg (show ¬ nI 5 = (2 : Int32) by decide), if_neg (show ¬ nI 5 = (3 : Int32) by decide), if_neg (show ¬ nI 5 = (4 : Int32) by decide), if_pos (show nI 5 = (5 : Int32) from rfl), show f_X9_lackedBy N S 8 (nI p) = _ from cLacks hN hT hW (Or.inl rfl) (by omega), bnd_some]
    · (try dsimp only)
      rw [if_neg (show ¬ nI 5 = (0 : Int32) by decide), if_neg (show ¬ nI 5 = (1 : Int32) by decide), if_neg (show ¬ nI 5 = (2 : Int32) by decide), if_pos (show nI 5 = (5 : Int32) from rfl), mLacks hN hM hW (by omega), bnd_some]
  · refine CC.same h (r := oSum (S.1 173) p (fun i => nI (val (S.1 173) p i))) ?_ ?_
    · (try dsimp only)
      rw [if_neg (show ¬ nI 6 = (0 : Int32) by decide), if_neg (show ¬ nI 6 = (1 : Int32) by decide), if_neg (show ¬ nI 6 = (2 : Int32) by decide), if_neg (show ¬ nI 6 = (3 : Int32) by decide), if_neg (show ¬ nI 6 = (4 : Int32) by decide), if_neg (show ¬ nI 6 = (5 : Int32) by decide), show f_X8_valueOwnedBy N S 18 (nI p) = _ from cValOwned hN hT hW (Or.inl rfl) (by omega), bnd_some]
    · (try dsimp only)
      rw [if_neg (show ¬ nI 6 = (0 : Int32) by decide), if_neg (show ¬ nI 6 = (1 : Int32) by decide), if_neg (show ¬ nI 6 = (2 : Int32) by decide), if_neg (show ¬ nI 6 = (5 : Int32) by decide), mOwns hN hM hW (by omega), bnd_some]
      rfl
theorem under_eq : ∀ k, k < 7 → ∀ j, j < 7 → ((nI k = nI j ∨ kAb k = nI j ∨ (0 ≤ kAb k ∧ kAb (kAb k).toNatClampNeg = nI j)) ↔ (nI j = 0 ∨ nI k = nI j ∨ (nI j = 1 ∧ (nI k = 2 ∨ nI k = 3 ∨ nI k = 6)))) := by decide +kernel
theorem cUnder {N : Nat} (hN : 100 < N) {S : St} : ∀ k, k < 7 → ∀ j, j < 7 → f_X1_isUnder N S (nI k) (nI j) = f_X12_isUnder S (nI k) (nI j) ∧ (f_X12_isUnder S (nI k) (nI j) = some 0 ∨ f_X12_isUnder S (nI k) (nI j) = some 1) := by
  obtain ⟨N, rfl⟩ : ∃ g, N = g + 4 := ⟨N - 4, by omega⟩
  have hz : ∀ j : Int32, f_X1_isUnder (N + 4) S (-1) j = if (-1 : Int32) = j then some 1 else some 0 := by
    intro j
    unfold f_X1_isUnder
    rw [f_X1_isUnder_4, if_neg (show ¬ (3 : Int32) ≤ 0 by decide)]
    by_cases c : (-1 : Int32) = j
    · rw [if_pos c, if_pos c]
    · rw [if_neg c, if_neg c, show f_X1_above S (-1) = some (-1) from rfl, bnd_some, f_X1_isUnder_4, if_neg (show ¬ (3 : Int32) ≤ 0 + 1 by decide), if_neg c, show f_X1_above S (-1) = some (-1) from rfl, bnd_some, f_X1_isUnder_4, if_neg (show ¬ (3 : Int32) ≤ 0 + 1 + 1 by decide), if_neg c, show f_X1_above S (-1) = some (-1) from rfl, bnd_some, f_X1_isUnder_4, if_pos (show (3 : Int32) ≤ 0 + 1 + 1 + 1 by decide)]
  intro k hk j hj
  have ek : k = 0 ∨ k = 1 ∨ k = 2 ∨ k = 3 ∨ k = 4 ∨ k = 5 ∨ k = 6 := by omega
  have ej : j = 0 ∨ j = 1 ∨ j = 2 ∨ j = 3 ∨ j = 4 ∨ j = 5 ∨ j = 6 := by omega
  rcases ek with rfl | rfl | rfl | rfl | rfl | rfl | rfl <;> rcases ej with rfl | rfl | rfl | rfl | rfl | rfl | rfl <;> refine ⟨rfl, ?_⟩ <;> first | exact Or.inl rfl | exact Or.inr rfl
theorem K_as {N : Nat} (hN : 100 < N) {S : St} (h : IV S) (v1 v2 : Int32) : CC S (fun s => f_X11_as N s v1 v2) (fun s => f_X12_as s v1 v2) := by
  have hT := h.1.1
  have hW := h.1.2.1
  have hM : S.1 173 = S.1 173 := rfl
  have hp6 := hW.np.2
  refine CC.gp h (fun _ => rfl) (fun _ => rfl) (fun p hp e => ?_)
  subst e
  refine CC.gk h (fun _ => rfl) (fun _ => rfl) (fun x hx e => ?_)
  subst e
  have hk := hW.ty (l_kind p (by omega)) (by decide)
  obtain ⟨u1, u2⟩ := cUnder hN (S := S) (w (S.1 173) (20 + 4 * p)) hk.2 x (by omega)
  have eM : (E1 S 5).1 173 = S.1 173 := E1_nek (by decide)
  rcases u2 with u2 | u2
  · refine CC.err h (k := 5) (by decide) (φ := fun a => a) ?_ ?_
    · (try dsimp only)
      rw [show f_X5_at S 10 (nI p) = _ from cKind hT hW (Or.inl rfl) hp, bnd_some, hk.1, u1, u2, bnd_some, if_pos rfl]
      rfl
    · (try dsimp only)
      rw [mKind eM (by omega), bnd_some, hk.1, show f_X12_isUnder (E1 S 5) (nI (w (S.1 173) (20 + 4 * p))) (nI x) = some 0 from u2, bnd_some, if_pos rfl]
      rfl
  · refine CC.same h (r := S.1 173 (21 + 4 * p)) ?_ ?_
    · (try dsimp only)
      rw [show f_X5_at S 10 (nI p) = _ from cKind hT hW (Or.inl rfl) hp, bnd_some, hk.1, u1, u2, bnd_some, if_neg (by decide), show f_X5_at S 12 (nI p) = _ from cPurse hT hW (Or.inl rfl) hp, bnd_some]
    · (try dsimp only)
      rw [mKind hM (by omega), bnd_some, hk.1, u2, bnd_some, if_neg (by decide), mPurse hM (by omega), bnd_some]
theorem K_thingIs {N : Nat} (hN : 100 < N) {S : St} (h : IV S) (v1 v2 : Int32) : CC S (fun s => f_X11_thingIs N s v1 v2) (fun s => f_X12_thingIs N s v1 v2) := by
  have hT := h.1.1
  have hW := h.1.2.1
  have hM : S.1 173 = S.1 173 := rfl
  have hi2 := hW.nt.2
  refine CC.gt h (fun _ => rfl) (fun _ => rfl) (fun i hi e => ?_)
  subst e
  have ho := own_lt hW hi
  refine CC.gw 5 h rfl (by decide) (fun _ => rfl) (fun _ => rfl) (fun x hx e => ?_)
  subst e
  have e : x = 0 ∨ x = 1 ∨ x = 2 ∨ x = 3 ∨ x = 4 ∨ x = 5 := by omega
  rcases e with rfl | rfl | rfl | rfl | rfl | rfl
  · refine CC.same h (r := S.1 173 (44 + 4 * i)) ?_ ?_
    · (try dsimp only)
      rw [if_pos (show nI 0 = (0 : Int32) from rfl), show f_X5_at S 19 (nI i) = _ from cOwn hT hW (Or.inl rfl) hi, bnd_some]
    · (try dsimp only)
      rw [if_neg (show ¬ (4 : Int32) ≤ nI 0 by decide), show f_X12_its S (nI i) (nI 0) = _ from mIts0 hM (by omega), bnd_some]
  · refine CC.same h (r := S.1 173 (45 + 4 * i)) ?_ ?_
    · (try dsimp only)
      rw [if_neg (show ¬ nI 1 = (0 : Int32) by decide), if_pos (show nI 1 = (1 : Int32) from rfl), show f_X5_at S 21 (nI i) = _ from cPrice hT hW (Or.inl rfl) hi, bnd_some]
    · (try dsimp only)
      rw [if_neg (show ¬ (4 : Int32) ≤ nI 1 by decide), show f_X12_its S (nI i) (nI 1) = _ from mPrice hM (by omega), bnd_some]
  · refine CC.same h (r := S.1 173 (46 + 4 * i)) ?_ ?_
    · (try dsimp only)
      rw [if_neg (show ¬ nI 2 = (0 : Int32) by decide), if_neg (show ¬ nI 2 = (1 : Int32) by decide), if_pos (show nI 2 = (2 : Int32) from rfl), show f_X5_at S 23 (nI i) = _ from cSound hT hW (Or.inl rfl) hi, bnd_some]
    · (try dsimp only)
      rw [if_neg (show ¬ (4 : Int32) ≤ nI 2 by decide), show f_X12_its S (nI i) (nI 2) = _ from mSound hM (by omega), bnd_some]
  · refine CC.same h (r := S.1 173 (47 + 4 * i)) ?_ ?_
    · (try dsimp only)
      rw [if_neg (show ¬ nI 3 = (0 : Int32) by decide), if_neg (show ¬ nI 3 = (1 : Int32) by decide), if_neg (show ¬ nI 3 = (2 : Int32) by decide), if_pos (show nI 3 = (3 : Int32) from rfl), show f_X5_at S 25 (nI i) = _ from cKept hT hW (Or.inl rfl) hi, bnd_some]
    · (try dsimp only)
      rw [if_neg (show ¬ (4 : Int32) ≤ nI 3 by decide), show f_X12_its S (nI i) (nI 3) = _ from mKept hM (by omega), bnd_some]
  · refine CC.same h (r := nI (val (S.1 173) (own (S.1 173) i) i)) ?_ ?_
    · (try dsimp only)
      rw [if_neg (show ¬ nI 4 = (0 : Int32) by decide), if_neg (show ¬ nI 4 = (1 : Int32) by decide), if_neg (show ¬ nI 4 = (2 : Int32) by decide), if_neg (show ¬ nI 4 = (3 : Int32) by decide), if_pos (show nI 4 = (4 : Int32) from rfl), show f_X5_at S 19 (nI i) = _ from cOwnV hT hW (Or.inl rfl) hi, bnd_some, show f_X8_valueOf S 18 (nI (own (S.1 173) i)) (nI i) = _ from cVal hT hW (Or.inl rfl) ho.2 hi, bnd_some]
    · (try dsimp only)
      rw [if_pos (show (4 : Int32) ≤ nI 4 by decide), if_pos (show nI 4 = (4 : Int32) from rfl), mOwnV hM hW (by omega), bnd_some, mVal hM hW ho.2 (by omega), bnd_some]
  · refine CC.same h (r := nI (fond (S.1 173) i)) ?_ ?_
    · (try dsimp only)
      rw [if_neg (show ¬ nI 5 = (0 : Int32) by decide), if_neg (show ¬ nI 5 = (1 : Int32) by decide), if_neg (show ¬ nI 5 = (2 : Int32) by decide), if_neg (show ¬ nI 5 = (3 : Int32) by decide), if_neg (show ¬ nI 5 = (4 : Int32) by decide), show f_X9_fondestOf N S 8 (nI i) = _ from (cFond hN hT hW (Or.inl rfl) hi).1, bnd_some]
    · (try dsimp only)
      rw [if_pos (show (4 : Int32) ≤ nI 5 by decide), if_neg (show ¬ nI 5 = (4 : Int32) by decide), mFond hN hM hW hi, bnd_some]
theorem K_town {N : Nat} (hN : 100 < N) {S : St} (h : IV S) (v1 : Int32) : CC S (fun s => f_X11_town N s v1) (fun s => f_X12_town N s v1) := by
  refine CC.gw 6 h rfl (by decide) (fun _ => rfl) (fun _ => rfl) (fun x hx e => ?_)
  subst e
  refine CC.same h (r := figM (S.1 173) (nI x)) ?_ ?_
  · (try dsimp only)
    rw [cFig hN h.1.1 h.1.2.1 (Or.inl rfl) hx, bnd_some]
  · (try dsimp only)
    rw [mFig hN (m := S.1 173) rfl h.1.1 h.1.2.1 (Or.inl rfl), bnd_some]
theorem K_firm {N : Nat} (hN : 100 < N) {S : St} (h : IV S) (v1 v2 : Int32) : CC S (fun s => f_X11_firm N s v1 v2) (fun s => f_X12_firm N s v1 v2) := by
  have hT := h.1.1
  have hW := h.1.2.1
  have hM : S.1 173 = S.1 173 := rfl
  have hp6 := hW.np.2
  refine CC.gp h (fun _ => rfl) (fun _ => rfl) (fun p hp e => ?_)
  subst e
  refine CC.gw 2 h rfl (by decide) (fun _ => rfl) (fun _ => rfl) (fun x hx e => ?_)
  subst e
  refine CC.same h (r := gE (nI x) (lp (gS (S.1 173) p) (w (S.1 173) 1) 0 (S.1 173 (21 + 4 * p), 0, 0, 0))) ?_ ?_
  · (try dsimp only)
    rw [cRound hN hT hW (Or.inl rfl) hp, bnd_some]
  · (try dsimp only)
    rw [mPurse hM (by omega), bnd_some, mRound hN hM hW hp]
theorem K_count {S : St} (h : IV S) (v1 : Int32) : CC S (fun s => f_X11_count s v1) (fun s => f_X12_count s v1) := by
  have hT := h.1.1
  have hW := h.1.2.1
  obtain ⟨n, hn, c1, c2, _⟩ := h.2.2.2.1
  by_cases c : v1 = 0 ∨ v1 = 1 ∨ v1 = 2 ∨ v1 = 3 ∨ v1 = 4 ∨ v1 = 5 ∨ v1 = 6 ∨ v1 = 7
  · rcases c with rfl | rfl | rfl | rfl | rfl | rfl | rfl | rfl
    · refine CC.same h (r := S.1 173 0) ?_ ?_
      · show bnd (f_X3_size S 9) (fun a => some (a, S)) = _
        rw [show f_X3_size S 9 = _ from cNp hT hW (Or.inl rfl), bnd_some, ← hW.np.1]
      · rfl
    · refine CC.same h (r := S.1 173 1) ?_ ?_
      · show bnd (f_X8_size S 18) (fun a => some (a, S)) = _
        rw [show f_X8_size S 18 = _ from cNt hT hW (Or.inl rfl), bnd_some, ← hW.nt.1]
      · rfl
    · refine CC.same h (r := S.1 173 2) ?_ ?_
      · show bnd (f_X5_size S 33) (fun a => some (a, S)) = _
        rw [show f_X5_size S 33 = _ from cNk hT hW (Or.inl rfl), bnd_some, ← hW.nk.1]
      · rfl
    · refine CC.same h (r := S.1 173 3) ?_ ?_
      · show some (S.1 8 11, S) = _
        rw [hT.2.2.2.1]
      · rfl
    · refine CC.same h (r := S.1 173 6) ?_ ?_
      · show bnd (f_X5_size S 51) (fun a => some (a, S)) = _
        rw [show f_X5_size S 51 = _ from cNb hT hW (Or.inl rfl), bnd_some, ← hW.nb.1]
      · rfl
    · refine CC.same h (r := S.1 173 7) ?_ ?_
      · show bnd (f_X5_size S 53) (fun a => some (a, S)) = _
        rw [show f_X5_size S 53 = _ from cNw hT hW (Or.inl rfl), bnd_some, ← hW.nw.1]
      · rfl
    · refine CC.same h (r := S.1 172 13) ?_ ?_
      · show bnd (f_X5_size S 155) (fun a => some (a, S)) = _
        unfold f_X5_size
        rw [bnd_some, c1, c2]
      · rfl
    · refine CC.same h (r := S.1 173 8) ?_ ?_
      · show some (S.1 8 14, S) = _
        rw [hT.2.2.2.2.2.2]
      · rfl
  · have d : ¬ v1 = 0 ∧ ¬ v1 = 1 ∧ ¬ v1 = 2 ∧ ¬ v1 = 3 ∧ ¬ v1 = 4 ∧ ¬ v1 = 5 ∧ ¬ v1 = 6 ∧ ¬ v1 = 7 := ⟨fun e => c (Or.inl e), fun e => c (Or.inr (Or.inl e)), fun e => c (Or.inr (Or.inr (Or.inl e))), fun e => c (Or.inr (Or.inr (Or.inr (Or.inl e)))), fun e => c (Or.inr (Or.inr (Or.inr (Or.inr (Or.inl e))))), fun e => c (Or.inr (Or.inr (Or.inr (Or.inr (Or.inr (Or.inl e)))))), fun e => c (Or.inr (Or.inr (Or.inr (Or.inr (Or.inr (Or.inr (Or.inl e))))))), fun e => c (Or.inr (Or.inr (Or.inr (Or.inr (Or.inr (Or.inr (Or.inr e))))))) ⟩
    obtain ⟨d0, d1, d2, d3, d4, d5, d6, d7⟩ := d
    refine CC.err h (k := 1) (by decide) (φ := fun a => a) ?_ ?_
    · show f_X11_count S v1 = _
      unfold f_X11_count
      rw [if_neg d0, if_neg d1, if_neg d2, if_neg d3, if_neg d4, if_neg d5, if_neg d6, if_neg d7]
      rfl
    · show f_X12_count (E1 S 1) v1 = _
      unfold f_X12_count
      rw [if_neg d0, if_neg d1, if_neg d2, if_neg d3, if_neg d4, if_neg d5, if_neg d6, if_neg d7]
      rfl
theorem K_body {S : St} (h : IV S) (v1 : Int32) : CC S (fun s => f_X11_body s v1) (fun s => f_X12_body s v1) := by
  obtain ⟨n, hn, c1, c2, c3⟩ := h.2.2.2.1
  have hr : RW S 155 n := ⟨c1, hn, by decide⟩
  have eM : (E1 S 2).1 172 13 = nI n := by rw [E1_nek (by decide)]; exact c2
  rcases wi_p (v := v1) (n := n) (by omega) with e | ⟨p, hp, rfl, e⟩
  · refine CC.err h (k := 2) (by decide) (φ := fun a => a) ?_ ?_
    · show f_X11_body S v1 = _
      unfold f_X11_body
      rw [p_size hr, bnd_some, cIn, bnd_some, e, if_pos rfl]
      rfl
    · show f_X12_body (E1 S 2) v1 = _
      unfold f_X12_body
      rw [eM, mIn, bnd_some, e, if_pos rfl]
      rfl
  · refine CC.same h (r := S.1 180 p) ?_ ?_
    · show f_X11_body S (nI p) = _
      unfold f_X11_body
      rw [p_size hr, bnd_some, cIn, bnd_some, e, if_neg (by decide), p_at hr hp, bnd_some, show 155 + 1 = 156 from rfl, c3 p hp]
    · show f_X12_body S (nI p) = _
      unfold f_X12_body
      rw [c2, mIn, bnd_some, e, if_neg (by decide), if_pos (inb_nI (by omega) (by decide)), nI_clamp (by omega)]
theorem K_told {S : St} (h : IV S) (v1 : Int32) : CC S (fun s => f_X11_told s v1) (fun s => f_X12_told s v1) := by
  have hr : RW S 170 7 := ⟨h.2.2.1.1, by decide, by decide⟩
  by_cases c : v1 < 1
  · refine CC.err h (k := 1) (by decide) (φ := fun a => a) ?_ ?_
    · show f_X11_told S v1 = _
      unfold f_X11_told
      rw [if_pos c]; rfl
    · show f_X12_told (E1 S 1) v1 = _
      unfold f_X12_told f_X12_in
      rw [if_pos c, bnd_some, if_pos rfl]; rfl
  · obtain ⟨j, hj, rfl⟩ := nI_of (x := v1) (fun e => c (by rw [Int32.lt_iff_toInt_lt] at e ⊢; rw [show (0 : Int32).toInt = 0 from by decide] at e; rw [show (1 : Int32).toInt = 1 from by decide]; omega))
    have hj1 : 1 ≤ j := by
      rw [k1, nI_ltI hj (by decide)] at c; omega
    by_cases d : j ≤ 6
    · refine CC.same h (r := S.1 176 j) ?_ ?_
      · show f_X11_told S (nI j) = _
        unfold f_X11_told
        rw [if_neg c, k6, if_pos (nI_le d (by decide)), p_at hr (by omega), bnd_some, show 170 + 1 = 171 from rfl, h.2.2.1.2 j (by omega)]
      · show f_X12_told S (nI j) = _
        unfold f_X12_told f_X12_in
        rw [if_neg c, k6, if_neg (nI_nlt d (by decide)), bnd_some, if_neg (by decide), if_pos (inb_nI (by omega) (by decide)), nI_clamp hj]
    · refine CC.err h (k := 1) (by decide) (φ := fun a => a) ?_ ?_
      · show f_X11_told S (nI j) = _
        unfold f_X11_told
        rw [if_neg c, k6, if_neg (nI_ge (by omega) hj)]; rfl
      · show f_X12_told (E1 S 1) (nI j) = _
        unfold f_X12_told f_X12_in
        rw [if_neg c, k6, if_pos (nI_lt (by omega) hj), bnd_some, if_pos rfl]; rfl
