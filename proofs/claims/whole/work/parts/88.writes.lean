/-! CALLS THAT WRITE ONE NUMBER -/
theorem CC.swp {S : St} {f g : St → Option (Int32 × St)} (h : IV S) {k i x q : Nat} {v : Int32} (hk : k < 15) (hi : i < siz (S.1 173) k) (hx : x = cel k i) (hq : q = 8 + off k) (h3 : x ≠ 3) (hw : WF (upd (S.1 173) x v)) (G1 : f S = bnd2 (f_X5_swap S q (nI i) v) (fun a s => some (a, s))) (G2 : ∀ s, s.1 173 = S.1 173 → g s = some (S.1 173 x, pt s 173 x v)) : CC S f g := by
  have hr := h.1.1.row h.1.2.1 (Or.inl rfl) hk
  have ho := off_lt k hk
  subst hx; subst hq
  refine ⟨S.1 173 (cel k i), pt S (8 + off k + 1) i v, pt (pt S (8 + off k + 1) i v) 173 (cel k i) v, ?_, fun q hq => pt_nek (by omega), ?_, ?_⟩
  · rw [G1, p_swap hr hi, bnd2_some, (h.1.1.1 k hk).2 i hi]; rfl
  · exact G2 _ (pt_nek (by omega))
  · have e : (pt (pt S (8 + off k + 1) i v) 173 (cel k i) v).1 173 = upd (S.1 173) (cel k i) v := by rw [pt_same, pt_nek (by omega)]
    refine h.town (fun q a b c d e f g j => by rw [pt_nek c, pt_nek (by omega)]) ⟨?_, ?_, ?_⟩
    · rw [e]
      exact (h.1.1.put h.1.2.1 hk hi rfl rfl v).fr (fun q a b => pt_nek (by omega))
    · rw [e]; exact hw
    · rw [e]; unfold YR; rw [upd_ne (Ne.symm h3)]; exact h.1.2.2
theorem mPut {s : St} {a : Int32} {x : Nat} {v : Int32} {r : Int32} (ha : a = nI x) (hx : x < 516) : (if inb a 516 = true then some (r, pt s 173 a.toNatClampNeg v) else none) = some (r, pt s 173 x v) := by
  subst ha
  rw [if_pos (inb_nI hx (by decide)), nI_clamp (by omega)]
theorem K_become {S : St} (h : IV S) (v1 v2 : Int32) : CC S (fun s => f_X11_become s v1 v2) (fun s => f_X12_become s v1 v2) := by
  have hW := h.1.2.1
  have hp6 := hW.np.2
  refine CC.gp h (fun _ => rfl) (fun _ => rfl) (fun p hp e => ?_)
  subst e
  refine CC.gk h (fun _ => rfl) (fun _ => rfl) (fun x hx e => ?_)
  subst e
  refine CC.swp h (k := 0) (i := p) (x := 20 + 4 * p) (q := 10) (by decide) hp rfl rfl (by omega) (hW.set rfl (by omega) (by omega) (by rw [l_kind p (by omega)]; omega) (fun j e => by omega) (fun j e => by omega) (fun j e => by omega)) rfl (fun s hs => ?_)
  (try dsimp only)
  rw [mKind hs (by omega), bnd_some]
  exact mPut (by rw [k20, k4, pk_mul, nI_add, k0, nI_add]; rfl) (by omega)
theorem K_purse {S : St} (h : IV S) (v1 v2 : Int32) : CC S (fun s => f_X11_purse s v1 v2) (fun s => f_X12_purse s v1 v2) := by
  have hW := h.1.2.1
  have hp6 := hW.np.2
  refine CC.gp h (fun _ => rfl) (fun _ => rfl) (fun p hp e => ?_)
  subst e
  refine CC.gw 999999 h rfl (by decide) (fun _ => rfl) (fun _ => rfl) (fun x hx e => ?_)
  subst e
  refine CC.swp h (k := 1) (i := p) (x := 21 + 4 * p) (q := 12) (by decide) hp rfl rfl (by omega) (hW.set rfl (by omega) (by omega) (by rw [l_purse p (by omega)]; omega) (fun j e => by omega) (fun j e => by omega) (fun j e => by omega)) rfl (fun s hs => ?_)
  (try dsimp only)
  rw [mPurse hs (by omega), bnd_some]
  exact mPut (by rw [k20, k4, pk_mul, nI_add, k1, nI_add]; congr 1; omega) (by omega)
theorem K_price {S : St} (h : IV S) (v1 v2 : Int32) : CC S (fun s => f_X11_price s v1 v2) (fun s => f_X12_price s v1 v2) := by
  have hW := h.1.2.1
  have hi2 := hW.nt.2
  refine CC.gt h (fun _ => rfl) (fun _ => rfl) (fun i hi e => ?_)
  subst e
  refine CC.gw 9999 h rfl (by decide) (fun _ => rfl) (fun _ => rfl) (fun x hx e => ?_)
  subst e
  refine CC.swp h (k := 5) (i := i) (x := 45 + 4 * i) (q := 21) (by decide) hi rfl rfl (by omega) (hW.set rfl (by omega) (by omega) (by rw [l_price i (by omega)]; omega) (fun j e => by omega) (fun j e => by omega) (fun j e => by omega)) rfl (fun s hs => ?_)
  (try dsimp only)
  rw [mPrice hs (by omega), bnd_some]
  exact mPut (by rw [k44, k4, pk_mul, nI_add, k1, nI_add]; congr 1; omega) (by omega)
theorem cSetW {S : St} {p i : Nat} {v : Int32} : f_X8_setWorth S 18 (nI p) (nI i) v = bnd2 (f_X5_swap S 27 (nI (12 * p + i)) v) (fun a s => some (a, s)) := by
  unfold f_X8_setWorth
  rw [k12, pk_mul, nI_add, Nat.mul_comm]
theorem K_worth {S : St} (h : IV S) (v1 v2 v3 : Int32) : CC S (fun s => f_X11_worth s v1 v2 v3) (fun s => f_X12_worth s v1 v2 v3) := by
  have hW := h.1.2.1
  have hp6 := hW.np.2
  have hi2 := hW.nt.2
  have hk7 := hW.nk.2
  refine CC.gp h (fun _ => rfl) (fun _ => rfl) (fun p hp e => ?_)
  subst e
  refine CC.gt h (fun _ => rfl) (fun _ => rfl) (fun i hi e => ?_)
  subst e
  refine CC.gw 9999 h rfl (by decide) (fun _ => rfl) (fun _ => rfl) (fun x hx e => ?_)
  subst e
  refine CC.swp h (k := 8) (i := 12 * p + i) (x := 110 + (12 * p + i)) (q := 27) (v := nI x) (by decide) (show 12 * p + i < 72 by omega) (by unfold cel; simp [bas, stp]) rfl (by omega) (hW.set rfl (by omega) (by omega) (by rw [l_worth _ (by omega)]; omega) (fun j e => by omega) (fun j e => by omega) (fun j e => by omega)) ?_ (fun s hs => ?_)
  · (try dsimp only)
    rw [cSetW]
    cases f_X5_swap S 27 (nI (12 * p + i)) (nI x) <;> rfl
  · (try dsimp only)
    have e : (110 : Int32) + 12 * nI p + nI i = nI (110 + (12 * p + i)) := by rw [k110, k12, pk_mul, nI_add, nI_add]; congr 1; omega
    rw [e, if_pos (inb_nI (by omega) (by decide)), if_pos (inb_nI (by omega) (by decide)), nI_clamp (by omega), hs]
theorem K_rule {S : St} (h : IV S) (v1 v2 : Int32) : CC S (fun s => f_X11_rule s v1 v2) (fun s => f_X12_rule s v1 v2) := by
  have hW := h.1.2.1
  refine CC.gw 4 h rfl (by decide) (fun _ => rfl) (fun _ => rfl) (fun x hx e => ?_)
  subst e
  obtain ⟨b, hb, c1, c2, c3⟩ : ∃ b, b < 1000 ∧ (∀ s, f_X11_highestOfRule s (nI x) = some (nI b)) ∧ (∀ s, f_X12_mostOf s (nI x) = some (nI b)) ∧ lim (10 + x) = b + 1 := by
    have e : x = 0 ∨ x = 1 ∨ x = 2 ∨ x = 3 ∨ x = 4 := by omega
    rcases e with rfl | rfl | rfl | rfl | rfl
    · exact ⟨99, by decide, fun _ => rfl, fun _ => rfl, rfl⟩
    · exact ⟨99, by decide, fun _ => rfl, fun _ => rfl, rfl⟩
    · exact ⟨2, by decide, fun _ => rfl, fun _ => rfl, rfl⟩
    · exact ⟨9, by decide, fun _ => rfl, fun _ => rfl, rfl⟩
    · exact ⟨999, by decide, fun _ => rfl, fun _ => rfl, rfl⟩
  refine CC.gw b h rfl (by omega) (φ := fun a => a) (v := v2) (F := fun S => bnd2 (f_X5_swap S 35 (nI x) v2) (fun a s => some (a, s))) (H := fun s => if inb (10 + nI x) 516 = true then (if inb (10 + nI x) 516 = true then some (s.1 173 (10 + nI x).toNatClampNeg, pt s 173 (10 + nI x).toNatClampNeg v2) else none) else none) (fun s => by (try dsimp only); rw [c1, bnd_some]; rfl) (fun s => by (try dsimp only); rw [c2, bnd_some]; rfl) (fun y hy e => ?_)
  subst e
  refine CC.swp h (k := 12) (i := x) (x := 10 + x) (q := 35) (by decide) (show x < 5 by omega) (by unfold cel; simp [bas, stp]) rfl (by omega) (hW.set rfl (by omega) (by omega) (by rw [c3]; omega) (fun j e => by omega) (fun j e => by omega) (fun j e => by omega)) rfl (fun s hs => ?_)
  (try dsimp only)
  have e : (10 : Int32) + nI x = nI (10 + x) := by rw [k10, nI_add]
  rw [e, if_pos (inb_nI (by omega) (by decide)), if_pos (inb_nI (by omega) (by decide)), nI_clamp (by omega), hs]
theorem K_seed {S : St} (h : IV S) (v1 : Int32) : CC S (fun s => f_X11_seed s v1) (fun s => f_X12_seed s v1) := by
  have e : (pt (pt S 8 14 v1) 173 8 v1).1 173 = upd (S.1 173) 8 v1 := by rw [pt_same, pt_nek (by decide)]
  refine ⟨S.1 173 8, pt S 8 14 v1, pt (pt S 8 14 v1) 173 8 v1, ?_, fun q hq => pt_nek (by omega), ?_, ?_⟩
  · show some (S.1 8 14, pt S 8 14 v1) = _
    rw [h.1.1.2.2.2.2.2.2]
  · show some ((pt S 8 14 v1).1 173 8, _) = _
    rw [pt_nek (by decide)]
  · refine h.town (fun q a b c d e f g j => by rw [pt_nek c, pt_nek (by omega)]) ⟨?_, ?_, ?_⟩
    · rw [e]
      exact (h.1.1.fld h.1.2.1 (j := 14) (x := 8) (Or.inr (Or.inr (Or.inr ⟨rfl, rfl⟩))) v1).fr (fun q a b => pt_nek (by omega))
    · rw [e]; exact h.1.2.1.setU (by decide) (Or.inl (by decide))
    · rw [e]; unfold YR; rw [upd_ne (by decide)]; exact h.1.2.2
theorem K_keep {N : Nat} (hN : 100 < N) {S : St} (h : IV S) (v1 v2 : Int32) : CC S (fun s => f_X11_keep N s v1 v2) (fun s => f_X12_keep N s v1 v2) := by
  have hT := h.1.1
  have hW := h.1.2.1
  have hM : S.1 173 = S.1 173 := rfl
  have hi2 := hW.nt.2
  have hp6 := hW.np.2
  refine CC.gt h (fun _ => rfl) (fun _ => rfl) (fun i hi e => ?_)
  subst e
  have ho := own_lt hW hi
  refine CC.gw 1 h rfl (by decide) (fun _ => rfl) (fun _ => rfl) (fun x hx e => ?_)
  subst e
  have hkp := hW.ty (l_kept i (by omega)) (by decide)
  have sw : ∀ f g : St → Option (Int32 × St), f S = f_X11_keep_98 N S (nI i) (nI x) → (∀ s, s.1 173 = S.1 173 → g s = f_X12_keep_65 N s (nI i) (nI x) (S.1 173 (47 + 4 * i))) → CC S f g := fun f g e1 e2 => by
    refine CC.swp h (k := 7) (i := i) (x := 47 + 4 * i) (q := 25) (v := nI x) (by decide) hi rfl rfl (by omega) (hW.set rfl (by omega) (by omega) (by rw [l_kept i (by omega)]; omega) (fun j e => by omega) (fun j e => by omega) (fun j e => by omega)) (e1.trans rfl) (fun s hs => ?_)
    rw [e2 s hs]
    unfold f_X12_keep_65
    exact mPut (by rw [k44, k4, pk_mul, nI_add, k3, nI_add]; congr 1; omega) (by omega)
  have e : x = 0 ∨ x = 1 := by omega
  rcases e with rfl | rfl
  · refine sw _ _ ?_ (fun s hs => ?_)
    · (try dsimp only)
      rw [if_neg (show ¬ nI 0 = (1 : Int32) by decide)]; rfl
    · (try dsimp only)
      rw [mKept hs (by omega), bnd_some, if_neg (show ¬ nI 0 = (1 : Int32) by decide)]
  · by_cases c0 : S.1 173 (47 + 4 * i) = 0
    · have g1 : ∀ s, s.1 173 = S.1 173 → f_X12_owns N s (nI (own (S.1 173) i)) 4 = some (oSum (S.1 173) (own (S.1 173) i) (fun i => S.1 173 (47 + 4 * i))) := fun s hs => mOwns hN hs hW ho.2 4
      have g2 : f_X8_keptBy N S 18 (nI (own (S.1 173) i)) = some (oSum (S.1 173) (own (S.1 173) i) (fun i => S.1 173 (47 + 4 * i))) := cKeptBy hN hT hW (Or.inl rfl) ho.2
      by_cases c1 : oSum (S.1 173) (own (S.1 173) i) (fun i => S.1 173 (47 + 4 * i)) < S.1 173 13
      · refine sw _ _ ?_ (fun s hs => ?_)
        · (try dsimp only)
          rw [if_pos (show nI 1 = (1 : Int32) from rfl), show f_X5_at S 25 (nI i) = _ from cKept hT hW (Or.inl rfl) hi, bnd_some, if_pos c0]
          unfold f_X11_keep_49
          rw [if_neg (show ¬ (1 : Int32) = 0 by decide), show f_X5_at S 19 (nI i) = _ from cOwnV hT hW (Or.inl rfl) hi, bnd_some, g2, bnd_some, show f_X5_at S 35 3 = _ from cRule hT hW (Or.inl rfl) (j := 3) (by decide), bnd_some, if_pos c1]
        · (try dsimp only)
          rw [mKept hs (by omega), bnd_some, if_pos (show nI 1 = (1 : Int32) from rfl), if_pos c0, mOwnV hs hW (by omega), bnd_some, g1 s hs, bnd_some, hs, if_pos c1]
      · refine CC.err h (k := 3) (φ := fun a => a) (by decide) ?_ ?_
        · (try dsimp only)
          rw [if_pos (show nI 1 = (1 : Int32) from rfl), show f_X5_at S 25 (nI i) = _ from cKept hT hW (Or.inl rfl) hi, bnd_some, if_pos c0]
          unfold f_X11_keep_49
          rw [if_neg (show ¬ (1 : Int32) = 0 by decide), show f_X5_at S 19 (nI i) = _ from cOwnV hT hW (Or.inl rfl) hi, bnd_some, g2, bnd_some, show f_X5_at S 35 3 = _ from cRule hT hW (Or.inl rfl) (j := 3) (by decide), bnd_some, if_neg c1]
          rfl
        · have hs : (E1 S 3).1 173 = S.1 173 := E1_nek (by decide)
          (try dsimp only)
          rw [mKept hs (by omega), bnd_some, if_pos (show nI 1 = (1 : Int32) from rfl), if_pos c0, mOwnV hs hW (by omega), bnd_some, g1 _ hs, bnd_some, hs, if_neg c1]
          rfl
    · refine sw _ _ ?_ (fun s hs => ?_)
      · (try dsimp only)
        rw [if_pos (show nI 1 = (1 : Int32) from rfl), show f_X5_at S 25 (nI i) = _ from cKept hT hW (Or.inl rfl) hi, bnd_some, if_neg c0]
        rfl
      · (try dsimp only)
        rw [mKept hs (by omega), bnd_some, if_pos (show nI 1 = (1 : Int32) from rfl), if_neg c0]
