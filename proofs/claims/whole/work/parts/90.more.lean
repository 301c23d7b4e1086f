/-! PEOPLE, THINGS, PAIRS: one more -/
def ad (S : St) (r n : Nat) (v : Int32) : St := pt (pt S (r + 1) n v) r 1 (nI (n + 1))
theorem ad_nek {S : St} {r n q : Nat} {v : Int32} (h1 : q ≠ r) (h2 : q ≠ r + 1) : (ad S r n v).1 q = S.1 q := by unfold ad; rw [pt_nek h1, pt_nek h2]
theorem ad_size {S : St} {r n : Nat} {v : Int32} : (ad S r n v).1 r 1 = nI (n + 1) := by unfold ad; rw [pt_at]
theorem ad_new {S : St} {r n : Nat} {v : Int32} : (ad S r n v).1 (r + 1) n = v := by unfold ad; rw [pt_nek (by omega), pt_at]
theorem ad_old {S : St} {r n i : Nat} {v : Int32} (h : i ≠ n) : (ad S r n v).1 (r + 1) i = S.1 (r + 1) i := by unfold ad; rw [pt_nek (by omega), pt_nej h]
theorem p_ad {S : St} {r n : Nat} {v : Int32} (h : S.1 r 1 = nI n) (hn : n < ln (r + 1)) (hl : ln (r + 1) < 1000) : f_X5_add S r v = some (ad S r n v) := p_add ⟨h, Nat.le_of_lt hn, hl⟩ hn
theorem adz {S S' S0 : St} {r n : Nat} {v : Int32} (e1 : S'.1 r = (ad S r n v).1 r) (e2 : S'.1 (r + 1) = (ad S r n v).1 (r + 1)) (e0 : S.1 (r + 1) = S0.1 (r + 1)) : S'.1 r 1 = nI (n + 1) ∧ S'.1 (r + 1) n = v ∧ ∀ i, i < n → S'.1 (r + 1) i = S0.1 (r + 1) i :=
  ⟨by rw [e1, ad_size], by rw [e2, ad_new], fun i hi => by rw [e2, ad_old (by omega), e0]⟩
theorem cJoin {S : St} {n : Nat} {a b v p q : Int32} (h0 : S.1 10 1 = nI n) (h1 : S.1 12 1 = nI n) (h2 : S.1 14 1 = nI n) (h3 : S.1 16 1 = nI n) (hn : n < 6) (ep : v / 10 = p) (eq : v - v / 10 * 10 = q) : f_X3_join S 9 a b v = some (nI n, ad (ad (ad (ad S 10 n a) 12 n b) 14 n p) 16 n q) := by
  unfold f_X3_join
  rw [show (9 : Nat) + 1 = 10 from rfl, show (9 : Nat) + 3 = 12 from rfl, show (9 : Nat) + 5 = 14 from rfl, show (9 : Nat) + 7 = 16 from rfl, eq, ep,
    p_ad h0 hn (by decide), bnd_some, p_ad (r := 12) (n := n) (by rw [ad_nek (by decide) (by decide)]; exact h1) hn (by decide), bnd_some, p_ad (r := 14) (n := n) (by rw [ad_nek (by decide) (by decide), ad_nek (by decide) (by decide)]; exact h2) hn (by decide), bnd_some, p_ad (r := 16) (n := n) (by rw [ad_nek (by decide) (by decide), ad_nek (by decide) (by decide), ad_nek (by decide) (by decide)]; exact h3) hn (by decide), bnd_some]
  unfold f_X5_size
  rw [bnd_some, ad_nek (by decide) (by decide), ad_nek (by decide) (by decide), ad_nek (by decide) (by decide), ad_size, nI_pred]
theorem cCome {S : St} {n : Nat} {a b : Int32} (h0 : S.1 19 1 = nI n) (h1 : S.1 21 1 = nI n) (h2 : S.1 23 1 = nI n) (h3 : S.1 25 1 = nI n) (hn : n < 12) : f_X8_come S 18 a b = some (nI n, ad (ad (ad (ad S 19 n a) 21 n b) 23 n 100) 25 n 0) := by
  unfold f_X8_come
  rw [show (18 : Nat) + 1 = 19 from rfl, show (18 : Nat) + 3 = 21 from rfl, show (18 : Nat) + 5 = 23 from rfl, show (18 : Nat) + 7 = 25 from rfl,
    p_ad h0 hn (by decide), bnd_some, p_ad (r := 21) (n := n) (by rw [ad_nek (by decide) (by decide)]; exact h1) hn (by decide), bnd_some, p_ad (r := 23) (n := n) (by rw [ad_nek (by decide) (by decide), ad_nek (by decide) (by decide)]; exact h2) hn (by decide), bnd_some, p_ad (r := 25) (n := n) (by rw [ad_nek (by decide) (by decide), ad_nek (by decide) (by decide), ad_nek (by decide) (by decide)]; exact h3) hn (by decide), bnd_some]
  unfold f_X5_size
  rw [bnd_some, ad_nek (by decide) (by decide), ad_nek (by decide) (by decide), ad_nek (by decide) (by decide), ad_size, nI_pred]
theorem cPair {S : St} {n : Nat} {a b c : Int32} (h0 : S.1 29 1 = nI n) (h1 : S.1 31 1 = nI n) (h2 : S.1 33 1 = nI n) (hn : n < 6) : f_X9_addPair S 8 a b c = some (nI n, ad (ad (ad S 29 n a) 31 n b) 33 n c) := by
  unfold f_X9_addPair
  rw [show (8 : Nat) + 21 = 29 from rfl, show (8 : Nat) + 23 = 31 from rfl, show (8 : Nat) + 25 = 33 from rfl,
    p_ad h0 hn (by decide), bnd_some, p_ad (r := 31) (n := n) (by rw [ad_nek (by decide) (by decide)]; exact h1) hn (by decide), bnd_some, p_ad (r := 33) (n := n) (by rw [ad_nek (by decide) (by decide), ad_nek (by decide) (by decide)]; exact h2) hn (by decide), bnd_some]
  unfold f_X5_size
  rw [bnd_some, ad_size, nI_pred]
theorem ct0 : ∀ k, k < 15 → cntx k = 0 → k = 0 ∨ k = 1 ∨ k = 2 ∨ k = 3 := by decide
theorem ct1 : ∀ k, k < 15 → cntx k = 1 → k = 4 ∨ k = 5 ∨ k = 6 ∨ k = 7 := by decide
theorem ct2 : ∀ k, k < 15 → cntx k = 2 → k = 9 ∨ k = 10 ∨ k = 11 := by decide
theorem ct6 : ∀ k, k < 15 → cntx k = 6 → k = 13 := by decide
theorem ct7 : ∀ k, k < 15 → cntx k = 7 → k = 14 := by decide
theorem K_person {S : St} (h : IV S) (v1 v2 v3 : Int32) : CC S (fun s => f_X11_person s v1 v2 v3) (fun s => f_X12_person s v1 v2 v3) := by
  have hT := h.1.1
  have hW := h.1.2.1
  have hp6 := hW.np.2
  refine CC.gk h (fun _ => rfl) (fun _ => rfl) (fun k hk e => ?_)
  subst e
  refine CC.gw 999999 h rfl (by decide) (fun _ => rfl) (fun _ => rfl) (fun y hy e => ?_)
  subst e
  rcases cChanceOk (S := S) (v := v3) with ⟨c1, c2⟩ | ⟨p, q, hpq, hq1, hq9, e1, e2, c1, c2⟩
  · refine CC.err h (k := 1) (φ := fun a => a) (by decide) ?_ ?_
    · (try dsimp only)
      rw [c1, bnd_some, if_pos rfl]; rfl
    · (try dsimp only)
      rw [c2, bnd_some, if_pos rfl]; rfl
  · by_cases c : w (S.1 173) 0 = 6
    · refine CC.err h (k := 4) (φ := fun a => a) (by decide) ?_ ?_
      · (try dsimp only)
        rw [c1, bnd_some, if_neg (by decide), show f_X3_size S 9 = _ from cNp hT hW (Or.inl rfl), bnd_some, c, if_neg (show ¬ nI 6 < (6 : Int32) by decide)]; rfl
      · (try dsimp only)
        rw [c2, bnd_some, if_neg (by decide), E1_nek (by decide), hW.np.1, c, if_pos (show nI 6 = (6 : Int32) from rfl)]; rfl
    · obtain ⟨n, en⟩ : ∃ n, n = w (S.1 173) 0 := ⟨_, rfl⟩
      have hn : n < 6 := by omega
      have g0 : S.1 10 1 = nI n := by rw [en]; exact (hT.1 0 (by decide)).1
      have g1 : S.1 12 1 = nI n := by rw [en]; exact (hT.1 1 (by decide)).1
      have g2 : S.1 14 1 = nI n := by rw [en]; exact (hT.1 2 (by decide)).1
      have g3 : S.1 16 1 = nI n := by rw [en]; exact (hT.1 3 (by decide)).1
      have hj := cJoin (S := S) (a := nI k) (b := nI y) g0 g1 g2 g3 hn e1 e2
      generalize eS : ad (ad (ad (ad S 10 n (nI k)) 12 n (nI y)) 14 n (nI p)) 16 n (nI q) = S1 at hj
      have fS : ∀ x, x ≠ 10 → x ≠ 11 → x ≠ 12 → x ≠ 13 → x ≠ 14 → x ≠ 15 → x ≠ 16 → x ≠ 17 → S1.1 x = S.1 x := fun x a b c d e f g i => by rw [← eS, ad_nek g i, ad_nek e f, ad_nek c d, ad_nek a b]
      have z0 : S1.1 10 1 = nI (n + 1) ∧ S1.1 11 n = nI k ∧ ∀ i, i < n → S1.1 11 i = S.1 11 i := adz (S := S) (r := 10) (by rw [← eS, ad_nek (by decide) (by decide), ad_nek (by decide) (by decide), ad_nek (by decide) (by decide)]) (by rw [← eS, ad_nek (by decide) (by decide), ad_nek (by decide) (by decide), ad_nek (by decide) (by decide)]) rfl
      have z1 : S1.1 12 1 = nI (n + 1) ∧ S1.1 13 n = nI y ∧ ∀ i, i < n → S1.1 13 i = S.1 13 i := adz (S := ad S 10 n (nI k)) (r := 12) (by rw [← eS, ad_nek (by decide) (by decide), ad_nek (by decide) (by decide)]) (by rw [← eS, ad_nek (by decide) (by decide), ad_nek (by decide) (by decide)]) (ad_nek (by decide) (by decide))
      have z2 : S1.1 14 1 = nI (n + 1) ∧ S1.1 15 n = nI p ∧ ∀ i, i < n → S1.1 15 i = S.1 15 i := adz (S := ad (ad S 10 n (nI k)) 12 n (nI y)) (r := 14) (by rw [← eS, ad_nek (by decide) (by decide)]) (by rw [← eS, ad_nek (by decide) (by decide)]) (by rw [ad_nek (by decide) (by decide), ad_nek (by decide) (by decide)])
      have z3 : S1.1 16 1 = nI (n + 1) ∧ S1.1 17 n = nI q ∧ ∀ i, i < n → S1.1 17 i = S.1 17 i := adz (S := ad (ad (ad S 10 n (nI k)) 12 n (nI y)) 14 n (nI p)) (r := 16) (by rw [← eS]) (by rw [← eS]) (by rw [ad_nek (by decide) (by decide), ad_nek (by decide) (by decide), ad_nek (by decide) (by decide)])
      have hs : S1.1 173 = S.1 173 := fS 173 (by decide) (by decide) (by decide) (by decide) (by decide) (by decide) (by decide) (by decide)
      have hB : (pt (pt (pt (pt S1 173 (20 + 4 * n) (nI k)) 173 (21 + 4 * n) (nI y)) 173 (22 + 4 * n) (nI p)) 173 (23 + 4 * n) (nI q)).1 173 = upd (upd (upd (upd (S.1 173) (20 + 4 * n) (nI k)) (21 + 4 * n) (nI y)) (22 + 4 * n) (nI p)) (23 + 4 * n) (nI q) := by rw [pt_same, pt_same, pt_same, pt_same, hs]
      have hB0 : (pt (pt (pt (pt S1 173 (20 + 4 * n) (nI k)) 173 (21 + 4 * n) (nI y)) 173 (22 + 4 * n) (nI p)) 173 (23 + 4 * n) (nI q)).1 173 0 = nI n := by rw [hB, upd_ne (by omega), upd_ne (by omega), upd_ne (by omega), upd_ne (by omega), hW.np.1, en]
      generalize eB : pt (pt (pt (pt S1 173 (20 + 4 * n) (nI k)) 173 (21 + 4 * n) (nI y)) 173 (22 + 4 * n) (nI p)) 173 (23 + 4 * n) (nI q) = B at hB hB0
      have fB : ∀ x, x ≠ 173 → B.1 x = S1.1 x := fun x hx => by rw [← eB, pt_nek hx, pt_nek hx, pt_nek hx, pt_nek hx]
      have hW1 : WF (upd (S.1 173) (20 + 4 * n) (nI k)) := hW.set rfl (by omega) (by omega) (by rw [l_kind n hn]; omega) (fun j e => by omega) (fun j e => by omega) (fun j e => by omega)
      have hW2 : WF (upd (upd (S.1 173) (20 + 4 * n) (nI k)) (21 + 4 * n) (nI y)) := hW1.set rfl (by omega) (by omega) (by rw [l_purse n hn]; omega) (fun j e => by omega) (fun j e => by omega) (fun j e => by omega)
      have hW3 : WF (upd (upd (upd (S.1 173) (20 + 4 * n) (nI k)) (21 + 4 * n) (nI y)) (22 + 4 * n) (nI p)) := hW2.set rfl (by omega) (by omega) (by rw [l_chance n hn]; omega) (fun j e => by omega) (fun j e => by omega) (fun j e => by omega)
      have hW4 : WF (upd (upd (upd (upd (S.1 173) (20 + 4 * n) (nI k)) (21 + 4 * n) (nI y)) (22 + 4 * n) (nI p)) (23 + 4 * n) (nI q)) := hW3.set rfl (by omega) (by omega) (by rw [l_outof n hn]; omega) (fun j e => by omega) (fun j e => by omega) (fun j e => by omega)
      have en4 : n = w (upd (upd (upd (upd (S.1 173) (20 + 4 * n) (nI k)) (21 + 4 * n) (nI y)) (22 + 4 * n) (nI p)) (23 + 4 * n) (nI q)) 0 := by rw [upd_w_ne (by omega), upd_w_ne (by omega), upd_w_ne (by omega), upd_w_ne (by omega)]; exact en
      have hW5 := hW4.cnt (c := 0) (n := n) (Or.inl rfl) en4 (show n + 1 < 7 by omega) (fun _ => by rw [w_upd_same (by omega)]; omega) (fun e => absurd e (by decide)) (fun e => absurd e (by decide))
      have hm' : (pt B 173 0 (nI (n + 1))).1 173 = upd (upd (upd (upd (upd (S.1 173) (20 + 4 * n) (nI k)) (21 + 4 * n) (nI y)) (22 + 4 * n) (nI p)) (23 + 4 * n) (nI q)) 0 (nI (n + 1)) := by rw [pt_same, hB]
      refine ⟨nI n, S1, pt B 173 0 (nI (n + 1)), ?_, fun x hx => fS x (by omega) (by omega) (by omega) (by omega) (by omega) (by omega) (by omega) (by omega), ?_, h.grow (S1 := S1) (fun x hx => fS x (by omega) (by omega) (by omega) (by omega) (by omega) (by omega) (by omega) (by omega)) (fun x hx => by rw [pt_nek hx, fB x hx]) ?_ ?_ ?_⟩
      · (try dsimp only)
        rw [c1, bnd_some, if_neg (by decide), show f_X3_size S 9 = _ from cNp hT hW (Or.inl rfl), bnd_some, ← en, k6, if_pos (nI_lt hn (by decide)), hj, bnd2_some]
      · (try dsimp only)
        have a0 : (20 : Int32) + 4 * nI n + 0 = nI (20 + 4 * n) := by rw [k20, k4, pk_mul, nI_add, k0, nI_add]; rfl
        have a1 : (20 : Int32) + 4 * nI n + 1 = nI (21 + 4 * n) := by rw [k20, k4, pk_mul, nI_add, k1, nI_add]; congr 1; omega
        have a2 : (20 : Int32) + 4 * nI n + 2 = nI (22 + 4 * n) := by rw [k20, k4, pk_mul, nI_add, k2, nI_add]; congr 1; omega
        have a3 : (20 : Int32) + 4 * nI n + 3 = nI (23 + 4 * n) := by rw [k20, k4, pk_mul, nI_add, k3, nI_add]; congr 1; omega
        have e0 : S1.1 173 0 = nI n := by rw [hs, hW.np.1, en]
        rw [c2, bnd_some, if_neg (by decide), e0, if_neg (show ¬ nI n = (6 : Int32) from fun g => by have := (nI_eq (by omega) (by decide)).mp (show nI n = nI 6 from g); omega), a0, a1, a2, a3, if_pos (inb_nI (by omega) (by decide)), if_pos (inb_nI (by omega) (by decide)), if_pos (inb_nI (by omega) (by decide)), if_pos (inb_nI (by omega) (by decide)), nI_clamp (n := 20 + 4 * n) (by omega), nI_clamp (n := 21 + 4 * n) (by omega), nI_clamp (n := 22 + 4 * n) (by omega), nI_clamp (n := 23 + 4 * n) (by omega), e2, e1, eB, hB0, nI_1, pt_at, nI_pred]
      · rw [hm']
        refine hT.grow hW (c := 0) (n := n) (Or.inl rfl) en (fun j hj e => ?_) upd_same (fun x hx h0 hk => ?_) (fun j hj e => ?_) (fun x hx1 hx2 hk => ?_)
        · rcases ct0 j hj e with rfl | rfl | rfl | rfl <;> exact hn
        · have b0 : x ≠ 20 + 4 * n := hk 0 (by decide) rfl
          have b1 : x ≠ 21 + 4 * n := hk 1 (by decide) rfl
          have b2 : x ≠ 22 + 4 * n := hk 2 (by decide) rfl
          have b3 : x ≠ 23 + 4 * n := hk 3 (by decide) rfl
          rw [upd_ne h0, upd_ne b3, upd_ne b2, upd_ne b1, upd_ne b0]
        · rcases ct0 j hj e with rfl | rfl | rfl | rfl
          · refine ⟨z0.1, z0.2.1.trans ?_, z0.2.2⟩
            rw [show cel 0 n = 20 + 4 * n from rfl, upd_ne (by omega), upd_ne (by omega), upd_ne (by omega), upd_ne (by omega), upd_same]
          · refine ⟨z1.1, z1.2.1.trans ?_, z1.2.2⟩
            rw [show cel 1 n = 21 + 4 * n from rfl, upd_ne (by omega), upd_ne (by omega), upd_ne (by omega), upd_same]
          · refine ⟨z2.1, z2.2.1.trans ?_, z2.2.2⟩
            rw [show cel 2 n = 22 + 4 * n from rfl, upd_ne (by omega), upd_ne (by omega), upd_same]
          · refine ⟨z3.1, z3.2.1.trans ?_, z3.2.2⟩
            rw [show cel 3 n = 23 + 4 * n from rfl, upd_ne (by omega), upd_same]
        · have b0 : x ≠ 10 ∧ x ≠ 11 := hk 0 (by decide) rfl
          have b1 : x ≠ 12 ∧ x ≠ 13 := hk 1 (by decide) rfl
          have b2 : x ≠ 14 ∧ x ≠ 15 := hk 2 (by decide) rfl
          have b3 : x ≠ 16 ∧ x ≠ 17 := hk 3 (by decide) rfl
          exact fS x b0.1 b0.2 b1.1 b1.2 b2.1 b2.2 b3.1 b3.2
      · rw [hm']; exact hW5
      · rw [hm', upd_ne (by omega), upd_ne (by omega), upd_ne (by omega), upd_ne (by omega), upd_ne (by omega)]
theorem K_thing {S : St} (h : IV S) (v1 v2 : Int32) : CC S (fun s => f_X11_thing s v1 v2) (fun s => f_X12_thing s v1 v2) := by
  have hT := h.1.1
  have hW := h.1.2.1
  have hp6 := hW.np.2
  have hi6 := hW.nt.2
  refine CC.gp h (fun _ => rfl) (fun _ => rfl) (fun k hk e => ?_)
  subst e
  refine CC.gw 9999 h rfl (by decide) (fun _ => rfl) (fun _ => rfl) (fun y hy e => ?_)
  subst e
  by_cases c : w (S.1 173) 1 = 12
  · refine CC.err h (k := 4) (φ := fun a => a) (by decide) ?_ ?_
    · (try dsimp only)
      rw [show f_X8_size S 18 = _ from cNt hT hW (Or.inl rfl), bnd_some, c, if_neg (show ¬ nI 12 < (12 : Int32) by decide)]; rfl
    · (try dsimp only)
      rw [E1_nek (by decide), hW.nt.1, c, if_pos (show nI 12 = (12 : Int32) from rfl)]; rfl
  · obtain ⟨n, en⟩ : ∃ n, n = w (S.1 173) 1 := ⟨_, rfl⟩
    have hn : n < 12 := by omega
    have g0 : S.1 19 1 = nI n := by rw [en]; exact (hT.1 4 (by decide)).1
    have g1 : S.1 21 1 = nI n := by rw [en]; exact (hT.1 5 (by decide)).1
    have g2 : S.1 23 1 = nI n := by rw [en]; exact (hT.1 6 (by decide)).1
    have g3 : S.1 25 1 = nI n := by rw [en]; exact (hT.1 7 (by decide)).1
    have hj := cCome (S := S) (a := nI k) (b := nI y) g0 g1 g2 g3 hn
    generalize eS : ad (ad (ad (ad S 19 n (nI k)) 21 n (nI y)) 23 n 100) 25 n 0 = S1 at hj
    have fS : ∀ x, x ≠ 19 → x ≠ 20 → x ≠ 21 → x ≠ 22 → x ≠ 23 → x ≠ 24 → x ≠ 25 → x ≠ 26 → S1.1 x = S.1 x := fun x a b c d e f g i => by rw [← eS, ad_nek g i, ad_nek e f, ad_nek c d, ad_nek a b]
    have z0 : S1.1 19 1 = nI (n + 1) ∧ S1.1 20 n = nI k ∧ ∀ i, i < n → S1.1 20 i = S.1 20 i := adz (S := S) (r := 19) (by rw [← eS, ad_nek (by decide) (by decide), ad_nek (by decide) (by decide), ad_nek (by decide) (by decide)]) (by rw [← eS, ad_nek (by decide) (by decide), ad_nek (by decide) (by decide), ad_nek (by decide) (by decide)]) rfl
    have z1 : S1.1 21 1 = nI (n + 1) ∧ S1.1 22 n = nI y ∧ ∀ i, i < n → S1.1 22 i = S.1 22 i := adz (S := ad S 19 n (nI k)) (r := 21) (by rw [← eS, ad_nek (by decide) (by decide), ad_nek (by decide) (by decide)]) (by rw [← eS, ad_nek (by decide) (by decide), ad_nek (by decide) (by decide)]) (ad_nek (by decide) (by decide))
    have z2 : S1.1 23 1 = nI (n + 1) ∧ S1.1 24 n = 100 ∧ ∀ i, i < n → S1.1 24 i = S.1 24 i := adz (S := ad (ad S 19 n (nI k)) 21 n (nI y)) (r := 23) (by rw [← eS, ad_nek (by decide) (by decide)]) (by rw [← eS, ad_nek (by decide) (by decide)]) (by rw [ad_nek (by decide) (by decide), ad_nek (by decide) (by decide)])
    have z3 : S1.1 25 1 = nI (n + 1) ∧ S1.1 26 n = 0 ∧ ∀ i, i < n → S1.1 26 i = S.1 26 i := adz (S := ad (ad (ad S 19 n (nI k)) 21 n (nI y)) 23 n 100) (r := 25) (by rw [← eS]) (by rw [← eS]) (by rw [ad_nek (by decide) (by decide), ad_nek (by decide) (by decide), ad_nek (by decide) (by decide)])
    have hs : S1.1 173 = S.1 173 := fS 173 (by decide) (by decide) (by decide) (by decide) (by decide) (by decide) (by decide) (by decide)
    have hB : (pt (pt (pt (pt S1 173 (44 + 4 * n) (nI k)) 173 (45 + 4 * n) (nI y)) 173 (46 + 4 * n) 100) 173 (47 + 4 * n) 0).1 173 = upd (upd (upd (upd (S.1 173) (44 + 4 * n) (nI k)) (45 + 4 * n) (nI y)) (46 + 4 * n) 100) (47 + 4 * n) 0 := by rw [pt_same, pt_same, pt_same, pt_same, hs]
    have hB0 : (pt (pt (pt (pt S1 173 (44 + 4 * n) (nI k)) 173 (45 + 4 * n) (nI y)) 173 (46 + 4 * n) 100) 173 (47 + 4 * n) 0).1 173 1 = nI n := by rw [hB, upd_ne (by omega), upd_ne (by omega), upd_ne (by omega), upd_ne (by omega), hW.nt.1, en]
    generalize eB : pt (pt (pt (pt S1 173 (44 + 4 * n) (nI k)) 173 (45 + 4 * n) (nI y)) 173 (46 + 4 * n) 100) 173 (47 + 4 * n) 0 = B at hB hB0
    have fB : ∀ x, x ≠ 173 → B.1 x = S1.1 x := fun x hx => by rw [← eB, pt_nek hx, pt_nek hx, pt_nek hx, pt_nek hx]
    have hW1 : WF (upd (S.1 173) (44 + 4 * n) (nI k)) := hW.set rfl (by omega) (by omega) (by rw [l_own n hn]; omega) (fun j e => by omega) (fun j e => by omega) (fun j e => by omega)
    have hW2 : WF (upd (upd (S.1 173) (44 + 4 * n) (nI k)) (45 + 4 * n) (nI y)) := hW1.set rfl (by omega) (by omega) (by rw [l_price n hn]; omega) (fun j e => by omega) (fun j e => by omega) (fun j e => by omega)
    have hW3 : WF (upd (upd (upd (S.1 173) (44 + 4 * n) (nI k)) (45 + 4 * n) (nI y)) (46 + 4 * n) 100) := hW2.set (n := 100) rfl (by omega) (by omega) (by rw [l_sound n hn]; omega) (fun j e => by omega) (fun j e => by omega) (fun j e => by omega)
    have hW4 : WF (upd (upd (upd (upd (S.1 173) (44 + 4 * n) (nI k)) (45 + 4 * n) (nI y)) (46 + 4 * n) 100) (47 + 4 * n) 0) := hW3.set (n := 0) rfl (by omega) (by omega) (by rw [l_kept n hn]; omega) (fun j e => by have := hW3.np.2; omega) (fun j e => by omega) (fun j e => by omega)
    have en4 : n = w (upd (upd (upd (upd (S.1 173) (44 + 4 * n) (nI k)) (45 + 4 * n) (nI y)) (46 + 4 * n) 100) (47 + 4 * n) 0) 1 := by rw [upd_w_ne (by omega), upd_w_ne (by omega), upd_w_ne (by omega), upd_w_ne (by omega)]; exact en
    have hW5 := hW4.cnt (c := 1) (n := n) (Or.inr (Or.inl rfl)) en4 (show n + 1 < 13 by omega) (fun e => absurd e (by decide)) (fun _ => by rw [upd_w_ne (by omega), upd_w_ne (by omega), upd_w_ne (by omega), w_upd_same (by omega), upd_w_ne (by omega), upd_w_ne (by omega), upd_w_ne (by omega), upd_w_ne (by omega)]; exact hk) (fun e => absurd e (by decide))
    have hm' : (pt B 173 1 (nI (n + 1))).1 173 = upd (upd (upd (upd (upd (S.1 173) (44 + 4 * n) (nI k)) (45 + 4 * n) (nI y)) (46 + 4 * n) 100) (47 + 4 * n) 0) 1 (nI (n + 1)) := by rw [pt_same, hB]
    refine ⟨nI n, S1, pt B 173 1 (nI (n + 1)), ?_, fun x hx => fS x (by omega) (by omega) (by omega) (by omega) (by omega) (by omega) (by omega) (by omega), ?_, h.grow (S1 := S1) (fun x hx => fS x (by omega) (by omega) (by omega) (by omega) (by omega) (by omega) (by omega) (by omega)) (fun x hx => by rw [pt_nek hx, fB x hx]) ?_ ?_ ?_⟩
    · (try dsimp only)
      rw [show f_X8_size S 18 = _ from cNt hT hW (Or.inl rfl), bnd_some, ← en, k12, if_pos (nI_lt hn (by decide)), hj, bnd2_some]
    · (try dsimp only)
      have a0 : (44 : Int32) + 4 * nI n + 0 = nI (44 + 4 * n) := by rw [k44, k4, pk_mul, nI_add, k0, nI_add]; rfl
      have a1 : (44 : Int32) + 4 * nI n + 1 = nI (45 + 4 * n) := by rw [k44, k4, pk_mul, nI_add, k1, nI_add]; congr 1; omega
      have a2 : (44 : Int32) + 4 * nI n + 2 = nI (46 + 4 * n) := by rw [k44, k4, pk_mul, nI_add, k2, nI_add]; congr 1; omega
      have a3 : (44 : Int32) + 4 * nI n + 3 = nI (47 + 4 * n) := by rw [k44, k4, pk_mul, nI_add, k3, nI_add]; congr 1; omega
      have e0 : S1.1 173 1 = nI n := by rw [hs, hW.nt.1, en]
      rw [e0, if_neg (show ¬ nI n = (12 : Int32) from fun g => by have := (nI_eq (by omega) (by decide)).mp (show nI n = nI 12 from g); omega), a0, a1, a2, a3, if_pos (inb_nI (by omega) (by decide)), if_pos (inb_nI (by omega) (by decide)), if_pos (inb_nI (by omega) (by decide)), if_pos (inb_nI (by omega) (by decide)), nI_clamp (n := 44 + 4 * n) (by omega), nI_clamp (n := 45 + 4 * n) (by omega), nI_clamp (n := 46 + 4 * n) (by omega), nI_clamp (n := 47 + 4 * n) (by omega), eB, hB0, nI_1, pt_at, nI_pred]
    · rw [hm']
      refine hT.grow hW (c := 1) (n := n) (Or.inr (Or.inl rfl)) en (fun j hj e => ?_) upd_same (fun x hx h0 hk => ?_) (fun j hj e => ?_) (fun x hx1 hx2 hk => ?_)
      · rcases ct1 j hj e with rfl | rfl | rfl | rfl <;> exact hn
      · have b0 : x ≠ 44 + 4 * n := hk 4 (by decide) rfl
        have b1 : x ≠ 45 + 4 * n := hk 5 (by decide) rfl
        have b2 : x ≠ 46 + 4 * n := hk 6 (by decide) rfl
        have b3 : x ≠ 47 + 4 * n := hk 7 (by decide) rfl
        rw [upd_ne h0, upd_ne b3, upd_ne b2, upd_ne b1, upd_ne b0]
      · rcases ct1 j hj e with rfl | rfl | rfl | rfl
        · refine ⟨z0.1, z0.2.1.trans ?_, z0.2.2⟩
          rw [show cel 4 n = 44 + 4 * n from rfl, upd_ne (by omega), upd_ne (by omega), upd_ne (by omega), upd_ne (by omega), upd_same]
        · refine ⟨z1.1, z1.2.1.trans ?_, z1.2.2⟩
          rw [show cel 5 n = 45 + 4 * n from rfl, upd_ne (by omega), upd_ne (by omega), upd_ne (by omega), upd_same]
        · refine ⟨z2.1, z2.2.1.trans ?_, z2.2.2⟩
          rw [show cel 6 n = 46 + 4 * n from rfl, upd_ne (by omega), upd_ne (by omega), upd_same]
        · refine ⟨z3.1, z3.2.1.trans ?_, z3.2.2⟩
          rw [show cel 7 n = 47 + 4 * n from rfl, upd_ne (by omega), upd_same]
      · have b0 : x ≠ 19 ∧ x ≠ 20 := hk 4 (by decide) rfl
        have b1 : x ≠ 21 ∧ x ≠ 22 := hk 5 (by decide) rfl
        have b2 : x ≠ 23 ∧ x ≠ 24 := hk 6 (by decide) rfl
        have b3 : x ≠ 25 ∧ x ≠ 26 := hk 7 (by decide) rfl
        exact fS x b0.1 b0.2 b1.1 b1.2 b2.1 b2.2 b3.1 b3.2
    · rw [hm']; exact hW5
    · rw [hm', upd_ne (by omega), upd_ne (by omega), upd_ne (by omega), upd_ne (by omega), upd_ne (by omega)]
