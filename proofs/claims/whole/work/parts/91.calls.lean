/-! pair, tell, check, untell -/
theorem K_pair {S : St} (h : IV S) (v1 v2 v3 : Int32) : CC S (fun s => f_X11_pair s v1 v2 v3) (fun s => f_X12_pair s v1 v2 v3) := by
  have hT := h.1.1
  have hW := h.1.2.1
  have hi6 := hW.nt.2
  have hk6 := hW.nk.2
  refine CC.gt h (fun _ => rfl) (fun _ => rfl) (fun i hi e => ?_)
  subst e
  refine CC.gt h (fun _ => rfl) (fun _ => rfl) (fun j hj e => ?_)
  subst e
  by_cases cc : nI i = nI j
  · refine CC.err h (k := 1) (φ := fun a => a) (by decide) ?_ ?_
    · (try dsimp only)
      rw [if_pos cc]; rfl
    · (try dsimp only)
      rw [if_pos cc]; rfl
  refine CC.gw 9999 h rfl (by decide) (fun _ => by (try dsimp only); rw [if_neg cc]; rfl) (fun _ => by (try dsimp only); rw [if_neg cc]; rfl) (fun y hy e => ?_)
  subst e
  by_cases c : w (S.1 173) 2 = 6
  · refine CC.err h (k := 4) (φ := fun a => a) (by decide) ?_ ?_
    · (try dsimp only)
      rw [show f_X5_size S 33 = _ from cNk hT hW (Or.inl rfl), bnd_some, c, if_neg (show ¬ nI 6 < (6 : Int32) by decide)]; rfl
    · (try dsimp only)
      rw [E1_nek (by decide), hW.nk.1, c, if_pos (show nI 6 = (6 : Int32) from rfl)]; rfl
  · obtain ⟨n, en⟩ : ∃ n, n = w (S.1 173) 2 := ⟨_, rfl⟩
    have hn : n < 6 := by omega
    have g0 : S.1 29 1 = nI n := by rw [en]; exact (hT.1 9 (by decide)).1
    have g1 : S.1 31 1 = nI n := by rw [en]; exact (hT.1 10 (by decide)).1
    have g2 : S.1 33 1 = nI n := by rw [en]; exact (hT.1 11 (by decide)).1
    have hjn := cPair (S := S) (a := nI i) (b := nI j) (c := nI y) g0 g1 g2 hn
    generalize eS : ad (ad (ad S 29 n (nI i)) 31 n (nI j)) 33 n (nI y) = S1 at hjn
    have fS : ∀ x, x ≠ 29 → x ≠ 30 → x ≠ 31 → x ≠ 32 → x ≠ 33 → x ≠ 34 → S1.1 x = S.1 x := fun x a b c d e f => by rw [← eS, ad_nek e f, ad_nek c d, ad_nek a b]
    have z0 : S1.1 29 1 = nI (n + 1) ∧ S1.1 30 n = nI i ∧ ∀ i, i < n → S1.1 30 i = S.1 30 i := adz (S := S) (r := 29) (by rw [← eS, ad_nek (by decide) (by decide), ad_nek (by decide) (by decide)]) (by rw [← eS, ad_nek (by decide) (by decide), ad_nek (by decide) (by decide)]) rfl
    have z1 : S1.1 31 1 = nI (n + 1) ∧ S1.1 32 n = nI j ∧ ∀ i, i < n → S1.1 32 i = S.1 32 i := adz (S := ad S 29 n (nI i)) (r := 31) (by rw [← eS, ad_nek (by decide) (by decide)]) (by rw [← eS, ad_nek (by decide) (by decide)]) (ad_nek (by decide) (by decide))
    have z2 : S1.1 33 1 = nI (n + 1) ∧ S1.1 34 n = nI y ∧ ∀ i, i < n → S1.1 34 i = S.1 34 i := adz (S := ad (ad S 29 n (nI i)) 31 n (nI j)) (r := 33) (by rw [← eS]) (by rw [← eS]) (by rw [ad_nek (by decide) (by decide), ad_nek (by decide) (by decide)])
    have hs : S1.1 173 = S.1 173 := fS 173 (by decide) (by decide) (by decide) (by decide) (by decide) (by decide)
    have hB : (pt (pt (pt S1 173 (92 + 3 * n) (nI i)) 173 (93 + 3 * n) (nI j)) 173 (94 + 3 * n) (nI y)).1 173 = upd (upd (upd (S.1 173) (92 + 3 * n) (nI i)) (93 + 3 * n) (nI j)) (94 + 3 * n) (nI y) := by rw [pt_same, pt_same, pt_same, hs]
    have hB0 : (pt (pt (pt S1 173 (92 + 3 * n) (nI i)) 173 (93 + 3 * n) (nI j)) 173 (94 + 3 * n) (nI y)).1 173 2 = nI n := by rw [hB, upd_ne (by omega), upd_ne (by omega), upd_ne (by omega), hW.nk.1, en]
    generalize eB : pt (pt (pt S1 173 (92 + 3 * n) (nI i)) 173 (93 + 3 * n) (nI j)) 173 (94 + 3 * n) (nI y) = B at hB hB0
    have fB : ∀ x, x ≠ 173 → B.1 x = S1.1 x := fun x hx => by rw [← eB, pt_nek hx, pt_nek hx, pt_nek hx]
    have hW1 : WF (upd (S.1 173) (92 + 3 * n) (nI i)) := hW.set rfl (by omega) (by omega) (by rw [l_one n hn]; omega) (fun a e => by have := hW.np.2; omega) (fun a e => by have := hW.nt.2; omega) (fun j e => by omega)
    have hW2 : WF (upd (upd (S.1 173) (92 + 3 * n) (nI i)) (93 + 3 * n) (nI j)) := hW1.set rfl (by omega) (by omega) (by rw [l_other n hn]; omega) (fun a e => by have := hW1.np.2; omega) (fun a e => by have := hW1.nt.2; omega) (fun k e hk => by rw [upd_w_ne (by omega)] at hk; omega)
    have hW3 : WF (upd (upd (upd (S.1 173) (92 + 3 * n) (nI i)) (93 + 3 * n) (nI j)) (94 + 3 * n) (nI y)) := hW2.set rfl (by omega) (by omega) (by rw [l_bonus n hn]; omega) (fun a e => by have := hW2.np.2; omega) (fun a e => by have := hW2.nt.2; omega) (fun j e => by omega)
    have en4 : n = w (upd (upd (upd (S.1 173) (92 + 3 * n) (nI i)) (93 + 3 * n) (nI j)) (94 + 3 * n) (nI y)) 2 := by rw [upd_w_ne (by omega), upd_w_ne (by omega), upd_w_ne (by omega)]; exact en
    have hW5 := hW3.cnt (c := 2) (n := n) (Or.inr (Or.inr rfl)) en4 (show n + 1 < 7 by omega) (fun e => absurd e (by decide)) (fun e => absurd e (by decide)) (fun _ => by
      rw [upd_w_ne (x := 94 + 3 * n) (by omega), upd_w_ne (x := 93 + 3 * n) (by omega), w_upd_same (by omega), upd_w_ne (x := 94 + 3 * n) (by omega), upd_w_ne (x := 93 + 3 * n) (by omega), upd_w_ne (x := 92 + 3 * n) (by omega), upd_w_ne (x := 94 + 3 * n) (by omega), w_upd_same (by omega)]
      exact ⟨hi, hj⟩)
    have hm' : (pt B 173 2 (nI (n + 1))).1 173 = upd (upd (upd (upd (S.1 173) (92 + 3 * n) (nI i)) (93 + 3 * n) (nI j)) (94 + 3 * n) (nI y)) 2 (nI (n + 1)) := by rw [pt_same, hB]
    refine ⟨nI n, S1, pt B 173 2 (nI (n + 1)), ?_, fun x hx => fS x (by omega) (by omega) (by omega) (by omega) (by omega) (by omega), ?_, h.grow (S1 := S1) (fun x hx => fS x (by omega) (by omega) (by omega) (by omega) (by omega) (by omega)) (fun x hx => by rw [pt_nek hx, fB x hx]) ?_ ?_ ?_⟩
    · (try dsimp only)
      rw [show f_X5_size S 33 = _ from cNk hT hW (Or.inl rfl), bnd_some, ← en, k6, if_pos (nI_lt hn (by decide)), hjn, bnd2_some]
    · (try dsimp only)
      have a0 : (92 : Int32) + 3 * nI n = nI (92 + 3 * n) := by rw [k92, k3, pk_mul, nI_add]
      have a1 : nI (92 + 3 * n) + 1 = nI (93 + 3 * n) := by rw [nI_1]; congr 1; omega
      have a2 : nI (92 + 3 * n) + 2 = nI (94 + 3 * n) := by rw [k2, nI_add]; congr 1; omega
      have e0 : S1.1 173 2 = nI n := by rw [hs, hW.nk.1, en]
      rw [e0, if_neg (show ¬ nI n = (6 : Int32) from fun g => by have := (nI_eq (by omega) (by decide)).mp (show nI n = nI 6 from g); omega), a0, a1, a2, if_pos (inb_nI (by omega) (by decide)), if_pos (inb_nI (by omega) (by decide)), if_pos (inb_nI (by omega) (by decide)), nI_clamp (n := 92 + 3 * n) (by omega), nI_clamp (n := 93 + 3 * n) (by omega), nI_clamp (n := 94 + 3 * n) (by omega), eB, hB0, nI_1, pt_at, nI_pred]
    · rw [hm']
      refine hT.grow hW (c := 2) (n := n) (Or.inr (Or.inr (Or.inl rfl))) en (fun j hj e => ?_) upd_same (fun x hx h0 hk => ?_) (fun j hj e => ?_) (fun x hx1 hx2 hk => ?_)
      · rcases ct2 j hj e with rfl | rfl | rfl <;> exact hn
      · have b0 : x ≠ 92 + 3 * n := hk 9 (by decide) rfl
        have b1 : x ≠ 93 + 3 * n := hk 10 (by decide) rfl
        have b2 : x ≠ 94 + 3 * n := hk 11 (by decide) rfl
        rw [upd_ne h0, upd_ne b2, upd_ne b1, upd_ne b0]
      · rcases ct2 j hj e with rfl | rfl | rfl
        · refine ⟨z0.1, z0.2.1.trans ?_, z0.2.2⟩
          rw [show cel 9 n = 92 + 3 * n from rfl, upd_ne (by omega), upd_ne (by omega), upd_ne (by omega), upd_same]
        · refine ⟨z1.1, z1.2.1.trans ?_, z1.2.2⟩
          rw [show cel 10 n = 93 + 3 * n from rfl, upd_ne (by omega), upd_ne (by omega), upd_same]
        · refine ⟨z2.1, z2.2.1.trans ?_, z2.2.2⟩
          rw [show cel 11 n = 94 + 3 * n from rfl, upd_ne (by omega), upd_same]
      · have b0 : x ≠ 29 ∧ x ≠ 30 := hk 9 (by decide) rfl
        have b1 : x ≠ 31 ∧ x ≠ 32 := hk 10 (by decide) rfl
        have b2 : x ≠ 33 ∧ x ≠ 34 := hk 11 (by decide) rfl
        exact fS x b0.1 b0.2 b1.1 b1.2 b2.1 b2.2
    · rw [hm']; exact hW5
    · rw [hm', upd_ne (by omega), upd_ne (by omega), upd_ne (by omega), upd_ne (by omega)]
/-- one more number in a row that has no bounds of its own (the tape, what waits) -/
theorem RT.more {S : St} {t n k c b : Nat} {m : Nat → Int32} {v : Int32} (h : RT S t m) (hW : WF m) (hk : (k = 13 ∧ c = 6 ∧ b = 432 ∧ n < 60) ∨ (k = 14 ∧ c = 7 ∧ b = 492 ∧ n < 24)) (en : n = w m c) : RT (ad S (t + off k) n v) t (upd (upd m (b + n) v) c (nI (n + 1))) := by
  have hk15 : k < 15 := by omega
  have ho := off_lt k hk15
  have hcel : cel k n = b + n := by rcases hk with ⟨rfl, rfl, rfl, _⟩ | ⟨rfl, rfl, rfl, _⟩ <;> (unfold cel; simp [bas, stp])
  have hun : ∀ j, j < 15 → cntx j = c → j = k := fun j hj e => by
    rcases hk with ⟨rfl, rfl, _, _⟩ | ⟨rfl, rfl, _, _⟩
    · exact ct6 j hj e
    · exact ct7 j hj e
  have hck : cntx k = c := by rcases hk with ⟨rfl, rfl, _, _⟩ | ⟨rfl, rfl, _, _⟩ <;> rfl
  refine h.grow hW (c := c) (n := n) (by omega) en (fun j hj e => ?_) upd_same (fun x hx h0 hx2 => ?_) (fun j hj e => ?_) (fun x hx1 hx2 hx3 => ?_)
  · rw [hun j hj e]
    rcases hk with ⟨rfl, _, _, g⟩ | ⟨rfl, _, _, g⟩ <;> exact g
  · have := hx2 k hk15 hck
    rw [hcel] at this
    rw [upd_ne h0, upd_ne this]
  · rw [hun j hj e]
    refine ⟨ad_size, ?_, fun i hi => ad_old (by omega)⟩
    rw [ad_new, hcel, upd_ne (by omega), upd_same]
  · have := hx3 k hk15 hck
    exact ad_nek this.1 this.2
theorem K_tell {S : St} (h : IV S) (v1 : Int32) : CC S (fun s => f_X11_tell s v1) (fun s => f_X12_tell s v1) := by
  have hT := h.1.1
  have hW := h.1.2.1
  have hw6 := hW.nw.2
  by_cases c : w (S.1 173) 7 = 24
  · refine CC.err h (k := 4) (φ := fun a => a) (by decide) ?_ ?_
    · show f_X11_tell S v1 = _
      unfold f_X11_tell
      rw [show f_X5_size S 53 = _ from cNw hT hW (Or.inl rfl), bnd_some, c, if_neg (show ¬ nI 24 < (24 : Int32) by decide)]; rfl
    · show f_X12_tell (E1 S 4) v1 = _
      unfold f_X12_tell
      rw [E1_nek (by decide), hW.nw.1, c, if_pos (show nI 24 = (24 : Int32) from rfl)]; rfl
  · obtain ⟨n, en⟩ : ∃ n, n = w (S.1 173) 7 := ⟨_, rfl⟩
    have hn : n < 24 := by omega
    have g0 : S.1 53 1 = nI n := by rw [en]; exact (hT.1 14 (by decide)).1
    have hs : (ad S 53 n v1).1 173 = S.1 173 := ad_nek (by decide) (by decide)
    have hm : (pt (pt (ad S 53 n v1) 173 (492 + n) v1) 173 7 (nI (n + 1))).1 173 = upd (upd (S.1 173) (492 + n) v1) 7 (nI (n + 1)) := by rw [pt_same, pt_same, hs]
    have hW1 : WF (upd (S.1 173) (492 + n) v1) := hW.setU (by unfold lim; rw [if_neg (by omega), if_neg (by omega), if_neg (by omega), if_neg (by omega), if_neg (by omega), if_neg (by omega), if_neg (by omega), if_neg (by omega), if_neg (by omega), if_neg (by omega), if_neg (by omega), if_neg (by omega), if_neg (by omega), if_neg (by omega), if_neg (by omega)]) (Or.inr (by omega))
    refine ⟨nI (n + 1), ad S 53 n v1, pt (pt (ad S 53 n v1) 173 (492 + n) v1) 173 7 (nI (n + 1)), ?_, fun q hq => ad_nek (by omega) (by omega), ?_, h.grow (S1 := ad S 53 n v1) (fun q hq => ad_nek (by omega) (by omega)) (fun q hq => by rw [pt_nek hq, pt_nek hq]) ?_ ?_ ?_⟩
    · show f_X11_tell S v1 = _
      unfold f_X11_tell
      rw [show f_X5_size S 53 = _ from cNw hT hW (Or.inl rfl), bnd_some, ← en, k24, if_pos (nI_lt hn (by decide)), p_ad g0 hn (by decide), bnd_some]
      unfold f_X5_size
      rw [bnd_some, ad_size]
    · show f_X12_tell (ad S 53 n v1) v1 = _
      unfold f_X12_tell
      rw [hs, hW.nw.1, ← en, if_neg (show ¬ nI n = (24 : Int32) from fun g => by have := (nI_eq (by omega) (by decide)).mp (show nI n = nI 24 from g); omega), k492, nI_add, if_pos (inb_nI (by omega) (by decide)), nI_clamp (by omega)]
      have e7 : (pt (ad S 53 n v1) 173 (492 + n) v1).1 173 7 = nI n := by rw [pt_nej (by omega), hs, hW.nw.1, en]
      rw [e7, nI_1, pt_at]
    · rw [hm]
      exact hT.more hW (k := 14) (c := 7) (b := 492) (Or.inr ⟨rfl, rfl, rfl, hn⟩) en
    · rw [hm]
      exact hW1.set (n := n + 1) rfl (by decide) (Or.inl (by decide)) (show n + 1 < 25 by omega) (fun j e => by omega) (fun j e => by omega) (fun j e => by omega)
    · rw [hm, upd_ne (by decide), upd_ne (by omega)]
theorem RT.empty {S : St} {t k c : Nat} {m : Nat → Int32} (h : RT S t m) (hW : WF m) (hk : (k = 13 ∧ c = 6) ∨ (k = 14 ∧ c = 7)) : RT (pt S (t + off k) 1 0) t (upd m c 0) := by
  have hk15 : k < 15 := by omega
  have ho := off_lt k hk15
  have hun : ∀ j, j < 15 → cntx j = c → j = k := fun j hj e => by
    rcases hk with ⟨rfl, rfl⟩ | ⟨rfl, rfl⟩
    · exact ct6 j hj e
    · exact ct7 j hj e
  have hck : cntx k = c := by rcases hk with ⟨rfl, rfl⟩ | ⟨rfl, rfl⟩ <;> rfl
  have hc99 : rowOf c = 99 := by rcases hk with ⟨rfl, rfl⟩ | ⟨rfl, rfl⟩ <;> rfl
  have wz : w (upd m c 0) c = 0 := by unfold w; rw [upd_same]; rfl
  obtain ⟨h1, h2, h3, h4, h5, h6, h7⟩ := h
  refine ⟨fun j hj => ?_, h2.congr hW.2.2.2.2.1.2.1 (fun x a b => upd_ne (by unfold tb at a; omega)) ⟨pt_nek (by omega), pt_nek (by omega), by rw [pt_nek (by omega)]⟩, h3.congr hW.2.2.2.2.2.2.1 (fun x a b => upd_ne (by unfold tb at a; omega)) ⟨pt_nek (by omega), pt_nek (by omega), by rw [pt_nek (by omega)]⟩, ?_, ?_, ?_, ?_⟩
  · by_cases e : j = k
    · subst e
      have e0 : siz (upd m c 0) j = 0 := by rw [siz_c (by omega), hck, wz]
      refine ⟨by rw [e0, pt_at]; rfl, fun i hi => ?_⟩
      rw [e0] at hi
      exact absurd hi (Nat.not_lt_zero _)
    · have sp := off_sep k hk15 j hj e
      have hz : siz (upd m c 0) j = siz m j := by
        by_cases a : j = 8
        · unfold siz
          rw [if_pos a, if_pos a]
        · by_cases b : j = 12
          · unfold siz
            rw [if_neg a, if_pos b, if_neg a, if_pos b]
          · unfold siz
            rw [if_neg a, if_neg b, if_neg a, if_neg b, upd_w_ne (fun g => e (hun j hj g))]
      refine ⟨by rw [hz, pt_nek (by omega)]; exact (h1 j hj).1, fun i hi => ?_⟩
      rw [hz] at hi
      show _ = upd m c 0 (cel j i)
      rw [pt_nek (by omega), upd_ne (fun g => by
        have r := rowOf_cel hj (Nat.lt_of_lt_of_le hi (hW.szc j hj))
        rw [g, hc99] at r; omega)]
      exact (h1 j hj).2 i hi
  · rw [pt_nek (by omega), upd_ne (by omega)]; exact h4
  · rw [pt_nek (by omega), upd_ne (by omega)]; exact h5
  · rw [pt_nek (by omega), upd_ne (by omega)]; exact h6
  · rw [pt_nek (by omega), upd_ne (by omega)]; exact h7
theorem pt_comm {S : St} {k j k' j' : Nat} {v v' : Int32} (h : k ≠ k') : pt (pt S k j v) k' j' v' = pt (pt S k' j' v') k j v := by
  refine St_ext (fun q i => ?_) rfl
  by_cases a : q = k
  · subst a
    rw [pt_nek h, pt_same, pt_same, pt_nek h]
  · by_cases b : q = k'
    · subst b
      rw [pt_same, pt_nek (Ne.symm h), pt_nek (Ne.symm h), pt_same]
    · rw [pt_nek b, pt_nek a, pt_nek a, pt_nek b]
/-- what waits, or the tape, is empty -/
theorem IV.clear {S : St} (h : IV S) {k c : Nat} (hk : (k = 13 ∧ c = 6) ∨ (k = 14 ∧ c = 7)) : IV (pt (pt S (8 + off k) 1 0) 173 c 0) := by
  have ho := off_lt k (by omega)
  have e : (pt (pt S (8 + off k) 1 0) 173 c 0).1 173 = upd (S.1 173) c 0 := by rw [pt_same, pt_nek (by omega)]
  refine h.town (fun q a b c d e f g j => by rw [pt_nek c, pt_nek (by omega)]) ⟨?_, ?_, ?_⟩
  · rw [e]
    exact (h.1.1.empty h.1.2.1 hk).fr (fun q a b => pt_nek (by omega))
  · rw [e]
    exact h.1.2.1.set (n := 0) rfl (by omega) (by omega) (by rcases hk with ⟨_, rfl⟩ | ⟨_, rfl⟩ <;> decide) (fun j e => by omega) (fun j e => by omega) (fun j e => by omega)
  · rw [e]; unfold YR; rw [upd_ne (by omega)]; exact h.1.2.2
theorem K_check {N : Nat} (hN : 100 < N) {S : St} (h : IV S) (v1 : Int32) : CC S (fun s => f_X11_check N s v1) (fun s => f_X12_check N s v1) := by
  have hT := h.1.1
  have hW := h.1.2.1
  have hp6 := hW.np.2
  have hi6 := hW.nt.2
  have hw6 := hW.nw
  have hc := h.clear (k := 14) (c := 7) (Or.inr ⟨rfl, rfl⟩)
  have eE : E2 (pt (pt (E1 S 1) 53 1 0) 173 7 0) 1 = E2 (E1 (pt (pt S 53 1 0) 173 7 0) 1) 1 := by
    have : pt (pt (E1 S 1) 53 1 0) 173 7 0 = E1 (pt (pt S 53 1 0) 173 7 0) 1 := by
      unfold E1
      rw [pt_comm (show (171 : Nat) ≠ 53 by decide), pt_comm (show (171 : Nat) ≠ 173 by decide), pt_nek (show (171 : Nat) ≠ 173 by decide), pt_nek (show (171 : Nat) ≠ 53 by decide)]
    rw [this]
  rcases wi_p (v := v1) (n := w (S.1 173) 0) (by omega) with e | ⟨p, hp, rfl, e⟩
  · refine ⟨-1000000000 - nI 1, pt (E1 S 1) 53 1 0, E2 (pt (pt (E1 S 1) 53 1 0) 173 7 0) 1, ?_, fun q hq => by rw [pt_nek (by omega), E1_nek (by omega)], ?_, ?_⟩
    · show f_X11_check N S v1 = _
      unfold f_X11_check f_X11_check_24
      rw [cIsP hT hW, bnd_some, e, if_pos rfl, show f_X11_fail S 1 = _ from cErr (k := 1) h.2.2.1.1 (by decide), bnd2_some, p_reset0 (n := 0) (by decide) (by omega), bnd_some]
    · show f_X12_check N (pt (E1 S 1) 53 1 0) v1 = _
      unfold f_X12_check
      have eM : (pt (pt (E1 S 1) 53 1 0) 173 7 0).1 173 0 = nI (w (S.1 173) 0) := by rw [pt_nej (by decide), pt_nek (by decide), E1_nek (by decide), hW.np.1]
      have eP : f_X12_isPerson (pt (pt (E1 S 1) 53 1 0) 173 7 0) v1 = some 0 := by
        unfold f_X12_isPerson
        rw [mIn, bnd_some, eM, e]; rfl
      rw [eP, bnd_some, if_pos rfl, show f_X12_error (pt (pt (E1 S 1) 53 1 0) 173 7 0) 1 = _ from mErr (k := 1) (by decide), bnd2_some]
    · rw [eE]; exact hc.err
  · have eM : (pt (pt S 53 1 0) 173 7 0).1 173 = upd (S.1 173) 7 0 := by rw [pt_same, pt_nek (by decide)]
    have hW' : WF (upd (S.1 173) 7 0) := by have := hc.1.2.1; rw [show (pt (pt S (8 + off 14) 1 0) 173 7 0).1 173 = _ from eM] at this; exact this
    refine ⟨chk (S.1 173) p (w (S.1 173) 1) 0 0, pt S 53 1 0, pt (pt S 53 1 0) 173 7 0, ?_, fun q hq => pt_nek (by omega), ?_, hc⟩
    · show f_X11_check N S (nI p) = _
      unfold f_X11_check f_X11_check_24 f_X9_firstWrongOf
      rw [cIsP hT hW, bnd_some, e, if_neg (by decide), show f_X9_firstWrongOf_4 N S N 8 (nI p) 0 0 = _ from cChk hT hW (Or.inl rfl) (by omega) (w (S.1 173) 1) 0 0 N (by omega) (by omega) (by omega), bnd_some, p_reset0 (n := 0) (by decide) (by omega), bnd_some]
    · show f_X12_check N (pt S 53 1 0) (nI p) = _
      unfold f_X12_check
      have eP : f_X12_isPerson (pt (pt S 53 1 0) 173 7 0) (nI p) = some 1 := by
        unfold f_X12_isPerson
        rw [mIn, bnd_some, eM, upd_ne (by decide), hW.np.1, e]; rfl
      rw [eP, bnd_some, if_neg (by decide), pt_nek (show (173 : Nat) ≠ 53 by decide), hw6.1]
      exact mChk eM hW' (upd_w_ne (by decide)) (fun i hi => upd_w_ne (by omega)) (fun j => upd_ne (by omega)) hw6.2 (by omega) (w (S.1 173) 1) 0 0 N (by omega) (by omega) (by omega)
/-- a town with other texts -/
theorem WF.text {m m' : Nat → Int32} (hW : WF m) (h0 : TX m' 0) (h1 : TX m' 1) (e : ∀ x, (x < 182 ∨ 432 ≤ x) → m' x = m x) : WF m' := by
  have ew : ∀ x, (x < 182 ∨ 432 ≤ x) → w m' x = w m x := fun x hx => by unfold w; rw [e x hx]
  have hp := hW.np.2
  have hi := hW.nt.2
  have hk := hW.nk.2
  refine ⟨fun x hx => ?_, fun p hp' => ?_, fun i hi' => ?_, fun k hk' => ?_, h0, h1⟩
  · have hx2 : x < 182 ∨ 432 ≤ x := by
      rcases Nat.lt_or_ge x 182 with c | c
      · exact Or.inl c
      · rcases Nat.lt_or_ge x 432 with d | d
        · exfalso
          unfold lim at hx
          rw [if_neg (by omega), if_neg (by omega), if_neg (by omega), if_neg (by omega), if_neg (by omega), if_neg (by omega), if_neg (by omega), if_neg (by omega), if_neg (by omega), if_neg (by omega), if_neg (by omega), if_neg (by omega), if_neg (by omega), if_pos (by omega)] at hx
          exact absurd hx (Nat.lt_irrefl _)
        · exact Or.inr d
    rw [e x hx2, ew x hx2]; exact hW.1 x hx
  · rw [ew 0 (by decide)] at hp'
    rw [ew _ (by omega)]; exact hW.2.1 p hp'
  · rw [ew 1 (by decide)] at hi'
    rw [ew 0 (by decide), ew _ (by omega)]; exact hW.2.2.1 i hi'
  · rw [ew 2 (by decide)] at hk'
    rw [ew 1 (by decide), ew _ (by omega), ew _ (by omega)]; exact hW.2.2.2.1 k hk'
theorem TX.none {m : Nat → Int32} {u : Nat} (h : m (tb u) = 0) : TX m u := by
  have e : w m (tb u) = 0 := by unfold w; rw [h]; rfl
  refine ⟨by rw [h, e]; rfl, by omega, fun g => by omega, fun k hk => by omega⟩
/-- a town with another text on both sides -/
theorem RT.text {S S' : St} {t u : Nat} {m m' : Nat → Int32} (h : RT S t m) (hW : WF m) (hu : u < 2) (hT : txtR S' t u m') (f : ∀ q, t ≤ q → q < t + 47 → q ≠ t + 30 + 7 * u → q ≠ t + 31 + 7 * u → S'.1 q = S.1 q) (e : ∀ x, x < 516 → (x < tb u ∨ tb u + 125 ≤ x) → m' x = m x) : RT S' t m' := by
  have ht : ∀ u', u' < 2 → u' ≠ u → ∀ x, tb u' ≤ x → x < tb u' + 125 → m' x = m x := fun u' hu' hne x h1 h2 => e x (by unfold tb at h2; omega) (by unfold tb at *; omega)
  have e1 : ∀ x, x < 516 → (x < 182 ∨ 432 ≤ x) → m' x = m x := fun x hx h1 => e x hx (by unfold tb; omega)
  have hrow : ∀ x, rowOf x < 15 → x < 182 ∨ 432 ≤ x := fun x hx => by
    rcases Nat.lt_or_ge x 182 with c | c
    · exact Or.inl c
    · rcases Nat.lt_or_ge x 432 with d | d
      · exfalso
        unfold rowOf at hx
        rw [if_neg (by omega), if_neg (by omega), if_neg (by omega), if_neg (by omega), if_neg (by omega), if_neg (by omega), if_neg (by omega), if_pos (by omega)] at hx
        exact absurd hx (by decide)
      · exact Or.inr d
  obtain ⟨h1, h2, h3, h4, h5, h6, h7⟩ := h
  have hz : ∀ k, k < 15 → siz m' k = siz m k := fun k hk => by
    have h : (List.range 15).all (fun k => decide (cntx k < 182)) = true := by decide +kernel
    have hc := of_decide_eq_true (List.all_eq_true.mp h k (List.mem_range.mpr hk))
    unfold siz w
    rw [e1 _ (by omega) (Or.inl hc)]
  refine ⟨fun k hk => ?_, ?_, ?_, by rw [f t (by omega) (by omega) (by omega) (by omega), e1 3 (by decide) (by decide)]; exact h4, by rw [f t (by omega) (by omega) (by omega) (by omega), e1 4 (by decide) (by decide)]; exact h5, by rw [f t (by omega) (by omega) (by omega) (by omega), e1 5 (by decide) (by decide)]; exact h6, by rw [f t (by omega) (by omega) (by omega) (by omega), e1 8 (by decide) (by decide)]; exact h7⟩
  · have ho := off_lt k hk
    refine ⟨by rw [f _ (by omega) (by omega) (by omega) (by omega), hz k hk]; exact (h1 k hk).1, fun i hi => ?_⟩
    rw [hz k hk] at hi
    have hcap := Nat.lt_of_lt_of_le hi (hW.szc k hk)
    show _ = m' (cel k i)
    rw [f _ (by omega) (by omega) (by omega) (by omega), e1 _ (cel_lt hk hcap) (hrow _ (by rw [rowOf_cel hk hcap]; exact hk))]
    exact (h1 k hk).2 i hi
  · by_cases c : u = 0
    · subst c; exact hT
    · exact h2.congr hW.2.2.2.2.1.2.1 (ht 0 (by decide) (fun g => c g.symm)) ⟨f _ (by omega) (by omega) (by omega) (by omega), f _ (by omega) (by omega) (by omega) (by omega), by rw [f _ (by omega) (by omega) (by omega) (by omega)]⟩
  · by_cases c : u = 1
    · subst c; exact hT
    · exact h3.congr hW.2.2.2.2.2.2.1 (ht 1 (by decide) (fun g => c g.symm)) ⟨f _ (by omega) (by omega) (by omega) (by omega), f _ (by omega) (by omega) (by omega) (by omega), by rw [f _ (by omega) (by omega) (by omega) (by omega)]⟩
