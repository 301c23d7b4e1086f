/-! WHAT A YEAR LEAVES -/
def XK (x : Nat) : Prop := x = 3 ∨ 516 ≤ x
theorem lp_keep {g : Nat → (Nat → Int32) → (Nat → Int32)} {n x : Nat} {m : Nat → Int32} (hW : WF m) (hn : n ≤ w m 1) (hw : ∀ i a, i < w m 1 → WS m a → WS m (g i a)) (hk : ∀ i a, i < w m 1 → WS m a → g i a x = a x) : lp g n 0 m x = m x :=
  (lp_inv (f := g) (fun j a => j ≤ w m 1 ∧ WS m a ∧ a x = m x) n 0 m ⟨Nat.zero_le _, WS.refl hW, rfl⟩ (fun j b h1 h2 h3 => ⟨by omega, hw j b (by omega) h3.2.1, (hk j b (by omega) h3.2.1).trans h3.2.2⟩)).2.2
theorem WS.b {m a : Nat → Int32} (h : WS m a) {i : Nat} (hi : i < w m 1) : i < 12 ∧ own a i < 6 := by
  have h1 := h.1.nt.2
  have h2 := h.2.2.1
  exact ⟨by omega, (own_lt h.1 (by omega)).2⟩
theorem nm_keep {m : Nat → Int32} {x : Nat} (hW : WF m) (hx : XK x) : y1 m x = m x :=
  lp_keep hW (Nat.le_refl _) (fun i a hi h => nmS_wf h hi) (fun i a hi h => by
    have := (h.b hi).1
    unfold nmS
    exact upd_ne (by unfold XK at hx; omega))
theorem pay_keep {m : Nat → Int32} {x : Nat} (hW : WF m) (hx : XK x) : y2 m x = m x :=
  lp_keep hW (Nat.le_refl _) (fun i a hi h => (payS_wf h hi).2) (fun i a hi h => by
    have := h.b hi
    unfold payS
    rw [upd_ne (by unfold XK at hx; omega), upd_ne (by unfold XK at hx; omega)])
theorem sold_keep {a : Nat → Int32} {o i pr p x : Nat} (ho : o < 6) (hi : i < 12) (hp : p < 6) (hx : XK x) : sold o i pr p a x = a x := by
  unfold XK at hx
  unfold sold sold4 sold3 sold2 sold1
  rw [upd_ne (by omega), upd_ne (by omega), upd_ne (by omega), upd_ne (by omega), upd_ne (by omega)]
theorem zN_keep {a : Nat → Int32} {x : Nat} (hx : XK x) : zN a x = a x := zN_ne (by unfold XK at hx; omega)
theorem ask_keep {o i pr x : Nat} (ho : o < 6) (hi : i < 12) (hx : XK x) : ∀ (k p : Nat) (a : Nat → Int32), p + k ≤ 6 → ask o i pr k p a x = a x := by
  intro k
  induction k with
  | zero => intro p a _; rfl
  | succ k ih =>
    intro p a hp
    unfold ask
    split
    · exact ih _ _ (by omega)
    · split
      · rw [ih _ _ (by omega), zN_keep hx]
      · split
        · rw [ih _ _ (by omega), zN_keep hx]
        · split
          · rw [ih _ _ (by omega), zN_keep hx]
          · rw [sold_keep ho hi (by omega) hx, zN_keep hx]
theorem asks_keep {m : Nat → Int32} {x : Nat} (hW : WF m) (hx : XK x) : y3 m x = m x :=
  lp_keep hW (Nat.le_refl _) (fun i a hi h => askS_wf h hi) (fun i a hi h => by
    have := h.b hi
    have hp := h.1.np.2
    unfold askS
    split
    · exact ask_keep this.2 this.1 hx _ _ _ (by omega)
    · rfl)
theorem mend_keep {m : Nat → Int32} {x : Nat} (hW : WF m) (hx : XK x) : y4 m x = m x :=
  lp_keep hW (Nat.le_refl _) (fun i a hi h => mendS_wf h hi) (fun i a hi h => by
    have := h.b hi
    unfold mendS
    split
    · rfl
    · unfold mdB mdA
      rw [upd_ne (by unfold XK at hx; omega), upd_ne (by unfold XK at hx; omega)])
theorem share_keep {m : Nat → Int32} {x : Nat} (hW : WF m) (hx : XK x) : shareS m x = m x := by
  have hp := hW.np.2
  unfold XK at hx
  unfold shareS
  split
  · rfl
  · split
    · rfl
    · next h0 =>
      split
      · unfold eqS
        rw [upd_ne (by omega)]
        exact lp_inv (f := fun p b => sold1 p (w m 5 / w m 0) b) (fun _ b => b x = m x) (w m 0) 0 m rfl (fun j b h1 h2 h3 => by
          show sold1 j (w m 5 / w m 0) b x = m x
          unfold sold1
          rw [upd_ne (by omega)]; exact h3)
      · have := poor_lt (m := m) (by omega)
        unfold poS sold1
        rw [upd_ne (by omega), upd_ne (by omega)]
theorem yr_ws {a : Nat → Int32} (ha : WF a) : WS a (y1 a) ∧ WS (y1 a) (y2 (y1 a)) ∧ WS (y2 (y1 a)) (y3 (y2 (y1 a))) ∧ WS (y3 (y2 (y1 a))) (y4 (y3 (y2 (y1 a)))) ∧ WS a (yrS a) := by
  have c1 : WS a (y1 a) := (lp_inv (f := nmS) (fun j b => j ≤ w a 1 ∧ WS a b) (w a 1) 0 a ⟨Nat.zero_le _, WS.refl ha⟩ (fun j b x1 x2 x3 => ⟨by omega, nmS_wf x3.2 (by omega)⟩)).2
  have c2 : WS (y1 a) (y2 (y1 a)) := (lp_inv (f := payS) (fun j b => j ≤ w (y1 a) 1 ∧ WS (y1 a) b) (w (y1 a) 1) 0 (y1 a) ⟨Nat.zero_le _, WS.refl c1.1⟩ (fun j b x1 x2 x3 => ⟨by omega, (payS_wf x3.2 (by omega)).2⟩)).2
  have c3 : WS (y2 (y1 a)) (y3 (y2 (y1 a))) := (lp_inv (f := askS) (fun j b => j ≤ w (y2 (y1 a)) 1 ∧ WS (y2 (y1 a)) b) (w (y2 (y1 a)) 1) 0 (y2 (y1 a)) ⟨Nat.zero_le _, WS.refl c2.1⟩ (fun j b x1 x2 x3 => ⟨by omega, askS_wf x3.2 (by omega)⟩)).2
  have c4 : WS (y3 (y2 (y1 a))) (y4 (y3 (y2 (y1 a)))) := (lp_inv (f := mendS) (fun j b => j ≤ w (y3 (y2 (y1 a))) 1 ∧ WS (y3 (y2 (y1 a))) b) (w (y3 (y2 (y1 a))) 1) 0 (y3 (y2 (y1 a))) ⟨Nat.zero_le _, WS.refl c3.1⟩ (fun j b x1 x2 x3 => ⟨by omega, mendS_wf x3.2 (by omega)⟩)).2
  have cc := (((c1.trans c2).trans c3).trans c4).trans (shareS_wf c4.1)
  exact ⟨c1, c2, c3, c4, cc.set (by decide) (cc.1.setU (by decide) (Or.inl (by decide)))⟩
theorem yr_keep {a : Nat → Int32} {x : Nat} (ha : WF a) : yrS a 3 = a 3 + 1 ∧ (516 ≤ x → yrS a x = a x) := by
  obtain ⟨c1, c2, c3, c4, _⟩ := yr_ws ha
  have k : ∀ x, XK x → shareS (y4 (y3 (y2 (y1 a)))) x = a x := fun x hx => by rw [share_keep c4.1 hx, mend_keep c3.1 hx, asks_keep c2.1 hx, pay_keep c1.1 hx, nm_keep ha hx]
  unfold yrS
  exact ⟨by rw [upd_same, k 3 (Or.inl rfl)], fun hx => by rw [upd_ne (by omega), k x (Or.inr hx)]⟩
theorem go_keep {n : Nat} {m : Nat → Int32} (hW : WF m) : (∀ y, m 3 = nI y → lp (fun _ => yrS) n 0 m 3 = nI (y + n)) ∧ (∀ x, 516 ≤ x → lp (fun _ => yrS) n 0 m x = m x) ∧ WS m (lp (fun _ => yrS) n 0 m) := by
  have := lp_inv (f := fun _ => yrS) (fun j a => (∀ y, m 3 = nI y → a 3 = nI (y + j)) ∧ (∀ x, 516 ≤ x → a x = m x) ∧ WS m a) n 0 m ⟨fun y h => h, fun _ _ => rfl, WS.refl hW⟩ (fun j b h1 h2 h3 => by
    obtain ⟨a1, a2, a3⟩ := h3
    refine ⟨fun y hy => ?_, fun x hx => ((yr_keep (x := x) a3.1).2 hx).trans (a2 x hx), a3.trans (yr_ws a3.1).2.2.2.2⟩
    show yrS b 3 = nI (y + (j + 1))
    rw [(yr_keep (x := 0) a3.1).1, a1 y hy, nI_1]; rfl)
  rw [Nat.zero_add] at this
  exact this
/-- the years ahead, on both sides -/
theorem aheadG {N : Nat} (hN : 1000 < N) {S : St} (h : IV S) {n : Nat} (hn : n ≤ 40) : ∃ S1 S2 S3 S4 S5, f_X9_copy S 55 8 = some S1 ∧ f_X0_goBy N S1 55 (nI n) = some S2 ∧ RT S2 55 (lp (fun _ => yrS) n 0 (S.1 173)) ∧ WS (S.1 173) (lp (fun _ => yrS) n 0 (S.1 173)) ∧ (∀ q, 172 ≤ q → S2.1 q = S.1 q) ∧ f_X12_lay N S2 173 175 = some S3 ∧ f_X12_go N S3 (nI n) = some S4 ∧ S4.1 173 = lp (fun _ => yrS) n 0 (S.1 173) ∧ RT S4 55 (lp (fun _ => yrS) n 0 (S.1 173)) ∧ f_X12_lay N S4 175 173 = some S5 ∧ IV S5 := by
  have hW := h.1.2.1
  have hk := go_keep (n := n) hW
  obtain ⟨S1, a1, b1, c1⟩ := cCopy h.1.1 hW (Or.inl rfl) (Or.inr (Or.inl rfl)) (by decide) h.2.2.2.2.2.1 h.2.2.2.2.2.2.1
  obtain ⟨S2, a2, b2, c2⟩ := cGo (N := N) (by omega) (S := S1) (Or.inr (Or.inl rfl)) ⟨FrC.refl, c1⟩ hW (n := n) (by omega) (by omega)
  have f2 : FrC 55 S S2 := b1.trans b2.1
  have g2 : ∀ q, 172 ≤ q → S2.1 q = S.1 q := fun q hq => f2 q (Or.inr (by omega)) (by omega)
  obtain ⟨S3, a3, b3, c3, d3⟩ := mLay hN (S := S2) (v0 := 173) (v1 := 175) rfl rfl (by decide)
  have e3 : S3.1 173 = S.1 173 := by rw [b3 _ (by decide), g2 _ (by decide)]
  obtain ⟨S4, a4, b4⟩ := mGo (N := N) (by omega) (S := S3) (S0 := S3) (n := n) ⟨fun _ _ _ _ => rfl, rfl, e3⟩ hW (by omega) (by omega)
  have f4 : ∀ q, q ≠ 173 → q ≠ 175 → q ≠ 178 → q ≠ 179 → S4.1 q = S2.1 q := fun q x1 x2 x3 x4 => by rw [b4.1 q x1 x3 x4, b3 q x2]
  have r4 : RT S4 55 (lp (fun _ => yrS) n 0 (S.1 173)) := b2.2.fr (fun q x1 x2 => f4 q (by omega) (by omega) (by omega) (by omega))
  obtain ⟨S5, a5, b5, c5, d5⟩ := mLay hN (S := S4) (v0 := 175) (v1 := 173) rfl rfl (by decide)
  have e5 : ∀ x, x < 516 → S5.1 173 x = S.1 173 x := fun x hx => by rw [d5 x hx, b4.1 175 (by decide) (by decide) (by decide), d3 x hx, g2 _ (by decide)]
  have f5 : ∀ q, q ≠ 173 → q ≠ 175 → q ≠ 178 → q ≠ 179 → S5.1 q = S2.1 q := fun q x1 x2 x3 x4 => by rw [b5 q x1, f4 q x1 x2 x3 x4]
  refine ⟨S1, S2, S3, S4, S5, a1, a2, b2.2, hk.2.2, g2, a3, a4, b4.2.2, r4, a5, ?_⟩
  refine h.tw (fun q x1 x2 x3 x4 x5 x6 x7 x8 x9 => by rw [f5 q x4 x5 x7 x8, f2 q (by omega) (by omega)]) ?_ ?_ ?_ ?_ ⟨?_, ?_, ?_⟩
  · rw [f5 172 (by decide) (by decide) (by decide) (by decide), g2 172 (by decide)]
  · rw [f5 172 (by decide) (by decide) (by decide) (by decide), g2 172 (by decide)]
  · rw [f5 87 (by decide) (by decide) (by decide) (by decide)]; exact b2.2.2.1.2.2
  · rw [f5 94 (by decide) (by decide) (by decide) (by decide)]; exact b2.2.2.2.1.2.2
  · exact (h.1.1.fr (S' := S5) (fun q x1 x2 => by rw [f5 q (by omega) (by omega) (by omega) (by omega), f2 q (by omega) (by omega)])).congr hW e5
  · exact hW.congr e5
  · unfold YR; rw [e5 3 (by decide)]; exact h.1.2.2
theorem K_then {N : Nat} (hN : 1000 < N) {S : St} (h : IV S) (v1 v2 : Int32) : CC S (fun s => f_X11_then N s v1 v2) (fun s => f_X12_then N s v1 v2) := by
  refine CC.gw 40 h rfl (by decide) (fun _ => rfl) (fun _ => rfl) (fun n hn e => ?_)
  subst e
  refine CC.gw 6 h rfl (by decide) (fun _ => rfl) (fun _ => rfl) (fun x hx e => ?_)
  subst e
  obtain ⟨S1, S2, S3, S4, S5, a1, a2, a3, a4, a5, a6, a7, a8, a9, a10, a11⟩ := aheadG hN h hn
  refine ⟨figM (lp (fun _ => yrS) n 0 (S.1 173)) (nI x), S2, S5, ?_, a5, ?_, a11⟩
  · (try dsimp only)
    rw [a1, bnd_some, a2, bnd_some, cFig (by omega) a3 a4.1 (Or.inr (Or.inl rfl)) hx, bnd_some]
  · (try dsimp only)
    rw [a6, bnd_some, a7, bnd_some, mFig (by omega) a8 a9 a4.1 (Or.inr (Or.inl rfl)), bnd_some, a10, bnd_some]
theorem K_whose {N : Nat} (hN : 1000 < N) {S : St} (h : IV S) (v1 v2 : Int32) : CC S (fun s => f_X11_whose N s v1 v2) (fun s => f_X12_whose N s v1 v2) := by
  refine CC.gw 40 h rfl (by decide) (fun _ => rfl) (fun _ => rfl) (fun n hn e => ?_)
  subst e
  refine CC.gt h (fun _ => rfl) (fun _ => rfl) (fun i hi e => ?_)
  subst e
  have hi2 := h.1.2.1.nt.2
  obtain ⟨S1, S2, S3, S4, S5, a1, a2, a3, a4, a5, a6, a7, a8, a9, a10, a11⟩ := aheadG hN h hn
  refine ⟨lp (fun _ => yrS) n 0 (S.1 173) (44 + 4 * i), S2, S5, ?_, a5, ?_, a11⟩
  · (try dsimp only)
    rw [a1, bnd_some, a2, bnd_some, show f_X5_at S2 66 (nI i) = _ from cOwn a3 a4.1 (Or.inr (Or.inl rfl)) (by rw [a4.2.2.1]; exact hi), bnd_some]
  · (try dsimp only)
    rw [a6, bnd_some, a7, bnd_some, mOwn a8 (by omega), bnd_some, a10, bnd_some]
