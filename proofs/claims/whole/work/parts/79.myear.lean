/-! the model's side of the pot; the whole year -/
theorem mShare {N : Nat} (hN : 100 < N) {S S1 : St} {m : Nat → Int32} (h0 : MR S S1 m) (hW : WF m) : ∃ s, f_X12_sharesOut N S1 = some s ∧ MR S s (shareS m) := by
  have hp2 := hW.np.2
  have hM := h0.2.2
  have hpot : m 5 = nI (w m 5) ∧ w m 5 < 2000000000 := hW.ty (x := 5) (n := 2000000000) rfl (by decide)
  have hru : m 12 = nI (w m 12) ∧ w m 12 < 3 := hW.ty (x := 12) (n := 3) rfl (by decide)
  unfold f_X12_sharesOut shareS
  rw [hM, hru.1, hW.np.1, hpot.1]
  by_cases c3 : w m 12 = 0
  · rw [c3, if_pos (show nI 0 = (0 : Int32) from rfl), if_pos rfl]
    exact ⟨S1, rfl, h0⟩
  · rw [if_neg (nI_ne0 (by omega) (by omega)), if_neg c3]
    by_cases c0 : w m 0 = 0
    · rw [c0, if_pos (show nI 0 = (0 : Int32) from rfl), if_pos rfl]
      exact ⟨S1, rfl, h0⟩
    · rw [if_neg (nI_ne0 (by omega) (by omega)), if_neg c0]
      by_cases c1 : w m 12 = 1
      · rw [c1, if_pos (show nI 1 = (1 : Int32) from rfl), if_pos rfl, if_neg (nI_ne0 (by omega) (by omega)), pk_div (by omega) (by omega) (by omega)]
        have hq : w m 5 / w m 0 < 2000000000 := by have := Nat.div_le_self (w m 5) (w m 0); omega
        have hstep : ∀ (f p : Nat) (s : St) (a : Nat → Int32), p < w m 0 → (MR S s a ∧ WS m a) → ∃ s', f_X12_sharesOut_44 N (f + 1) s (nI (w m 0)) (nI (w m 5 / w m 0)) (nI p) = f_X12_sharesOut_44 N f s' (nI (w m 0)) (nI (w m 5 / w m 0)) (nI (p + 1)) ∧ (MR S s' (sold1 p (w m 5 / w m 0) a) ∧ WS m (sold1 p (w m 5 / w m 0) a)) := by
          intro f p s a hp hR
          obtain ⟨r1, r3⟩ := hR
          refine ⟨_, ?_, r1.pt _ _, rcv_wf r3 (by omega)⟩
          rw [f_X12_sharesOut_44, if_neg (nI_ge hp (by omega)), mGets r1 r3.1 (by omega) hq, bnd_some, nI_1]
        obtain ⟨s', f', e1, e2⟩ := loopR (fun f p s => f_X12_sharesOut_44 N f s (nI (w m 0)) (nI (w m 5 / w m 0)) (nI p)) (fun _ s a => MR S s a ∧ WS m a) (fun p b => sold1 p (w m 5 / w m 0) b) (w m 0) hstep (w m 0) 0 N S1 m ⟨h0, WS.refl hW⟩ (by omega) (by omega)
        have hb := eq_wf hW
        have hle : w m 5 / w m 0 * w m 0 ≤ w m 5 := Nat.div_mul_le_self _ _
        have e13 : s'.1 173 5 = nI (w m 5) := by
          rw [e2.1.2.2, (e2.2.1.ty (x := 5) (n := 2000000000) rfl (by decide)).1, hb.2]
        refine ⟨pt s' 173 5 (nI (w m 5 - w m 5 / w m 0 * w m 0)), ?_, e2.1.pt _ _⟩
        refine Eq.trans e1 ?_
        show f_X12_sharesOut_44 N (f' + 1) s' (nI (w m 0)) (nI (w m 5 / w m 0)) (nI (w m 0)) = _
        rw [f_X12_sharesOut_44, if_pos (nI_le (Nat.le_refl _) (by omega)), e13, pk_mul, nI_sub hle]
      · rw [if_neg (show ¬ nI (w m 12) = (1 : Int32) from fun e => c1 ((nI_eq (by omega) (by omega)).mp (show nI (w m 12) = nI 1 from e))), if_neg c1]
        have hstep : ∀ (f j : Nat) (s : Int32) (b : Nat), j < w m 0 → (s = nI b ∧ b < w m 0) → ∃ s', f_X12_sharesOut_78 N (f + 1) S1 (nI (w m 0)) s (nI j) = f_X12_sharesOut_78 N f S1 (nI (w m 0)) s' (nI (j + 1)) ∧ (s' = nI (if w m (21 + 4 * b) ≤ w m (21 + 4 * j) then b else j) ∧ (if w m (21 + 4 * b) ≤ w m (21 + 4 * j) then b else j) < w m 0) := by
          intro f j s b hj hR
          obtain ⟨rfl, hb⟩ := hR
          have b1 := hW.ty (l_purse b (by omega)) (by decide)
          have b2 := hW.ty (l_purse j (by omega)) (by decide)
          rw [f_X12_sharesOut_78, if_neg (nI_ge hj (by omega)), mPurse hM (by omega), bnd_some, mPurse hM (by omega), bnd_some, b1.1, b2.1]
          by_cases c : w m (21 + 4 * b) ≤ w m (21 + 4 * j)
          · rw [if_pos (nI_le c (by omega)), if_pos c]
            exact ⟨nI b, by unfold f_X12_sharesOut_103; rw [nI_1], rfl, hb⟩
          · rw [if_neg (nI_ge (by omega) (by omega)), if_neg c]
            exact ⟨nI j, by unfold f_X12_sharesOut_103; rw [nI_1], rfl, hj⟩
        obtain ⟨s', f', e, r1, r2⟩ := loopR (fun f j s => f_X12_sharesOut_78 N f S1 (nI (w m 0)) s (nI j)) (fun _ s b => s = nI b ∧ b < w m 0) (fun p b => if w m (21 + 4 * b) ≤ w m (21 + 4 * p) then b else p) (w m 0) hstep (w m 0 - 1) 1 N 0 0 ⟨rfl, by omega⟩ (by omega) (by omega)
        have hpl := poor_lt (m := m) (by omega)
        refine ⟨pt (pt S1 173 (21 + 4 * poor m) (nI (if 999999 < w m (21 + 4 * poor m) + w m 5 then 999999 else w m (21 + 4 * poor m) + w m 5))) 173 5 0, ?_, (h0.pt _ _).pt _ _⟩
        refine Eq.trans e ?_
        show f_X12_sharesOut_78 N (f' + 1) S1 (nI (w m 0)) s' (nI (w m 0)) = _
        rw [f_X12_sharesOut_78, if_pos (nI_le (Nat.le_refl _) (by omega)), r1]
        show bnd (f_X12_gets S1 (nI (poor m)) (S1.1 173 5)) _ = _
        rw [hM, hpot.1, mGets h0 hW (by omega) hpot.2, bnd_some]
def y1 (m : Nat → Int32) : Nat → Int32 := lp nmS (w m 1) 0 m
def y2 (m : Nat → Int32) : Nat → Int32 := lp payS (w m 1) 0 m
def y3 (m : Nat → Int32) : Nat → Int32 := lp askS (w m 1) 0 m
def y4 (m : Nat → Int32) : Nat → Int32 := lp mendS (w m 1) 0 m
def yrS (m : Nat → Int32) : Nat → Int32 := upd (shareS (y4 (y3 (y2 (y1 m))))) 3 ((shareS (y4 (y3 (y2 (y1 m))))) 3 + 1)
theorem cYear {N : Nat} (hN : 100 < N) {S S0 : St} {t : Nat} {m : Nat → Int32} (ht : TP t) (h0 : CR S t S0 m) (hW : WF m) : ∃ s1 s2 s3 s4 s5, f_X0_nameAll N S0 t = some s1 ∧ f_X0_payAll N s1 t = some s2 ∧ f_X0_sellAll N s2 t = some s3 ∧ f_X0_mendAll N s3 t = some s4 ∧ f_X0_sharePot N s4 t = some s5 ∧ CR S t (pt s5 t 11 (s5.1 t 11 + 1)) (yrS m) ∧ WS m (yrS m) := by
  obtain ⟨s1, a1, b1, c1⟩ := cNames hN ht ⟨FrC.refl, h0.2⟩ hW
  have b1' : CR S t s1 (y1 m) := ⟨h0.1.trans b1.1, b1.2⟩
  obtain ⟨s2, a2, b2, c2⟩ := cPays hN ht b1' c1.1
  obtain ⟨s3, a3, b3, c3⟩ := cSells hN ht b2 c2.1
  obtain ⟨s4, a4, b4, c4⟩ := cMends hN ht b3 c3.1
  obtain ⟨s5, a5, b5⟩ := cShare hN ht b4 c4.1
  have c5 := shareS_wf c4.1
  have cc := (((c1.trans c2).trans c3).trans c4).trans c5
  refine ⟨s1, s2, s3, s4, s5, a1, a2, a3, a4, a5, ⟨b5.1.pt (Or.inl (by omega)), ?_⟩, cc.set (by decide) (cc.1.setU (by decide) (Or.inl (by decide)))⟩
  rw [b5.2.2.2.2.1]
  exact b5.2.fld c5.1 (j := 11) (x := 3) (Or.inl ⟨rfl, rfl⟩) _
theorem mYear {N : Nat} (hN : 100 < N) {S S0 : St} {m : Nat → Int32} (h0 : MR S S0 m) (hW : WF m) : ∃ s, f_X12_year N S0 = some s ∧ MR S s (yrS m) := by
  have h00 : MR S0 S0 m := ⟨fun _ _ _ _ => rfl, rfl, h0.2.2⟩
  obtain ⟨s1, a1, b1⟩ := mNames hN h00 hW
  have b1' : MR S s1 (y1 m) := ⟨fun q x1 x2 x3 => (b1.1 q x1 x2 x3).trans (h0.1 q x1 x2 x3), b1.2.1.trans h0.2.1, b1.2.2⟩
  have c1 : WS m (y1 m) := (lp_inv (f := nmS) (fun j a => j ≤ w m 1 ∧ WS m a) (w m 1) 0 m ⟨Nat.zero_le _, WS.refl hW⟩ (fun j b x1 x2 x3 => ⟨by omega, nmS_wf x3.2 (by omega)⟩)).2
  obtain ⟨s2, a2, b2⟩ := mPays hN b1' c1.1
  have c2 : WS (y1 m) (y2 (y1 m)) := (lp_inv (f := payS) (fun j a => j ≤ w (y1 m) 1 ∧ WS (y1 m) a) (w (y1 m) 1) 0 (y1 m) ⟨Nat.zero_le _, WS.refl c1.1⟩ (fun j b x1 x2 x3 => ⟨by omega, (payS_wf x3.2 (by omega)).2⟩)).2
  obtain ⟨s3, a3, b3⟩ := mSells hN b2 c2.1
  have c3 : WS (y2 (y1 m)) (y3 (y2 (y1 m))) := (lp_inv (f := askS) (fun j a => j ≤ w (y2 (y1 m)) 1 ∧ WS (y2 (y1 m)) a) (w (y2 (y1 m)) 1) 0 (y2 (y1 m)) ⟨Nat.zero_le _, WS.refl c2.1⟩ (fun j b x1 x2 x3 => ⟨by omega, askS_wf x3.2 (by omega)⟩)).2
  obtain ⟨s4, a4, b4, c4⟩ := mMends hN b3 c3.1
  obtain ⟨s5, a5, b5⟩ := mShare hN b4 c4.1
  refine ⟨pt s5 173 3 (s5.1 173 3 + 1), ?_, ?_⟩
  · rw [a1, a2, a3, a4, a5, bnd_some]
  · rw [b5.2.2]; exact b5.pt 3 _
theorem cGo {N : Nat} (hN : 100 < N) {S S0 : St} {t n : Nat} {m : Nat → Int32} (ht : TP t) (h0 : CR S t S0 m) (hW : WF m) (hn : n < N) (h31 : n < 2 ^ 31) : ∃ s, f_X0_goBy N S0 t (nI n) = some s ∧ CR S t s (lp (fun _ => yrS) n 0 m) ∧ WS m (lp (fun _ => yrS) n 0 m) := by
  have hstep : ∀ (f i : Nat) (s : St) (a : Nat → Int32), i < n → (CR S t s a ∧ WS m a) → ∃ s', f_X0_goBy_2 N (f + 1) s t (nI n) (nI i) = f_X0_goBy_2 N f s' t (nI n) (nI (i + 1)) ∧ (CR S t s' (yrS a) ∧ WS m (yrS a)) := by
    intro f i s a hi hR
    obtain ⟨s1, s2, s3, s4, s5, a1, a2, a3, a4, a5, a6, a7⟩ := cYear hN ht hR.1 hR.2.1
    refine ⟨_, ?_, a6, hR.2.trans a7⟩
    rw [f_X0_goBy_2, if_neg (nI_ge hi h31), a1, bnd_some, a2, bnd_some, a3, bnd_some, a4, bnd_some, a5, bnd_some, nI_1]
  obtain ⟨s', f', e1, e2⟩ := loopR (fun f i s => f_X0_goBy_2 N f s t (nI n) (nI i)) (fun _ s a => CR S t s a ∧ WS m a) (fun _ => yrS) n hstep n 0 N S0 m ⟨h0, WS.refl hW⟩ (by omega) hn
  refine ⟨s', ?_, e2⟩
  unfold f_X0_goBy
  refine e1.trans ?_
  show f_X0_goBy_2 N (f' + 1) s' t (nI n) (nI n) = _
  rw [f_X0_goBy_2, if_pos (nI_le (Nat.le_refl _) h31)]
theorem mGo {N : Nat} (hN : 100 < N) {S S0 : St} {n : Nat} {m : Nat → Int32} (h0 : MR S S0 m) (hW : WF m) (hn : n < N) (h31 : n < 2 ^ 31) : ∃ s, f_X12_go N S0 (nI n) = some s ∧ MR S s (lp (fun _ => yrS) n 0 m) := by
  have hY : ∀ a, WF a → WS a (yrS a) := fun a ha => by
    have c1 : WS a (y1 a) := (lp_inv (f := nmS) (fun j b => j ≤ w a 1 ∧ WS a b) (w a 1) 0 a ⟨Nat.zero_le _, WS.refl ha⟩ (fun j b x1 x2 x3 => ⟨by omega, nmS_wf x3.2 (by omega)⟩)).2
    have c2 : WS (y1 a) (y2 (y1 a)) := (lp_inv (f := payS) (fun j b => j ≤ w (y1 a) 1 ∧ WS (y1 a) b) (w (y1 a) 1) 0 (y1 a) ⟨Nat.zero_le _, WS.refl c1.1⟩ (fun j b x1 x2 x3 => ⟨by omega, (payS_wf x3.2 (by omega)).2⟩)).2
    have c3 : WS (y2 (y1 a)) (y3 (y2 (y1 a))) := (lp_inv (f := askS) (fun j b => j ≤ w (y2 (y1 a)) 1 ∧ WS (y2 (y1 a)) b) (w (y2 (y1 a)) 1) 0 (y2 (y1 a)) ⟨Nat.zero_le _, WS.refl c2.1⟩ (fun j b x1 x2 x3 => ⟨by omega, askS_wf x3.2 (by omega)⟩)).2
    have c4 : WS (y3 (y2 (y1 a))) (y4 (y3 (y2 (y1 a)))) := (lp_inv (f := mendS) (fun j b => j ≤ w (y3 (y2 (y1 a))) 1 ∧ WS (y3 (y2 (y1 a))) b) (w (y3 (y2 (y1 a))) 1) 0 (y3 (y2 (y1 a))) ⟨Nat.zero_le _, WS.refl c3.1⟩ (fun j b x1 x2 x3 => ⟨by omega, mendS_wf x3.2 (by omega)⟩)).2
    have cc := (((c1.trans c2).trans c3).trans c4).trans (shareS_wf c4.1)
    exact cc.set (by decide) (cc.1.setU (by decide) (Or.inl (by decide)))
  have hstep : ∀ (f i : Nat) (s : St) (a : Nat → Int32), i < n → (MR S s a ∧ WF a) → ∃ s', f_X12_go_2 N (f + 1) s (nI n) (nI i) = f_X12_go_2 N f s' (nI n) (nI (i + 1)) ∧ (MR S s' (yrS a) ∧ WF (yrS a)) := by
    intro f i s a hi hR
    obtain ⟨s1, a1, a2⟩ := mYear hN hR.1 hR.2
    refine ⟨s1, ?_, a2, (hY a hR.2).1⟩
    rw [f_X12_go_2, if_neg (nI_ge hi h31), a1, bnd_some, nI_1]
  obtain ⟨s', f', e1, e2⟩ := loopR (fun f i s => f_X12_go_2 N f s (nI n) (nI i)) (fun _ s a => MR S s a ∧ WF a) (fun _ => yrS) n hstep n 0 N S0 m ⟨h0, hW⟩ (by omega) hn
  refine ⟨s', ?_, e2.1⟩
  unfold f_X12_go
  refine e1.trans ?_
  show f_X12_go_2 N (f' + 1) s' (nI n) (nI n) = _
  rw [f_X12_go_2, if_pos (nI_le (Nat.le_refl _) h31)]
