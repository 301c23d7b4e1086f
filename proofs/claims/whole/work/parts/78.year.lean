/-! THE YEAR: the pot, and years -/
theorem rcv_wf {m a : Nat → Int32} (h : WS m a) {p d : Nat} (hp : p < 6) : WS m (sold1 p d a) := h.set (by omega) (h.1.set rfl (by omega) (by omega) (by rw [l_purse _ hp]; split <;> omega) (fun p e => by omega) (fun p e => by omega) (fun k e => by omega))
theorem cRcv {S s : St} {t : Nat} {m a : Nat → Int32} (ht : TP t) (h : CR S t s a) (hw : WS m a) {p d : Nat} (hp : p < w m 0) (hd : d < 2000000000) : ∃ s', f_X3_receive s (t + 1) (nI p) (nI d) = some s' ∧ CR S t s' (sold1 p d a) := by
  have hpa : p < w a 0 := by rw [hw.2.1]; exact hp
  have hp2 := hw.1.np.2
  have b1 := hw.1.ty (l_purse p (by omega)) (by decide)
  refine ⟨pt s (t + 5) p (nI (if 999999 < w a (21 + 4 * p) + d then 999999 else w a (21 + 4 * p) + d)), ?_, h.1.pt (Or.inl (by omega)), h.2.put hw.1 (k := 1) (by decide) hpa rfl rfl _⟩
  unfold f_X3_receive
  rw [show t + 1 + 3 = t + 4 from rfl, cPurse h.2 hw.1 ht hpa, bnd_some, b1.1, nI_add, k999999, cSet h.2 hw.1 ht (k := 1) (q := t + 4) (by decide) hpa rfl, bnd_some]
  congr 2
  by_cases c : 999999 < w a (21 + 4 * p) + d
  · rw [if_pos (nI_lt c (by omega)), if_pos c]
  · rw [if_neg (nI_nlt (by omega) (by omega)), if_neg c]
def poor (m : Nat → Int32) : Nat := lp (fun p b => if w m (21 + 4 * b) ≤ w m (21 + 4 * p) then b else p) (w m 0 - 1) 1 0
def eqS (a : Nat → Int32) : Nat → Int32 := upd (lp (fun p b => sold1 p (w a 5 / w a 0) b) (w a 0) 0 a) 5 (nI (w a 5 - w a 5 / w a 0 * w a 0))
def poS (a : Nat → Int32) : Nat → Int32 := upd (sold1 (poor a) (w a 5) a) 5 0
def shareS (a : Nat → Int32) : Nat → Int32 := if w a 12 = 0 then a else if w a 0 = 0 then a else if w a 12 = 1 then eqS a else poS a
theorem poor_lt {m : Nat → Int32} (h : 0 < w m 0) : poor m < w m 0 := by
  have := lp_inv (f := fun p b => if w m (21 + 4 * b) ≤ w m (21 + 4 * p) then b else p) (fun _ b => b < w m 0) (w m 0 - 1) 1 0 h (fun j b h1 h2 h3 => by
    show (if w m (21 + 4 * b) ≤ w m (21 + 4 * j) then b else j) < w m 0
    split <;> omega)
  exact this
theorem eq_wf {m : Nat → Int32} (hW : WF m) : WS m (lp (fun p b => sold1 p (w m 5 / w m 0) b) (w m 0) 0 m) ∧ w (lp (fun p b => sold1 p (w m 5 / w m 0) b) (w m 0) 0 m) 5 = w m 5 := by
  have hp := hW.np.2
  exact lp_inv (f := fun p b => sold1 p (w m 5 / w m 0) b) (fun _ b => WS m b ∧ w b 5 = w m 5) (w m 0) 0 m ⟨WS.refl hW, rfl⟩ (fun j b h1 h2 h3 => ⟨rcv_wf h3.1 (by omega), (upd_w_ne (by omega)).trans h3.2⟩)
theorem shareS_wf {m : Nat → Int32} (hW : WF m) : WS m (shareS m) := by
  have hp := hW.np.2
  have hpot : m 5 = nI (w m 5) ∧ w m 5 < 2000000000 := hW.ty (x := 5) (n := 2000000000) rfl (by decide)
  unfold shareS
  split
  · exact WS.refl hW
  · split
    · exact WS.refl hW
    · split
      · have h1 := (eq_wf hW).1
        exact h1.set (by decide) (h1.1.set rfl (by decide) (by decide) (show _ < 2000000000 by omega) (fun p e => by omega) (fun p e => by omega) (fun k e => by omega))
      · have h1 : WS m (sold1 (poor m) (w m 5) m) := rcv_wf (WS.refl hW) (by have := poor_lt (m := m) (by omega); omega)
        exact h1.set (by decide) (h1.1.set (n := 0) rfl (by decide) (by decide) (by decide) (fun p e => by omega) (fun p e => by omega) (fun k e => by omega))
theorem cPoor {N : Nat} (hN : 100 < N) {S : St} {t : Nat} {m : Nat → Int32} (h : RT S t m) (hW : WF m) (ht : TP t) (h0 : 0 < w m 0) : f_X3_poorest N S (t + 1) = some (nI (poor m)) := by
  have hp2 := hW.np.2
  have hsz : f_X5_size S (t + 4) = some (nI (w m 0)) := p_size (h.row hW ht (k := 1) (by decide))
  have hstep : ∀ (f j : Nat) (s : Int32) (b : Nat), j < w m 0 → (s = nI b ∧ b < w m 0) → ∃ s', f_X3_poorest_4 N S (f + 1) (t + 1) s (nI j) = f_X3_poorest_4 N S f (t + 1) s' (nI (j + 1)) ∧ (s' = nI (if w m (21 + 4 * b) ≤ w m (21 + 4 * j) then b else j) ∧ (if w m (21 + 4 * b) ≤ w m (21 + 4 * j) then b else j) < w m 0) := by
    intro f j s b hj hR
    obtain ⟨rfl, hb⟩ := hR
    have b1 := hW.ty (l_purse b (by omega)) (by decide)
    have b2 := hW.ty (l_purse j (by omega)) (by decide)
    rw [f_X3_poorest_4, show t + 1 + 3 = t + 4 from rfl, hsz, bnd_some, if_neg (nI_ge hj (by omega)), cPurse h hW ht hj, bnd_some, cPurse h hW ht hb, bnd_some, b1.1, b2.1]
    by_cases c : w m (21 + 4 * b) ≤ w m (21 + 4 * j)
    · rw [if_pos (nI_le c (by omega)), if_pos c]
      exact ⟨nI b, by unfold f_X3_poorest_36; rw [nI_1], rfl, hb⟩
    · rw [if_neg (nI_ge (by omega) (by omega)), if_neg c]
      exact ⟨nI j, by unfold f_X3_poorest_36; rw [nI_1], rfl, hj⟩
  obtain ⟨s', f', e, r1, r2⟩ := loopR (fun f j s => f_X3_poorest_4 N S f (t + 1) s (nI j)) (fun _ s b => s = nI b ∧ b < w m 0) (fun p b => if w m (21 + 4 * b) ≤ w m (21 + 4 * p) then b else p) (w m 0) hstep (w m 0 - 1) 1 N 0 0 ⟨rfl, h0⟩ (by omega) (by omega)
  unfold f_X3_poorest
  refine Eq.trans e ?_
  show f_X3_poorest_4 N S (f' + 1) (t + 1) s' (nI (w m 0)) = _
  rw [f_X3_poorest_4, show t + 1 + 3 = t + 4 from rfl, hsz, bnd_some, if_pos (nI_le (Nat.le_refl _) (by omega)), r1]
  rfl
theorem cShare {N : Nat} (hN : 100 < N) {S S1 : St} {t : Nat} {m : Nat → Int32} (ht : TP t) (h0 : CR S t S1 m) (hW : WF m) : ∃ s, f_X0_sharePot N S1 t = some s ∧ CR S t s (shareS m) := by
  have hp2 := hW.np.2
  have hpot : m 5 = nI (w m 5) ∧ w m 5 < 2000000000 := hW.ty (x := 5) (n := 2000000000) rfl (by decide)
  have hru : m 12 = nI (w m 12) ∧ w m 12 < 3 := hW.ty (x := 12) (n := 3) rfl (by decide)
  have hr2 : ∀ s a, RT s t a → WF a → f_X5_at s (t + 27) 2 = some (a 12) := fun s a hs ha => cRule hs ha ht (j := 2) (by decide)
  unfold f_X0_sharePot shareS
  rw [cNp h0.2 hW ht, bnd_some, hr2 _ _ h0.2 hW, bnd_some, hru.1, h0.2.2.2.2.2.2.1, hpot.1]
  by_cases c0 : w m 0 = 0
  · rw [c0, if_pos (show nI 0 ≤ 0 by decide), if_pos rfl]
    refine ⟨S1, ?_, by split <;> exact h0⟩
    unfold f_X0_sharePot_65
    rw [if_pos (show nI 0 ≤ 0 by decide)]
  · rw [if_neg (nI_nle (by omega) (by omega)), if_neg c0]
    have h65 : f_X0_sharePot_65 N S1 t (nI (w m 0)) = (if nI (w m 12) = 2 then bnd (f_X3_poorest N S1 (t + 1)) (fun a6 => bnd (f_X3_receive S1 (t + 1) a6 (S1.1 t 13)) (fun S8 => some (pt S8 t 13 0))) else some S1) := by
      unfold f_X0_sharePot_65
      rw [if_neg (nI_nle (by omega) (by omega)), hr2 _ _ h0.2 hW, bnd_some, hru.1]
    by_cases c1 : w m 12 = 1
    · rw [c1, if_pos (show nI 1 = (1 : Int32) from rfl), if_neg (nI_ne0 (by omega) (by omega)), if_neg (show ¬ (1 : Nat) = 0 by decide), if_pos (show (1 : Nat) = 1 from rfl), pk_div (by omega) (by omega) (by omega)]
      have hq : w m 5 / w m 0 < 2000000000 := by have := Nat.div_le_self (w m 5) (w m 0); omega
      have hstep : ∀ (f p : Nat) (s : St) (a : Nat → Int32), p < w m 0 → (CR S t s a ∧ WS m a) → ∃ s', f_X0_sharePot_33 N (f + 1) s t (nI (w m 0)) (nI (w m 5 / w m 0)) (nI p) = f_X0_sharePot_33 N f s' t (nI (w m 0)) (nI (w m 5 / w m 0)) (nI (p + 1)) ∧ (CR S t s' (sold1 p (w m 5 / w m 0) a) ∧ WS m (sold1 p (w m 5 / w m 0) a)) := by
        intro f p s a hp hR
        obtain ⟨r1, r3⟩ := hR
        obtain ⟨s', g1, g2⟩ := cRcv ht r1 r3 hp hq
        refine ⟨s', ?_, g2, rcv_wf r3 (by omega)⟩
        rw [f_X0_sharePot_33, if_neg (nI_ge hp (by omega)), g1, bnd_some, nI_1]
      obtain ⟨s', f', e1, e2⟩ := loopR (fun f p s => f_X0_sharePot_33 N f s t (nI (w m 0)) (nI (w m 5 / w m 0)) (nI p)) (fun _ s a => CR S t s a ∧ WS m a) (fun p b => sold1 p (w m 5 / w m 0) b) (w m 0) hstep (w m 0) 0 N S1 m ⟨h0, WS.refl hW⟩ (by omega) (by omega)
      have hb := eq_wf hW
      have hle : w m 5 / w m 0 * w m 0 ≤ w m 5 := Nat.div_mul_le_self _ _
      have e13 : s'.1 t 13 = nI (w m 5) := by
        rw [e2.1.2.2.2.2.2.2.1, (e2.2.1.ty (x := 5) (n := 2000000000) rfl (by decide)).1, hb.2]
      have hR : RT (pt s' t 13 (nI (w m 5 - w m 5 / w m 0 * w m 0))) t (eqS m) := e2.1.2.fld e2.2.1 (j := 13) (x := 5) (Or.inr (Or.inr (Or.inl ⟨rfl, rfl⟩))) _
      have hE : WF (eqS m) := by have := (shareS_wf hW).1; unfold shareS at this; rw [if_neg (by omega), if_neg c0, if_pos c1] at this; exact this
      refine ⟨pt s' t 13 (nI (w m 5 - w m 5 / w m 0 * w m 0)), ?_, e2.1.1.pt (Or.inl (by omega)), hR⟩
      refine Eq.trans e1 ?_
      show f_X0_sharePot_33 N (f' + 1) s' t (nI (w m 0)) (nI (w m 5 / w m 0)) (nI (w m 0)) = _
      rw [f_X0_sharePot_33, if_pos (nI_le (Nat.le_refl _) (by omega)), e13, pk_mul, nI_sub hle]
      unfold f_X0_sharePot_65
      have e12 : eqS m 12 = nI 1 := by
        have : w (eqS m) 12 = 1 := by
          unfold eqS
          rw [upd_w_ne (by decide)]
          have := lp_inv (f := fun p b => sold1 p (w m 5 / w m 0) b) (fun _ b => w b 12 = w m 12) (w m 0) 0 m rfl (fun j b _ _ h3 => (upd_w_ne (by omega)).trans h3)
          rw [this, c1]
        rw [(hE.ty (x := 12) (n := 3) rfl (by decide)).1, this]
      rw [if_neg (nI_nle (by omega) (by omega)), hr2 _ _ hR hE, bnd_some, e12, if_neg (show ¬ nI 1 = (2 : Int32) by decide)]
    · rw [if_neg (show ¬ nI (w m 12) = (1 : Int32) from fun e => c1 ((nI_eq (by omega) (by omega)).mp (show nI (w m 12) = nI 1 from e))), if_neg c1, h65]
      by_cases c2 : w m 12 = 2
      · rw [c2, if_pos (show nI 2 = (2 : Int32) from rfl), if_neg (show ¬ (2 : Nat) = 0 by decide), cPoor hN h0.2 hW ht (by omega), bnd_some, h0.2.2.2.2.2.2.1, hpot.1]
        obtain ⟨s', g1, g2⟩ := cRcv ht h0 (WS.refl hW) (poor_lt (by omega)) hpot.2
        have hw1 : WS m (sold1 (poor m) (w m 5) m) := rcv_wf (WS.refl hW) (by have := poor_lt (m := m) (by omega); omega)
        refine ⟨pt s' t 13 0, by rw [g1, bnd_some], g2.1.pt (Or.inl (by omega)), g2.2.fld hw1.1 (j := 13) (x := 5) (Or.inr (Or.inr (Or.inl ⟨rfl, rfl⟩))) _⟩
      · have c3 : w m 12 = 0 := by omega
        rw [c3, if_neg (show ¬ nI 0 = (2 : Int32) by decide), if_pos rfl]
        exact ⟨S1, rfl, h0⟩
