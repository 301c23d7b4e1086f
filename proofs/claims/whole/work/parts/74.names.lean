/-! THE YEAR: names and payments -/
theorem cSet {S : St} {t : Nat} {m : Nat → Int32} (h : RT S t m) (hW : WF m) (ht : TP t) {k i q : Nat} (hk : k < 15) (hi : i < siz m k) (hq : q = t + off k) (v : Int32) : f_X5_set S q (nI i) v = some (pt S (q + 1) i v) := by
  subst hq
  exact p_set (h.row hW ht hk) hi
/-- the class's world and the model's, while a town changes -/
def CR (S : St) (t : Nat) (s : St) (a : Nat → Int32) : Prop := FrC t S s ∧ RT s t a
def MR (S : St) (s : St) (a : Nat → Int32) : Prop := (∀ q, q ≠ 173 → q ≠ 178 → q ≠ 179 → s.1 q = S.1 q) ∧ s.2 = S.2 ∧ s.1 173 = a
/-- a town that still has as many people and things -/
def WS (m a : Nat → Int32) : Prop := WF a ∧ w a 0 = w m 0 ∧ w a 1 = w m 1 ∧ w a 2 = w m 2
theorem WS.trans {m a b : Nat → Int32} (h : WS m a) (h2 : WS a b) : WS m b := ⟨h2.1, h2.2.1.trans h.2.1, h2.2.2.1.trans h.2.2.1, h2.2.2.2.trans h.2.2.2⟩
theorem WS.set {m a : Nat → Int32} (h : WS m a) {x : Nat} {v : Int32} (hx : x ≠ 0 ∧ x ≠ 1 ∧ x ≠ 2) (hW : WF (upd a x v)) : WS m (upd a x v) := ⟨hW, (upd_w_ne (by omega)).trans h.2.1, (upd_w_ne (by omega)).trans h.2.2.1, (upd_w_ne (by omega)).trans h.2.2.2⟩
theorem WS.refl {m : Nat → Int32} (h : WF m) : WS m m := ⟨h, rfl, rfl, rfl⟩
def nmS (i : Nat) (m : Nat → Int32) : Nat → Int32 := upd m (45 + 4 * i) (hld (raw m i))
theorem nmS_wf {m a : Nat → Int32} (h : WS m a) {i : Nat} (hi : i < w m 1) : WS m (nmS i a) := by
  have hi2 := h.1.nt.2
  have h1 := h.2.2.1
  obtain ⟨n, hn, e⟩ := nmP_in (m := a) (i := i)
  exact h.set (by omega) (h.1.set e (by omega) (by omega) (by rw [l_price i (by omega)]; omega) (fun p e => by omega) (fun p e => by omega) (fun k e => by omega))
theorem cNames {N : Nat} (hN : 100 < N) {S : St} {t : Nat} {m : Nat → Int32} (ht : TP t) (h0 : CR S t S m) (hW : WF m) : ∃ s, f_X0_nameAll N S t = some s ∧ CR S t s (lp nmS (w m 1) 0 m) ∧ WS m (lp nmS (w m 1) 0 m) := by
  have hi2 := hW.nt.2
  have hstep : ∀ (f i : Nat) (s : St) (a : Nat → Int32), i < w m 1 → (CR S t s a ∧ WS m a) → ∃ s', f_X0_nameAll_2 N (f + 1) s t (nI i) = f_X0_nameAll_2 N f s' t (nI (i + 1)) ∧ (CR S t s' (nmS i a) ∧ WS m (nmS i a)) := by
    intro f i s a hi hR
    obtain ⟨⟨r1, r2⟩, r3⟩ := hR
    have hia : i < w a 1 := by rw [r3.2.2.1]; exact hi
    obtain ⟨s1, a1, a2, a3⟩ := cName hN r2 r3.1 ht hia
    refine ⟨pt s1 (t + 14) i (hld (raw a i)), ?_, ⟨⟨(r1.trans a2).pt (Or.inl (by omega)), ?_⟩, nmS_wf r3 hi⟩⟩
    · rw [f_X0_nameAll_2, cNt r2 r3.1 ht, r3.2.2.1, bnd_some, if_neg (nI_ge hi (by omega)), a1, bnd2_some, cSet a3 r3.1 ht (k := 5) (q := t + 13) (by decide) hia rfl, bnd_some, nI_1]
    · exact a3.put r3.1 (k := 5) (by decide) hia (x := 45 + 4 * i) rfl rfl _
  obtain ⟨s', f', e1, e2⟩ := loopR (fun f i s => f_X0_nameAll_2 N f s t (nI i)) (fun _ s a => CR S t s a ∧ WS m a) nmS (w m 1) hstep (w m 1) 0 N S m ⟨h0, WS.refl hW⟩ (by omega) (by omega)
  refine ⟨s', ?_, e2⟩
  unfold f_X0_nameAll
  refine e1.trans ?_
  show f_X0_nameAll_2 N (f' + 1) s' t (nI (w m 1)) = _
  rw [f_X0_nameAll_2, cNt e2.1.2 e2.2.1 ht, e2.2.2.2.1, bnd_some, if_pos (nI_le (Nat.le_refl _) (by omega))]
theorem mNames {N : Nat} (hN : 100 < N) {S : St} {m : Nat → Int32} (h0 : MR S S m) (hW : WF m) : ∃ s, f_X12_year N S = f_X12_year_38 N N s 0 ∧ MR S s (lp nmS (w m 1) 0 m) := by
  have hi2 := hW.nt.2
  have hz : ∀ s a, MR S s a → WS m a → s.1 173 1 = nI (w m 1) := fun s a h1 h2 => by rw [h1.2.2, ← h2.2.2.1]; exact h2.1.nt.1
  have hstep : ∀ (f i : Nat) (s : St) (a : Nat → Int32), i < w m 1 → (MR S s a ∧ WS m a) → ∃ s', f_X12_year_2 N (f + 1) s (nI i) = f_X12_year_2 N f s' (nI (i + 1)) ∧ (MR S s' (nmS i a) ∧ WS m (nmS i a)) := by
    intro f i s a hi hR
    obtain ⟨r1, r3⟩ := hR
    have hia : i < w a 1 := by rw [r3.2.2.1]; exact hi
    obtain ⟨s1, a1, a2, a3⟩ := mName hN r1.2.2 r3.1 hia
    have e : (44 : Int32) + 4 * nI i + 1 = nI (45 + 4 * i) := by rw [k44, k4, pk_mul, nI_add, nI_1]; congr 1; omega
    refine ⟨pt s1 173 (45 + 4 * i) (hld (raw a i)), ?_, ⟨⟨fun q x1 x2 x3 => by rw [pt_nek x1, a2 q x2 x3]; exact r1.1 q x1 x2 x3, a3.trans r1.2.1, ?_⟩, nmS_wf r3 hi⟩⟩
    · rw [f_X12_year_2, hz s a r1 r3, if_neg (nI_ge hi (by omega)), a1, bnd2_some, e, if_pos (inb_nI (by omega) (by decide)), nI_clamp (by omega), nI_1]
    · rw [pt_same, a2 _ (by decide) (by decide), r1.2.2]; rfl
  obtain ⟨s', f', e1, e2⟩ := loopR (fun f i s => f_X12_year_2 N f s (nI i)) (fun _ s a => MR S s a ∧ WS m a) nmS (w m 1) hstep (w m 1) 0 N S m ⟨h0, WS.refl hW⟩ (by omega) (by omega)
  refine ⟨s', ?_, e2.1⟩
  unfold f_X12_year
  refine e1.trans ?_
  show f_X12_year_2 N (f' + 1) s' (nI (w m 1)) = _
  rw [f_X12_year_2, hz _ _ e2.1 e2.2, if_pos (nI_le (Nat.le_refl _) (by omega))]
/-! what an owner pays -/
def payA (m : Nat → Int32) (i : Nat) : Nat := if w m (21 + 4 * own m i) ≤ w m 10 * w m (45 + 4 * i) / 100 then w m (21 + 4 * own m i) else w m 10 * w m (45 + 4 * i) / 100
def payS (i : Nat) (m : Nat → Int32) : Nat → Int32 := upd (upd m (21 + 4 * own m i) (nI (w m (21 + 4 * own m i) - payA m i))) 5 (nI (if 1999999999 < w m 5 + payA m i then 1999999999 else w m 5 + payA m i))
theorem pay_b {m : Nat → Int32} (hW : WF m) {i : Nat} (hi : i < w m 1) : payA m i ≤ w m (21 + 4 * own m i) ∧ payA m i ≤ 9899 ∧ w m (21 + 4 * own m i) < 1000000 ∧ w m 5 < 2000000000 ∧ w m 10 * w m (45 + 4 * i) ≤ 989901 := by
  have ho := own_lt hW hi
  have hi2 := hW.nt.2
  have h1 := (hW.ty (l_purse (own m i) ho.2) (by decide)).2
  have h2 : w m 10 < 100 := (hW.ty (x := 10) (n := 100) rfl (by decide)).2
  have h3 := (hW.ty (l_price i (by omega)) (by decide)).2
  have h4 : w m 5 < 2000000000 := (hW.ty (x := 5) (n := 2000000000) rfl (by decide)).2
  have h5 := Nat.mul_le_mul (show w m 10 ≤ 99 by omega) (show w m (45 + 4 * i) ≤ 9999 by omega)
  unfold payA
  split <;> omega
theorem payS_wf {m a : Nat → Int32} (h : WS m a) {i : Nat} (hi : i < w m 1) : WS m (upd a (21 + 4 * own a i) (nI (w a (21 + 4 * own a i) - payA a i))) ∧ WS m (payS i a) := by
  have hia : i < w a 1 := by rw [h.2.2.1]; exact hi
  have ho := own_lt h.1 hia
  have hb := pay_b h.1 hia
  have s1 : WS m (upd a (21 + 4 * own a i) (nI (w a (21 + 4 * own a i) - payA a i))) := h.set (by omega) (h.1.set rfl (by omega) (by omega) (by rw [l_purse _ ho.2]; omega) (fun p e => by omega) (fun p e => by omega) (fun k e => by omega))
  refine ⟨s1, s1.set (by decide) (s1.1.set rfl (by decide) (by decide) ?_ (fun p e => by omega) (fun p e => by omega) (fun k e => by omega))⟩
  show _ < 2000000000
  split <;> omega
theorem cPays {N : Nat} (hN : 100 < N) {S S1 : St} {t : Nat} {m : Nat → Int32} (ht : TP t) (h0 : CR S t S1 m) (hW : WF m) : ∃ s, f_X0_payAll N S1 t = some s ∧ CR S t s (lp payS (w m 1) 0 m) ∧ WS m (lp payS (w m 1) 0 m) := by
  have hi2 := hW.nt.2
  have hstep : ∀ (f i : Nat) (s : St) (a : Nat → Int32), i < w m 1 → (CR S t s a ∧ WS m a) → ∃ s', f_X0_payAll_2 N (f + 1) s t (nI i) = f_X0_payAll_2 N f s' t (nI (i + 1)) ∧ (CR S t s' (payS i a) ∧ WS m (payS i a)) := by
    intro f i s a hi hR
    obtain ⟨⟨r1, r2⟩, r3⟩ := hR
    have hia : i < w a 1 := by rw [r3.2.2.1]; exact hi
    have ho := own_lt r3.1 hia
    have hb := pay_b r3.1 hia
    have hw := payS_wf r3 hi
    have hpu := r3.1.ty (l_purse (own a i) ho.2) (by decide)
    have hpr := r3.1.ty (l_price i (by omega)) (by decide)
    have hfee : a 10 = nI (w a 10) ∧ w a 10 < 100 := r3.1.ty (x := 10) (n := 100) rfl (by decide)
    have hpot : a 5 = nI (w a 5) ∧ w a 5 < 2000000000 := r3.1.ty (x := 5) (n := 2000000000) rfl (by decide)
    have hr0 : f_X5_at s (t + 27) 0 = some (a 10) := cRule r2 r3.1 ht (j := 0) (by decide)
    have ep : (if a (21 + 4 * own a i) < (a 10 * a (45 + 4 * i)) / 100 then a (21 + 4 * own a i) else (a 10 * a (45 + 4 * i)) / 100) = nI (payA a i) := by
      rw [hpu.1, hpr.1, hfee.1, pk_mul, k100, pk_div (by omega) (by decide) (by decide)]
      unfold payA
      by_cases c : w a (21 + 4 * own a i) < w a 10 * w a (45 + 4 * i) / 100
      · rw [if_pos (nI_lt c (by omega)), if_pos (by omega)]
      · rw [if_neg (nI_nlt (by omega) (by omega))]
        by_cases d : w a (21 + 4 * own a i) ≤ w a 10 * w a (45 + 4 * i) / 100
        · rw [if_pos d]; congr 1; omega
        · rw [if_neg d]
    have hsp : f_X3_spend s (t + 1) (nI (own a i)) (nI (payA a i)) = some (pt s (t + 5) (own a i) (nI (w a (21 + 4 * own a i) - payA a i))) := by
      unfold f_X3_spend
      rw [show t + 1 + 3 = t + 4 from rfl, cPurse r2 r3.1 ht ho.1, bnd_some, hpu.1, nI_sub hb.1, cSet r2 r3.1 ht (k := 1) (q := t + 4) (by decide) ho.1 rfl, bnd_some]
    have q1 : RT (pt s (t + 5) (own a i) (nI (w a (21 + 4 * own a i) - payA a i))) t (upd a (21 + 4 * own a i) (nI (w a (21 + 4 * own a i) - payA a i))) := r2.put r3.1 (k := 1) (by decide) ho.1 rfl rfl _
    have q2 := q1.fld hw.1.1 (j := 13) (x := 5) (Or.inr (Or.inr (Or.inl ⟨rfl, rfl⟩))) (nI (if 1999999999 < w a 5 + payA a i then 1999999999 else w a 5 + payA a i))
    have e5 : (pt s (t + 5) (own a i) (nI (w a (21 + 4 * own a i) - payA a i))).1 t 13 = nI (w a 5) := by rw [q1.2.2.2.2.2.1, upd_ne (by omega)]; exact hpot.1
    refine ⟨_, ?_, ⟨⟨?_, q2⟩, hw.2⟩⟩
    · rw [f_X0_payAll_2, cNt r2 r3.1 ht, r3.2.2.1, bnd_some, if_neg (nI_ge hi (by omega)), cOwnV r2 r3.1 ht hia, bnd_some, hr0, bnd_some, cPrice r2 r3.1 ht hia, bnd_some, cPurse r2 r3.1 ht ho.1, bnd_some, ep, hsp, bnd_some, e5, nI_add, nI_1]
      congr 2
      by_cases c : 1999999999 < w a 5 + payA a i
      · rw [if_pos (show (1999999999 : Int32) < nI (w a 5 + payA a i) from nI_lt (a := 1999999999) c (by omega)), if_pos c]; rfl
      · rw [if_neg (show ¬ (1999999999 : Int32) < nI (w a 5 + payA a i) from nI_nlt (a := 1999999999) (by omega) (by omega)), if_neg c]
    · exact (r1.pt (Or.inl (by omega))).pt (Or.inl (by omega))
  obtain ⟨s', f', e1, e2⟩ := loopR (fun f i s => f_X0_payAll_2 N f s t (nI i)) (fun _ s a => CR S t s a ∧ WS m a) payS (w m 1) hstep (w m 1) 0 N S1 m ⟨h0, WS.refl hW⟩ (by omega) (by omega)
  refine ⟨s', ?_, e2⟩
  unfold f_X0_payAll
  refine e1.trans ?_
  show f_X0_payAll_2 N (f' + 1) s' t (nI (w m 1)) = _
  rw [f_X0_payAll_2, cNt e2.1.2 e2.2.1 ht, e2.2.2.2.1, bnd_some, if_pos (nI_le (Nat.le_refl _) (by omega))]
theorem mPays {N : Nat} (hN : 100 < N) {S S1 : St} {m : Nat → Int32} (h0 : MR S S1 m) (hW : WF m) : ∃ s, f_X12_year_38 N N S1 0 = f_X12_year_61 N N s 0 ∧ MR S s (lp payS (w m 1) 0 m) := by
  have hi2 := hW.nt.2
  have hz : ∀ s a, MR S s a → WS m a → s.1 173 1 = nI (w m 1) := fun s a h1 h2 => by rw [h1.2.2, ← h2.2.2.1]; exact h2.1.nt.1
  have hstep : ∀ (f i : Nat) (s : St) (a : Nat → Int32), i < w m 1 → (MR S s a ∧ WS m a) → ∃ s', f_X12_year_38 N (f + 1) s (nI i) = f_X12_year_38 N f s' (nI (i + 1)) ∧ (MR S s' (payS i a) ∧ WS m (payS i a)) := by
    intro f i s a hi hR
    obtain ⟨r1, r3⟩ := hR
    have hM := r1.2.2
    have hia : i < w a 1 := by rw [r3.2.2.1]; exact hi
    have ho := own_lt r3.1 hia
    have hb := pay_b r3.1 hia
    have hw := payS_wf r3 hi
    have hpu := r3.1.ty (l_purse (own a i) ho.2) (by decide)
    have hpr := r3.1.ty (l_price i (by omega)) (by decide)
    have hfee : a 10 = nI (w a 10) ∧ w a 10 < 100 := r3.1.ty (x := 10) (n := 100) rfl (by decide)
    have hpot : a 5 = nI (w a 5) ∧ w a 5 < 2000000000 := r3.1.ty (x := 5) (n := 2000000000) rfl (by decide)
    have e : (20 : Int32) + 4 * nI (own a i) + 1 = nI (21 + 4 * own a i) := by rw [k20, k4, pk_mul, nI_add, nI_1]; congr 1; omega
    have h44 : f_X12_pays_44 s (nI (own a i)) (nI (payA a i)) = some (pt (pt s 173 (21 + 4 * own a i) (nI (w a (21 + 4 * own a i) - payA a i))) 173 5 (nI (if 1999999999 < w a 5 + payA a i then 1999999999 else w a 5 + payA a i))) := by
      unfold f_X12_pays_44 f_X12_pays_97
      have e5 : (pt s 173 (21 + 4 * own a i) (nI (w a (21 + 4 * own a i) - payA a i))).1 173 5 = nI (w a 5) := by rw [pt_nej (by omega), hM]; exact hpot.1
      rw [e, if_pos (inb_nI (by omega) (by decide)), if_pos (inb_nI (by omega) (by decide)), nI_clamp (by omega), hM, hpu.1, nI_sub hb.1, e5, nI_add, show (1999999999 : Int32) - nI (w a 5) = nI (1999999999 - w a 5) from nI_sub (a := 1999999999) (by omega), if_pos (show inb (5 : Int32) 516 = true by decide), if_pos (show inb (5 : Int32) 516 = true by decide)]
      by_cases c : 1999999999 < w a 5 + payA a i
      · rw [if_neg (nI_ge (by omega) (by omega)), if_pos c]; rfl
      · rw [if_pos (nI_le (by omega) (by omega)), if_neg c]; rfl
    refine ⟨pt (pt s 173 (21 + 4 * own a i) (nI (w a (21 + 4 * own a i) - payA a i))) 173 5 (nI (if 1999999999 < w a 5 + payA a i then 1999999999 else w a 5 + payA a i)), ?_, ⟨⟨fun q x1 x2 x3 => ?_, r1.2.1, ?_⟩, hw.2⟩⟩
    · rw [f_X12_year_38, hz s a r1 r3, if_neg (nI_ge hi (by omega))]
      unfold f_X12_pays
      rw [mOwnV hM r3.1 (by omega), bnd_some, mPrice hM (by omega), bnd_some, mPurse hM ho.2, bnd_some, hM, hpu.1, hpr.1, hfee.1, pk_mul, k100, pk_div (by omega) (by decide) (by decide), bnd_some]
      have ep : (if nI (w a (21 + 4 * own a i)) ≤ nI (w a 10 * w a (45 + 4 * i) / 100) then f_X12_pays_44 s (nI (own a i)) (nI (w a (21 + 4 * own a i))) else f_X12_pays_44 s (nI (own a i)) (nI (w a 10 * w a (45 + 4 * i) / 100))) = f_X12_pays_44 s (nI (own a i)) (nI (payA a i)) := by
        unfold payA
        by_cases d : w a (21 + 4 * own a i) ≤ w a 10 * w a (45 + 4 * i) / 100
        · rw [if_pos (nI_le d (by omega)), if_pos d]
        · rw [if_neg (nI_ge (by omega) (by omega)), if_neg d]
      rw [ep, h44, bnd_some, nI_1]
    · rw [pt_nek x1, pt_nek x1]; exact r1.1 q x1 x2 x3
    · rw [pt_same, pt_same, hM]; rfl
  obtain ⟨s', f', e1, e2⟩ := loopR (fun f i s => f_X12_year_38 N f s (nI i)) (fun _ s a => MR S s a ∧ WS m a) payS (w m 1) hstep (w m 1) 0 N S1 m ⟨h0, WS.refl hW⟩ (by omega) (by omega)
  refine ⟨s', ?_, e2.1⟩
  refine e1.trans ?_
  show f_X12_year_38 N (f' + 1) s' (nI (w m 1)) = _
  rw [f_X12_year_38, hz _ _ e2.1 e2.2, if_pos (nI_le (Nat.le_refl _) (by omega))]
