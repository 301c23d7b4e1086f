/-! THE YEAR: who is asked -/
def zN (a : Nat → Int32) : Nat → Int32 := upd a 8 (a 8 * 1103515245 + 12345)
def drw (a : Nat → Int32) : Int32 := ((a 8).toUInt32 >>> ((8 : Int32).toUInt32 &&& Int32.toUInt32 31)).toInt32
def rr (a : Nat → Int32) (p : Nat) : Int32 := drw a - drw a / a (23 + 4 * p) * a (23 + 4 * p)
def sold1 (o pr : Nat) (a : Nat → Int32) : Nat → Int32 := upd a (21 + 4 * o) (nI (if 999999 < w a (21 + 4 * o) + pr then 999999 else w a (21 + 4 * o) + pr))
def sold2 (pr p : Nat) (a : Nat → Int32) : Nat → Int32 := upd a (21 + 4 * p) (nI (w a (21 + 4 * p) - pr))
def sold3 (i p : Nat) (a : Nat → Int32) : Nat → Int32 := upd (upd a (44 + 4 * i) (nI p)) 4 (a 4 + 1)
def sold4 (i : Nat) (a : Nat → Int32) : Nat → Int32 := upd a (46 + 4 * i) (nI (w a (46 + 4 * i) - w a 11))
def sold (o i pr p : Nat) (a : Nat → Int32) : Nat → Int32 := sold4 i (sold3 i p (sold2 pr p (sold1 o pr a)))
def ask (o i pr : Nat) : Nat → Nat → (Nat → Int32) → (Nat → Int32)
  | 0, _, a => a
  | k + 1, p, a => if p = o then ask o i pr k (p + 1) a else if a (22 + 4 * p) ≤ rr (zN a) p then ask o i pr k (p + 1) (zN a) else if val a p i ≤ pr then ask o i pr k (p + 1) (zN a) else if w a (21 + 4 * p) < pr then ask o i pr k (p + 1) (zN a) else sold o i pr p (zN a)
theorem zN_w {a : Nat → Int32} {x : Nat} (h : x ≠ 8) : w (zN a) x = w a x := upd_w_ne h
theorem zN_ne {a : Nat → Int32} {x : Nat} (h : x ≠ 8) : zN a x = a x := upd_ne h
theorem zN_wf {m a : Nat → Int32} (h : WS m a) : WS m (zN a) := h.set (by decide) (h.1.setU (by decide) (Or.inl (by decide)))
theorem zN_val {a : Nat → Int32} {p i : Nat} : val (zN a) p i = val a p i := by unfold val; rw [zN_w (by omega), zN_w (by omega)]
theorem zN_own {a : Nat → Int32} {i : Nat} : own (zN a) i = own a i := zN_w (by omega)
theorem sold_wf {m a : Nat → Int32} (h : WS m a) {o i pr p : Nat} (ho : o < 6) (hi : i < w m 1) (hp : p < w m 0) (hpr : pr ≤ 9999) : WS m (sold1 o pr a) ∧ WS m (sold2 pr p (sold1 o pr a)) ∧ WS m (upd (sold2 pr p (sold1 o pr a)) (44 + 4 * i) (nI p)) ∧ WS m (sold3 i p (sold2 pr p (sold1 o pr a))) ∧ WS m (sold o i pr p a) := by
  have hi2 : w m 1 < 13 := by rw [← h.2.2.1]; exact h.1.nt.2
  have hp2 : w m 0 < 7 := by rw [← h.2.1]; exact h.1.np.2
  have b1 := (h.1.ty (l_purse o ho) (by decide)).2
  have s1 : WS m (sold1 o pr a) := h.set (by omega) (h.1.set rfl (by omega) (by omega) (by rw [l_purse _ ho]; split <;> omega) (fun p e => by omega) (fun p e => by omega) (fun k e => by omega))
  have b2 := (s1.1.ty (l_purse p (by omega)) (by decide)).2
  have s2 : WS m (sold2 pr p (sold1 o pr a)) := s1.set (by omega) (s1.1.set rfl (by omega) (by omega) (by rw [l_purse _ (by omega)]; omega) (fun p e => by omega) (fun p e => by omega) (fun k e => by omega))
  have s3 : WS m (upd (sold2 pr p (sold1 o pr a)) (44 + 4 * i) (nI p)) := s2.set (by omega) (s2.1.set rfl (by omega) (by omega) (by rw [l_own _ (by omega)]; omega) (fun p e => by omega) (fun i e => by rw [s2.2.1]; intro _; exact hp) (fun k e => by omega))
  have s4 : WS m (sold3 i p (sold2 pr p (sold1 o pr a))) := s3.set (by decide) (s3.1.setU (by decide) (Or.inl (by decide)))
  have b3 := (s4.1.ty (l_sound i (by omega)) (by decide)).2
  exact ⟨s1, s2, s3, s4, s4.set (by omega) (s4.1.set rfl (by omega) (by omega) (by rw [l_sound _ (by omega)]; omega) (fun p e => by omega) (fun p e => by omega) (fun k e => by omega))⟩
theorem cNext {S : St} {t : Nat} {a : Nat → Int32} (h : RT S t a) (hW : WF a) (ht : TP t) {p : Nat} (hp : p < w a 0) : f_X9_nextComes S t (nI p) = some (if a (22 + 4 * p) ≤ rr (zN a) p then 0 else 1, pt S t 14 (a 8 * 1103515245 + 12345)) ∧ RT (pt S t 14 (a 8 * 1103515245 + 12345)) t (zN a) := by
  have hp2 := hW.np.2
  have h1 : RT (pt S t 14 (a 8 * 1103515245 + 12345)) t (zN a) := h.fld hW (j := 14) (x := 8) (Or.inr (Or.inr (Or.inr ⟨rfl, rfl⟩))) _
  refine ⟨?_, h1⟩
  have hWz : WF (zN a) := (zN_wf (WS.refl hW)).1
  have hpz : p < w (zN a) 0 := by rw [zN_w (by decide)]; exact hp
  have ho := hW.ty (l_outof p (by omega)) (by decide)
  have ho0 := hW.2.1 p hp
  unfold f_X9_nextComes
  rw [h.2.2.2.2.2.2, cOutOf h1 hWz ht hpz, bnd_some, zN_ne (by omega), if_neg (by rw [ho.1]; exact nI_nle ho0 (by omega)), if_neg (by rw [ho.1]; exact nI_ne0 ho0 (by omega)), cChance h1 hWz ht hpz, bnd_some, zN_ne (by omega), pt_at]
  have e : rr (zN a) p = ((a 8 * 1103515245 + 12345).toUInt32 >>> ((8 : Int32).toUInt32 &&& Int32.toUInt32 31)).toInt32 - ((a 8 * 1103515245 + 12345).toUInt32 >>> ((8 : Int32).toUInt32 &&& Int32.toUInt32 31)).toInt32 / a (23 + 4 * p) * a (23 + 4 * p) := by
    unfold rr drw
    rw [show zN a 8 = a 8 * 1103515245 + 12345 from upd_same, zN_ne (by omega)]
  rw [← e]
  by_cases c : a (22 + 4 * p) ≤ rr (zN a) p
  · rw [if_pos c, if_pos c]
  · rw [if_neg c, if_neg c]
theorem cSell {S s : St} {t : Nat} {m a : Nat → Int32} (ht : TP t) (h : CR S t s a) (hw : WS m a) {i p pr : Nat} (hi : i < w m 1) (hp : p < w m 0) (hpr : w a (45 + 4 * i) = pr) (hbuy : pr ≤ w a (21 + 4 * p)) (hpo : p ≠ own a i) : ∃ s', f_X0_sell s t (nI i) (nI p) = some s' ∧ CR S t s' (sold (own a i) i pr p a) := by
  have hi2 : w m 1 < 13 := by rw [← hw.2.2.1]; exact hw.1.nt.2
  have hp2 : w m 0 < 7 := by rw [← hw.2.1]; exact hw.1.np.2
  have hia : i < w a 1 := by rw [hw.2.2.1]; exact hi
  have ho := own_lt hw.1 hia
  have hprn := hw.1.ty (l_price i (by omega)) (by decide)
  have hpr9 : pr ≤ 9999 := by omega
  obtain ⟨w1, w2, w3, w4, w5⟩ := sold_wf hw ho.2 hi hp hpr9
  have b1 := hw.1.ty (l_purse (own a i) ho.2) (by decide)
  have b2 := hw.1.ty (l_purse p (by omega)) (by decide)
  have ep : a (45 + 4 * i) = nI pr := by rw [hprn.1, hpr]
  -- the seller's purse
  have x1 : f_X3_receive s (t + 1) (nI (own a i)) (nI pr) = some (pt s (t + 5) (own a i) (nI (if 999999 < w a (21 + 4 * own a i) + pr then 999999 else w a (21 + 4 * own a i) + pr))) := by
    unfold f_X3_receive
    rw [show t + 1 + 3 = t + 4 from rfl, cPurse h.2 hw.1 ht ho.1, bnd_some, b1.1, nI_add, k999999, cSet h.2 hw.1 ht (k := 1) (q := t + 4) (by decide) ho.1 rfl, bnd_some]
    congr 2
    by_cases c : 999999 < w a (21 + 4 * own a i) + pr
    · rw [if_pos (nI_lt c (by omega)), if_pos c]
    · rw [if_neg (nI_nlt (by omega) (by omega)), if_neg c]
  generalize e1 : pt s (t + 5) (own a i) (nI (if 999999 < w a (21 + 4 * own a i) + pr then 999999 else w a (21 + 4 * own a i) + pr)) = s1 at x1
  have r1 : RT s1 t (sold1 (own a i) pr a) := by rw [← e1]; exact h.2.put hw.1 (k := 1) (by decide) ho.1 rfl rfl _
  have p1 : p < w (sold1 (own a i) pr a) 0 := by rw [w1.2.1]; exact hp
  have q1 : w (sold1 (own a i) pr a) (21 + 4 * p) = w a (21 + 4 * p) := upd_w_ne (by omega)
  have x2 : f_X3_spend s1 (t + 1) (nI p) (nI pr) = some (pt s1 (t + 5) p (nI (w (sold1 (own a i) pr a) (21 + 4 * p) - pr))) := by
    unfold f_X3_spend
    rw [show t + 1 + 3 = t + 4 from rfl, cPurse r1 w1.1 ht p1, bnd_some, (w1.1.ty (l_purse p (by omega)) (by decide)).1, nI_sub (by rw [q1]; exact hbuy), cSet r1 w1.1 ht (k := 1) (q := t + 4) (by decide) p1 rfl, bnd_some]
  generalize e2 : pt s1 (t + 5) p (nI (w (sold1 (own a i) pr a) (21 + 4 * p) - pr)) = s2 at x2
  have r2 : RT s2 t (sold2 pr p (sold1 (own a i) pr a)) := by rw [← e2]; exact r1.put w1.1 (k := 1) (by decide) p1 rfl rfl _
  have i2 : i < w (sold2 pr p (sold1 (own a i) pr a)) 1 := by rw [w2.2.2.1]; exact hi
  have x3 := cSet r2 w2.1 ht (k := 4) (i := i) (q := t + 11) (by decide) i2 rfl (nI p)
  generalize e3 : pt s2 (t + 11 + 1) i (nI p) = s3 at x3
  have r3 : RT s3 t (upd (sold2 pr p (sold1 (own a i) pr a)) (44 + 4 * i) (nI p)) := by rw [← e3]; exact r2.put w2.1 (k := 4) (by decide) i2 rfl rfl _
  have e12 : s3.1 t 12 = (sold2 pr p (sold1 (own a i) pr a)) 4 := by rw [r3.2.2.2.2.1, upd_ne (by omega)]
  have r4 : RT (pt s3 t 12 ((sold2 pr p (sold1 (own a i) pr a)) 4 + 1)) t (sold3 i p (sold2 pr p (sold1 (own a i) pr a))) := r3.fld w3.1 (j := 12) (x := 4) (Or.inr (Or.inl ⟨rfl, rfl⟩)) _
  generalize e4 : pt s3 t 12 ((sold2 pr p (sold1 (own a i) pr a)) 4 + 1) = s4 at r4
  generalize hb : sold3 i p (sold2 pr p (sold1 (own a i) pr a)) = b at r4 w4
  have ib : i < w b 1 := by rw [w4.2.2.1]; exact hi
  have hs := w4.1.ty (l_sound i (by omega)) (by decide)
  have hwe : b 11 = nI (w b 11) ∧ w b 11 < 100 := w4.1.ty (x := 11) (n := 100) rfl (by decide)
  have hr1 : f_X5_at s4 (t + 27) 1 = some (b 11) := cRule r4 w4.1 ht (j := 1) (by decide)
  have e6 : (if b (46 + 4 * i) - b 11 < 0 then (0 : Int32) else b (46 + 4 * i) - b 11) = nI (w b (46 + 4 * i) - w b 11) := by
    rw [hs.1, hwe.1]
    by_cases c : w b 11 ≤ w b (46 + 4 * i)
    · rw [nI_sub c, if_neg (nI_pos (by omega))]
    · rw [if_pos (pk_sneg (by omega) (by omega)), show w b (46 + 4 * i) - w b 11 = 0 by omega]; rfl
  have r5 : RT (pt s4 (t + 16) i (nI (w b (46 + 4 * i) - w b 11))) t (sold4 i b) := r4.put w4.1 (k := 6) (by decide) ib rfl rfl _
  refine ⟨_, ?_, ?_, by unfold sold; rw [hb]; exact r5⟩
  · unfold f_X0_sell
    rw [cPrice h.2 hw.1 ht hia, bnd_some, cOwnV h.2 hw.1 ht hia, bnd_some, ep, x1, bnd_some, x2, bnd_some, x3, bnd_some, e12, e4, cSound r4 w4.1 ht ib, bnd_some, hr1, bnd_some, e6, cSet r4 w4.1 ht (k := 6) (q := t + 15) (by decide) ib rfl, bnd_some]
  · rw [← e4, ← e3, ← e2, ← e1]
    exact ((((h.1.pt (Or.inl (by omega))).pt (Or.inl (by omega))).pt (Or.inl (by omega))).pt (Or.inl (by omega))).pt (Or.inl (by omega))
theorem cAsk {N : Nat} {S : St} {t : Nat} {m : Nat → Int32} (ht : TP t) {i o pr : Nat} (hi : i < w m 1) (ho : o < w m 0) : ∀ (k p f : Nat) (s : St) (a : Nat → Int32), CR S t s a → WS m a → own a i = o → w a (45 + 4 * i) = pr → p + k = w m 0 → k < f → ∃ s', f_X0_offer_27 N f s t (nI i) (nI o) (nI pr) (nI p) = some s' ∧ CR S t s' (ask o i pr k p a) ∧ WS m (ask o i pr k p a) := by
  intro k
  induction k with
  | zero =>
    intro p f s a h hw _ _ h1 h2
    obtain ⟨f, rfl⟩ := fuel h2
    refine ⟨s, ?_, h, hw⟩
    have hp2 := hw.1.np.2
    rw [f_X0_offer_27, cNp h.2 hw.1 ht, bnd_some, hw.2.1, if_pos (nI_le (by omega) (by rw [hw.2.1] at hp2; omega))]
  | succ k ih =>
    intro p f s a h hw ho' hpr h1 h2
    obtain ⟨f, rfl⟩ := fuel h2
    have hp2 : w m 0 < 7 := by rw [← hw.2.1]; exact hw.1.np.2
    have hi2 : w m 1 < 13 := by rw [← hw.2.2.1]; exact hw.1.nt.2
    have hia : i < w a 1 := by rw [hw.2.2.1]; exact hi
    have hpa : p < w a 0 := by rw [hw.2.1]; omega
    have hprn := (hw.1.ty (l_price i (by omega)) (by decide)).2
    have hno : ∀ s' : St, f_X0_offer_88 N (f_X0_offer_27 N f) s' t (nI i) (nI o) (nI pr) (nI p) = f_X0_offer_27 N f s' t (nI i) (nI o) (nI pr) (nI (p + 1)) := fun s' => by unfold f_X0_offer_88 f_X0_offer_89; rw [if_pos rfl, nI_1]
    have e0 : f_X0_offer_27 N (f + 1) s t (nI i) (nI o) (nI pr) (nI p) = (if nI p = nI o then f_X0_offer_88 N (f_X0_offer_27 N f) s t (nI i) (nI o) (nI pr) (nI p) else bnd2 (f_X9_nextComes s t (nI p)) (fun a6 S7 => (if a6 = 0 then f_X0_offer_88 N (f_X0_offer_27 N f) S7 t (nI i) (nI o) (nI pr) (nI p) else bnd (f_X8_valueOf S7 (t + 10) (nI p) (nI i)) (fun a10 => (if a10 ≤ nI pr then f_X0_offer_88 N (f_X0_offer_27 N f) S7 t (nI i) (nI o) (nI pr) (nI p) else bnd (f_X5_at S7 (t + 4) (nI p)) (fun a13 => (if a13 < nI pr then f_X0_offer_88 N (f_X0_offer_27 N f) S7 t (nI i) (nI o) (nI pr) (nI p) else f_X0_offer_89 N (f_X0_offer_27 N f) S7 t (nI i) (nI o) (nI pr) (nI p) 1))))))) := by
      rw [f_X0_offer_27, cNp h.2 hw.1 ht, bnd_some, hw.2.1, if_neg (nI_ge (by omega) (by omega))]
    rw [e0]
    unfold ask
    by_cases c1 : p = o
    · rw [if_pos (by rw [c1]), if_pos c1, hno]
      exact ih (p + 1) f s a h hw ho' hpr (by omega) (by omega)
    · rw [if_neg (fun e => c1 ((nI_eq (by omega) (by omega)).mp e)), if_neg c1]
      obtain ⟨n1, n2⟩ := cNext h.2 hw.1 ht hpa
      have hz := zN_wf hw
      have hzp : p < w (zN a) 0 := by rw [zN_w (by decide)]; exact hpa
      have hzi : i < w (zN a) 1 := by rw [zN_w (by decide)]; exact hia
      have hC : CR S t (pt s t 14 (a 8 * 1103515245 + 12345)) (zN a) := ⟨h.1.pt (Or.inl (by omega)), n2⟩
      have hzo : own (zN a) i = o := by rw [zN_own]; exact ho'
      have hzpr : w (zN a) (45 + 4 * i) = pr := by rw [zN_w (by omega)]; exact hpr
      have go := ih (p + 1) f (pt s t 14 (a 8 * 1103515245 + 12345)) (zN a) hC hz hzo hzpr (by omega) (by omega)
      have hpu := hw.1.ty (l_purse p (by omega)) (by decide)
      have hv := (val_lt hw.1 (p := p) (i := i) (by omega) (by omega)).1
      rw [n1, bnd2_some]
      by_cases c2 : a (22 + 4 * p) ≤ rr (zN a) p
      · rw [if_pos c2, if_pos rfl, if_pos c2, hno]; exact go
      · rw [if_neg c2, if_neg (show ¬ (1 : Int32) = 0 by decide), if_neg c2, cVal n2 hz.1 ht (by omega) hzi, bnd_some, zN_val]
        by_cases c3 : val a p i ≤ pr
        · rw [if_pos (nI_le c3 (by omega)), if_pos c3, hno]; exact go
        · rw [if_neg (nI_ge (by omega) (by omega)), if_neg c3, cPurse n2 hz.1 ht hzp, bnd_some, zN_ne (by omega), hpu.1]
          by_cases c4 : w a (21 + 4 * p) < pr
          · rw [if_pos (nI_lt c4 (by omega)), if_pos c4, hno]; exact go
          · rw [if_neg (nI_nlt (by omega) (by omega)), if_neg c4]
            obtain ⟨s', g1, g2⟩ := cSell ht hC hz hi (p := p) (by omega) hzpr (by rw [zN_w (by omega)]; omega) (by rw [hzo]; exact c1)
            rw [hzo] at g2
            refine ⟨s', ?_, g2, (sold_wf hz (by omega) hi (by omega) (by omega)).2.2.2.2⟩
            unfold f_X0_offer_89
            rw [if_neg (show ¬ (1 : Int32) = 0 by decide), g1, bnd_some]
def askS (i : Nat) (a : Nat → Int32) : Nat → Int32 := if w a (47 + 4 * i) = 0 then ask (own a i) i (w a (45 + 4 * i)) (w a 0) 0 a else a
theorem cSells {N : Nat} (hN : 100 < N) {S S1 : St} {t : Nat} {m : Nat → Int32} (ht : TP t) (h0 : CR S t S1 m) (hW : WF m) : ∃ s, f_X0_sellAll N S1 t = some s ∧ CR S t s (lp askS (w m 1) 0 m) ∧ WS m (lp askS (w m 1) 0 m) := by
  have hi2 := hW.nt.2
  have hp2 := hW.np.2
  have hstep : ∀ (f i : Nat) (s : St) (a : Nat → Int32), i < w m 1 → (CR S t s a ∧ WS m a) → ∃ s', f_X0_sellAll_2 N (f + 1) s t (nI i) = f_X0_sellAll_2 N f s' t (nI (i + 1)) ∧ (CR S t s' (askS i a) ∧ WS m (askS i a)) := by
    intro f i s a hi hR
    obtain ⟨r1, r3⟩ := hR
    have hia : i < w a 1 := by rw [r3.2.2.1]; exact hi
    have ho := own_lt r3.1 hia
    have hk := r3.1.ty (l_kept i (by omega)) (by decide)
    have hpr := r3.1.ty (l_price i (by omega)) (by decide)
    have e0 : f_X0_sellAll_2 N (f + 1) s t (nI i) = (if nI (w a (47 + 4 * i)) = 0 then bnd (f_X0_offer N s t (nI i)) (fun S8 => f_X0_sellAll_2 N f S8 t (nI (i + 1))) else f_X0_sellAll_2 N f s t (nI (i + 1))) := by
      rw [f_X0_sellAll_2, cNt r1.2 r3.1 ht, r3.2.2.1, bnd_some, if_neg (nI_ge hi (by omega)), cKept r1.2 r3.1 ht hia, bnd_some, hk.1]
      unfold f_X0_sellAll_32
      rw [nI_1]
    rw [e0]
    unfold askS
    by_cases c : w a (47 + 4 * i) = 0
    · obtain ⟨s', g1, g2, g3⟩ := cAsk (N := N) ht hi (o := own a i) (by rw [← r3.2.1]; exact ho.1) (w m 0) 0 N s a r1 r3 rfl rfl (by omega) (by omega)
      rw [if_pos (by rw [c]; rfl), if_pos c, r3.2.1]
      refine ⟨s', ?_, g2, g3⟩
      have e1 : f_X0_offer N s t (nI i) = some s' := by
        unfold f_X0_offer
        rw [cOwnV r1.2 r3.1 ht hia, bnd_some, cPrice r1.2 r3.1 ht hia, bnd_some, hpr.1]
        exact g1
      rw [e1, bnd_some]
    · rw [if_neg (show ¬ nI (w a (47 + 4 * i)) = (0 : Int32) from nI_ne0 (by omega) (by omega)), if_neg c]
      exact ⟨s, rfl, r1, r3⟩
  obtain ⟨s', f', e1, e2⟩ := loopR (fun f i s => f_X0_sellAll_2 N f s t (nI i)) (fun _ s a => CR S t s a ∧ WS m a) askS (w m 1) hstep (w m 1) 0 N S1 m ⟨h0, WS.refl hW⟩ (by omega) (by omega)
  refine ⟨s', ?_, e2⟩
  unfold f_X0_sellAll
  refine e1.trans ?_
  show f_X0_sellAll_2 N (f' + 1) s' t (nI (w m 1)) = _
  rw [f_X0_sellAll_2, cNt e2.1.2 e2.2.1 ht, e2.2.2.2.1, bnd_some, if_pos (nI_le (Nat.le_refl _) (by omega))]
