/-! WRITING INTO A TOWN -/
theorem w_upd_same {m : Nat → Int32} {x v : Nat} (hv : v < 2 ^ 31) : w (upd m x (nI v)) x = v := by unfold w; rw [upd_same, nI_clamp hv]
theorem TX.set {m : Nat → Int32} {u x : Nat} {v : Int32} (h : TX m u) (hx : x < tb u ∨ tb u + 125 ≤ x) : TX (upd m x v) u := h.congr (fun y h1 h2 => upd_ne (by omega))
theorem WF.set {m : Nat → Int32} (hW : WF m) {x : Nat} {v : Int32} {n : Nat} (hv : v = nI n) (hx : x ≠ 0 ∧ x ≠ 1 ∧ x ≠ 2) (ht : x < 182 ∨ 432 ≤ x) (hl : n < lim x) (hq : ∀ p, x = 23 + 4 * p → p < w m 0 → 0 < n) (ho : ∀ i, x = 44 + 4 * i → i < w m 1 → n < w m 0) (hk : ∀ k, (x = 92 + 3 * k ∨ x = 93 + 3 * k) → k < w m 2 → n < w m 1) : WF (upd m x v) := by
  subst hv
  have h31 := lim_lt x
  have e0 : w (upd m x (nI n)) 0 = w m 0 := upd_w_ne (by omega)
  have e1 : w (upd m x (nI n)) 1 = w m 1 := upd_w_ne (by omega)
  have e2 : w (upd m x (nI n)) 2 = w m 2 := upd_w_ne (by omega)
  refine ⟨fun y hy => ?_, fun p hp => ?_, fun i hi => ?_, fun k hk2 => ?_, hW.2.2.2.2.1.set (by unfold tb; omega), hW.2.2.2.2.2.set (by unfold tb; omega)⟩
  · by_cases e : y = x
    · subst e; rw [w_upd_same (by omega), upd_same]; exact ⟨rfl, hl⟩
    · rw [upd_w_ne e, upd_ne e]; exact hW.1 y hy
  · rw [e0] at hp
    by_cases e : 23 + 4 * p = x
    · subst e; rw [w_upd_same (by omega)]; exact hq p rfl hp
    · rw [upd_w_ne e]; exact hW.2.1 p hp
  · rw [e1] at hi; rw [e0]
    by_cases e : 44 + 4 * i = x
    · subst e; rw [w_upd_same (by omega)]; exact ho i rfl hi
    · rw [upd_w_ne e]; exact hW.2.2.1 i hi
  · rw [e2] at hk2; rw [e1]
    constructor
    · by_cases e : 92 + 3 * k = x
      · subst e; rw [w_upd_same (by omega)]; exact hk k (Or.inl rfl) hk2
      · rw [upd_w_ne e]; exact (hW.2.2.2.1 k hk2).1
    · by_cases e : 93 + 3 * k = x
      · subst e; rw [w_upd_same (by omega)]; exact hk k (Or.inr rfl) hk2
      · rw [upd_w_ne e]; exact (hW.2.2.2.1 k hk2).2
theorem WF.setU {m : Nat → Int32} (hW : WF m) {x : Nat} {v : Int32} (hl : lim x = 0) (ht : x < 182 ∨ 432 ≤ x) : WF (upd m x v) := by
  have hne : ∀ y, 0 < lim y → y ≠ x := fun y hy e => by subst e; omega
  have e0 : w (upd m x v) 0 = w m 0 := upd_w_ne (hne 0 (by decide))
  have e1 : w (upd m x v) 1 = w m 1 := upd_w_ne (hne 1 (by decide))
  have e2 : w (upd m x v) 2 = w m 2 := upd_w_ne (hne 2 (by decide))
  have hp6 := hW.np.2
  have hi6 := hW.nt.2
  have hk6 := hW.nk.2
  refine ⟨fun y hy => ?_, fun p hp => ?_, fun i hi => ?_, fun k hk2 => ?_, hW.2.2.2.2.1.set (by unfold tb; omega), hW.2.2.2.2.2.set (by unfold tb; omega)⟩
  · rw [upd_w_ne (hne y hy), upd_ne (hne y hy)]; exact hW.1 y hy
  · rw [e0] at hp
    rw [upd_w_ne (hne _ (by rw [l_outof p (by omega)]; decide))]; exact hW.2.1 p hp
  · rw [e1] at hi; rw [e0, upd_w_ne (hne _ (by rw [l_own i (by omega)]; decide))]; exact hW.2.2.1 i hi
  · rw [e2] at hk2; rw [e1, upd_w_ne (hne _ (by rw [l_one k (by omega)]; decide)), upd_w_ne (hne _ (by rw [l_other k (by omega)]; decide))]; exact hW.2.2.2.1 k hk2
theorem RT.put {S : St} {t : Nat} {m : Nat → Int32} (h : RT S t m) (hW : WF m) {k i x q : Nat} (hk : k < 15) (hi : i < siz m k) (hx : x = cel k i) (hq : q = t + off k + 1) (v : Int32) : RT (pt S q i v) t (upd m x v) := by
  subst hx; subst hq
  exact h.set hW.2.2.2.2.1.2.1 hW.2.2.2.2.2.2.1 hW.szc hk hi v
/-- one of the four numbers of the town itself -/
theorem RT.fld {S : St} {t : Nat} {m : Nat → Int32} (h : RT S t m) (hW : WF m) {j x : Nat} (hj : (j = 11 ∧ x = 3) ∨ (j = 12 ∧ x = 4) ∨ (j = 13 ∧ x = 5) ∨ (j = 14 ∧ x = 8)) (v : Int32) : RT (pt S t j v) t (upd m x v) := by
  have hx : rowOf x = 99 ∧ x ≠ 0 ∧ x ≠ 1 ∧ x ≠ 2 ∧ x ≠ 6 ∧ x ≠ 7 := by rcases hj with ⟨_, rfl⟩ | ⟨_, rfl⟩ | ⟨_, rfl⟩ | ⟨_, rfl⟩ <;> decide
  have hxt : x < tb 0 := by rcases hj with ⟨_, rfl⟩ | ⟨_, rfl⟩ | ⟨_, rfl⟩ | ⟨_, rfl⟩ <;> decide
  have hs : ∀ k, k < 15 → siz (upd m x v) k = siz m k := fun k hk => siz_upd hx.2 hk
  have hno : ∀ k, k < 15 → off k ≠ 0 := fun k hk => by
    have h : (List.range 15).all (fun k => decide (off k ≠ 0)) = true := by decide +kernel
    exact of_decide_eq_true (List.all_eq_true.mp h k (List.mem_range.mpr hk))
  obtain ⟨h1, h2, h3, h4, h5, h6, h7⟩ := h
  refine ⟨fun k hk => ?_, h2.congr hW.2.2.2.2.1.2.1 (fun y a b => upd_ne (by omega)) ⟨pt_nek (by omega), pt_nek (by omega), by rw [pt_nek (by omega)]⟩, h3.congr hW.2.2.2.2.2.2.1 (fun y a b => upd_ne (by unfold tb at *; omega)) ⟨pt_nek (by omega), pt_nek (by omega), by rw [pt_nek (by omega)]⟩, ?_, ?_, ?_, ?_⟩
  · have := hno k hk
    refine ⟨by rw [pt_nek (by omega), hs k hk]; exact (h1 k hk).1, fun i hi => ?_⟩
    rw [hs k hk] at hi
    show _ = upd m x v (cel k i)
    rw [pt_nek (by omega), upd_ne (fun e => by
      have a := rowOf_cel hk (Nat.lt_of_lt_of_le hi (hW.szc k hk))
      rw [e, hx.1] at a; omega)]
    exact (h1 k hk).2 i hi
  all_goals rcases hj with ⟨rfl, rfl⟩ | ⟨rfl, rfl⟩ | ⟨rfl, rfl⟩ | ⟨rfl, rfl⟩ <;> first | (rw [pt_at, upd_same]) | (rw [pt_nej (by decide), upd_ne (by decide)]; assumption)
/-! what waits against what is owned -/
def chk (m : Nat → Int32) (p : Nat) : Nat → Nat → Nat → Int32
  | 0, _, pl => if w m 7 ≤ pl then 0 else nI (pl + 1)
  | k + 1, i, pl => if own m i = p then (if w m 7 ≤ pl then nI (pl + 1) else if m (492 + pl) = nI i then chk m p k (i + 1) (pl + 1) else nI (pl + 1)) else chk m p k (i + 1) pl
theorem cChk {N : Nat} {S : St} {t : Nat} {m : Nat → Int32} (h : RT S t m) (hW : WF m) (ht : TP t) {p : Nat} (hp : p < 6) : ∀ (k i pl f : Nat), i + k = w m 1 → pl ≤ w m 7 → k < f → f_X9_firstWrongOf_4 N S f t (nI p) (nI pl) (nI i) = some (chk m p k i pl) := by
  have hi2 := hW.nt.2
  have hw2 := hW.nw.2
  intro k
  induction k with
  | zero =>
    intro i pl f h1 h2 h3
    obtain ⟨f, rfl⟩ := fuel h3
    rw [f_X9_firstWrongOf_4, cNt h hW ht, bnd_some, if_pos (nI_le (by omega) (by omega)), cNw h hW ht, bnd_some]
    unfold chk
    by_cases c : w m 7 ≤ pl
    · rw [if_pos (nI_le c (by omega)), if_pos c]
    · rw [if_neg (nI_ge (by omega) (by omega)), if_neg c, nI_1]
  | succ k ih =>
    intro i pl f h1 h2 h3
    obtain ⟨f, rfl⟩ := fuel h3
    rw [f_X9_firstWrongOf_4, cNt h hW ht, bnd_some, if_neg (nI_ge (by omega) (by omega)), cOwnV h hW ht (by omega), bnd_some]
    unfold chk
    by_cases c : own m i = p
    · rw [if_pos ((own_eq hW (by omega) hp).mpr c), if_pos c, cNw h hW ht, bnd_some]
      by_cases c2 : w m 7 ≤ pl
      · rw [if_pos (nI_le c2 (by omega)), if_pos c2]; unfold f_X9_firstWrongOf_53; rw [nI_1]
      · rw [if_neg (nI_ge (by omega) (by omega)), if_neg c2, cWait h hW ht (by omega), bnd_some]
        by_cases c3 : m (492 + pl) = nI i
        · rw [if_pos c3, if_pos c3]; unfold f_X9_firstWrongOf_60; rw [nI_1, nI_1, ih (i + 1) (pl + 1) f (by omega) (by omega) (by omega)]
        · rw [if_neg c3, if_neg c3]; unfold f_X9_firstWrongOf_53; rw [nI_1]
    · rw [if_neg (fun e => c ((own_eq hW (by omega) hp).mp e)), if_neg c]
      unfold f_X9_firstWrongOf_60
      rw [nI_1, ih (i + 1) pl f (by omega) (by omega) (by omega)]
theorem mChk {N : Nat} {S : St} {m m' : Nat → Int32} (hM : S.1 173 = m') (hW' : WF m') (e1 : w m' 1 = w m 1) (eo : ∀ i, i < w m 1 → own m' i = own m i) (ew : ∀ j, m' (492 + j) = m (492 + j)) (hw2 : w m 7 < 25) {p : Nat} (hp : p < 6) : ∀ (k i pl f : Nat), i + k = w m 1 → pl ≤ w m 7 → k + 1 < f → f_X12_check_38 N f S (nI p) (nI (w m 7)) (nI pl) 1 (nI i) = some (chk m p k i pl, S) := by
  have hi2 := hW'.nt.2
  have hz : S.1 173 1 = nI (w m 1) := by rw [hM, ← e1]; exact hW'.nt.1
  have hbad : ∀ pl i f, 0 < f → f_X12_check_38 N f S (nI p) (nI (w m 7)) (nI pl) 0 i = some (nI (pl + 1), S) := by
    intro pl i f hf
    obtain ⟨f, rfl⟩ := fuel hf
    have : f_X12_check_110 N S (nI (w m 7)) (nI pl) 0 = some (nI (pl + 1), S) := by
      unfold f_X12_check_110 f_X12_check_124
      rw [if_pos rfl, k1, nI_add, Nat.add_comm]
    rw [f_X12_check_38, this, if_pos rfl]
    split <;> rfl
  intro k
  induction k with
  | zero =>
    intro i pl f h1 h2 h3
    obtain ⟨f, rfl⟩ := fuel h3
    rw [f_X12_check_38, hz, if_pos (nI_le (by omega) (by omega))]
    unfold chk f_X12_check_110 f_X12_check_124
    rw [if_neg (by decide)]
    by_cases c : w m 7 ≤ pl
    · rw [if_pos ((nI_eq (by omega) (by omega)).mpr (by omega)), if_pos c]
    · rw [if_neg (fun e => c (by have := (nI_eq (by omega) (by omega)).mp e; omega)), if_neg c, k1, nI_add, Nat.add_comm]
  | succ k ih =>
    intro i pl f h1 h2 h3
    obtain ⟨f, rfl⟩ := fuel h3
    rw [f_X12_check_38, hz, if_neg (nI_ge (by omega) (by omega)), if_neg (by decide), mOwnV hM hW' (by omega), bnd_some, eo i (by omega)]
    unfold chk
    have hlt : own m i < 6 := by rw [← eo i (by omega)]; exact (own_lt hW' (by omega)).2
    by_cases c : own m i = p
    · rw [if_pos (by rw [c]), if_pos c]
      by_cases c2 : w m 7 ≤ pl
      · rw [if_pos (nI_le c2 (by omega)), if_pos c2]
        unfold f_X12_check_88 f_X12_check_89 f_X12_check_102 f_X12_check_104
        rw [if_pos rfl, show nI pl + 0 = nI pl from by rw [k0, nI_add]; rfl, hbad pl _ f (by omega)]
      · rw [if_neg (nI_ge (by omega) (by omega)), if_neg c2, k492, nI_add, if_pos (inb_nI (by omega) (by decide)), nI_clamp (by omega), hM, ew]
        by_cases c3 : m (492 + pl) = nI i
        · rw [if_pos c3, if_pos c3]
          unfold f_X12_check_89 f_X12_check_102 f_X12_check_104
          rw [if_neg (by decide), nI_1, nI_1, ih (i + 1) (pl + 1) f (by omega) (by omega) (by omega)]
        · rw [if_neg c3, if_neg c3]
          unfold f_X12_check_88 f_X12_check_89 f_X12_check_102 f_X12_check_104
          rw [if_pos rfl, show nI pl + 0 = nI pl from by rw [k0, nI_add]; rfl, hbad pl _ f (by omega)]
    · rw [if_neg (fun e => c ((nI_eq (by omega) (by omega)).mp e)), if_neg c]
      unfold f_X12_check_104
      rw [nI_1, ih (i + 1) pl f (by omega) (by omega) (by omega)]
/-! a firm that goes round -/
abbrev Q4 : Type := Int32 × Int32 × Int32 × Int32
def gS (m : Nat → Int32) (p i : Nat) (a : Q4) : Q4 := if own m i ≠ p ∧ m (47 + 4 * i) = 0 ∧ ¬ nI (val m p i) ≤ m (45 + 4 * i) ∧ ¬ a.1 < m (45 + 4 * i) then (a.1 - m (45 + 4 * i), a.2.1 + 1, a.2.2.1 + (nI (val m p i) - m (45 + 4 * i)), a.2.2.2 ||| ((1 : Int32) <<< (nI i &&& 31))) else a
def gE (x : Int32) (a : Q4) : Int32 := if x = 0 then a.2.1 else if x = 1 then a.2.2.1 else a.2.2.2
theorem sub_le0 {a b : Nat} (ha : a < 2 ^ 30) (hb : b < 2 ^ 30) : nI a - nI b ≤ 0 ↔ a ≤ b := by
  rw [Int32.le_iff_toInt_le, pk_sub_toInt ha hb, Int32.toInt_zero]; omega
theorem cRound {N : Nat} (hN : 100 < N) {S : St} {t : Nat} {m : Nat → Int32} (h : RT S t m) (hW : WF m) (ht : TP t) {p : Nat} (hp : p < w m 0) (x : Int32) : f_X9_goRound N S t (nI p) x = some (gE x (lp (gS m p) (w m 1) 0 (m (21 + 4 * p), 0, 0, 0))) := by
  have hi2 := hW.nt.2
  have hp2 := hW.np.2
  unfold f_X9_goRound
  rw [cPurse h hW ht hp, bnd_some]
  refine loopI (fun f i (a : Q4) => f_X9_goRound_24 N S f t (nI p) x a.1 a.2.1 a.2.2.1 a.2.2.2 (nI i)) (gS m p) (fun a => some (gE x a)) (w m 1) (fun f a => ?_) (fun f i a hi => ?_) (w m 1) 0 N (m (21 + 4 * p), 0, 0, 0) (by omega) (by omega)
  · show f_X9_goRound_24 N S (f + 1) t (nI p) x a.1 a.2.1 a.2.2.1 a.2.2.2 (nI (w m 1)) = _
    rw [f_X9_goRound_24, cNt h hW ht, bnd_some, if_pos (nI_le (Nat.le_refl _) (by omega))]
    unfold gE
    split
    · rfl
    · split <;> rfl
  · show f_X9_goRound_24 N S (f + 1) t (nI p) x a.1 a.2.1 a.2.2.1 a.2.2.2 (nI i) = f_X9_goRound_24 N S f t (nI p) x (gS m p i a).1 (gS m p i a).2.1 (gS m p i a).2.2.1 (gS m p i a).2.2.2 (nI (i + 1))
    have hpr := hW.ty (l_price i (by omega)) (by decide)
    have hv := (val_lt hW (p := p) (i := i) (by omega) (by omega)).1
    rw [f_X9_goRound_24, cNt h hW ht, bnd_some, if_neg (nI_ge hi (by omega)), cPrice h hW ht hi, bnd_some, cVal h hW ht (by omega) hi, bnd_some, cOwnV h hW ht hi, bnd_some, cKept h hW ht hi, bnd_some]
    have no : ∀ a : Q4, f_X9_goRound_143 N S (f_X9_goRound_24 N S f) t (nI p) x a.1 a.2.1 a.2.2.1 a.2.2.2 (nI i) = f_X9_goRound_24 N S f t (nI p) x a.1 a.2.1 a.2.2.1 a.2.2.2 (nI (i + 1)) := fun a => by unfold f_X9_goRound_143; rw [nI_1]
    have n100 : f_X9_goRound_100 N S (f_X9_goRound_24 N S f) t (nI p) x a.1 a.2.1 a.2.2.1 a.2.2.2 (nI i) (m (45 + 4 * i)) (nI (val m p i) - m (45 + 4 * i)) = f_X9_goRound_24 N S f t (nI p) x a.1 a.2.1 a.2.2.1 a.2.2.2 (nI (i + 1)) := by
      unfold f_X9_goRound_100 f_X9_goRound_101
      rw [if_pos rfl]
      exact no a
    unfold gS
    by_cases c1 : own m i = p
    · rw [if_pos ((own_eq hW hi (by omega)).mpr c1), if_neg (fun q => q.1 c1)]
      exact n100
    · rw [if_neg (fun e => c1 ((own_eq hW hi (by omega)).mp e))]
      by_cases c2 : m (47 + 4 * i) = 0
      · rw [if_pos c2]
        unfold f_X9_goRound_101
        rw [if_neg (by decide)]
        have e3 : nI (val m p i) - m (45 + 4 * i) ≤ 0 ↔ nI (val m p i) ≤ m (45 + 4 * i) := by rw [hpr.1, sub_le0 (by omega) (by omega), nI_leI (by omega) (by omega)]
        by_cases c3 : nI (val m p i) ≤ m (45 + 4 * i)
        · rw [if_pos (e3.mpr c3), if_neg (fun q => q.2.2.1 c3)]
          exact no a
        · rw [if_neg (fun q => c3 (e3.mp q))]
          by_cases c4 : a.1 < m (45 + 4 * i)
          · rw [if_pos c4, if_neg (fun q => q.2.2.2 c4)]
            exact no a
          · rw [if_neg c4, if_pos ⟨c1, c2, c3, c4⟩]
            exact no (a.1 - m (45 + 4 * i), a.2.1 + 1, a.2.2.1 + (nI (val m p i) - m (45 + 4 * i)), a.2.2.2 ||| ((1 : Int32) <<< (nI i &&& 31)))
      · rw [if_neg c2, if_neg (fun q => c2 q.2.1)]
        exact n100
theorem mRound {N : Nat} (hN : 100 < N) {S : St} {m : Nat → Int32} (hM : S.1 173 = m) (hW : WF m) {p : Nat} (hp : p < w m 0) (x : Int32) (l0 : Int32) : f_X12_firm_42 N N S (nI p) x l0 0 0 0 0 = some (gE x (lp (gS m p) (w m 1) 0 (l0, 0, 0, 0)), S) := by
  have hi2 := hW.nt.2
  have hp2 := hW.np.2
  have hz : S.1 173 1 = nI (w m 1) := by rw [hM]; exact hW.nt.1
  refine loopI (fun f i (a : Q4) => f_X12_firm_42 N f S (nI p) x a.1 a.2.1 a.2.2.1 a.2.2.2 (nI i)) (gS m p) (fun a => some (gE x a, S)) (w m 1) (fun f a => ?_) (fun f i a hi => ?_) (w m 1) 0 N (l0, 0, 0, 0) (by omega) (by omega)
  · show f_X12_firm_42 N (f + 1) S (nI p) x a.1 a.2.1 a.2.2.1 a.2.2.2 (nI (w m 1)) = _
    rw [f_X12_firm_42, hz, if_pos (nI_le (Nat.le_refl _) (by omega))]
    unfold gE
    split
    · rfl
    · split <;> rfl
  · show f_X12_firm_42 N (f + 1) S (nI p) x a.1 a.2.1 a.2.2.1 a.2.2.2 (nI i) = f_X12_firm_42 N f S (nI p) x (gS m p i a).1 (gS m p i a).2.1 (gS m p i a).2.2.1 (gS m p i a).2.2.2 (nI (i + 1))
    rw [f_X12_firm_42, hz, if_neg (nI_ge hi (by omega)), mPrice hM (by omega), bnd_some, mOwnV hM hW (by omega), bnd_some, mKept hM (by omega), bnd_some, mVal hM hW (by omega) (by omega), bnd_some]
    have n104 : f_X12_firm_104 N (f_X12_firm_42 N f) S (nI p) x a.1 a.2.1 a.2.2.1 a.2.2.2 (nI i) (m (45 + 4 * i)) = f_X12_firm_42 N f S (nI p) x a.1 a.2.1 a.2.2.1 a.2.2.2 (nI (i + 1)) := by
      unfold f_X12_firm_104 f_X12_firm_105 f_X12_firm_119 f_X12_firm_133 f_X12_firm_157 f_X12_firm_175
      rw [if_pos rfl, if_pos rfl, if_pos rfl, if_pos rfl, nI_1]
      simp only [Int32.sub_zero, Int32.add_zero, Int32.or_zero]
    unfold gS
    by_cases c1 : own m i = p
    · rw [if_pos ((own_eq hW hi (by omega)).mpr c1), if_neg (fun q => q.1 c1)]
      exact n104
    · rw [if_neg (fun e => c1 ((own_eq hW hi (by omega)).mp e))]
      by_cases c2 : m (47 + 4 * i) = 0
      · rw [if_pos c2]
        by_cases c3 : nI (val m p i) ≤ m (45 + 4 * i)
        · rw [if_pos c3, if_neg (fun q => q.2.2.1 c3)]
          exact n104
        · rw [if_neg c3]
          by_cases c4 : a.1 < m (45 + 4 * i)
          · rw [if_pos c4, if_neg (fun q => q.2.2.2 c4)]
            exact n104
          · rw [if_neg c4, if_pos ⟨c1, c2, c3, c4⟩]
            unfold f_X12_firm_105 f_X12_firm_119 f_X12_firm_133
            rw [if_neg (by decide), if_neg (by decide), if_neg (by decide), mVal hM hW (by omega) (by omega), bnd_some]
            unfold f_X12_firm_157 f_X12_firm_175
            rw [if_neg (by decide), nI_1]
      · rw [if_neg c2, if_neg (fun q => c2 q.2.1)]
        exact n104
