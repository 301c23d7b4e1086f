/-! THE BEST PRICE -/
def sel (g : Int32 → Int64) (x a : Int32) : Int32 := if (x < 0 ∨ 9999 < x) ∨ ¬ (g a < g x ∨ (g x = g a ∧ x < a)) then a else x
theorem sel_comm (g : Int32 → Int64) (x y a : Int32) : sel g x (sel g y a) = sel g y (sel g x a) := by
  unfold sel
  simp only [Int64.lt_iff_toInt_lt, ← Int64.toInt_inj, Int32.lt_iff_toInt_lt]
  by_cases bx : (x.toInt < (0 : Int32).toInt ∨ (9999 : Int32).toInt < x.toInt)
  · simp only [bx, true_or, if_true]
  · by_cases by' : (y.toInt < (0 : Int32).toInt ∨ (9999 : Int32).toInt < y.toInt)
    · simp only [by', true_or, if_true]
    · simp only [bx, by', false_or]
      by_cases h1 : ((g a).toInt < (g x).toInt ∨ ((g x).toInt = (g a).toInt ∧ x.toInt < a.toInt)) <;>
      by_cases h2 : ((g a).toInt < (g y).toInt ∨ ((g y).toInt = (g a).toInt ∧ y.toInt < a.toInt)) <;>
      by_cases h3 : ((g x).toInt < (g y).toInt ∨ ((g y).toInt = (g x).toInt ∧ y.toInt < x.toInt)) <;>
      by_cases h4 : ((g y).toInt < (g x).toInt ∨ ((g x).toInt = (g y).toInt ∧ x.toInt < y.toInt)) <;>
      first
        | (exfalso; omega)
        | (simp only [h1, h2, h3, h4, not_true, not_false_iff, if_true, if_false]; done)
        | (simp only [h1, h2, h3, h4, not_true, not_false_iff, if_true, if_false]; apply Int32.toInt_inj.mp; omega)
theorem lp_comm {α : Type} {h : Nat → α → α} {s : α → α} (hc : ∀ j a, s (h j a) = h j (s a)) : ∀ (k i : Nat) (a : α), s (lp h k i a) = lp h k i (s a) := by
  intro k
  induction k with
  | zero => intro i a; rfl
  | succ k ih =>
    intro i a
    show s (lp h k (i + 1) (h i a)) = lp h k (i + 1) (h i (s a))
    rw [ih, hc]
theorem lp_two {α : Type} {f : Nat → α → α} : ∀ (k i : Nat) (a : α), lp f (2 * k) (2 * i) a = lp (fun j a => f (2 * j + 1) (f (2 * j) a)) k i a := by
  intro k
  induction k with
  | zero => intro i a; rfl
  | succ k ih =>
    intro i a
    rw [show 2 * (k + 1) = (2 * k) + 1 + 1 by omega]
    show lp f (2 * k) (2 * i + 1 + 1) (f (2 * i + 1) (f (2 * i) a)) = lp (fun j a => f (2 * j + 1) (f (2 * j) a)) k (i + 1) (f (2 * i + 1) (f (2 * i) a))
    rw [← ih, show 2 * (i + 1) = 2 * i + 1 + 1 by omega]
/-- the best price of a thing at a fee -/
def bst (m : Nat → Int32) (o i : Nat) (fee : Int32) : Int32 := lp (fun p a => if p = o then a else sel (gA m o i fee) (nI (val m p i) - 1) (sel (gA m o i fee) (nI (val m p i)) a)) (w m 0) 0 (sel (gA m o i fee) 9999 0)
theorem sel_in {g : Int32 → Int64} {x a : Int32} (h : ∃ n, n ≤ 9999 ∧ a = nI n) : ∃ n, n ≤ 9999 ∧ sel g x a = nI n := by
  unfold sel
  split
  · exact h
  · next c =>
    have c1 : ¬ (x < 0) := fun e => c (Or.inl (Or.inl e))
    have c2 : ¬ (9999 < x) := fun e => c (Or.inl (Or.inr e))
    obtain ⟨j, hj, rfl⟩ := nI_of c1
    rw [k9999, nI_ltI (by decide) hj] at c2
    exact ⟨j, by omega, rfl⟩
theorem bst_in {m : Nat → Int32} {o i : Nat} {fee : Int32} : ∃ n, n ≤ 9999 ∧ bst m o i fee = nI n := by
  have := lp_inv (f := fun p a => if p = o then a else sel (gA m o i fee) (nI (val m p i) - 1) (sel (gA m o i fee) (nI (val m p i)) a)) (fun _ a => ∃ n, n ≤ 9999 ∧ a = nI n) (w m 0) 0 (sel (gA m o i fee) 9999 0) (sel_in ⟨0, by decide, rfl⟩) (fun j b _ _ hb => by
    show ∃ n, n ≤ 9999 ∧ (if j = o then b else sel (gA m o i fee) (nI (val m j i) - 1) (sel (gA m o i fee) (nI (val m j i)) b)) = nI n
    split
    · exact hb
    · exact sel_in (sel_in hb))
  exact this
theorem mBetter {N : Nat} (hN : 100 < N) {S : St} {m : Nat → Int32} (hM : S.1 173 = m) (hW : WF m) {i f : Nat} (hi : i < w m 1) (hf : f < 100) {a x : Int32} (ha : ∃ n, n ≤ 9999 ∧ a = nI n) : f_X12_better N S (nI i) a x (nI f) = some (sel (gA m (own m i) i (nI f)) x a) := by
  obtain ⟨n, hn, rfl⟩ := ha
  unfold f_X12_better f_X12_in sel
  by_cases c1 : x < 0
  · rw [if_pos c1, bnd_some, if_pos rfl, if_pos (Or.inl (Or.inl c1))]
  · rw [if_neg c1]
    by_cases c2 : 9999 < x
    · rw [if_pos c2, bnd_some, if_pos rfl, if_pos (Or.inl (Or.inr c2))]
    · obtain ⟨j, hj, rfl⟩ := nI_of c1
      have hj2 : j ≤ 9999 := by rw [k9999, nI_ltI (by decide) hj] at c2; omega
      rw [if_neg c2, bnd_some, if_neg (by decide), mGain hN hM hW hi hj2 hf, bnd_some, mGain hN hM hW hi hn hf, bnd_some]
      generalize gA m (own m i) i (nI f) (nI j) = gx
      generalize gA m (own m i) i (nI f) (nI n) = ga
      unfold f_X12_better_54
      by_cases d1 : ga < gx
      · rw [if_pos ((lg_cmp_gt _ _).mpr d1), if_neg (fun e => by rcases e with (e | e) | e; exact c1 e; exact c2 e; exact e (Or.inl d1))]
      · rw [if_neg (fun e => d1 ((lg_cmp_gt _ _).mp e))]
        by_cases d2 : gx = ga
        · rw [if_pos ((lg_cmp_eq _ _).mpr d2)]
          by_cases d3 : nI n ≤ nI j
          · rw [if_pos d3, if_pos (Or.inr (fun e => by rcases e with e | e; exact d1 e; rw [nI_leI (by omega) hj] at d3; rw [nI_ltI hj (by omega)] at e; omega))]
          · rw [if_neg d3, if_neg (fun e => by
              rcases e with (e | e) | e
              · exact c1 e
              · exact c2 e
              · refine e (Or.inr ⟨d2, ?_⟩)
                rw [nI_leI (by omega) hj] at d3; rw [nI_ltI hj (by omega)]; omega)]
        · rw [if_neg (fun e => d2 ((lg_cmp_eq _ _).mp e)), if_pos (Or.inr (fun e => by rcases e with e | e; exact d1 e; exact d2 e.1))]
theorem mBest {N : Nat} (hN : 100 < N) {S : St} {m : Nat → Int32} (hM : S.1 173 = m) (hW : WF m) {i f : Nat} (hi : i < w m 1) (hf : f < 100) : f_X12_bestWith N S (nI i) (nI f) = some (bst m (own m i) i (nI f)) := by
  have hp6 := hW.np.2
  have ho := own_lt hW hi
  have hi2 := hW.nt.2
  have hz : S.1 173 0 = nI (w m 0) := by rw [hM]; exact hW.np.1
  unfold f_X12_bestWith
  rw [mBetter (a := 0) (x := 9999) hN hM hW hi hf ⟨0, by decide, rfl⟩, bnd_some]
  obtain ⟨s', f', e1, e2⟩ := loopR (fun f0 p a => f_X12_bestWith_14 N S f0 (nI i) (nI f) a (nI p)) (fun _ s a => s = a ∧ ∃ n, n ≤ 9999 ∧ a = nI n) (fun p a => if p = own m i then a else sel (gA m (own m i) i (nI f)) (nI (val m p i) - 1) (sel (gA m (own m i) i (nI f)) (nI (val m p i)) a)) (w m 0) (fun f0 p s a hp hR => by
    obtain ⟨rfl, ha⟩ := hR
    show ∃ s', f_X12_bestWith_14 N S (f0 + 1) (nI i) (nI f) s (nI p) = f_X12_bestWith_14 N S f0 (nI i) (nI f) s' (nI (p + 1)) ∧ _
    rw [f_X12_bestWith_14, hz, if_neg (nI_ge hp (by omega)), mOwnV hM hW (by omega), bnd_some]
    by_cases c : p = own m i
    · rw [if_pos (by rw [c])]
      refine ⟨s, by unfold f_X12_bestWith_67; rw [nI_1], ?_⟩
      show s = (if p = own m i then s else _) ∧ ∃ n, n ≤ 9999 ∧ (if p = own m i then s else _) = nI n
      rw [if_pos c]
      exact ⟨rfl, ha⟩
    · rw [if_neg (fun e => c ((nI_eq (by omega) (by omega)).mp e)), mVal hM hW (by omega) (by omega), bnd_some, mBetter hN hM hW hi hf ha, bnd_some, bnd_some, mBetter hN hM hW hi hf (sel_in ha), bnd_some]
      refine ⟨sel (gA m (own m i) i (nI f)) (nI (val m p i) - 1) (sel (gA m (own m i) i (nI f)) (nI (val m p i)) s), by unfold f_X12_bestWith_67; rw [nI_1], ?_⟩
      show _ = (if p = own m i then s else _) ∧ ∃ n, n ≤ 9999 ∧ (if p = own m i then s else _) = nI n
      rw [if_neg c]
      exact ⟨rfl, sel_in (sel_in ha)⟩) (w m 0) 0 N (sel (gA m (own m i) i (nI f)) 9999 0) (sel (gA m (own m i) i (nI f)) 9999 0) ⟨rfl, sel_in ⟨0, by decide, rfl⟩⟩ (by omega) (by omega)
  rw [show f_X12_bestWith_14 N S N (nI i) (nI f) (sel (gA m (own m i) i (nI f)) 9999 0) 0 = _ from e1]
  show f_X12_bestWith_14 N S (f' + 1) (nI i) (nI f) s' (nI (w m 0)) = _
  rw [f_X12_bestWith_14, hz, if_pos (nI_le (Nat.le_refl _) (by omega)), e2.1]
  rfl
/-- the same, in the class's order -/
def cnd (m : Nat → Int32) (o i : Nat) (n j : Nat) : Int32 := if j = 2 * n then 9999 else nI (val m (sk o (j / 2)) i) - nI (j % 2)
theorem bst_cls {m : Nat → Int32} {o i n : Nat} {fee : Int32} (ho : o < w m 0) (hn : n = w m 0 - 1) : lp (fun j a => sel (gA m o i fee) (cnd m o i n j) a) (2 * n + 1) 0 0 = bst m o i fee := by
  unfold bst
  rw [lp_skip ho, ← hn, lp_add]
  show sel (gA m o i fee) (cnd m o i n (0 + 2 * n)) (lp (fun j a => sel (gA m o i fee) (cnd m o i n j) a) (2 * n) (2 * 0) 0) = _
  rw [lp_two]
  have e1 : cnd m o i n (0 + 2 * n) = 9999 := by unfold cnd; rw [if_pos (by omega)]
  have e2 : lp (fun j a => sel (gA m o i fee) (cnd m o i n (2 * j + 1)) (sel (gA m o i fee) (cnd m o i n (2 * j)) a)) n 0 0 = lp (fun j a => sel (gA m o i fee) (nI (val m (sk o j) i) - 1) (sel (gA m o i fee) (nI (val m (sk o j) i)) a)) n 0 0 := lp_congr n 0 0 (fun j b h1 h2 => by
    have a1 : cnd m o i n (2 * j + 1) = nI (val m (sk o j) i) - 1 := by unfold cnd; rw [if_neg (by omega), show (2 * j + 1) / 2 = j by omega, show (2 * j + 1) % 2 = 1 by omega]; rfl
    have a2 : cnd m o i n (2 * j) = nI (val m (sk o j) i) := by unfold cnd; rw [if_neg (by omega), show (2 * j) / 2 = j by omega, show (2 * j) % 2 = 0 by omega, nI_sub (Nat.zero_le _)]; rfl
    rw [a1, a2])
  rw [e1, e2]
  exact lp_comm (s := sel (gA m o i fee) 9999) (fun j a => by rw [sel_comm, sel_comm (gA m o i fee) 9999]) n 0 0
theorem cCand {s : St} {m : Nat → Int32} {o i n : Nat} (hp : w m 0 < 7) (hn : n = w m 0 - 1) (hK : MK s m o i n) {j : Nat} (hj : j < 2 * n + 1) : f_X2_candidate s (nI j) = some (cnd m o i n j) := by
  have r2 : RW s 2 n := ⟨hK.2.1, by have : ln 3 = 6 := rfl; show n ≤ ln 3; omega, by decide⟩
  unfold f_X2_candidate cnd
  rw [p_size r2, bnd_some, k2, pk_mul]
  by_cases c : j = 2 * n
  · rw [if_pos ((nI_eq (by omega) (by omega)).mpr (by omega)), if_pos c]
  · rw [if_neg (fun e => c (by have := (nI_eq (by omega) (by omega)).mp e; omega)), if_neg c, pk_div (by omega) (by decide) (by decide), p_at r2 (by omega), bnd_some, (hK.2.2.2.2 (j / 2) (by omega)).1, ← pk_div (a := j) (d := 2) (by omega) (by decide) (by decide), pk_rem (by omega) (by decide) (by decide)]
theorem cnd_hi {m : Nat → Int32} (hW : WF m) {o i n j : Nat} (hn : n = w m 0 - 1) (hi : i < 12) (hj : j < 2 * n + 1) : cnd m o i n j < 0 ∨ ∃ x, x ≤ 9999 ∧ cnd m o i n j = nI x := by
  have hp := hW.np.2
  unfold cnd
  by_cases c : j = 2 * n
  · rw [if_pos c]; exact Or.inr ⟨9999, by decide, rfl⟩
  · rw [if_neg c]
    have hs := sk_lt (o := o) (n := w m 0) (j := j / 2) (by omega)
    have hv := (val_lt hW (p := sk o (j / 2)) (i := i) (by omega) hi).1
    by_cases d : j % 2 ≤ val m (sk o (j / 2)) i
    · rw [nI_sub d]; exact Or.inr ⟨_, by omega, rfl⟩
    · exact Or.inl (pk_sneg (by omega) (by omega))
theorem cBestP {N : Nat} (hN : 100 < N) {s : St} {m : Nat → Int32} (hW : WF m) {o i f : Nat} (ho : o < w m 0) (hi : i < 12) (hf : f < 100) (hK : MK s m o i (w m 0 - 1)) (hw : s.2 1 = whl m o) : f_X2_bestPrice N s (nI f) = some (bst m o i (nI f)) := by
  have hp := hW.np.2
  obtain ⟨n, hn⟩ : ∃ n, n = w m 0 - 1 := ⟨_, rfl⟩
  have hK' : MK s m o i n := by rw [hn]; exact hK
  have r2 : RW s 2 n := ⟨hK'.2.1, by have : ln 3 = 6 := rfl; show n ≤ ln 3; omega, by decide⟩
  have hG : ∀ c, f_X2_gainAt N s c (nI f) = some (gA m o i (nI f) c) := fun c => cGain hN ho hp hK hw (nI f) c
  unfold f_X2_bestPrice
  rw [hG, bnd_some, ← bst_cls ho hn]
  have hstep : ∀ (f0 j : Nat) (st a : Int32), j < 2 * n + 1 → (st = a ∧ ∃ x, x ≤ 9999 ∧ a = nI x) → ∃ st', f_X2_bestPrice_12 N s (f0 + 1) (nI f) st (gA m o i (nI f) st) (nI j) = f_X2_bestPrice_12 N s f0 (nI f) st' (gA m o i (nI f) st') (nI (j + 1)) ∧ (st' = sel (gA m o i (nI f)) (cnd m o i n j) a ∧ ∃ x, x ≤ 9999 ∧ sel (gA m o i (nI f)) (cnd m o i n j) a = nI x) := by
    intro f0 j st a hj hR
    obtain ⟨rfl, ha⟩ := hR
    have hsel := sel_in (g := gA m o i (nI f)) (x := cnd m o i n j) ha
    refine ⟨sel (gA m o i (nI f)) (cnd m o i n j) st, ?_, rfl, hsel⟩
    obtain ⟨x0, hx0, rfl⟩ := ha
    have hb := gA_b hW (o := o) (i := i) (x := x0) (f := f) (by omega) hi hx0 hf
    have h80 : ∀ (a : Int32) (G : Int64), f_X2_bestPrice_80 N s (f_X2_bestPrice_12 N s f0) (nI f) a G (nI j) = f_X2_bestPrice_12 N s f0 (nI f) a G (nI (j + 1)) := fun a G => by unfold f_X2_bestPrice_80; rw [nI_1]
    rw [f_X2_bestPrice_12, p_size r2, bnd_some, k2, pk_mul, if_neg (nI_nlt (by omega) (by omega)), cCand hp hn hK' hj, bnd_some, hG, bnd_some]
    rcases cnd_hi hW (o := o) hn hi hj with hc | ⟨x, hx, hc⟩
    · rw [if_neg (fun e => by rw [Int32.le_iff_toInt_le] at e; rw [Int32.lt_iff_toInt_lt] at hc; omega)]
      have es : sel (gA m o i (nI f)) (cnd m o i n j) (nI x0) = nI x0 := by unfold sel; rw [if_pos (Or.inl (Or.inl hc))]
      rw [es]
      generalize gA m o i (nI f) (nI x0) = G at hb ⊢
      have e1 : (G - 1).toInt = G.toInt - 1 := (subA (A := 2 ^ 61) (B := 1) hb (by decide) (by decide)).1
      unfold f_X2_bestPrice_52
      rw [if_neg (fun e => by have := (lg_cmp_gt _ _).mp e; rw [Int64.lt_iff_toInt_lt] at this; omega), if_neg (fun e => by have := (lg_cmp_eq _ _).mp e; rw [this] at e1; omega), h80]
    · rw [hc, if_pos (nI_pos' (by omega))]
      unfold f_X2_bestPrice_52 f_X2_bestPrice_74 sel
      have n1 : ¬ (nI x < 0 ∨ 9999 < nI x) := fun e => by
        rcases e with e | e
        · exact nI_pos (by omega) e
        · rw [k9999, nI_ltI (by decide) (by omega)] at e; omega
      by_cases d1 : gA m o i (nI f) (nI x0) < gA m o i (nI f) (nI x)
      · rw [if_pos ((lg_cmp_gt _ _).mpr d1), if_neg (fun e => by rcases e with e | e; exact n1 e; exact e (Or.inl d1)), h80]
      · rw [if_neg (fun e => d1 ((lg_cmp_gt _ _).mp e))]
        by_cases d2 : gA m o i (nI f) (nI x) = gA m o i (nI f) (nI x0)
        · rw [if_pos ((lg_cmp_eq _ _).mpr d2)]
          by_cases d3 : nI x0 ≤ nI x
          · rw [if_pos d3, if_pos (Or.inr (fun e => by rcases e with e | e; exact d1 e; have e2 := e.2; rw [nI_leI (by omega) (by omega)] at d3; rw [nI_ltI (by omega) (by omega)] at e2; omega)), h80]
          · rw [if_neg d3, if_neg (fun e => by
              rcases e with e | e
              · exact n1 e
              · refine e (Or.inr ⟨d2, ?_⟩)
                rw [nI_leI (by omega) (by omega)] at d3; rw [nI_ltI (by omega) (by omega)]; omega), h80]
        · rw [if_neg (fun e => d2 ((lg_cmp_eq _ _).mp e)), if_pos (Or.inr (fun e => by rcases e with e | e; exact d1 e; exact d2 e.1)), h80]
  obtain ⟨s', f', e1, e2⟩ := loopR (fun f0 j st => f_X2_bestPrice_12 N s f0 (nI f) st (gA m o i (nI f) st) (nI j)) (fun _ st a => st = a ∧ ∃ x, x ≤ 9999 ∧ a = nI x) (fun j a => sel (gA m o i (nI f)) (cnd m o i n j) a) (2 * n + 1) hstep (2 * n + 1) 0 N 0 0 ⟨rfl, 0, by decide, rfl⟩ (by omega) (by omega)
  rw [show f_X2_bestPrice_12 N s N (nI f) 0 (gA m o i (nI f) 0) 0 = _ from e1]
  show f_X2_bestPrice_12 N s (f' + 1) (nI f) s' (gA m o i (nI f) s') (nI (2 * n + 1)) = _
  rw [f_X2_bestPrice_12, p_size r2, bnd_some, k2, pk_mul, if_pos (nI_lt (by omega) (by omega)), e2.1]
