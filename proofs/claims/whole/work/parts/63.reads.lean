/-! READING A TOWN, on both sides -/
theorem fuel {k f : Nat} (h : k < f) : ∃ g, f = g + 1 := ⟨f - 1, by omega⟩
/-- a loop that changes nothing but its sum -/
theorem loopI {α β : Type} (F : Nat → Nat → α → Option β) (g : Nat → α → α) (e : α → Option β) (n : Nat) (hz : ∀ f a, F (f + 1) n a = e a) (hs : ∀ f i a, i < n → F (f + 1) i a = F f (i + 1) (g i a)) : ∀ (k i f : Nat) (a : α), i + k = n → k < f → F f i a = e (lp g k i a) := by
  intro k
  induction k with
  | zero =>
    intro i f a h1 h2
    obtain ⟨f, rfl⟩ := fuel h2
    have : i = n := by omega
    subst this
    exact hz f a
  | succ k ih =>
    intro i f a h1 h2
    obtain ⟨f, rfl⟩ := fuel h2
    rw [hs f i a (by omega), ih (i + 1) f _ (by omega) (by omega)]
    rfl
/-- a loop that changes a state, with what it stands for -/
theorem loopR {σ α β : Type} (F : Nat → Nat → σ → Option β) (R : Nat → σ → α → Prop) (g : Nat → α → α) (n : Nat) (hs : ∀ f i s a, i < n → R i s a → ∃ s', F (f + 1) i s = F f (i + 1) s' ∧ R (i + 1) s' (g i a)) : ∀ (k i f : Nat) (s : σ) (a : α), R i s a → i + k = n → k < f → ∃ s' f', F f i s = F (f' + 1) n s' ∧ R n s' (lp g k i a) := by
  intro k
  induction k with
  | zero =>
    intro i f s a hr h1 h2
    obtain ⟨f, rfl⟩ := fuel h2
    have : i = n := by omega
    subst this
    exact ⟨s, f, rfl, hr⟩
  | succ k ih =>
    intro i f s a hr h1 h2
    obtain ⟨f, rfl⟩ := fuel h2
    obtain ⟨s1, e1, r1⟩ := hs f i s a (by omega) hr
    obtain ⟨s2, f2, e2, r2⟩ := ih (i + 1) f s1 _ r1 (by omega) (by omega)
    exact ⟨s2, f2, e1.trans e2, r2⟩
theorem l_kind : ∀ p, p < 6 → lim (20 + 4 * p) = 7 := by decide
theorem l_purse : ∀ p, p < 6 → lim (21 + 4 * p) = 1000000 := by decide
theorem l_chance : ∀ p, p < 6 → lim (22 + 4 * p) = 10 := by decide
theorem l_outof : ∀ p, p < 6 → lim (23 + 4 * p) = 10 := by decide
theorem l_own : ∀ i, i < 12 → lim (44 + 4 * i) = 6 := by decide
theorem l_price : ∀ i, i < 12 → lim (45 + 4 * i) = 10000 := by decide
theorem l_sound : ∀ i, i < 12 → lim (46 + 4 * i) = 101 := by decide
theorem l_kept : ∀ i, i < 12 → lim (47 + 4 * i) = 2 := by decide
theorem l_worth : ∀ j, j < 72 → lim (110 + j) = 10000 := by decide
theorem l_one : ∀ k, k < 6 → lim (92 + 3 * k) = 12 := by decide
theorem l_other : ∀ k, k < 6 → lim (93 + 3 * k) = 12 := by decide
theorem l_bonus : ∀ k, k < 6 → lim (94 + 3 * k) = 10000 := by decide
theorem l_tape : ∀ i, i < 60 → lim (432 + i) = 256 := by decide
theorem WF.ty {m : Nat → Int32} (h : WF m) {x n : Nat} (hl : lim x = n) (hn : 0 < n) : m x = nI (w m x) ∧ w m x < n := by
  have := h.1 x (by omega)
  rw [hl] at this
  exact this
theorem WF.np {m : Nat → Int32} (h : WF m) : m 0 = nI (w m 0) ∧ w m 0 < 7 := h.ty (x := 0) (n := 7) rfl (by decide)
theorem WF.nt {m : Nat → Int32} (h : WF m) : m 1 = nI (w m 1) ∧ w m 1 < 13 := h.ty (x := 1) (n := 13) rfl (by decide)
theorem WF.nk {m : Nat → Int32} (h : WF m) : m 2 = nI (w m 2) ∧ w m 2 < 7 := h.ty (x := 2) (n := 7) rfl (by decide)
theorem WF.nb {m : Nat → Int32} (h : WF m) : m 6 = nI (w m 6) ∧ w m 6 < 61 := h.ty (x := 6) (n := 61) rfl (by decide)
theorem WF.nw {m : Nat → Int32} (h : WF m) : m 7 = nI (w m 7) ∧ w m 7 < 25 := h.ty (x := 7) (n := 25) rfl (by decide)
theorem WF.szc {m : Nat → Int32} (h : WF m) : ∀ k, k < 15 → siz m k ≤ cap k := by
  intro k hk
  have h0 := h.np.2; have h1 := h.nt.2; have h2 := h.nk.2; have h6 := h.nb.2; have h7 := h.nw.2
  unfold siz
  have e : k = 0 ∨ k = 1 ∨ k = 2 ∨ k = 3 ∨ k = 4 ∨ k = 5 ∨ k = 6 ∨ k = 7 ∨ k = 8 ∨ k = 9 ∨ k = 10 ∨ k = 11 ∨ k = 12 ∨ k = 13 ∨ k = 14 := by omega
  rcases e with rfl | rfl | rfl | rfl | rfl | rfl | rfl | rfl | rfl | rfl | rfl | rfl | rfl | rfl | rfl <;> simp [cntx, cap] <;> omega
theorem RT.row {S : St} {t : Nat} {m : Nat → Int32} (h : RT S t m) (hW : WF m) (ht : TP t) {k : Nat} (hk : k < 15) : RW S (t + off k) (siz m k) := by
  have := cap_lt k hk
  exact ⟨(h.1 k hk).1, by rw [ln_row ht hk]; exact hW.szc k hk, by rw [ln_row ht hk]; omega⟩
theorem RT.at {S : St} {t : Nat} {m : Nat → Int32} (h : RT S t m) (hW : WF m) (ht : TP t) {k i : Nat} (hk : k < 15) (hi : i < siz m k) : f_X5_at S (t + off k) (nI i) = some (m (cel k i)) := by
  rw [p_at (h.row hW ht hk) hi, (h.1 k hk).2 i hi]; rfl
theorem cKind {S : St} {t : Nat} {m : Nat → Int32} (h : RT S t m) (hW : WF m) (ht : TP t) {p : Nat} (hp : p < w m 0) : f_X5_at S (t + 2) (nI p) = some (m (20 + 4 * p)) := h.at hW ht (k := 0) (by decide) hp
theorem cPurse {S : St} {t : Nat} {m : Nat → Int32} (h : RT S t m) (hW : WF m) (ht : TP t) {p : Nat} (hp : p < w m 0) : f_X5_at S (t + 4) (nI p) = some (m (21 + 4 * p)) := h.at hW ht (k := 1) (by decide) hp
theorem cChance {S : St} {t : Nat} {m : Nat → Int32} (h : RT S t m) (hW : WF m) (ht : TP t) {p : Nat} (hp : p < w m 0) : f_X5_at S (t + 6) (nI p) = some (m (22 + 4 * p)) := h.at hW ht (k := 2) (by decide) hp
theorem cOutOf {S : St} {t : Nat} {m : Nat → Int32} (h : RT S t m) (hW : WF m) (ht : TP t) {p : Nat} (hp : p < w m 0) : f_X5_at S (t + 8) (nI p) = some (m (23 + 4 * p)) := h.at hW ht (k := 3) (by decide) hp
theorem cOwn {S : St} {t : Nat} {m : Nat → Int32} (h : RT S t m) (hW : WF m) (ht : TP t) {i : Nat} (hi : i < w m 1) : f_X5_at S (t + 11) (nI i) = some (m (44 + 4 * i)) := h.at hW ht (k := 4) (by decide) hi
theorem cPrice {S : St} {t : Nat} {m : Nat → Int32} (h : RT S t m) (hW : WF m) (ht : TP t) {i : Nat} (hi : i < w m 1) : f_X5_at S (t + 13) (nI i) = some (m (45 + 4 * i)) := h.at hW ht (k := 5) (by decide) hi
theorem cSound {S : St} {t : Nat} {m : Nat → Int32} (h : RT S t m) (hW : WF m) (ht : TP t) {i : Nat} (hi : i < w m 1) : f_X5_at S (t + 15) (nI i) = some (m (46 + 4 * i)) := h.at hW ht (k := 6) (by decide) hi
theorem cKept {S : St} {t : Nat} {m : Nat → Int32} (h : RT S t m) (hW : WF m) (ht : TP t) {i : Nat} (hi : i < w m 1) : f_X5_at S (t + 17) (nI i) = some (m (47 + 4 * i)) := h.at hW ht (k := 7) (by decide) hi
theorem cWorth {S : St} {t : Nat} {m : Nat → Int32} (h : RT S t m) (hW : WF m) (ht : TP t) {j : Nat} (hj : j < 72) : f_X5_at S (t + 19) (nI j) = some (m (110 + j)) := by
  have := h.at hW ht (k := 8) (i := j) (by decide) hj
  rw [show cel 8 j = 110 + j by unfold cel; simp [bas, stp]] at this
  exact this
theorem cOne {S : St} {t : Nat} {m : Nat → Int32} (h : RT S t m) (hW : WF m) (ht : TP t) {k : Nat} (hk : k < w m 2) : f_X5_at S (t + 21) (nI k) = some (m (92 + 3 * k)) := h.at hW ht (k := 9) (by decide) hk
theorem cOther {S : St} {t : Nat} {m : Nat → Int32} (h : RT S t m) (hW : WF m) (ht : TP t) {k : Nat} (hk : k < w m 2) : f_X5_at S (t + 23) (nI k) = some (m (93 + 3 * k)) := h.at hW ht (k := 10) (by decide) hk
theorem cBonus {S : St} {t : Nat} {m : Nat → Int32} (h : RT S t m) (hW : WF m) (ht : TP t) {k : Nat} (hk : k < w m 2) : f_X5_at S (t + 25) (nI k) = some (m (94 + 3 * k)) := h.at hW ht (k := 11) (by decide) hk
theorem cRule {S : St} {t : Nat} {m : Nat → Int32} (h : RT S t m) (hW : WF m) (ht : TP t) {j : Nat} (hj : j < 5) : f_X5_at S (t + 27) (nI j) = some (m (10 + j)) := by
  have := h.at hW ht (k := 12) (i := j) (by decide) hj
  rw [show cel 12 j = 10 + j by unfold cel; simp [bas, stp]] at this
  exact this
theorem cTape {S : St} {t : Nat} {m : Nat → Int32} (h : RT S t m) (hW : WF m) (ht : TP t) {i : Nat} (hi : i < w m 6) : f_X5_at S (t + 43) (nI i) = some (m (432 + i)) := by
  have := h.at hW ht (k := 13) (i := i) (by decide) hi
  rw [show cel 13 i = 432 + i by unfold cel; simp [bas, stp]] at this
  exact this
theorem cWait {S : St} {t : Nat} {m : Nat → Int32} (h : RT S t m) (hW : WF m) (ht : TP t) {i : Nat} (hi : i < w m 7) : f_X5_at S (t + 45) (nI i) = some (m (492 + i)) := by
  have := h.at hW ht (k := 14) (i := i) (by decide) hi
  rw [show cel 14 i = 492 + i by unfold cel; simp [bas, stp]] at this
  exact this
theorem cNp {S : St} {t : Nat} {m : Nat → Int32} (h : RT S t m) (hW : WF m) (ht : TP t) : f_X3_size S (t + 1) = some (nI (w m 0)) := by
  unfold f_X3_size
  rw [show t + 1 + 1 = t + off 0 from rfl, p_size (h.row hW ht (k := 0) (by decide)), bnd_some]; rfl
theorem cNt {S : St} {t : Nat} {m : Nat → Int32} (h : RT S t m) (hW : WF m) (ht : TP t) : f_X8_size S (t + 10) = some (nI (w m 1)) := by
  unfold f_X8_size
  rw [show t + 10 + 1 = t + off 4 from rfl, p_size (h.row hW ht (k := 4) (by decide)), bnd_some]; rfl
theorem cNk {S : St} {t : Nat} {m : Nat → Int32} (h : RT S t m) (hW : WF m) (ht : TP t) : f_X5_size S (t + 25) = some (nI (w m 2)) := p_size (h.row hW ht (k := 11) (by decide))
theorem cNb {S : St} {t : Nat} {m : Nat → Int32} (h : RT S t m) (hW : WF m) (ht : TP t) : f_X5_size S (t + 43) = some (nI (w m 6)) := p_size (h.row hW ht (k := 13) (by decide))
theorem cNw {S : St} {t : Nat} {m : Nat → Int32} (h : RT S t m) (hW : WF m) (ht : TP t) : f_X5_size S (t + 45) = some (nI (w m 7)) := p_size (h.row hW ht (k := 14) (by decide))
/-- what a thing is worth to someone -/
def val (m : Nat → Int32) (p i : Nat) : Nat := w m (110 + (12 * p + i)) * w m (46 + 4 * i) / 100
def own (m : Nat → Int32) (i : Nat) : Nat := w m (44 + 4 * i)
theorem mul_le_of {a b x y : Nat} (h1 : a ≤ x) (h2 : b ≤ y) : a * b ≤ x * y := Nat.mul_le_mul h1 h2
theorem val_lt {m : Nat → Int32} (hW : WF m) {p i : Nat} (hp : p < 6) (hi : i < 12) : val m p i ≤ 9999 ∧ w m (110 + (12 * p + i)) * w m (46 + 4 * i) ≤ 999900 := by
  have h1 := (hW.ty (l_worth (12 * p + i) (by omega)) (by decide)).2
  have h2 := (hW.ty (l_sound i hi) (by decide)).2
  have h3 := mul_le_of (a := w m (110 + (12 * p + i))) (b := w m (46 + 4 * i)) (x := 9999) (y := 100) (by omega) (by omega)
  unfold val
  omega
theorem val_eq {m : Nat → Int32} (hW : WF m) {p i : Nat} (hp : p < 6) (hi : i < 12) : m (110 + (12 * p + i)) * m (46 + 4 * i) / 100 = nI (val m p i) := by
  rw [(hW.ty (l_worth (12 * p + i) (by omega)) (by decide)).1, (hW.ty (l_sound i hi) (by decide)).1, pk_mul, k100, pk_div (by have := (val_lt hW hp hi).2; omega) (by decide) (by decide)]
  rfl
theorem cVal {S : St} {t : Nat} {m : Nat → Int32} (h : RT S t m) (hW : WF m) (ht : TP t) {p i : Nat} (hp : p < 6) (hi : i < w m 1) : f_X8_valueOf S (t + 10) (nI p) (nI i) = some (nI (val m p i)) := by
  have hi2 := hW.nt.2
  unfold f_X8_valueOf
  rw [k12, pk_mul, nI_add, Nat.mul_comm, show t + 10 + 9 = t + 19 from rfl, cWorth h hW ht (by omega), bnd_some, show t + 10 + 5 = t + 15 from rfl, cSound h hW ht hi, bnd_some, val_eq hW hp (by omega)]
theorem cOwnV {S : St} {t : Nat} {m : Nat → Int32} (h : RT S t m) (hW : WF m) (ht : TP t) {i : Nat} (hi : i < w m 1) : f_X5_at S (t + 11) (nI i) = some (nI (own m i)) := by
  rw [cOwn h hW ht hi, (hW.ty (l_own i (by have := hW.nt.2; omega)) (by decide)).1]; rfl
theorem own_lt {m : Nat → Int32} (hW : WF m) {i : Nat} (hi : i < w m 1) : own m i < w m 0 ∧ own m i < 6 := by
  have := hW.2.2.1 i hi; have h2 := hW.np.2
  unfold own; omega
/-! the model's reads -/
theorem mIx {S : St} {m : Nat → Int32} (hM : S.1 173 = m) {a : Int32} {x : Nat} (ha : a = nI x) (hx : x < 516) : (if inb a 516 = true then some (S.1 173 a.toNatClampNeg) else none) = some (m x) := by
  subst ha
  rw [if_pos (inb_nI hx (by decide)), nI_clamp (by omega), hM]
theorem mKind {S : St} {m : Nat → Int32} (hM : S.1 173 = m) {p : Nat} (hp : p < 6) : f_X12_who S (nI p) 0 = some (m (20 + 4 * p)) := mIx hM (by rw [k20, k4, pk_mul, nI_add, k0, nI_add]; rfl) (by omega)
theorem mPurse {S : St} {m : Nat → Int32} (hM : S.1 173 = m) {p : Nat} (hp : p < 6) : f_X12_who S (nI p) 1 = some (m (21 + 4 * p)) := mIx hM (by rw [k20, k4, pk_mul, nI_add, k1, nI_add]; congr 1; omega) (by omega)
theorem mChance {S : St} {m : Nat → Int32} (hM : S.1 173 = m) {p : Nat} (hp : p < 6) : f_X12_who S (nI p) 2 = some (m (22 + 4 * p)) := mIx hM (by rw [k20, k4, pk_mul, nI_add, k2, nI_add]; congr 1; omega) (by omega)
theorem mOutOf {S : St} {m : Nat → Int32} (hM : S.1 173 = m) {p : Nat} (hp : p < 6) : f_X12_who S (nI p) 3 = some (m (23 + 4 * p)) := mIx hM (by rw [k20, k4, pk_mul, nI_add, k3, nI_add]; congr 1; omega) (by omega)
theorem mIts0 {S : St} {m : Nat → Int32} (hM : S.1 173 = m) {i : Nat} (hi : i < 12) : f_X12_its S (nI i) 0 = some (m (44 + 4 * i)) := mIx hM (by rw [k44, k4, pk_mul, nI_add, k0, nI_add]; rfl) (by omega)
theorem mPrice {S : St} {m : Nat → Int32} (hM : S.1 173 = m) {i : Nat} (hi : i < 12) : f_X12_its S (nI i) 1 = some (m (45 + 4 * i)) := mIx hM (by rw [k44, k4, pk_mul, nI_add, k1, nI_add]; congr 1; omega) (by omega)
theorem mSound {S : St} {m : Nat → Int32} (hM : S.1 173 = m) {i : Nat} (hi : i < 12) : f_X12_its S (nI i) 2 = some (m (46 + 4 * i)) := mIx hM (by rw [k44, k4, pk_mul, nI_add, k2, nI_add]; congr 1; omega) (by omega)
theorem mKept {S : St} {m : Nat → Int32} (hM : S.1 173 = m) {i : Nat} (hi : i < 12) : f_X12_its S (nI i) 3 = some (m (47 + 4 * i)) := mIx hM (by rw [k44, k4, pk_mul, nI_add, k3, nI_add]; congr 1; omega) (by omega)
theorem mOne {S : St} {m : Nat → Int32} (hM : S.1 173 = m) {k : Nat} (hk : k < 6) : f_X12_pairIts S (nI k) 0 = some (m (92 + 3 * k)) := mIx hM (by rw [k92, k3, pk_mul, nI_add, k0, nI_add]; rfl) (by omega)
theorem mOther {S : St} {m : Nat → Int32} (hM : S.1 173 = m) {k : Nat} (hk : k < 6) : f_X12_pairIts S (nI k) 1 = some (m (93 + 3 * k)) := mIx hM (by rw [k92, k3, pk_mul, nI_add, k1, nI_add]; congr 1; omega) (by omega)
theorem mBonus {S : St} {m : Nat → Int32} (hM : S.1 173 = m) {k : Nat} (hk : k < 6) : f_X12_pairIts S (nI k) 2 = some (m (94 + 3 * k)) := mIx hM (by rw [k92, k3, pk_mul, nI_add, k2, nI_add]; congr 1; omega) (by omega)
theorem mOwn {S : St} {m : Nat → Int32} (hM : S.1 173 = m) {i : Nat} (hi : i < 12) : f_X12_owner S (nI i) = some (m (44 + 4 * i)) := by
  unfold f_X12_owner
  rw [mIts0 hM hi, bnd_some]
theorem mOwnV {S : St} {m : Nat → Int32} (hM : S.1 173 = m) (hW : WF m) {i : Nat} (hi : i < 12) : f_X12_owner S (nI i) = some (nI (own m i)) := by
  rw [mOwn hM hi, (hW.ty (l_own i hi) (by decide)).1]; rfl
theorem mVal {S : St} {m : Nat → Int32} (hM : S.1 173 = m) (hW : WF m) {p i : Nat} (hp : p < 6) (hi : i < 12) : f_X12_valueTo S (nI p) (nI i) = some (nI (val m p i)) := by
  unfold f_X12_valueTo
  have e : (110 : Int32) + 12 * nI p + nI i = nI (110 + (12 * p + i)) := by rw [k110, k12, pk_mul, nI_add, nI_add]; congr 1; omega
  rw [e, if_pos (inb_nI (by omega) (by decide)), nI_clamp (by omega), mSound hM hi, bnd_some, hM, val_eq hW hp hi]
