/-! THE MODEL'S DESCENT is the machine, too -/
def stk2 (f : Nat → Int32) : ML → Prop
  | [] => True
  | x :: M => f (2 * M.length) = x.1 ∧ f (2 * M.length + 1) = x.2 ∧ stk2 f M
theorem stk2_upd {f : Nat → Int32} {j : Nat} {v : Int32} : ∀ (M : ML), stk2 f M → 2 * M.length ≤ j → stk2 (upd f j v) M := by
  intro M
  induction M with
  | nil => intro _ _; exact True.intro
  | cons x M ih =>
    intro h hj
    rw [List.length_cons] at hj
    exact ⟨by rw [upd_ne (by omega)]; exact h.1, by rw [upd_ne (by omega)]; exact h.2.1, ih h.2.2 (by omega)⟩
def FRm (S s : St) : Prop := (∀ q, q ≠ 172 → q ≠ 177 → s.1 q = S.1 q) ∧ ∀ j, j ≠ 5 → j ≠ 6 → j ≠ 7 → s.1 172 j = S.1 172 j
def MS (S s : St) (M : ML) (i c : Nat) : Prop := FRm S s ∧ s.1 172 5 = nI i ∧ s.1 172 6 = nI c ∧ s.1 172 7 = nI M.length ∧ stk2 (s.1 177) M
def EV (S : St) (u n : Nat) (T : Nat → Nat) : Prop := u < 2 ∧ n ≤ 60 ∧ (∀ i, i < n → T i < 256) ∧ S.1 172 8 = nI u ∧ S.1 173 6 = nI n ∧ ∀ i, i < n → S.1 173 (432 + i) = nI (T i)
def lkv (T : Nat → Nat) (n i : Nat) : Int32 := if i < n then nI (T i) else -1
theorem mLook {S s : St} {u n i c : Nat} {T : Nat → Nat} {M : ML} (hE : EV S u n T) (h : MS S s M i c) (hi : i ≤ n) : f_X12_look s = some (lkv T n i) := by
  obtain ⟨e1, e2, e3, e4, e5, e6⟩ := hE
  unfold f_X12_look lkv
  rw [h.2.1, h.1.1 173 (by decide) (by decide), e5]
  by_cases c : i < n
  · rw [if_neg (nI_ge c (by omega)), if_pos c, k432, nI_add, if_pos (inb_nI (by omega) (by decide)), nI_clamp (by omega), e6 i c]
  · rw [if_pos (nI_le (by omega) (by omega)), if_neg c]
theorem MS.at {S s : St} {M : ML} {i c i' : Nat} (h : MS S s M i c) : MS S (pt s 172 5 (nI i')) M i' c := by
  obtain ⟨h1, h2, h3, h4, h5⟩ := h
  exact ⟨⟨fun q a b => by rw [pt_nek a]; exact h1.1 q a b, fun j a b d => by rw [pt_nej a]; exact h1.2 j a b d⟩, pt_at, by rw [pt_nej (by decide)]; exact h3, by rw [pt_nej (by decide)]; exact h4, by rw [pt_nek (by decide)]; exact h5⟩
theorem MS.op {S s : St} {M : ML} {i c c' : Nat} (h : MS S s M i c) : MS S (pt s 172 6 (nI c')) M i c' := by
  obtain ⟨h1, h2, h3, h4, h5⟩ := h
  exact ⟨⟨fun q a b => by rw [pt_nek a]; exact h1.1 q a b, fun j a b d => by rw [pt_nej b]; exact h1.2 j a b d⟩, by rw [pt_nej (by decide)]; exact h2, pt_at, by rw [pt_nej (by decide)]; exact h4, by rw [pt_nek (by decide)]; exact h5⟩
theorem mLays {S s : St} {M : ML} {i c : Nat} {a v : Int32} (h : MS S s M i c) (hM : M.length ≤ 60) : ∃ s', f_X12_lays s a v = some s' ∧ MS S s' ((a, v) :: M) i c := by
  obtain ⟨h1, h2, h3, h4, h5⟩ := h
  have e0 : (2 : Int32) * s.1 172 7 = nI (2 * M.length) := by rw [h4, k2, pk_mul]
  have e1 : (2 : Int32) * (pt s 177 (2 * M.length) a).1 172 7 + 1 = nI (2 * M.length + 1) := by rw [pt_nek (by decide), h4, k2, pk_mul, nI_1]
  have e7 : (pt (pt s 177 (2 * M.length) a) 177 (2 * M.length + 1) v).1 172 7 + 1 = nI (M.length + 1) := by rw [pt_nek (by decide), pt_nek (by decide), h4, nI_1]
  refine ⟨pt (pt (pt s 177 (2 * M.length) a) 177 (2 * M.length + 1) v) 172 7 (nI (M.length + 1)), ?_, ⟨fun q x y => by rw [pt_nek x, pt_nek y, pt_nek y]; exact h1.1 q x y, fun j x y z => by rw [pt_nej z, pt_nek (by decide), pt_nek (by decide)]; exact h1.2 j x y z⟩, ?_, ?_, ?_, ?_⟩
  · unfold f_X12_lays
    rw [e0, if_pos (inb_nI (by omega) (by decide)), nI_clamp (n := 2 * M.length) (by omega), e1, if_pos (inb_nI (by omega) (by decide)), nI_clamp (n := 2 * M.length + 1) (by omega), e7]
  · rw [pt_nej (by decide), pt_nek (by decide), pt_nek (by decide)]; exact h2
  · rw [pt_nej (by decide), pt_nek (by decide), pt_nek (by decide)]; exact h3
  · rw [pt_at, List.length_cons]
  · rw [pt_nek (by decide), pt_same, pt_same]
    refine ⟨by rw [upd_ne (by omega), upd_same], by rw [upd_same], stk2_upd M (stk2_upd M h5 (Nat.le_refl _)) (by omega)⟩
def fl : List Nat → ML → ML
  | [], M => M
  | p :: P, M => fl P (sp p :: M)
theorem fl_app (b : Nat) : ∀ (P : List Nat) (M : ML), fl (P ++ [b]) M = sp b :: fl P M := by
  intro P
  induction P with
  | nil => intro M; rfl
  | cons p P ih => intro M; exact ih (sp p :: M)
theorem fl_len : ∀ (P : List Nat) (M : ML), (fl P M).length = M.length + P.length := by
  intro P
  induction P with
  | nil => intro M; rfl
  | cons p P ih =>
    intro M
    have := ih (sp p :: M)
    rw [List.length_cons] at this ⊢
    show (fl P (sp p :: M)).length = _
    omega
theorem cls_fl {r : Nat} {O : List Nat} (hO : rkT O < r) : ∀ (P : List Nat) (M : ML), (∀ p, p ∈ P → r ≤ rk p) → cls r (P ++ O) M = (fl P M, O) := by
  intro P
  induction P with
  | nil =>
    intro M _
    cases O with
    | nil => rfl
    | cons b O =>
      show (if rk b < r then (M, b :: O) else cls r O (sp b :: M)) = _
      rw [if_pos (show rk b < r from hO)]; rfl
  | cons p P ih =>
    intro M h
    have hp := h p (List.mem_cons_self ..)
    show (if rk p < r then (M, p :: (P ++ O)) else cls r (P ++ O) (sp p :: M)) = _
    rw [if_neg (by omega)]
    exact ih (sp p :: M) (fun x hx => h x (List.mem_cons_of_mem _ hx))
def DNx (u n : Nat) (T : Nat → Nat) (L : Nat) (σ : PSt) (i : Nat) : Prop := i < n → ((48 ≤ T i ∧ T i ≤ 57) → nxt u σ (T i) = none) ∧ (L ≤ rk (T i) → rk (T i) ≤ 5 → nxt u σ (T i) = none)
def GD (S : St) (u n : Nat) (T : Nat → Nat) (L : Nat) (O : List Nat) (i : Nat) (G0 : Nat ⊕ ML) (r : Option (Int32 × St)) : Prop :=
  (∃ s' i' M' P M'' dg, r = some (1, s') ∧ MS S s' M' i' (cnt O) ∧ i < i' ∧ i' ≤ n ∧ G0 = go u T n i' (M'', P ++ O, dg, false) ∧ (∀ p, p ∈ P → L ≤ rk p) ∧ fl P M'' = M' ∧ J u (M'', P ++ O, dg, false) i' ∧ DNx u n T L (M'', P ++ O, dg, false) i') ∨
  (∃ s' i', r = some (0, s') ∧ FRm S s' ∧ s'.1 172 5 = nI i' ∧ i' ≤ n ∧ G0 = .inl i')
def PL (S : St) (u n : Nat) (T : Nat → Nat) (L : Nat) (d : Nat) (F : St → Option (Int32 × St)) : Prop := ∀ s i M O, MS S s M i (cnt O) → i ≤ n → (L = 6 ∨ rkT O < L) → 6 ≤ d + cnt O → J u (M, O, 0, true) i → GD S u n T L O i (go u T n i (M, O, 0, true)) (F s)
theorem GD.up {S : St} {u n L L' i : Nat} {T : Nat → Nat} {O : List Nat} {G0 : Nat ⊕ ML} {s : St} {i' : Nat} (h : FRm S s ∧ s.1 172 5 = nI i' ∧ i' ≤ n ∧ G0 = .inl i') : GD S u n T L O i G0 (some (0, s)) := Or.inr ⟨s, i', rfl, h⟩
theorem cnt_op {b : Nat} {O : List Nat} (h : 1 ≤ rk b ∧ rk b ≤ 5) : cnt (b :: O) = cnt O := by
  have := rk_sg h
  show (if b = 33 ∨ b = 40 then 1 else 0) + cnt O = cnt O
  rw [if_neg (by omega), Nat.zero_add]
/-- a sign between two, taken by the machine -/
theorem nxt_op {u b dg r : Nat} {P O : List Nat} {M : ML} (hb : 1 ≤ rk b ∧ rk b ≤ 5) (hr : r = if rk b = 3 then 4 else rk b) (hP : ∀ p, p ∈ P → r ≤ rk p) (hO : rkT O < rk b) : nxt u (M, P ++ O, dg, false) b = some (fl P M, b :: O, 0, true) := by
  have hs := rk_sg hb
  have hOr : rkT O < r := by rw [hr]; split <;> omega
  have hc := cls_fl hOr P M hP
  unfold nxt
  simp only
  rw [if_neg hs.2.2.2.2, if_neg (show ¬ false = true by decide), if_neg hs.2.2.2.1, if_neg (show ¬ rk b = 0 by omega), if_neg (show ¬ rk b = 6 by omega)]
  by_cases c : rk b = 3
  · rw [if_pos c] at hr
    subst hr
    rw [if_pos c, hc, if_neg (show ¬ rkT (fl P M, O).2 = 3 from by show ¬ rkT O = 3; omega)]
  · rw [if_neg c] at hr
    subst hr
    rw [if_neg c, hc]
theorem sp_op {b : Nat} (h : 1 ≤ rk b ∧ rk b ≤ 5) : sp b = (3, nI b) := by
  have := rk_sg h
  unfold sp
  rw [if_neg this.2.1]
/-- a level: what stands between signs of rank L -/
theorem loopL {S : St} {u n L d : Nat} {T : Nat → Nat} (hE : EV S u n T) (hL : L = 1 ∨ L = 2 ∨ L = 4 ∨ L = 5) {G : St → Option (Int32 × St)} {Lp : Nat → St → Option (Int32 × St)} (hG : PL S u n T (L + 1) d G)
    (hop : ∀ (f : Nat) (s : St) (b : Nat), b < 256 → f_X12_look s = some (nI b) → rk b = L → Lp (f + 1) s = bnd2 (G (pt s 172 5 (s.1 172 5 + 1))) (fun r s5 => if r = 0 then some (0, s5) else bnd (f_X12_lays s5 3 (nI b)) (fun s8 => Lp f s8)))
    (hno : ∀ (f : Nat) (s : St) (a : Int32), f_X12_look s = some a → (∀ b, b < 256 → a = nI b → rk b ≠ L) → Lp (f + 1) s = some (1, s)) {G0 : Nat ⊕ ML} {i0 : Nat} {O : List Nat} (hO : rkT O < L) (hC : 6 ≤ d + cnt O) :
    ∀ (f : Nat) (s : St) (i : Nat) (M' : ML) (P : List Nat) (M'' : ML) (dg : Nat), MS S s M' i (cnt O) → i ≤ n → n - i < f → i0 < i → G0 = go u T n i (M'', P ++ O, dg, false) → (∀ p, p ∈ P → L ≤ rk p) → fl P M'' = M' → J u (M'', P ++ O, dg, false) i → DNx u n T (L + 1) (M'', P ++ O, dg, false) i → GD S u n T L O i0 G0 (Lp f s) := by
  intro f
  induction f with
  | zero => intro s i M' P M'' dg h1 h2 h3; exact absurd h3 (Nat.not_lt_zero _)
  | succ f ih =>
    intro s i M' P M'' dg h1 h2 h3 h4 h5 h6 h7 h8 h9
    have hlk := mLook hE h1 h2
    by_cases c : i < n ∧ rk (T i) = L
    · obtain ⟨ci, cr⟩ := c
      have hb := hE.2.2.1 i ci
      have hb5 : 1 ≤ rk (T i) ∧ rk (T i) ≤ 5 := by omega
      have hlk' : f_X12_look s = some (nI (T i)) := by rw [hlk]; unfold lkv; rw [if_pos ci]
      have hn := nxt_op (u := u) (dg := dg) (P := P) (O := O) (M := M'') (b := T i) (r := L) hb5 (by rw [if_neg (by omega), cr]) h6 (by omega)
      rw [h7] at hn
      have hg := go_some ci hn
      have hJ := nxt_J hE.1 hb h8 hn
      have h1' : MS S (pt s 172 5 (s.1 172 5 + 1)) M' (i + 1) (cnt (T i :: O)) := by
        rw [cnt_op hb5, h1.2.1, nI_1]; exact h1.at
      have hres := hG _ (i + 1) M' (T i :: O) h1' (by omega) (Or.inr (by show rk (T i) < L + 1; omega)) (by rw [cnt_op hb5]; exact hC) hJ
      rw [← hg, ← h5] at hres
      rw [hop f s (T i) hb hlk' cr]
      rcases hres with ⟨s2, i2, M2, P2, M2', dg2, r1, r2, r3, r4, r5, r6, r7, r8, r9⟩ | ⟨s2, i2, r1, r2⟩
      · rw [r1, bnd2_some, if_neg (by decide)]
        have hlen : M2.length ≤ 60 := by
          have := r8.1
          simp only [List.length_append, List.length_cons] at this
          have h60 := hE.2.1
          rw [← r7, fl_len]; omega
        obtain ⟨s3, l1, l2⟩ := mLays (a := 3) (v := nI (T i)) r2 hlen
        rw [l1, bnd_some]
        have ea : P2 ++ T i :: O = (P2 ++ [T i]) ++ O := by rw [List.append_assoc]; rfl
        rw [ea] at r5 r8 r9
        rw [cnt_op hb5] at l2
        refine ih s3 i2 _ (P2 ++ [T i]) M2' dg2 l2 r4 (by omega) (by omega) r5 (fun p hp => ?_) ?_ r8 r9
        · rcases List.mem_append.mp hp with hp | hp
          · have := r6 p hp; omega
          · rw [List.mem_singleton.mp hp]; omega
        · rw [fl_app, r7, sp_op hb5]
      · rw [r1, bnd2_some, if_pos rfl]
        exact Or.inr ⟨s2, i2, rfl, r2⟩
    · rw [hno f s _ hlk (fun b hb e hr => by
        unfold lkv at e
        by_cases ci : i < n
        · rw [if_pos ci] at e
          have := (nI_eq (by have := hE.2.2.1 i ci; omega) (by omega)).mp e
          rw [this] at c
          exact c ⟨ci, hr⟩
        · rw [if_neg ci] at e
          have : (nI b).toInt = (b : Int) := nI_toInt (by omega)
          rw [← e] at this
          have e1 : (-1 : Int32).toInt = -1 := by decide
          omega)]
      refine Or.inl ⟨s, i, M', P, M'', dg, rfl, h1, h4, h2, h5, h6, h7, h8, fun hi => ⟨(h9 hi).1, fun a b => ?_⟩⟩
      by_cases e : rk (T i) = L
      · exact absurd ⟨hi, e⟩ c
      · exact (h9 hi).2 (by omega) b
/-- a level out of the one under it -/
theorem levelL {S : St} {u n L d N : Nat} {T : Nat → Nat} (hE : EV S u n T) (hN : 100 < N) (hL : L = 1 ∨ L = 2 ∨ L = 4 ∨ L = 5) {F G : St → Option (Int32 × St)} {Lp : Nat → St → Option (Int32 × St)} (hG : PL S u n T (L + 1) d G) (hF : ∀ s, F s = bnd2 (G s) (fun a s => if a = 0 then some (0, s) else Lp N s))
    (hop : ∀ (f : Nat) (s : St) (b : Nat), b < 256 → f_X12_look s = some (nI b) → rk b = L → Lp (f + 1) s = bnd2 (G (pt s 172 5 (s.1 172 5 + 1))) (fun r s5 => if r = 0 then some (0, s5) else bnd (f_X12_lays s5 3 (nI b)) (fun s8 => Lp f s8)))
    (hno : ∀ (f : Nat) (s : St) (a : Int32), f_X12_look s = some a → (∀ b, b < 256 → a = nI b → rk b ≠ L) → Lp (f + 1) s = some (1, s)) : PL S u n T L d F := by
  intro s i M O h1 h2 h3 h4 h5
  have hO : rkT O < L := by rcases h3 with h3 | h3; omega; exact h3
  have hn := hE.2.1
  have hres := hG s i M O h1 h2 (Or.inr (by omega)) h4 h5
  rw [hF]
  rcases hres with ⟨s2, i2, M2, P2, M2', dg2, r1, r2, r3, r4, r5, r6, r7, r8, r9⟩ | ⟨s2, i2, r1, r2⟩
  · rw [r1, bnd2_some, if_neg (by decide)]
    exact loopL hE hL hG hop hno hO h4 N s2 i2 M2 P2 M2' dg2 r2 r4 (by omega) r3 r5 (fun p hp => by have := r6 p hp; omega) r7 r8 r9
  · rw [r1, bnd2_some, if_pos rfl]
    exact Or.inr ⟨s2, i2, rfl, r2⟩
theorem rk5 : ∀ b, b < 256 → rk b = 5 → b = 42 ∨ b = 47 ∨ b = 37 := by decide +kernel
theorem rk4 : ∀ b, b < 256 → rk b = 4 → b = 43 ∨ b = 45 := by decide +kernel
theorem rk3 : ∀ b, b < 256 → rk b = 3 → b = 60 ∨ b = 61 ∨ b = 62 := by decide +kernel
theorem rk2 : ∀ b, b < 256 → rk b = 2 → b = 38 := by decide +kernel
theorem rk1 : ∀ b, b < 256 → rk b = 1 → b = 124 := by decide +kernel
theorem lvl5 {S : St} {u n d N : Nat} {T : Nat → Nat} (hE : EV S u n T) (hN : 100 < N) {rc : St → Option (Int32 × St)} (hG : PL S u n T 6 d rc) : PL S u n T 5 d (f_X12_product N rc) := by
  refine levelL (Lp := f_X12_product_9 N rc) hE hN (Or.inr (Or.inr (Or.inr rfl))) hG (fun s => rfl) (fun f s b hb hl hr => ?_) (fun f s a hl hn => ?_)
  · have h36 : f_X12_product_36 N rc (f_X12_product_9 N rc f) s = bnd2 (rc (pt s 172 5 (s.1 172 5 + 1))) (fun r s5 => if r = 0 then some (0, s5) else bnd (f_X12_lays s5 3 (nI b)) (fun s8 => f_X12_product_9 N rc f s8)) := by
      unfold f_X12_product_36
      rw [hl, bnd_some]
    rw [f_X12_product_9, hl, bnd_some, bnd_some, bnd_some, h36]
    rcases rk5 b hb hr with rfl | rfl | rfl
    · rw [if_pos (show nI 42 = (42 : Int32) from rfl)]
    · rw [if_neg (show ¬ nI 47 = (42 : Int32) by decide), if_pos (show nI 47 = (47 : Int32) from rfl)]
    · rw [if_neg (show ¬ nI 37 = (42 : Int32) by decide), if_neg (show ¬ nI 37 = (47 : Int32) by decide), if_pos (show nI 37 = (37 : Int32) from rfl)]
  · rw [f_X12_product_9, hl, bnd_some, bnd_some, bnd_some, if_neg (show ¬ a = (42 : Int32) from fun e => hn 42 (by decide) e (by decide)), if_neg (show ¬ a = (47 : Int32) from fun e => hn 47 (by decide) e (by decide)), if_neg (show ¬ a = (37 : Int32) from fun e => hn 37 (by decide) e (by decide))]
theorem lvl4 {S : St} {u n d N : Nat} {T : Nat → Nat} (hE : EV S u n T) (hN : 100 < N) {rc : St → Option (Int32 × St)} (hG : PL S u n T 6 d rc) : PL S u n T 4 d (f_X12_sum N rc) := by
  refine levelL (Lp := f_X12_sum_9 N rc) hE hN (Or.inr (Or.inr (Or.inl rfl))) (lvl5 hE hN hG) (fun s => rfl) (fun f s b hb hl hr => ?_) (fun f s a hl hn => ?_)
  · have h36 : f_X12_sum_27 N rc (f_X12_sum_9 N rc f) s = bnd2 (f_X12_product N rc (pt s 172 5 (s.1 172 5 + 1))) (fun r s5 => if r = 0 then some (0, s5) else bnd (f_X12_lays s5 3 (nI b)) (fun s8 => f_X12_sum_9 N rc f s8)) := by
      unfold f_X12_sum_27
      rw [hl, bnd_some]
    rw [f_X12_sum_9, hl, bnd_some, bnd_some, h36]
    rcases rk4 b hb hr with rfl | rfl
    · rw [if_pos (show nI 43 = (43 : Int32) from rfl)]
    · rw [if_neg (show ¬ nI 45 = (43 : Int32) by decide), if_pos (show nI 45 = (45 : Int32) from rfl)]
  · rw [f_X12_sum_9, hl, bnd_some, bnd_some, if_neg (show ¬ a = (43 : Int32) from fun e => hn 43 (by decide) e (by decide)), if_neg (show ¬ a = (45 : Int32) from fun e => hn 45 (by decide) e (by decide))]
theorem lvl3 {S : St} {u n d N : Nat} {T : Nat → Nat} (hE : EV S u n T) (hN : 100 < N) {rc : St → Option (Int32 × St)} (hG : PL S u n T 6 d rc) : PL S u n T 3 d (f_X12_compared N rc) := by
  intro s i M O h1 h2 h3 h4 h5
  have hO : rkT O < 3 := by rcases h3 with h3 | h3; omega; exact h3
  have hn := hE.2.1
  have hS := lvl4 hE hN hG
  have hres := hS s i M O h1 h2 (Or.inr (by omega)) h4 h5
  unfold f_X12_compared
  rcases hres with ⟨s2, i2, M2, P2, M2', dg2, r1, r2, r3, r4, r5, r6, r7, r8, r9⟩ | ⟨s2, i2, r1, r2⟩
  · rw [r1, bnd2_some, if_neg (by decide), mLook hE r2 r4, bnd_some]
    by_cases c : i2 < n ∧ rk (T i2) = 3
    · obtain ⟨ci, cr⟩ := c
      have hb := hE.2.2.1 i2 ci
      have hb5 : 1 ≤ rk (T i2) ∧ rk (T i2) ≤ 5 := by omega
      have hlv : lkv T n i2 = nI (T i2) := by unfold lkv; rw [if_pos ci]
      rw [hlv]
      have e34 : (if nI (T i2) = 60 then f_X12_compared_34 N rc s2 (nI (T i2)) else if nI (T i2) = 61 then f_X12_compared_34 N rc s2 (nI (T i2)) else if nI (T i2) = 62 then f_X12_compared_34 N rc s2 (nI (T i2)) else some (1, s2)) = f_X12_compared_34 N rc s2 (nI (T i2)) := by
        rcases rk3 _ hb cr with e | e | e
        · rw [e, if_pos (show nI 60 = (60 : Int32) from rfl)]
        · rw [e, if_neg (show ¬ nI 61 = (60 : Int32) by decide), if_pos (show nI 61 = (61 : Int32) from rfl)]
        · rw [e, if_neg (show ¬ nI 62 = (60 : Int32) by decide), if_neg (show ¬ nI 62 = (61 : Int32) by decide), if_pos (show nI 62 = (62 : Int32) from rfl)]
      rw [e34]
      unfold f_X12_compared_34
      have hn' := nxt_op (u := u) (dg := dg2) (P := P2) (O := O) (M := M2') (b := T i2) (r := 4) hb5 (by rw [if_pos cr]) r6 (by omega)
      rw [r7] at hn'
      have hg := go_some ci hn'
      have hJ := nxt_J hE.1 hb r8 hn'
      have h1' : MS S (pt s2 172 5 (s2.1 172 5 + 1)) M2 (i2 + 1) (cnt (T i2 :: O)) := by
        rw [cnt_op hb5, r2.2.1, nI_1]; exact r2.at
      have hres2 := hS _ (i2 + 1) M2 (T i2 :: O) h1' (by omega) (Or.inr (by show rk (T i2) < 4; omega)) (by rw [cnt_op hb5]; exact h4) hJ
      rw [← hg, ← r5] at hres2
      rcases hres2 with ⟨s3, i3, M3, P3, M3', dg3, q1, q2, q3, q4, q5, q6, q7, q8, q9⟩ | ⟨s3, i3, q1, q2⟩
      · rw [q1, bnd2_some, if_neg (by decide)]
        have hlen : M3.length ≤ 60 := by
          have := q8.1
          simp only [List.length_append, List.length_cons] at this
          rw [← q7, fl_len]; omega
        obtain ⟨s4, l1, l2⟩ := mLays (a := 3) (v := nI (T i2)) q2 hlen
        rw [l1, bnd_some]
        have ea : P3 ++ T i2 :: O = (P3 ++ [T i2]) ++ O := by rw [List.append_assoc]; rfl
        rw [cnt_op hb5] at l2
        have hdn : DNx u n T 3 (M3', P3 ++ T i2 :: O, dg3, false) i3 := fun hi => ⟨(q9 hi).1, fun a b => by
          by_cases e : rk (T i3) = 3
          · have hs := rk_sg (b := T i3) ⟨by omega, by omega⟩
            have hc := cls_fl (r := 4) (O := T i2 :: O) (by show rk (T i2) < 4; omega) P3 M3' q6
            unfold nxt
            simp only
            rw [if_neg hs.2.2.2.2, if_neg (show ¬ false = true by decide), if_neg hs.2.2.2.1, if_neg (show ¬ rk (T i3) = 0 by omega), if_neg (show ¬ rk (T i3) = 6 by omega), if_pos e, hc, if_pos (show rkT (fl P3 M3', T i2 :: O).2 = 3 from cr)]
          · exact (q9 hi).2 (by omega) b⟩
        rw [ea] at q5 q8 hdn
        refine Or.inl ⟨s4, i3, _, P3 ++ [T i2], M3', dg3, rfl, l2, by omega, q4, q5, fun p hp => ?_, ?_, q8, hdn⟩
        · rcases List.mem_append.mp hp with hp | hp
          · have := q6 p hp; omega
          · rw [List.mem_singleton.mp hp]; omega
        · rw [fl_app, q7, sp_op hb5]
      · rw [q1, bnd2_some, if_pos rfl]
        exact Or.inr ⟨s3, i3, rfl, q2⟩
    · have hv : ∀ b, b < 256 → rk b = 3 → ¬ lkv T n i2 = nI b := fun b hb hr e => by
        unfold lkv at e
        by_cases ci : i2 < n
        · rw [if_pos ci] at e
          have := (nI_eq (by have := hE.2.2.1 i2 ci; omega) (by omega)).mp e
          rw [this] at c
          exact c ⟨ci, hr⟩
        · rw [if_neg ci] at e
          have : (nI b).toInt = (b : Int) := nI_toInt (by omega)
          rw [← e] at this
          have e1 : (-1 : Int32).toInt = -1 := by decide
          omega
      rw [if_neg (show ¬ lkv T n i2 = (60 : Int32) from hv 60 (by decide) (by decide)), if_neg (show ¬ lkv T n i2 = (61 : Int32) from hv 61 (by decide) (by decide)), if_neg (show ¬ lkv T n i2 = (62 : Int32) from hv 62 (by decide) (by decide))]
      refine Or.inl ⟨s2, i2, M2, P2, M2', dg2, rfl, r2, r3, r4, r5, fun p hp => by have := r6 p hp; omega, r7, r8, fun hi => ⟨(r9 hi).1, fun a b => ?_⟩⟩
      by_cases e : rk (T i2) = 3
      · exact absurd ⟨hi, e⟩ c
      · exact (r9 hi).2 (by omega) b
  · rw [r1, bnd2_some, if_pos rfl]
    exact Or.inr ⟨s2, i2, rfl, r2⟩
theorem lvl2 {S : St} {u n d N : Nat} {T : Nat → Nat} (hE : EV S u n T) (hN : 100 < N) {rc : St → Option (Int32 × St)} (hG : PL S u n T 6 d rc) : PL S u n T 2 d (f_X12_both N rc) := by
  refine levelL (Lp := f_X12_both_9 N rc) hE hN (Or.inr (Or.inl rfl)) (lvl3 hE hN hG) (fun s => rfl) (fun f s b hb hl hr => ?_) (fun f s a hl hn => ?_)
  · rw [f_X12_both_9, hl, bnd_some, rk2 b hb hr, if_pos (show nI 38 = (38 : Int32) from rfl)]
    rfl
  · rw [f_X12_both_9, hl, bnd_some, if_neg (show ¬ a = (38 : Int32) from fun e => hn 38 (by decide) e (by decide))]
theorem lvl1 {S : St} {u n d N : Nat} {T : Nat → Nat} (hE : EV S u n T) (hN : 100 < N) {rc : St → Option (Int32 × St)} (hG : PL S u n T 6 d rc) : PL S u n T 1 d (f_X12_whole N rc) := by
  refine levelL (Lp := f_X12_whole_9 N rc) hE hN (Or.inl rfl) (lvl2 hE hN hG) (fun s => rfl) (fun f s b hb hl hr => ?_) (fun f s a hl hn => ?_)
  · rw [f_X12_whole_9, hl, bnd_some, rk1 b hb hr, if_pos (show nI 124 = (124 : Int32) from rfl)]
    rfl
  · rw [f_X12_whole_9, hl, bnd_some, if_neg (show ¬ a = (124 : Int32) from fun e => hn 124 (by decide) e (by decide))]
