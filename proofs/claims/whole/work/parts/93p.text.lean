/-! text -/
def nthB : ML → Nat → Int32 × Int32
  | [], _ => (0, 0)
  | x :: M, k => if k = M.length then x else nthB M k
theorem stk_at {f : Nat → Int32} {u : Nat} : ∀ (M : ML), stk f (M.map (enc2 u)) → ∀ k, k < M.length → f k = enc2 u (nthB M k) := by
  intro M
  induction M with
  | nil => intro _ k hk; exact absurd hk (Nat.not_lt_zero _)
  | cons x M ih =>
    intro h k hk
    rw [List.length_cons] at hk
    have e : nthB (x :: M) k = if k = M.length then x else nthB M k := rfl
    rw [e]
    by_cases c : k = M.length
    · rw [if_pos c, c]
      have := h.1
      rw [List.length_map] at this
      exact this
    · rw [if_neg c]
      exact ih h.2 k (by omega)
theorem stk2_at {f : Nat → Int32} : ∀ (M : ML), stk2 f M → ∀ k, k < M.length → f (2 * k) = (nthB M k).1 ∧ f (2 * k + 1) = (nthB M k).2 := by
  intro M
  induction M with
  | nil => intro _ k hk; exact absurd hk (Nat.not_lt_zero _)
  | cons x M ih =>
    intro h k hk
    rw [List.length_cons] at hk
    have e : nthB (x :: M) k = if k = M.length then x else nthB M k := rfl
    rw [e]
    by_cases c : k = M.length
    · rw [if_pos c, c]; exact ⟨h.1, h.2.1⟩
    · rw [if_neg c]
      exact ih h.2.2 k (by omega)
theorem tx_of {m : Nat → Int32} {u : Nat} : ∀ (M : ML), (∀ k, k < M.length → m (tb u + 1 + 2 * k) = (nthB M k).1 ∧ m (tb u + 2 + 2 * k) = (nthB M k).2) → okM u M → dpt m u M.length = dM M ∧ ∀ k, k < M.length → m (tb u + 1 + 2 * k) = nI (twh m u k) ∧ twh m u k ≤ 3 ∧ (twh m u k = 0 → m (tb u + 2 + 2 * k) = nI (w m (tb u + 2 + 2 * k)) ∧ w m (tb u + 2 + 2 * k) < 10000) ∧ (twh m u k = 1 → isNm u (m (tb u + 2 + 2 * k))) ∧ (twh m u k = 2 → 0 < dpt m u k) ∧ (twh m u k = 3 → 1 < dpt m u k ∧ isSg (m (tb u + 2 + 2 * k))) := by
  intro M
  induction M with
  | nil => intro _ _; exact ⟨rfl, fun k hk => absurd hk (Nat.not_lt_zero _)⟩
  | cons x M ih =>
    obtain ⟨a, v⟩ := x
    intro h ho
    rw [List.length_cons] at h
    have e : ∀ k, nthB ((a, v) :: M) k = if k = M.length then (a, v) else nthB M k := fun k => rfl
    obtain ⟨i1, i2⟩ := ih (fun k hk => by
      have := h k (by omega)
      rw [e, if_neg (by omega)] at this
      exact this) ho.1
    have hl := h M.length (by omega)
    rw [e, if_pos rfl] at hl
    obtain ⟨l1, l2⟩ := hl
    have et : twh m u M.length = a.toNatClampNeg := by unfold twh w; rw [l1]
    have edM : dM ((a, v) :: M) = if a = 0 ∨ a = 1 then dM M + 1 else if a = 2 then dM M else dM M - 1 := rfl
    have edp : dpt m u (M.length + 1) = if twh m u M.length < 2 then dpt m u M.length + 1 else if twh m u M.length = 2 then dpt m u M.length else dpt m u M.length - 1 := rfl
    have key : dpt m u (M.length + 1) = dM ((a, v) :: M) ∧ m (tb u + 1 + 2 * M.length) = nI (twh m u M.length) ∧ twh m u M.length ≤ 3 ∧ (twh m u M.length = 0 → m (tb u + 2 + 2 * M.length) = nI (w m (tb u + 2 + 2 * M.length)) ∧ w m (tb u + 2 + 2 * M.length) < 10000) ∧ (twh m u M.length = 1 → isNm u (m (tb u + 2 + 2 * M.length))) ∧ (twh m u M.length = 2 → 0 < dpt m u M.length) ∧ (twh m u M.length = 3 → 1 < dpt m u M.length ∧ isSg (m (tb u + 2 + 2 * M.length))) := by
      rw [edM, edp, l1, i1]
      rcases ho.2 with ⟨rfl, k, hk, rfl⟩ | ⟨rfl, hn⟩ | ⟨rfl, _, hd⟩ | ⟨rfl, hd, hs⟩
      · have e0 : twh m u M.length = 0 := by rw [et]; rfl
        rw [e0]
        refine ⟨rfl, rfl, by decide, fun _ => ?_, fun g => absurd g (by decide), fun g => absurd g (by decide), fun g => absurd g (by decide)⟩
        have : w m (tb u + 2 + 2 * M.length) = k := by unfold w; rw [l2, nI_clamp (by omega)]
        rw [this, l2]; exact ⟨rfl, hk⟩
      · have e0 : twh m u M.length = 1 := by rw [et]; rfl
        rw [e0]
        refine ⟨rfl, rfl, by decide, fun g => absurd g (by decide), fun _ => by rw [l2]; exact hn, fun g => absurd g (by decide), fun g => absurd g (by decide)⟩
      · have e0 : twh m u M.length = 2 := by rw [et]; rfl
        rw [e0]
        refine ⟨rfl, rfl, by decide, fun g => absurd g (by decide), fun g => absurd g (by decide), fun _ => hd, fun g => absurd g (by decide)⟩
      · have e0 : twh m u M.length = 3 := by rw [et]; rfl
        rw [e0]
        refine ⟨rfl, rfl, by decide, fun g => absurd g (by decide), fun g => absurd g (by decide), fun g => absurd g (by decide), fun _ => ⟨hd, by rw [l2]; exact hs⟩⟩
    rw [List.length_cons]
    refine ⟨key.1, fun k hk => ?_⟩
    by_cases c : k = M.length
    · subst c; exact key.2
    · exact i2 k (by omega)
theorem mRun {N : Nat} (hN : 100 < N) {B : St} {u n : Nat} {T : Nat → Nat} (hE : EV B u n T) (hM : MS B B [] 0 0) : (∃ s' M', f_X12_whole N (f_X12_one N 8) B = some (1, s') ∧ MS B s' M' n 0 ∧ go u T n 0 ([], [], 0, true) = .inr M') ∨ (∃ s' i' a, f_X12_whole N (f_X12_one N 8) B = some (a, s') ∧ FRm B s' ∧ s'.1 172 5 = nI i' ∧ i' ≤ n ∧ go u T n 0 ([], [], 0, true) = .inl i' ∧ (a = 0 ∨ (a = 1 ∧ i' < n))) := by
  have hJ : J u ([], [], 0, true) 0 := ⟨Nat.le_refl _, True.intro, rfl, fun b hb => absurd hb List.not_mem_nil, Nat.zero_le _, fun g => absurd g (Nat.lt_irrefl _)⟩
  have hres := lvl1 hE hN (lvl6 hE hN 8) B 0 [] [] hM (Nat.zero_le _) (Or.inr (by decide)) (by decide) hJ
  rcases hres with ⟨s2, i2, M2, P2, M2', dg2, r1, r2, r3, r4, r5, r6, r7, r8, r9⟩ | ⟨s2, i2, r1, r2, r3, r4, r5⟩
  · have hcl : cls 1 (P2 ++ []) M2' = (M2, []) := by rw [cls_fl (by decide) P2 M2' r6, r7]
    by_cases c : i2 < n
    · refine Or.inr ⟨s2, i2, 1, r1, r2.1, r2.2.1, r4, ?_, Or.inr ⟨rfl, c⟩⟩
      rw [r5]
      refine go_none c ?_
      by_cases c41 : T i2 = 41
      · rw [c41]
        unfold nxt
        simp only
        rw [if_neg (by decide), if_neg (show ¬ false = true by decide), if_pos True.intro, hcl, if_neg (fun e => by cases e)]
      · exact nxt_none r9 c c41
    · have : i2 = n := by omega
      subst this
      refine Or.inl ⟨s2, M2, r1, r2, ?_⟩
      rw [r5, go_end]
      simp only
      rw [hcl, if_neg (fun e => by
        rcases e with e | e
        · cases e
        · exact absurd e (Nat.lt_irrefl _))]
  · exact Or.inr ⟨s2, i2, 0, r1, r2, r3, r4, r5, Or.inl rfl⟩
theorem mPutText {N : Nat} (hN : 1000 < N) {S : St} {u l : Nat} (hu : u < 2) (hl : l ≤ 60) (h7 : S.1 172 7 = nI l) : ∃ S', f_X12_text_104 N N S (nI (tb u)) 0 = some (1, S') ∧ (∀ q, q ≠ 173 → S'.1 q = S.1 q) ∧ ∀ x, S'.1 173 x = if tb u + 1 ≤ x ∧ x < tb u + 1 + 2 * l then S.1 177 (x - (tb u + 1)) else S.1 173 x := by
  have htb : tb u ≤ 307 := by unfold tb; omega
  have hstep : ∀ (f j : Nat) (s : St) (a : Unit), j < 2 * l → ((∀ q, q ≠ 173 → s.1 q = S.1 q) ∧ ∀ x, s.1 173 x = if tb u + 1 ≤ x ∧ x < tb u + 1 + j then S.1 177 (x - (tb u + 1)) else S.1 173 x) → ∃ s', f_X12_text_104 N (f + 1) s (nI (tb u)) (nI j) = f_X12_text_104 N f s' (nI (tb u)) (nI (j + 1)) ∧ ((∀ q, q ≠ 173 → s'.1 q = S.1 q) ∧ ∀ x, s'.1 173 x = if tb u + 1 ≤ x ∧ x < tb u + 1 + (j + 1) then S.1 177 (x - (tb u + 1)) else S.1 173 x) := by
    intro f j s _ hj hR
    refine ⟨pt s 173 (tb u + 1 + j) (S.1 177 j), ?_, fun q hq => by rw [pt_nek hq]; exact hR.1 q hq, fun x => ?_⟩
    · rw [f_X12_text_104, hR.1 172 (by decide), h7, k2, pk_mul, if_neg (nI_ge hj (by omega)), if_pos (inb_nI (by omega) (by decide)), nI_1, nI_add, if_pos (inb_nI (by omega) (by decide)), nI_clamp (n := tb u + 1 + j) (by omega), nI_clamp (n := j) (by omega), hR.1 177 (by decide), nI_1]
    · by_cases c : x = tb u + 1 + j
      · subst c
        rw [pt_at, if_pos (by omega), show tb u + 1 + j - (tb u + 1) = j by omega]
      · rw [pt_nej c, hR.2 x]
        by_cases d : tb u + 1 ≤ x ∧ x < tb u + 1 + j
        · rw [if_pos d, if_pos (by omega)]
        · rw [if_neg d, if_neg (by omega)]
  obtain ⟨s', f', e1, e2⟩ := loopR (fun f j s => f_X12_text_104 N f s (nI (tb u)) (nI j)) (fun j s (_ : Unit) => (∀ q, q ≠ 173 → s.1 q = S.1 q) ∧ ∀ x, s.1 173 x = if tb u + 1 ≤ x ∧ x < tb u + 1 + j then S.1 177 (x - (tb u + 1)) else S.1 173 x) (fun _ a => a) (2 * l) hstep (2 * l) 0 N S () ⟨fun _ _ => rfl, fun x => by rw [if_neg (by omega)]⟩ (by omega) (by omega)
  refine ⟨s', ?_, e2⟩
  refine e1.trans ?_
  show f_X12_text_104 N (f' + 1) s' (nI (tb u)) (nI (2 * l)) = _
  rw [f_X12_text_104, e2.1 172 (by decide), h7, k2, pk_mul, if_pos (nI_le (Nat.le_refl _) (by omega))]
theorem K_text {N : Nat} (hN : 1000 < N) {S : St} (h : IV S) (v1 : Int32) : CC S (fun s => f_X11_text N s v1) (fun s => f_X12_text N s v1) := by
  have hT := h.1.1
  have hW := h.1.2.1
  refine CC.gw 1 h rfl (by decide) (fun _ => rfl) (fun _ => rfl) (fun u hu1 e => ?_)
  subst e
  have hu : u < 2 := by omega
  have htb : tb u ≤ 307 := by unfold tb; omega
  obtain ⟨n, en⟩ : ∃ n, n = w (S.1 173) 6 := ⟨_, rfl⟩
  have hn : n ≤ 60 := by have := hW.nb.2; omega
  obtain ⟨T, eT⟩ : ∃ T : Nat → Nat, ∀ i, T i = w (S.1 173) (432 + i) := ⟨fun i => w (S.1 173) (432 + i), fun _ => rfl⟩
  have hty : ∀ i, i < n → S.1 173 (432 + i) = nI (T i) ∧ T i < 256 := fun i hi => by
    have := hW.ty (l_tape i (by omega)) (by decide)
    rw [eT]; exact this
  have hs51 : S.1 51 1 = nI n := by rw [en]; exact (hT.1 13 (by decide)).1
  have hs52 : ∀ i, i < n → S.1 52 i = nI (T i) := fun i hi => by
    have := (hT.1 13 (by decide)).2 i (by show i < w (S.1 173) 6; omega)
    rw [← (hty i hi).1]
    refine Eq.trans this ?_
    show S.1 173 (cel 13 i) = _
    rw [show cel 13 i = 432 + i by unfold cel; simp [bas, stp]]
  obtain ⟨s3, r1, r2, r3⟩ := cReadAll (N := N) (S := S) (by omega) hu hn (fun i hi => (hty i hi).2) hs51 hs52
  have hJ0 : J u ([], [], 0, true) 0 := ⟨Nat.le_refl _, True.intro, rfl, fun b hb => absurd hb List.not_mem_nil, Nat.zero_le _, fun g => absurd g (Nat.lt_irrefl _)⟩
  -- the class, up to the tape's end
  have cl : ∀ s, f_X11_text N s (nI u) = f_X11_text N s (nI u) := fun _ => rfl
  have c36 : (if nI u = 0 then f_X11_text_36 N S (nI u) 2 else f_X11_text_36 N S (nI u) 3) = bnd2 (f_X4_read N S 51 (2 + u)) (fun a2 S3 => bnd (f_X5_reset N S3 51 0) (fun S5 => if a2 < 0 then bnd (f_X11_textOf S5 (nI u)) (fun a8 => if sh a8 = 7 then bnd (f_X7_hold S5 a8 150) (fun S12 => some (1, S12)) else none) else some (-10 - a2, S5))) := by
    rcases (show u = 0 ∨ u = 1 by omega) with rfl | rfl
    · rw [if_pos (show nI 0 = (0 : Int32) from rfl)]; rfl
    · rw [if_neg (show ¬ nI 1 = (0 : Int32) by decide)]; rfl
  have h5r : f_X5_reset N s3 51 0 = some (pt s3 51 1 0) := p_reset0 (n := 0) (by decide) (by omega)
  have f5 : ∀ q, q ≠ 149 → q ≠ 150 → q ≠ 151 → q ≠ 152 → q ≠ 153 → (pt s3 51 1 0).1 q = (pt S 51 1 0).1 q := fun q a b c d e => by
    by_cases c51 : q = 51
    · subst c51
      rw [pt_same, pt_same, r1 51 a b c d e]
    · rw [pt_nek c51, pt_nek c51, r1 q a b c d e]
  have hm6 : WF (upd (S.1 173) 6 0) := hW.set (n := 0) rfl (by decide) (by decide) (by decide) (fun j e => by omega) (fun j e => by omega) (fun j e => by omega)
  have hR5 : RT (pt s3 51 1 0) 8 (upd (S.1 173) 6 0) := (hT.empty hW (k := 13) (c := 6) (Or.inl ⟨rfl, rfl⟩)).fr (fun q a b => f5 q (by omega) (by omega) (by omega) (by omega) (by omega))
  -- the model, from any state with the class's changes alone
  have mod : ∀ S1 : St, (∀ q, 172 ≤ q → S1.1 q = S.1 q) → EV (pt (pt (pt (pt S1 172 8 (nI u)) 172 5 0) 172 6 0) 172 7 0) u n T ∧ MS (pt (pt (pt (pt S1 172 8 (nI u)) 172 5 0) 172 6 0) 172 7 0) (pt (pt (pt (pt S1 172 8 (nI u)) 172 5 0) 172 6 0) 172 7 0) [] 0 0 := fun S1 hq => by
    have g173 : (pt (pt (pt (pt S1 172 8 (nI u)) 172 5 0) 172 6 0) 172 7 0).1 173 = S.1 173 := by rw [pt_nek (by decide), pt_nek (by decide), pt_nek (by decide), pt_nek (by decide), hq 173 (by decide)]
    refine ⟨⟨hu, hn, fun i hi => (hty i hi).2, ?_, ?_, fun i hi => ?_⟩, ⟨⟨fun _ _ _ => rfl, fun _ _ _ _ => rfl⟩, ?_, ?_, ?_, True.intro⟩⟩
    · rw [pt_nej (by decide), pt_nej (by decide), pt_nej (by decide), pt_at]
    · rw [g173, hW.nb.1, en]
    · rw [g173]; exact (hty i hi).1
    · rw [pt_nej (by decide), pt_nej (by decide), pt_at]; rfl
    · rw [pt_nej (by decide), pt_at]; rfl
    · rw [pt_at]; rfl
  have fB : ∀ (S1 : St) q, q ≠ 172 → (pt (pt (pt (pt S1 172 8 (nI u)) 172 5 0) 172 6 0) 172 7 0).1 q = S1.1 q := fun S1 q hq => by rw [pt_nek hq, pt_nek hq, pt_nek hq, pt_nek hq]
  have fB2 : ∀ (S1 : St) j, j ≠ 5 → j ≠ 6 → j ≠ 7 → j ≠ 8 → (pt (pt (pt (pt S1 172 8 (nI u)) 172 5 0) 172 6 0) 172 7 0).1 172 j = S1.1 172 j := fun S1 j a b c d => by rw [pt_nej c, pt_nej b, pt_nej a, pt_nej d]
  cases hgo : go u T n 0 ([], [], 0, true) with
  | inl j =>
    have hrd := r2 j hgo
    have q1 : ∀ q, 172 ≤ q → (pt s3 51 1 0).1 q = S.1 q := fun q hq => by rw [f5 q (by omega) (by omega) (by omega) (by omega) (by omega), pt_nek (by omega)]
    obtain ⟨hE, hMS⟩ := mod _ q1
    rcases mRun (N := N) (by omega) hE hMS with ⟨s', M', _, _, g3⟩ | ⟨s', i', a, g1, g2, g3, g4, g5, g6⟩
    · rw [hgo] at g3; cases g3
    · rw [hgo] at g5
      cases g5
      have e173 : s'.1 173 = S.1 173 := by rw [g2.1 173 (by decide) (by decide), fB _ _ (by decide), q1 173 (by decide)]
      have ej : (-10 : Int32) - nI j = -10 - nI j := rfl
      have hpos : ¬ nI j < 0 := nI_pos (by omega)
      have f2 : ∀ q, q ≠ 172 → q ≠ 173 → q ≠ 177 → (pt s' 173 6 0).1 q = (pt s3 51 1 0).1 q := fun q a b c => by rw [pt_nek b, g2.1 q a c, fB _ _ a]
      have hm2 : (pt s' 173 6 0).1 173 = upd (S.1 173) 6 0 := by rw [pt_same, e173]
      refine ⟨-10 - nI j, pt s3 51 1 0, pt s' 173 6 0, ?_, q1, ?_, h.tw (fun q x1 x2 x3 x4 x5 x6 x7 x8 x9 => by rw [f2 q x3 x4 x6, f5 q (by omega) (by omega) (by omega) (by omega) (by omega), pt_nek (by omega)]) ?_ ?_ ?_ ?_ ⟨?_, ?_, ?_⟩⟩
      · (try dsimp only)
        rw [c36, hrd, bnd2_some, h5r, bnd_some, if_neg hpos]
      · (try dsimp only)
        rw [g1, bnd2_some]
        have e61 : f_X12_text_60 N s' (nI u) = some (-10 - nI j, pt s' 173 6 0) := by
          unfold f_X12_text_60 f_X12_text_61
          rw [if_pos rfl, pt_nek (by decide), g3]
        rcases g6 with rfl | ⟨rfl, g6⟩
        · rw [if_pos rfl, e61]
        · rw [if_neg (by decide), g3, e173, hW.nb.1, ← en, if_neg (show ¬ nI j = nI n from fun e => by have := (nI_eq (by omega) (by omega)).mp e; omega), e61]
      · rw [pt_nek (by decide), g2.2 3 (by decide) (by decide) (by decide), fB2 _ _ (by decide) (by decide) (by decide) (by decide), q1 172 (by decide)]
      · rw [pt_nek (by decide), g2.2 13 (by decide) (by decide) (by decide), fB2 _ _ (by decide) (by decide) (by decide) (by decide), q1 172 (by decide)]
      · rw [f2 87 (by decide) (by decide) (by decide), f5 87 (by decide) (by decide) (by decide) (by decide) (by decide), pt_nek (by decide)]; exact h.2.2.2.2.2.1
      · rw [f2 94 (by decide) (by decide) (by decide), f5 94 (by decide) (by decide) (by decide) (by decide) (by decide), pt_nek (by decide)]; exact h.2.2.2.2.2.2.1
      · rw [hm2]; exact hR5.fr (fun q a b => f2 q (by omega) (by omega) (by omega))
      · rw [hm2]; exact hm6
      · rw [hm2]; unfold YR; rw [upd_ne (by decide)]; exact h.1.2.2
  | inr M =>
    obtain ⟨hrd, hz, hst⟩ := r3 M hgo
    have hok := rd_J hu (fun i hi => (hty i hi).2) (n - 0) 0 ([], [], 0, true) hJ0 (by omega) M hgo
    have hlM : M.length ≤ 60 := by omega
    have hto : f_X11_textOf (pt s3 51 1 0) (nI u) = some (37 + 7 * u) ∧ sh (37 + 7 * u) = 7 := by
      rcases (show u = 0 ∨ u = 1 by omega) with rfl | rfl
      · exact ⟨rfl, by decide⟩
      · exact ⟨rfl, by decide⟩
    have hlc : ln (37 + 7 * u + 1 + 1) = 60 := by rcases (show u = 0 ∨ u = 1 by omega) with rfl | rfl <;> decide
    have hr150 : RW (pt s3 51 1 0) 150 M.length := ⟨by rw [pt_nek (by decide)]; exact hz, hlM, by decide⟩
    have hcp := p_copy (r := 37 + 7 * u + 1) hr150 (by rw [hlc]; rfl) (fun _ => by omega) (by omega)
    have hhold : f_X7_hold (pt s3 51 1 0) (37 + 7 * u) 150 = some (cp (pt s3 51 1 0) (37 + 7 * u + 1) 150 M.length) := by
      unfold f_X7_hold
      rw [hcp, bnd_some]
    rw [show 37 + 7 * u + 1 = 38 + 7 * u by omega] at hhold
    generalize eC : cp (pt s3 51 1 0) (38 + 7 * u) 150 M.length = C at hhold
    have fC : ∀ q, q ≠ 38 + 7 * u → q ≠ 39 + 7 * u → C.1 q = (pt s3 51 1 0).1 q := fun q a b => by rw [← eC]; exact cp_fr a (by omega)
    have q1 : ∀ q, 172 ≤ q → C.1 q = S.1 q := fun q hq => by rw [fC q (by omega) (by omega), f5 q (by omega) (by omega) (by omega) (by omega) (by omega), pt_nek (by omega)]
    obtain ⟨hE, hMS⟩ := mod _ q1
    rcases mRun (N := N) (by omega) hE hMS with ⟨s', M', g1, g2, g3⟩ | ⟨s', i', a, _, _, _, _, g5, _⟩
    · rw [hgo] at g3
      cases g3
      have e173 : s'.1 173 = S.1 173 := by rw [g2.1.1 173 (by decide) (by decide), fB _ _ (by decide), q1 173 (by decide)]
      have h7 : (pt (pt s' 173 6 0) 173 (tb u) (nI M.length)).1 172 7 = nI M.length := by rw [pt_nek (by decide), pt_nek (by decide)]; exact g2.2.2.2.1
      obtain ⟨D, d1, d2, d3⟩ := mPutText hN (u := u) hu hlM h7
      have e177 : (pt (pt s' 173 6 0) 173 (tb u) (nI M.length)).1 177 = s'.1 177 := by rw [pt_nek (by decide), pt_nek (by decide)]
      have hb : (182 : Int32) + 125 * nI u = nI (tb u) := by rw [k182, k125, pk_mul, nI_add]; rfl
      -- the town's row now
      have D1 : D.1 173 (tb u) = nI M.length := by rw [d3, if_neg (by omega), pt_at]
      have D2 : ∀ x, (x < tb u ∨ tb u + 125 ≤ x) → D.1 173 x = upd (S.1 173) 6 0 x := fun x hx => by
        rw [d3, if_neg (by omega), pt_nej (by omega), pt_same, e173]
      have D3 : ∀ k, k < M.length → D.1 173 (tb u + 1 + 2 * k) = (nthB M k).1 ∧ D.1 173 (tb u + 2 + 2 * k) = (nthB M k).2 := fun k hk => by
        have := stk2_at M g2.2.2.2.2 k hk
        rw [d3, if_pos (by omega), d3, if_pos (by omega), e177, show tb u + 1 + 2 * k - (tb u + 1) = 2 * k by omega, show tb u + 2 + 2 * k - (tb u + 1) = 2 * k + 1 by omega]
        exact this
      have wD : w (D.1 173) (tb u) = M.length := by unfold w; rw [D1, nI_clamp (by omega)]
      have hTXu : TX (D.1 173) u := by
        obtain ⟨t1, t2⟩ := tx_of M D3 hok.1
        refine ⟨by rw [wD]; exact D1, by rw [wD]; exact hlM, fun _ => by rw [wD, t1]; exact hok.2.1, fun k hk => ?_⟩
        rw [wD] at hk
        exact t2 k hk
      have hWD : WF (D.1 173) := by
        refine hm6.text ?_ ?_ (fun x hx => D2 x (by unfold tb; omega))
        · rcases (show u = 0 ∨ u = 1 by omega) with rfl | rfl
          · exact hTXu
          · exact hm6.2.2.2.2.1.congr (fun x a b => D2 x (by unfold tb at *; omega))
        · rcases (show u = 0 ∨ u = 1 by omega) with rfl | rfl
          · exact hm6.2.2.2.2.2.congr (fun x a b => D2 x (by unfold tb at *; omega))
          · exact hTXu
      have hnm : S.1 (8 + 32 + 7 * u) 1 = nI 5 := by rcases (show u = 0 ∨ u = 1 by omega) with rfl | rfl; exact hT.2.1.2.2; exact hT.2.2.1.2.2
      have hRC : RT C 8 (D.1 173) := by
        refine hR5.text hm6 hu ⟨?_, fun k hk => ?_, ?_⟩ (fun q a b c d => fC q (by omega) (by omega)) (fun x hx x2 => D2 x x2)
        · rw [wD, show 8 + 30 + 7 * u = 38 + 7 * u by omega, ← eC, cp_size]
        · rw [wD] at hk
          rw [show 8 + 31 + 7 * u = 38 + 7 * u + 1 by omega, ← eC, cp_arr hk, (D3 k hk).1, (D3 k hk).2, pt_nek (by decide)]
          exact stk_at M hst k hk
        · rw [fC _ (by omega) (by omega), f5 _ (by omega) (by omega) (by omega) (by omega) (by omega), pt_nek (by omega)]; exact hnm
      have f2 : ∀ q, q ≠ 172 → q ≠ 173 → q ≠ 177 → D.1 q = C.1 q := fun q a b c => by rw [d2 q b, pt_nek b, pt_nek b, g2.1.1 q a c, fB _ _ a]
      refine ⟨1, C, D, ?_, q1, ?_, h.tw (fun q x1 x2 x3 x4 x5 x6 x7 x8 x9 => by rw [f2 q x3 x4 x6, fC q (by omega) (by omega), f5 q (by omega) (by omega) (by omega) (by omega) (by omega), pt_nek (by omega)]) ?_ ?_ ?_ ?_ ⟨?_, ?_, ?_⟩⟩
      · (try dsimp only)
        rw [c36, hrd, bnd2_some, h5r, bnd_some, if_pos (by decide), hto.1, bnd_some, if_pos hto.2, hhold, bnd_some]
      · (try dsimp only)
        rw [g1, bnd2_some, if_neg (by decide), g2.2.1, e173, hW.nb.1, ← en, if_pos rfl]
        unfold f_X12_text_61
        rw [if_neg (by decide), hb, if_pos (inb_nI (by omega) (by decide)), nI_clamp (n := tb u) (by omega), pt_nek (show (172 : Nat) ≠ 173 by decide), g2.2.2.2.1]
        exact d1
      · rw [d2 172 (by decide), pt_nek (by decide), pt_nek (by decide), g2.1.2 3 (by decide) (by decide) (by decide), fB2 _ _ (by decide) (by decide) (by decide) (by decide), q1 172 (by decide)]
      · rw [d2 172 (by decide), pt_nek (by decide), pt_nek (by decide), g2.1.2 13 (by decide) (by decide) (by decide), fB2 _ _ (by decide) (by decide) (by decide) (by decide), q1 172 (by decide)]
      · rw [f2 87 (by decide) (by decide) (by decide), fC 87 (by omega) (by omega), f5 87 (by decide) (by decide) (by decide) (by decide) (by decide), pt_nek (by decide)]; exact h.2.2.2.2.2.1
      · rw [f2 94 (by decide) (by decide) (by decide), fC 94 (by omega) (by omega), f5 94 (by decide) (by decide) (by decide) (by decide) (by decide), pt_nek (by decide)]; exact h.2.2.2.2.2.2.1
      · exact hRC.fr (fun q a b => f2 q (by omega) (by omega) (by omega))
      · exact hWD
      · unfold YR; rw [D2 3 (by unfold tb; omega), upd_ne (by decide)]; exact h.1.2.2
    · rw [hgo] at g5; cases g5
