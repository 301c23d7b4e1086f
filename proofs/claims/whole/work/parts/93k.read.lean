/-! READING A TEXT: a machine between the class's reader and the model's descent. Steps and signs: the newest first -/
abbrev ML : Type := List (Int32 × Int32)
def rk (b : Nat) : Nat := if b = 33 then 6 else if b = 37 then 5 else if b = 38 then 2 else if b = 42 then 5 else if b = 43 then 4 else if b = 45 then 4 else if b = 47 then 5 else if b = 60 then 3 else if b = 61 then 3 else if b = 62 then 3 else if b = 124 then 1 else 0
def rkT : List Nat → Nat
  | [] => 0
  | b :: _ => rk b
def sp (b : Nat) : Int32 × Int32 := if b = 33 then (2, 0) else (3, nI b)
def cnt : List Nat → Nat
  | [] => 0
  | b :: O => (if b = 33 ∨ b = 40 then 1 else 0) + cnt O
def nbo : List Nat → Nat
  | [] => 0
  | b :: O => (if 1 ≤ rk b ∧ rk b ≤ 5 then 1 else 0) + nbo O
def cls (r : Nat) : List Nat → ML → ML × List Nat
  | [], M => (M, [])
  | b :: O, M => if rk b < r then (M, b :: O) else cls r O (sp b :: M)
def bump (d : Nat) : ML → ML
  | [] => []
  | (a, v) :: M => (a, v * 10 + nI d) :: M
abbrev PSt : Type := ML × List Nat × Nat × Bool
def nxt (u : Nat) (σ : PSt) (b : Nat) : Option PSt :=
  if 48 ≤ b ∧ b ≤ 57 then
    (if 0 < σ.2.2.1 ∧ σ.2.2.1 < 4 then some (bump (b - 48) σ.1, σ.2.1, σ.2.2.1 + 1, σ.2.2.2)
    else if σ.2.2.2 = true then some ((0, nI (b - 48)) :: σ.1, σ.2.1, 1, false) else none)
  else if σ.2.2.2 = true then
    (if b = 33 ∨ b = 40 then (if 5 < cnt σ.2.1 + 1 then none else some (σ.1, b :: σ.2.1, 0, true))
    else if idxS (2 + u) (nI b) < 0 then none else some ((1, nI b) :: σ.1, σ.2.1, 0, false))
  else if b = 41 then (if (cls 1 σ.2.1 σ.1).2.head? = some 40 then some ((cls 1 σ.2.1 σ.1).1, (cls 1 σ.2.1 σ.1).2.tail, 0, false) else none)
  else if rk b = 0 then none
  else if rk b = 6 then none
  else if rk b = 3 then (if rkT (cls 4 σ.2.1 σ.1).2 = 3 then none else some ((cls 4 σ.2.1 σ.1).1, b :: (cls 4 σ.2.1 σ.1).2, 0, true))
  else some ((cls (rk b) σ.2.1 σ.1).1, b :: (cls (rk b) σ.2.1 σ.1).2, 0, true)
/-- reads on: what stands left; .inl the fault, .inr the text -/
def rd (u : Nat) (T : Nat → Nat) : Nat → Nat → PSt → Nat ⊕ ML
  | 0, i, σ => if σ.2.2.2 = true ∨ 0 < (cls 1 σ.2.1 σ.1).2.length then .inl i else .inr (cls 1 σ.2.1 σ.1).1
  | k + 1, i, σ => match nxt u σ (T i) with
    | none => .inl i
    | some τ => rd u T k (i + 1) τ
def go (u : Nat) (T : Nat → Nat) (n i : Nat) (σ : PSt) : Nat ⊕ ML := rd u T (n - i) i σ
theorem go_some {u n i : Nat} {T : Nat → Nat} {σ τ : PSt} (hi : i < n) (h : nxt u σ (T i) = some τ) : go u T n i σ = go u T n (i + 1) τ := by
  unfold go
  rw [show n - i = (n - (i + 1)) + 1 by omega]
  show (match nxt u σ (T i) with | none => Sum.inl i | some τ => rd u T (n - (i + 1)) (i + 1) τ) = _
  rw [h]
theorem go_none {u n i : Nat} {T : Nat → Nat} {σ : PSt} (hi : i < n) (h : nxt u σ (T i) = none) : go u T n i σ = .inl i := by
  unfold go
  rw [show n - i = (n - (i + 1)) + 1 by omega]
  show (match nxt u σ (T i) with | none => Sum.inl i | some τ => rd u T (n - (i + 1)) (i + 1) τ) = _
  rw [h]
theorem go_end {u n : Nat} {T : Nat → Nat} {σ : PSt} : go u T n n σ = if σ.2.2.2 = true ∨ 0 < (cls 1 σ.2.1 σ.1).2.length then .inl n else .inr (cls 1 σ.2.1 σ.1).1 := by
  unfold go
  rw [Nat.sub_self]
  rfl
/-! what holds of it -/
def dM : ML → Nat
  | [] => 0
  | (a, _) :: M => if a = 0 ∨ a = 1 then dM M + 1 else if a = 2 then dM M else dM M - 1
def okM (u : Nat) : ML → Prop
  | [] => True
  | (a, v) :: M => okM u M ∧ ((a = 0 ∧ ∃ k, k < 10000 ∧ v = nI k) ∨ (a = 1 ∧ isNm u v) ∨ (a = 2 ∧ v = 0 ∧ 0 < dM M) ∨ (a = 3 ∧ 1 < dM M ∧ isSg v))
def sgOk (b : Nat) : Prop := b = 33 ∨ b = 40 ∨ (1 ≤ rk b ∧ rk b ≤ 5)
def J (u : Nat) (σ : PSt) (i : Nat) : Prop := σ.1.length + σ.2.1.length ≤ i ∧ okM u σ.1 ∧ dM σ.1 = nbo σ.2.1 + (if σ.2.2.2 = true then 0 else 1) ∧ (∀ b, b ∈ σ.2.1 → sgOk b ∧ b < 256) ∧ cnt σ.2.1 ≤ 5 ∧ (0 < σ.2.2.1 → σ.2.2.2 = false ∧ σ.2.2.1 ≤ 4 ∧ ∃ v M0, σ.1 = (0, nI v) :: M0 ∧ v < 10 ^ σ.2.2.1)
theorem rk_le (b : Nat) : rk b ≤ 6 := by
  unfold rk
  repeat' split
  all_goals decide
theorem rk_sg {b : Nat} (h : 1 ≤ rk b ∧ rk b ≤ 5) : isSg (nI b) ∧ b ≠ 33 ∧ b ≠ 40 ∧ b ≠ 41 ∧ ¬ (48 ≤ b ∧ b ≤ 57) := by
  have h33 : b ≠ 33 := fun e => by subst e; exact absurd h.2 (by decide)
  have h40 : b ≠ 40 := fun e => by subst e; exact absurd h.1 (by decide)
  have h41 : b ≠ 41 := fun e => by subst e; exact absurd h.1 (by decide)
  unfold rk at h
  rw [if_neg h33] at h
  have key : b = 37 ∨ b = 38 ∨ b = 42 ∨ b = 43 ∨ b = 45 ∨ b = 47 ∨ b = 60 ∨ b = 61 ∨ b = 62 ∨ b = 124 := by
    by_cases c1 : b = 37
    · exact Or.inl c1
    by_cases c2 : b = 38
    · exact Or.inr (Or.inl c2)
    by_cases c3 : b = 42
    · exact Or.inr (Or.inr (Or.inl c3))
    by_cases c4 : b = 43
    · exact Or.inr (Or.inr (Or.inr (Or.inl c4)))
    by_cases c5 : b = 45
    · exact Or.inr (Or.inr (Or.inr (Or.inr (Or.inl c5))))
    by_cases c6 : b = 47
    · exact Or.inr (Or.inr (Or.inr (Or.inr (Or.inr (Or.inl c6)))))
    by_cases c7 : b = 60
    · exact Or.inr (Or.inr (Or.inr (Or.inr (Or.inr (Or.inr (Or.inl c7))))))
    by_cases c8 : b = 61
    · exact Or.inr (Or.inr (Or.inr (Or.inr (Or.inr (Or.inr (Or.inr (Or.inl c8)))))))
    by_cases c9 : b = 62
    · exact Or.inr (Or.inr (Or.inr (Or.inr (Or.inr (Or.inr (Or.inr (Or.inr (Or.inl c9))))))))
    by_cases c10 : b = 124
    · exact Or.inr (Or.inr (Or.inr (Or.inr (Or.inr (Or.inr (Or.inr (Or.inr (Or.inr c10))))))))
    rw [if_neg c1, if_neg c2, if_neg c3, if_neg c4, if_neg c5, if_neg c6, if_neg c7, if_neg c8, if_neg c9, if_neg c10] at h
    exact absurd h.1 (by decide)
  refine ⟨?_, h33, h40, h41, by omega⟩
  unfold isSg
  rcases key with rfl | rfl | rfl | rfl | rfl | rfl | rfl | rfl | rfl | rfl <;> decide
theorem cls_J {u r : Nat} (hr : 1 ≤ r) : ∀ (O : List Nat) (M : ML), okM u M → dM M = nbo O + 1 → (∀ b, b ∈ O → sgOk b ∧ b < 256) → okM u (cls r O M).1 ∧ dM (cls r O M).1 = nbo (cls r O M).2 + 1 ∧ (∀ b, b ∈ (cls r O M).2 → sgOk b ∧ b < 256) ∧ (cls r O M).1.length + (cls r O M).2.length = M.length + O.length ∧ cnt (cls r O M).2 ≤ cnt O := by
  intro O
  induction O with
  | nil => intro M h1 h2 h3; exact ⟨h1, h2, h3, rfl, Nat.le_refl _⟩
  | cons b O ih =>
    intro M h1 h2 h3
    have e : cls r (b :: O) M = if rk b < r then (M, b :: O) else cls r O (sp b :: M) := rfl
    rw [e]
    by_cases c : rk b < r
    · rw [if_pos c]; exact ⟨h1, h2, h3, rfl, Nat.le_refl _⟩
    · rw [if_neg c]
      have hb := h3 b (List.mem_cons_self ..)
      have en : nbo (b :: O) = (if 1 ≤ rk b ∧ rk b ≤ 5 then 1 else 0) + nbo O := rfl
      have ec : cnt (b :: O) = (if b = 33 ∨ b = 40 then 1 else 0) + cnt O := rfl
      rw [en] at h2
      have hsp : okM u (sp b :: M) ∧ dM (sp b :: M) = nbo O + 1 := by
        rcases hb.1 with rfl | rfl | hb'
        · rw [if_neg (by decide)] at h2
          have es : sp 33 = (2, 0) := rfl
          rw [es]
          refine ⟨⟨h1, Or.inr (Or.inr (Or.inl ⟨rfl, rfl, by omega⟩))⟩, ?_⟩
          show (if (2 : Int32) = 0 ∨ (2 : Int32) = 1 then dM M + 1 else if (2 : Int32) = 2 then dM M else dM M - 1) = _
          rw [if_neg (by decide), if_pos rfl]; omega
        · have : rk 40 = 0 := by decide
          omega
        · have hs := rk_sg hb'
          rw [if_pos hb'] at h2
          have es : sp b = (3, nI b) := by unfold sp; rw [if_neg hs.2.1]
          rw [es]
          refine ⟨⟨h1, Or.inr (Or.inr (Or.inr ⟨rfl, by omega, hs.1⟩))⟩, ?_⟩
          show (if (3 : Int32) = 0 ∨ (3 : Int32) = 1 then dM M + 1 else if (3 : Int32) = 2 then dM M else dM M - 1) = _
          rw [if_neg (by decide), if_neg (by decide)]; omega
      obtain ⟨a1, a2, a3, a4, a5⟩ := ih (sp b :: M) hsp.1 hsp.2 (fun x hx => h3 x (List.mem_cons_of_mem _ hx))
      rw [List.length_cons] at a4
      refine ⟨a1, a2, a3, by rw [a4, List.length_cons]; omega, by rw [ec]; omega⟩
theorem nm_idx {u : Nat} (hu : u < 2) {c : Int32} (h : ¬ idxS (2 + u) c < 0) : isNm u c := by
  have : u = 0 ∨ u = 1 := by omega
  unfold idxS at h
  unfold isNm
  rcases this with rfl | rfl
  · rw [if_pos (show 2 + 0 = 2 from rfl)] at h
    rw [if_pos rfl]
    by_cases c1 : c = 118
    · exact Or.inl c1
    by_cases c2 : c = 109
    · exact Or.inr (Or.inr (Or.inl c2))
    by_cases c3 : c = 112
    · exact Or.inr (Or.inr (Or.inr (Or.inl c3)))
    by_cases c4 : c = 114
    · exact Or.inr (Or.inl c4)
    by_cases c5 : c = 121
    · exact Or.inr (Or.inr (Or.inr (Or.inr c5)))
    rw [if_neg c1, if_neg c2, if_neg c3, if_neg c4, if_neg c5] at h
    exact absurd (by decide) h
  · rw [if_neg (show ¬ 2 + 1 = 2 by decide)] at h
    rw [if_neg (by decide)]
    by_cases c1 : c = 118
    · exact Or.inl c1
    by_cases c2 : c = 115
    · exact Or.inr (Or.inr (Or.inl c2))
    by_cases c3 : c = 99
    · exact Or.inr (Or.inr (Or.inr (Or.inl c3)))
    by_cases c4 : c = 117
    · exact Or.inr (Or.inr (Or.inr (Or.inr c4)))
    by_cases c5 : c = 114
    · exact Or.inr (Or.inl c5)
    rw [if_neg c1, if_neg c2, if_neg c3, if_neg c4, if_neg c5] at h
    exact absurd (by decide) h
theorem pow_4 : ∀ k, k ≤ 4 → 10 ^ k ≤ 10000 := by decide
theorem nxt_J {u : Nat} (hu : u < 2) {σ τ : PSt} {i b : Nat} (hb : b < 256) (h : J u σ i) (e : nxt u σ b = some τ) : J u τ (i + 1) := by
  obtain ⟨M, O, dg, due⟩ := σ
  obtain ⟨j1, j2, j3, j4, j5, j6⟩ := h
  simp only at j1 j2 j3 j4 j5 j6
  unfold nxt at e
  simp only at e
  by_cases c1 : 48 ≤ b ∧ b ≤ 57
  · rw [if_pos c1] at e
    by_cases c2 : 0 < dg ∧ dg < 4
    · rw [if_pos c2] at e
      cases e
      obtain ⟨g1, g2, v, M0, g3, g4⟩ := j6 c2.1
      subst g3
      have e10 : nI v * 10 + nI (b - 48) = nI (v * 10 + (b - 48)) := by rw [k10, pk_mul, nI_add]
      have hp := pow_4 (dg + 1) (by omega)
      rw [Nat.pow_succ] at hp
      refine ⟨by show ((0, nI v * 10 + nI (b - 48)) :: M0).length + O.length ≤ i + 1; rw [List.length_cons] at j1 ⊢; omega, ⟨j2.1, Or.inl ⟨rfl, v * 10 + (b - 48), by omega, e10⟩⟩, j3, j4, j5, fun _ => ⟨g1, show dg + 1 ≤ 4 by omega, v * 10 + (b - 48), M0, ?_, ?_⟩⟩
      · show (0, nI v * 10 + nI (b - 48)) :: M0 = _
        rw [e10]
      · show v * 10 + (b - 48) < 10 ^ (dg + 1)
        rw [Nat.pow_succ]; omega
    · rw [if_neg c2] at e
      by_cases c3 : due = true
      · rw [if_pos c3] at e
        cases e
        rw [if_pos c3] at j3
        refine ⟨by show (_ :: M).length + O.length ≤ i + 1; rw [List.length_cons]; omega, ⟨j2, Or.inl ⟨rfl, b - 48, by omega, rfl⟩⟩, ?_, j4, j5, fun _ => ⟨rfl, by show 1 ≤ 4; decide, b - 48, M, rfl, by show b - 48 < 10 ^ 1; omega⟩⟩
        show dM M + 1 = nbo O + 1
        omega
      · rw [if_neg c3] at e; cases e
  · rw [if_neg c1] at e
    by_cases c3 : due = true
    · rw [if_pos c3] at e
      rw [if_pos c3] at j3
      by_cases c4 : b = 33 ∨ b = 40
      · rw [if_pos c4] at e
        by_cases c5 : 5 < cnt O + 1
        · rw [if_pos c5] at e; cases e
        · rw [if_neg c5] at e
          cases e
          refine ⟨by show M.length + (b :: O).length ≤ i + 1; rw [List.length_cons]; omega, j2, ?_, fun x hx => ?_, ?_, fun g => absurd g (Nat.lt_irrefl _)⟩
          · show dM M = nbo (b :: O) + 0
            have en : nbo (b :: O) = (if 1 ≤ rk b ∧ rk b ≤ 5 then 1 else 0) + nbo O := rfl
            rw [en]
            rcases c4 with rfl | rfl
            · rw [if_neg (by decide)]; omega
            · rw [if_neg (by decide)]; omega
          · rcases List.mem_cons.mp hx with rfl | hx
            · exact ⟨by rcases c4 with rfl | rfl; exact Or.inl rfl; exact Or.inr (Or.inl rfl), hb⟩
            · exact j4 x hx
          · show (if b = 33 ∨ b = 40 then 1 else 0) + cnt O ≤ 5
            rw [if_pos c4]; omega
      · rw [if_neg c4] at e
        by_cases c5 : idxS (2 + u) (nI b) < 0
        · rw [if_pos c5] at e; cases e
        · rw [if_neg c5] at e
          cases e
          refine ⟨by show (_ :: M).length + O.length ≤ i + 1; rw [List.length_cons]; omega, ⟨j2, Or.inr (Or.inl ⟨rfl, nm_idx hu c5⟩)⟩, ?_, j4, j5, fun g => absurd g (Nat.lt_irrefl _)⟩
          show dM M + 1 = nbo O + 1
          omega
    · rw [if_neg c3] at e
      rw [if_neg c3] at j3
      by_cases c4 : b = 41
      · rw [if_pos c4] at e
        obtain ⟨a1, a2, a3, a4, a5⟩ := cls_J (r := 1) (Nat.le_refl 1) O M j2 j3 j4
        by_cases c5 : (cls 1 O M).2.head? = some 40
        · rw [if_pos c5] at e
          cases e
          revert a1 a2 a3 a4 a5 c5
          generalize cls 1 O M = q
          obtain ⟨M', O'⟩ := q
          intro a1 a2 a3 a4 a5 c5
          cases O' with
          | nil => cases c5
          | cons x O' =>
            have ex : x = 40 := by simpa using c5
            subst ex
            simp only [List.length_cons] at a4
            refine ⟨by show M'.length + O'.length ≤ i + 1; omega, a1, ?_, fun y hy => a3 y (List.mem_cons_of_mem _ hy), ?_, fun g => absurd g (Nat.lt_irrefl _)⟩
            · show dM M' = nbo O' + 1
              have en : nbo (40 :: O') = (if 1 ≤ rk 40 ∧ rk 40 ≤ 5 then 1 else 0) + nbo O' := rfl
              rw [if_neg (by decide)] at en
              have a2' : dM M' = nbo (40 :: O') + 1 := a2
              omega
            · show cnt O' ≤ 5
              have en : cnt (40 :: O') = (if 40 = 33 ∨ 40 = 40 then 1 else 0) + cnt O' := rfl
              have a5' : cnt (40 :: O') ≤ cnt O := a5
              omega
        · rw [if_neg c5] at e; cases e
      · rw [if_neg c4] at e
        by_cases c5 : rk b = 0
        · rw [if_pos c5] at e; cases e
        · rw [if_neg c5] at e
          by_cases c6 : rk b = 6
          · rw [if_pos c6] at e; cases e
          · rw [if_neg c6] at e
            have hk := rk_le b
            have hsg := rk_sg (b := b) ⟨by omega, by omega⟩
            have fin : ∀ r, 1 ≤ r → some ((cls r O M).1, b :: (cls r O M).2, 0, true) = some τ → J u τ (i + 1) := fun r hr e => by
              obtain ⟨a1, a2, a3, a4, a5⟩ := cls_J (r := r) hr O M j2 j3 j4
              cases e
              refine ⟨by show (cls r O M).1.length + (b :: (cls r O M).2).length ≤ i + 1; rw [List.length_cons]; omega, a1, ?_, fun x hx => ?_, ?_, fun g => absurd g (Nat.lt_irrefl _)⟩
              · show dM (cls r O M).1 = (if 1 ≤ rk b ∧ rk b ≤ 5 then 1 else 0) + nbo (cls r O M).2 + 0
                rw [if_pos (by omega)]; omega
              · rcases List.mem_cons.mp hx with rfl | hx
                · exact ⟨Or.inr (Or.inr ⟨by omega, by omega⟩), hb⟩
                · exact a3 x hx
              · show (if b = 33 ∨ b = 40 then 1 else 0) + cnt (cls r O M).2 ≤ 5
                rw [if_neg (by omega)]; omega
            by_cases c7 : rk b = 3
            · rw [if_pos c7] at e
              by_cases c8 : rkT (cls 4 O M).2 = 3
              · rw [if_pos c8] at e; cases e
              · rw [if_neg c8] at e
                exact fin 4 (by decide) e
            · rw [if_neg c7] at e
              exact fin (rk b) (by omega) e
