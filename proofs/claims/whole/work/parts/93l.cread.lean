/-! THE CLASS'S READER is the machine -/
def stk (f : Nat → Int32) : List Int32 → Prop
  | [] => True
  | x :: L => f L.length = x ∧ stk f L
theorem stk_upd {f : Nat → Int32} {j : Nat} {v : Int32} : ∀ (L : List Int32), stk f L → L.length ≤ j → stk (upd f j v) L := by
  intro L
  induction L with
  | nil => intro _ _; exact True.intro
  | cons x L ih =>
    intro h hj
    rw [List.length_cons] at hj
    exact ⟨by rw [upd_ne (by omega)]; exact h.1, ih h.2 (by omega)⟩
theorem stk_push {f : Nat → Int32} {L : List Int32} {v : Int32} (h : stk f L) : stk (upd f L.length v) (v :: L) := ⟨upd_same, stk_upd L h (Nat.le_refl _)⟩
def enc2 (u : Nat) (x : Int32 × Int32) : Int32 := enc u x.1 x.2
def rkI (v0 : Int32) : Int32 := if v0 = 33 then 6 else if v0 = 37 then 5 else if v0 = 38 then 2 else if v0 = 42 then 5 else if v0 = 43 then 4 else if v0 = 45 then 4 else if v0 = 47 then 5 else if v0 = 60 then 3 else if v0 = 61 then 3 else if v0 = 62 then 3 else if v0 = 124 then 1 else 0
theorem cRankI {S : St} {v : Int32} : f_X4_rankOf S v = some (rkI v) := by
  unfold f_X4_rankOf rkI
  repeat' split
  all_goals rfl
theorem rkI_n : ∀ b, b < 256 → rkI (nI b) = nI (rk b) := by decide +kernel
theorem cRank {S : St} {b : Nat} (hb : b < 256) : f_X4_rankOf S (nI b) = some (nI (rk b)) := by rw [cRankI, rkI_n b hb]
/-- the reader's rows against the machine's -/
def CQ (S s : St) (u : Nat) (M : ML) (O : List Nat) (d3 d4 : Int32) : Prop := (∀ q, q ≠ 149 → q ≠ 150 → q ≠ 151 → q ≠ 152 → q ≠ 153 → s.1 q = S.1 q) ∧ s.1 150 1 = nI M.length ∧ stk (s.1 151) (M.map (enc2 u)) ∧ s.1 152 1 = nI O.length ∧ stk (s.1 153) (O.map nI) ∧ s.1 149 2 = nI (cnt O) ∧ s.1 149 3 = d3 ∧ s.1 149 4 = d4
theorem CQ.code {S s : St} {u : Nat} {M : ML} {O : List Nat} {d3 d4 x : Int32} {y : Int32 × Int32} (h : CQ S s u M O d3 d4) (hx : x = enc2 u y) (hM : M.length < 60) : f_X5_add s 150 x = some (ad s 150 M.length x) ∧ CQ S (ad s 150 M.length x) u (y :: M) O d3 d4 := by
  obtain ⟨h1, h2, h3, h4, h5, h6, h7, h8⟩ := h
  refine ⟨p_ad h2 (show M.length < 60 from hM) (by decide), fun q a b c d e => by rw [ad_nek b c]; exact h1 q a b c d e, by rw [ad_size, List.length_cons], ?_, by rw [ad_nek (by decide) (by decide)]; exact h4, by rw [ad_nek (by decide) (by decide)]; exact h5, by rw [ad_nek (by decide) (by decide)]; exact h6, by rw [ad_nek (by decide) (by decide)]; exact h7, by rw [ad_nek (by decide) (by decide)]; exact h8⟩
  have e : (ad s 150 M.length x).1 151 = upd (s.1 151) (M.map (enc2 u)).length x := by unfold ad; rw [pt_nek (by decide), pt_same, List.length_map]
  rw [e, List.map_cons, ← hx]
  exact stk_push h3
theorem CQ.f149 {S s : St} {u : Nat} {M : ML} {O : List Nat} {d3 d4 v : Int32} (h : CQ S s u M O d3 d4) : CQ S (pt s 149 3 v) u M O v d4 ∧ CQ S (pt s 149 4 v) u M O d3 v := by
  obtain ⟨h1, h2, h3, h4, h5, h6, h7, h8⟩ := h
  refine ⟨⟨fun q a b c d e => by rw [pt_nek a]; exact h1 q a b c d e, ?_, ?_, ?_, ?_, ?_, pt_at, ?_⟩, ⟨fun q a b c d e => by rw [pt_nek a]; exact h1 q a b c d e, ?_, ?_, ?_, ?_, ?_, ?_, pt_at⟩⟩
  · rw [pt_nek (by decide)]; exact h2
  · rw [pt_nek (by decide)]; exact h3
  · rw [pt_nek (by decide)]; exact h4
  · rw [pt_nek (by decide)]; exact h5
  · rw [pt_nej (by decide)]; exact h6
  · rw [pt_nej (by decide)]; exact h8
  · rw [pt_nek (by decide)]; exact h2
  · rw [pt_nek (by decide)]; exact h3
  · rw [pt_nek (by decide)]; exact h4
  · rw [pt_nek (by decide)]; exact h5
  · rw [pt_nej (by decide)]; exact h6
  · rw [pt_nej (by decide)]; exact h7
theorem CQ.last {S s : St} {u b : Nat} {M : ML} {O : List Nat} {d3 d4 : Int32} (h : CQ S s u M (b :: O) d3 d4) (hO : O.length < 60) : f_X5_last s 152 = some (nI b) ∧ f_X5_pop s 152 = some (nI b, pt s 152 1 (nI O.length)) := by
  obtain ⟨h1, h2, h3, h4, h5, h6, h7, h8⟩ := h
  have hr : RW s 152 (O.length + 1) := ⟨h4, by show O.length + 1 ≤ 60; omega, by decide⟩
  have e : s.1 153 O.length = nI b := by
    have := h5.1
    rw [List.length_map] at this
    exact this
  exact ⟨by rw [p_last hr, show 152 + 1 = 153 from rfl, e], by rw [p_pop hr, show 152 + 1 = 153 from rfl, e]⟩
/-- what is open, less its last -/
theorem CQ.pop {S s : St} {u b : Nat} {M : ML} {O : List Nat} {d3 d4 v : Int32} (h : CQ S s u M (b :: O) d3 d4) (hv : v = nI (cnt O)) : CQ S (pt (pt s 152 1 (nI O.length)) 149 2 v) u M O d3 d4 := by
  obtain ⟨h1, h2, h3, h4, h5, h6, h7, h8⟩ := h
  refine ⟨fun q a b c d e => by rw [pt_nek a, pt_nek d]; exact h1 q a b c d e, ?_, ?_, ?_, ?_, by rw [pt_at, hv], ?_, ?_⟩
  · rw [pt_nek (by decide), pt_nek (by decide)]; exact h2
  · rw [pt_nek (by decide), pt_nek (by decide)]; exact h3
  · rw [pt_nek (by decide), pt_at]
  · rw [pt_nek (by decide), pt_nek (by decide)]; exact h5.2
  · rw [pt_nej (by decide), pt_nek (by decide)]; exact h7
  · rw [pt_nej (by decide), pt_nek (by decide)]; exact h8
theorem CQ.push {S s : St} {u b : Nat} {M : ML} {O : List Nat} {d3 d4 v : Int32} (h : CQ S s u M O d3 d4) (hO : O.length < 60) (hv : v = nI (cnt (b :: O))) : f_X5_add s 152 (nI b) = some (ad s 152 O.length (nI b)) ∧ CQ S (pt (ad s 152 O.length (nI b)) 149 2 v) u M (b :: O) d3 d4 := by
  obtain ⟨h1, h2, h3, h4, h5, h6, h7, h8⟩ := h
  refine ⟨p_ad h4 (show O.length < 60 from hO) (by decide), fun q a b c d e => by rw [pt_nek a, ad_nek d e]; exact h1 q a b c d e, ?_, ?_, ?_, ?_, by rw [pt_at, hv], ?_, ?_⟩
  · rw [pt_nek (by decide), ad_nek (by decide) (by decide)]; exact h2
  · rw [pt_nek (by decide), ad_nek (by decide) (by decide)]; exact h3
  · rw [pt_nek (by decide), ad_size, List.length_cons]
  · have e : (pt (ad s 152 O.length (nI b)) 149 2 v).1 153 = upd (s.1 153) (O.map nI).length (nI b) := by
      rw [pt_nek (by decide)]; unfold ad; rw [pt_nek (by decide), pt_same, List.length_map]
    rw [e, List.map_cons]
    exact stk_push h5
  · rw [pt_nej (by decide), ad_nek (by decide) (by decide)]; exact h7
  · rw [pt_nej (by decide), ad_nek (by decide) (by decide)]; exact h8
theorem enc_sp {u b : Nat} : enc2 u (sp b) = 20000 + nI b := by
  unfold sp
  by_cases c : b = 33
  · rw [if_pos c, c]; rfl
  · rw [if_neg c]; rfl
theorem cClose8 {N : Nat} {S : St} {u r : Nat} {d3 d4 : Int32} (hr1 : 1 ≤ r) (hr : r ≤ 6) : ∀ (O : List Nat) (M : ML) (f : Nat) (s : St), CQ S s u M O d3 d4 → M.length + O.length ≤ 60 → (∀ b, b ∈ O → b < 256) → O.length < f → ∃ s', f_X4_close_8 N f s (nI r) (nI O.length) = some s' ∧ CQ S s' u (cls r O M).1 (cls r O M).2 d3 d4 := by
  intro O
  induction O with
  | nil =>
    intro M f s h h1 h2 h3
    obtain ⟨f, rfl⟩ := fuel h3
    exact ⟨s, by rw [f_X4_close_8, if_pos (by decide)], h⟩
  | cons b O ih =>
    intro M f s h h1 h2 h3
    rw [List.length_cons] at h1 h3
    obtain ⟨f, rfl⟩ := fuel h3
    have hb : b < 256 := h2 b (List.mem_cons_self ..)
    have hl := h.last (by omega)
    have hk := rk_le b
    have e : cls r (b :: O) M = if rk b < r then (M, b :: O) else cls r O (sp b :: M) := rfl
    rw [e, List.length_cons, f_X4_close_8, if_neg (nI_nle (by omega) (by omega)), hl.1, bnd_some, cRank hb, bnd_some]
    by_cases c : rk b < r
    · rw [if_pos (nI_lt c (by omega)), if_pos c]
      exact ⟨s, rfl, h⟩
    · rw [if_neg (nI_nlt (by omega) (by omega)), if_neg c, hl.2, bnd2_some]
      have h40 : b ≠ 40 := fun e => by subst e; exact c (by have : rk 40 = 0 := by decide
                                                            omega)
      have hc : s.1 149 2 = nI (cnt (b :: O)) := h.2.2.2.2.2.1
      have ec : cnt (b :: O) = (if b = 33 ∨ b = 40 then 1 else 0) + cnt O := rfl
      have key : ∀ x : Int32, s.1 149 2 - x = nI (cnt O) → ∃ s', f_X4_close_50 N (f_X4_close_8 N f) (pt s 152 1 (nI O.length)) (nI r) (nI (O.length + 1)) (nI b) x ((pt s 152 1 (nI O.length)).1 149 2) = some s' ∧ CQ S s' u (cls r O (sp b :: M)).1 (cls r O (sp b :: M)).2 d3 d4 := fun x hx => by
        have h5 := h.pop (v := s.1 149 2 - x) hx
        obtain ⟨g1, g2⟩ := h5.code (x := 20000 + nI b) (y := sp b) (enc_sp).symm (by omega)
        obtain ⟨s', a1, a2⟩ := ih (sp b :: M) f _ g2 (by rw [List.length_cons]; omega) (fun y hy => h2 y (List.mem_cons_of_mem _ hy)) (by omega)
        refine ⟨s', ?_, a2⟩
        unfold f_X4_close_50
        rw [pt_nek (show (149 : Nat) ≠ 152 by decide), g1, bnd_some, pk_m1]
        exact a1
      by_cases c33 : b = 33
      · rw [if_pos (by rw [c33]; rfl)]
        refine key 1 ?_
        rw [hc, ec, if_pos (Or.inl c33), Nat.add_comm, nI_pred]
      · rw [if_neg (show ¬ nI b = (33 : Int32) from fun e => c33 ((nI_eq (by omega) (by decide)).mp (show nI b = nI 33 from e)))]
        refine key 0 ?_
        rw [hc, ec, if_neg (by omega), Nat.zero_add]
        exact Int32.sub_zero _
theorem cClose {N : Nat} (hN : 100 < N) {S s : St} {u r : Nat} {M : ML} {O : List Nat} {d3 d4 : Int32} (hr1 : 1 ≤ r) (hr : r ≤ 6) (h : CQ S s u M O d3 d4) (h1 : M.length + O.length ≤ 60) (h2 : ∀ b, b ∈ O → b < 256) : ∃ s', f_X4_close N s (nI r) = some s' ∧ CQ S s' u (cls r O M).1 (cls r O M).2 d3 d4 := by
  obtain ⟨s', a1, a2⟩ := cClose8 (N := N) hr1 hr O M N s h h1 h2 (by omega)
  refine ⟨s', ?_, a2⟩
  unfold f_X4_close f_X5_size
  rw [h.2.2.2.1, bnd_some]
  exact a1
def dI (due : Bool) : Int32 := if due = true then 1 else 0
def CS (S s : St) (u : Nat) (σ : PSt) : Prop := CQ S s u σ.1 σ.2.1 (nI σ.2.2.1) (dI σ.2.2.2)
def FRd (S s : St) : Prop := ∀ q, q ≠ 149 → q ≠ 150 → q ≠ 151 → q ≠ 152 → q ≠ 153 → s.1 q = S.1 q
theorem cls_len {r : Nat} : ∀ (O : List Nat) (M : ML), (cls r O M).1.length + (cls r O M).2.length = M.length + O.length ∧ ∀ b, b ∈ (cls r O M).2 → b ∈ O := by
  intro O
  induction O with
  | nil => intro M; exact ⟨rfl, fun _ h => h⟩
  | cons b O ih =>
    intro M
    have e : cls r (b :: O) M = if rk b < r then (M, b :: O) else cls r O (sp b :: M) := rfl
    rw [e]
    by_cases c : rk b < r
    · rw [if_pos c]; exact ⟨rfl, fun _ h => h⟩
    · rw [if_neg c]
      obtain ⟨a, d⟩ := ih (sp b :: M)
      exact ⟨by rw [a, List.length_cons, List.length_cons]; omega, fun x hx => List.mem_cons_of_mem _ (d x hx)⟩
theorem cast_n {b : Nat} (hb : b < 256) : ((nI b).toUInt32 % 65536).toInt32 = nI b := by
  rw [pk_char, pk_tn (by omega), Nat.mod_eq_of_lt (by omega)]
theorem idx_hi {u : Nat} {c : Int32} : idxS u c < 0 ∨ 0 ≤ idxS u c := by
  by_cases h : idxS u c < 0
  · exact Or.inl h
  · exact Or.inr (Int32.not_lt.mp h)
theorem cTakes {N : Nat} (hN : 100 < N) {S s : St} {u i b : Nat} {σ : PSt} (hu : u < 2) (h : CS S s u σ) (hJ : J u σ i) (hi : i < 60) (hb : b < 256) : (nxt u σ b = none ∧ ∃ s', f_X4_takes N s (nI b) (2 + u) = some (0, s') ∧ FRd S s') ∨ (∃ τ, nxt u σ b = some τ ∧ ∃ s', f_X4_takes N s (nI b) (2 + u) = some (1, s') ∧ CS S s' u τ) := by
  obtain ⟨M, O, dg, due⟩ := σ
  obtain ⟨j1, j2, j3, j4, j5, j6⟩ := hJ
  simp only at j1 j2 j3 j4 j5 j6
  have h' : CQ S s u M O (nI dg) (dI due) := h
  obtain ⟨h1, h2, h3, h4, h5, h6, h7, h8⟩ := id h'
  unfold nxt f_X4_takes
  simp only
  by_cases c1 : 48 ≤ b ∧ b ≤ 57
  · rw [if_pos c1, if_neg (show ¬ nI b < (48 : Int32) from nI_nlt (b := 48) c1.1 (by omega)), if_neg (show ¬ (57 : Int32) < nI b from nI_nlt (b := b) (a := 57) c1.2 (by decide)), show nI b - (48 : Int32) = nI (b - 48) from nI_sub (b := 48) c1.1]
    have h55 : ¬ (0 < dg ∧ dg < 4) → f_X4_takesDigit s (nI (b - 48)) = f_X4_takesDigit_55 s (nI (b - 48)) := fun c => by
      unfold f_X4_takesDigit
      rw [h7]
      by_cases d : dg = 0
      · rw [d, if_pos (by decide)]
      · have : dg ≤ 4 := (j6 (by omega)).2.1
        rw [if_neg (nI_nle (by omega) (by omega)), k4, if_pos (nI_le (by omega) (by omega))]
    by_cases c2 : 0 < dg ∧ dg < 4
    · rw [if_pos c2]
      obtain ⟨g1, g2, v, M0, g3, g4⟩ := j6 c2.1
      subst g3
      rw [List.length_cons] at j1
      have e10 : enc2 u (0, nI v * 10 + nI (b - 48)) = nI v * 10 + nI (b - 48) := rfl
      have hr : RW s 150 (M0.length + 1) := ⟨by rw [h2, List.length_cons], by show M0.length + 1 ≤ 60; omega, by decide⟩
      have e0 : s.1 151 M0.length = nI v := by
        have := h3.1
        rw [List.length_map] at this
        exact this
      refine Or.inr ⟨_, rfl, pt (pt s 151 M0.length (nI v * 10 + nI (b - 48))) 149 3 (nI (dg + 1)), ?_, ?_⟩
      · have ed : f_X4_takesDigit s (nI (b - 48)) = some (1, pt (pt s 151 M0.length (nI v * 10 + nI (b - 48))) 149 3 (nI (dg + 1))) := by
          unfold f_X4_takesDigit
          rw [h7, if_neg (nI_nle c2.1 (by omega)), k4, if_neg (nI_ge c2.2 (by decide)), p_size hr, bnd_some, p_last hr, bnd_some, show 150 + 1 = 151 from rfl, e0, nI_pred, p_set hr (by omega), bnd_some, show 150 + 1 = 151 from rfl, pt_nek (by decide), h7, nI_1]
        rw [ed, bnd2_some, if_pos (by decide)]
      · refine ⟨fun q a b c d e => by rw [pt_nek a, pt_nek c]; exact h1 q a b c d e, ?_, ?_, ?_, ?_, ?_, pt_at, ?_⟩
        · rw [pt_nek (by decide), pt_nek (by decide)]; exact h2
        · rw [pt_nek (by decide), pt_same]
          refine ⟨by rw [List.length_map]; exact upd_same, stk_upd _ h3.2 (by rw [List.length_map]; exact Nat.le_refl _)⟩
        · rw [pt_nek (by decide), pt_nek (by decide)]; exact h4
        · rw [pt_nek (by decide), pt_nek (by decide)]; exact h5
        · rw [pt_nej (by decide), pt_nek (by decide)]; exact h6
        · rw [pt_nej (by decide), pt_nek (by decide)]; exact h8
    · rw [if_neg c2, h55 c2]
      unfold f_X4_takesDigit_55
      rw [h8]
      cases due with
      | false =>
        rw [if_neg (by decide), if_pos (show dI false = 0 from rfl), bnd2_some, if_pos (by decide)]
        exact Or.inl ⟨rfl, s, rfl, h1⟩
      | true =>
        rw [if_pos rfl, if_neg (by decide)]
        obtain ⟨g1, g2⟩ := h'.code (x := nI (b - 48)) (y := (0, nI (b - 48))) rfl (by omega)
        rw [g1, bnd_some, bnd2_some, if_pos (by decide)]
        exact Or.inr ⟨_, rfl, _, rfl, g2.f149.1.f149.2⟩
  · rw [if_neg c1]
    have e21 : (if nI b < 48 then f_X4_takes_21 N s (nI b) (2 + u) else if (57 : Int32) < nI b then f_X4_takes_21 N s (nI b) (2 + u) else bnd2 (f_X4_takesDigit s (nI b - 48)) fun a4 S5 => if bo a4 = true then some (a4, S5) else none) = f_X4_takes_21 N s (nI b) (2 + u) := by
      by_cases d : b < 48
      · rw [if_pos (show nI b < (48 : Int32) from nI_lt (b := 48) d (by decide))]
      · rw [if_neg (show ¬ nI b < (48 : Int32) from nI_nlt (b := 48) (by omega) (by omega)), if_pos (show (57 : Int32) < nI b from nI_lt (a := 57) (by omega) (by omega))]
    rw [e21]
    unfold f_X4_takes_21
    have hq : CQ S (pt s 149 3 0) u M O (nI 0) (dI due) := h'.f149.1
    generalize pt s 149 3 0 = s0 at hq
    rw [hq.2.2.2.2.2.2.2]
    cases due with
    | true =>
      rw [if_pos rfl, if_neg (show ¬ dI true = 0 by decide)]
      unfold f_X4_takesFirst
      have h12 : ∀ b, b < 256 → (b = 33 ∨ b = 40) → (5 < cnt O + 1 → ∃ s', f_X4_takesFirst_12 s0 (nI b) = some (0, s') ∧ FRd S s') ∧ (¬ 5 < cnt O + 1 → ∃ s', f_X4_takesFirst_12 s0 (nI b) = some (1, s') ∧ CS S s' u (M, b :: O, 0, true)) := fun b hb hbb => by
        have ec : cnt (b :: O) = cnt O + 1 := by
          show (if b = 33 ∨ b = 40 then 1 else 0) + cnt O = cnt O + 1
          rw [if_pos hbb, Nat.add_comm]
        obtain ⟨g1, g2⟩ := hq.push (b := b) (v := nI (cnt O + 1)) (by omega) (by rw [ec])
        have e6 : (ad s0 152 O.length (nI b)).1 149 2 + 1 = nI (cnt O + 1) := by rw [ad_nek (by decide) (by decide), hq.2.2.2.2.2.1, nI_1]
        unfold f_X4_takesFirst_12
        rw [g1, bnd_some, e6, pt_at]
        constructor
        · intro c
          rw [k5, if_pos (nI_lt c (by omega))]
          exact ⟨_, rfl, g2.1⟩
        · intro c
          rw [k5, if_neg (nI_nlt (by omega) (by omega))]
          exact ⟨_, rfl, g2⟩
      by_cases c4 : b = 33 ∨ b = 40
      · rw [if_pos c4]
        have ef : (if nI b = 33 then f_X4_takesFirst_12 s0 (nI b) else if nI b = 40 then f_X4_takesFirst_12 s0 (nI b) else if 2 + u = 2 ∨ 2 + u = 3 then bnd (f_X5_add s0 150 (10000 + idxS (2 + u) ((nI b).toUInt32 % 65536).toInt32)) fun S5 => if idxS (2 + u) ((nI b).toUInt32 % 65536).toInt32 < 0 then some (0, pt S5 149 4 0) else some (1, pt S5 149 4 0) else none) = f_X4_takesFirst_12 s0 (nI b) := by
          rcases c4 with rfl | rfl
          · rw [if_pos (show nI 33 = (33 : Int32) from rfl)]
          · rw [if_neg (show ¬ nI 40 = (33 : Int32) by decide), if_pos (show nI 40 = (40 : Int32) from rfl)]
        rw [ef]
        by_cases c5 : 5 < cnt O + 1
        · rw [if_pos c5]
          obtain ⟨s', a1, a2⟩ := (h12 b hb c4).1 c5
          rw [a1, bnd2_some, if_pos (by decide)]
          exact Or.inl ⟨rfl, s', rfl, a2⟩
        · rw [if_neg c5]
          obtain ⟨s', a1, a2⟩ := (h12 b hb c4).2 c5
          rw [a1, bnd2_some, if_pos (by decide)]
          exact Or.inr ⟨_, rfl, s', rfl, a2⟩
      · rw [if_neg c4, if_neg (show ¬ nI b = (33 : Int32) from fun e => c4 (Or.inl ((nI_eq (by omega) (by decide)).mp (show nI b = nI 33 from e)))), if_neg (show ¬ nI b = (40 : Int32) from fun e => c4 (Or.inr ((nI_eq (by omega) (by decide)).mp (show nI b = nI 40 from e)))), if_pos (show 2 + u = 2 ∨ 2 + u = 3 by omega), cast_n hb]
        obtain ⟨g1, g2⟩ := hq.code (x := 10000 + idxS (2 + u) (nI b)) (y := (1, nI b)) rfl (by omega)
        rw [g1, bnd_some]
        by_cases c5 : idxS (2 + u) (nI b) < 0
        · rw [if_pos c5, if_pos c5, bnd2_some, if_pos (by decide)]
          exact Or.inl ⟨rfl, _, rfl, g2.f149.2.1⟩
        · rw [if_neg c5, if_neg c5, bnd2_some, if_pos (by decide)]
          exact Or.inr ⟨_, rfl, _, rfl, g2.f149.2⟩
    | false =>
      rw [if_neg (show ¬ false = true by decide), if_pos (show dI false = 0 from rfl)]
      unfold f_X4_takesNext
      by_cases c4 : b = 41
      · subst c4
        rw [if_pos (show (41 : Nat) = 41 from rfl), if_pos (show nI 41 = (41 : Int32) from rfl)]
        obtain ⟨s1, a1, a2⟩ := cClose hN (r := 1) (by decide) (by decide) hq (by omega) (fun x hx => (j4 x hx).2)
        obtain ⟨l1, l2⟩ := cls_len (r := 1) O M
        unfold f_X4_closesBracket
        rw [show f_X4_close N s0 1 = _ from a1, bnd_some]
        have l3 : ∀ x, x ∈ (cls 1 O M).2 → x < 256 := fun x hx => (j4 x (l2 x hx)).2
        revert a2 l1 l3
        generalize cls 1 O M = qq
        obtain ⟨M', O'⟩ := qq
        intro a2 l1 l3
        cases O' with
        | nil =>
          have hr : RW s1 152 0 := ⟨a2.2.2.2.1, by decide, by decide⟩
          refine Or.inl ⟨if_neg (fun e => by cases e), s1, ?_, a2.1⟩
          rw [p_last0 hr, bnd_some, if_neg (by decide), bnd2_some, if_pos (by decide), bnd2_some, if_pos (by decide)]
        | cons x O' =>
          have hx : x < 256 := l3 x (List.mem_cons_self ..)
          have l1' : M'.length + (x :: O').length = M.length + O.length := l1
          rw [List.length_cons] at l1'
          have hl := CQ.last (O := O') a2 (by omega)
          by_cases cx : x = 40
          · subst cx
            refine Or.inr ⟨_, if_pos rfl, pt (pt s1 152 1 (nI O'.length)) 149 2 ((pt s1 152 1 (nI O'.length)).1 149 2 - 1), ?_, ?_⟩
            · rw [hl.1, bnd_some, if_pos (show nI 40 = (40 : Int32) from rfl), hl.2, bnd2_some, bnd2_some, if_pos (by decide), bnd2_some, if_pos (by decide)]
            have := CQ.pop (O := O') (v := (pt s1 152 1 (nI O'.length)).1 149 2 - 1) a2 (by
              rw [pt_nek (by decide), a2.2.2.2.2.2.1]
              show nI (1 + cnt O') - 1 = _
              rw [Nat.add_comm, nI_pred])
            exact this
          · refine Or.inl ⟨if_neg (fun e => cx (by simpa using e)), s1, ?_, a2.1⟩
            rw [hl.1, bnd_some, if_neg (show ¬ nI x = (40 : Int32) from fun e => cx ((nI_eq (by omega) (by decide)).mp (show nI x = nI 40 from e))), bnd2_some, if_pos (by decide), bnd2_some, if_pos (by decide)]
      · rw [if_neg c4, if_neg (show ¬ nI b = (41 : Int32) from fun e => c4 ((nI_eq (by omega) (by decide)).mp (show nI b = nI 41 from e))), cRank hb, bnd_some]
        have hk := rk_le b
        by_cases c5 : rk b = 0
        · rw [if_pos c5, c5, if_pos (show nI 0 = (0 : Int32) from rfl), bnd2_some, if_pos (by decide)]
          exact Or.inl ⟨rfl, s0, rfl, hq.1⟩
        · rw [if_neg c5, if_neg (nI_ne0 (by omega) (by omega))]
          by_cases c6 : rk b = 6
          · rw [if_pos c6, c6, if_pos (show nI 6 = (6 : Int32) from rfl), bnd2_some, if_pos (by decide)]
            exact Or.inl ⟨rfl, s0, rfl, hq.1⟩
          · rw [if_neg c6, if_neg (show ¬ nI (rk b) = (6 : Int32) from fun e => c6 ((nI_eq (by omega) (by decide)).mp (show nI (rk b) = nI 6 from e)))]
            have hsg := rk_sg (b := b) ⟨by omega, by omega⟩
            have h65 : ∀ (s1 : St) (M1 : ML) (O1 : List Nat), CQ S s1 u M1 O1 (nI 0) (dI false) → O1.length < 60 → ∃ s', f_X4_takesNext_65 N s1 (nI b) = some (1, s') ∧ CS S s' u (M1, b :: O1, 0, true) := fun s1 M1 O1 g gO => by
              have ec : cnt (b :: O1) = cnt O1 := by
                show (if b = 33 ∨ b = 40 then 1 else 0) + cnt O1 = cnt O1
                rw [if_neg (by omega), Nat.zero_add]
              obtain ⟨g1, g2⟩ := g.push (b := b) (v := s1.1 149 2) gO (by rw [ec, g.2.2.2.2.2.1])
              unfold f_X4_takesNext_65
              rw [g1, bnd_some]
              refine ⟨_, rfl, ?_⟩
              have e9 : pt (ad s1 152 O1.length (nI b)) 149 2 (s1.1 149 2) = ad s1 152 O1.length (nI b) := pt_self (by rw [ad_nek (by decide) (by decide)])
              rw [e9] at g2
              exact g2.f149.2
            by_cases c7 : rk b = 3
            · rw [if_pos c7, c7, if_pos (show nI 3 = (3 : Int32) from rfl)]
              obtain ⟨s1, a1, a2⟩ := cClose hN (r := 4) (by decide) (by decide) hq (by omega) (fun x hx => (j4 x hx).2)
              obtain ⟨l1, l2⟩ := cls_len (r := 4) O M
              have l3 : ∀ x, x ∈ (cls 4 O M).2 → x < 256 := fun x hx => (j4 x (l2 x hx)).2
              unfold f_X4_takesNext_41
              rw [show f_X4_close N s0 (nI 3 + 1) = _ from a1, bnd_some, if_pos (show nI 3 = (3 : Int32) from rfl)]
              have hlr : ∃ y, f_X5_last s1 152 = some y ∧ f_X4_rankOf s1 y = some (nI (rkT (cls 4 O M).2)) := by
                revert a2 l1 l3
                generalize cls 4 O M = qq
                obtain ⟨M', O'⟩ := qq
                intro a2 l1 l3
                cases O' with
                | nil => exact ⟨0, p_last0 ⟨a2.2.2.2.1, by decide, by decide⟩, cRank (b := 0) (by decide)⟩
                | cons x O' =>
                  have l1' : M'.length + (x :: O').length = M.length + O.length := l1
                  rw [List.length_cons] at l1'
                  exact ⟨nI x, (CQ.last (O := O') a2 (by omega)).1, cRank (l3 x (List.mem_cons_self ..))⟩
              obtain ⟨y, y1, y2⟩ := hlr
              rw [y1, bnd_some, y2, bnd_some]
              have hkt : rkT (cls 4 O M).2 ≤ 6 := by
                cases (cls 4 O M).2 with
                | nil => exact Nat.zero_le _
                | cons x _ => exact rk_le x
              by_cases c8 : rkT (cls 4 O M).2 = 3
              · rw [if_pos c8, c8, if_pos (show nI 3 = (3 : Int32) from rfl), bnd2_some, if_pos (by decide)]
                exact Or.inl ⟨rfl, s1, rfl, a2.1⟩
              · rw [if_neg c8, if_neg (show ¬ nI (rkT (cls 4 O M).2) = (3 : Int32) from fun e => c8 ((nI_eq (by omega) (by decide)).mp (show nI _ = nI 3 from e)))]
                obtain ⟨s2, b1, b2⟩ := h65 s1 _ _ a2 (by omega)
                rw [b1, bnd2_some, if_pos (by decide)]
                exact Or.inr ⟨_, rfl, s2, rfl, b2⟩
            · rw [if_neg c7, if_neg (show ¬ nI (rk b) = (3 : Int32) from fun e => c7 ((nI_eq (by omega) (by decide)).mp (show nI (rk b) = nI 3 from e)))]
              obtain ⟨s1, a1, a2⟩ := cClose hN (r := rk b) (by omega) hk hq (by omega) (fun x hx => (j4 x hx).2)
              obtain ⟨l1, l2⟩ := cls_len (r := rk b) O M
              unfold f_X4_takesNext_41
              rw [a1, bnd_some, if_neg (show ¬ nI (rk b) = (3 : Int32) from fun e => c7 ((nI_eq (by omega) (by decide)).mp (show nI (rk b) = nI 3 from e)))]
              obtain ⟨s2, b1, b2⟩ := h65 s1 _ _ a2 (by omega)
              rw [b1, bnd2_some, if_pos (by decide)]
              exact Or.inr ⟨_, rfl, s2, rfl, b2⟩
