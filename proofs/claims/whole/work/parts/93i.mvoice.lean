/-! VOICES: the model -/
def mA (s : St) (b : Int32) : St := pt (pt s 180 (s.1 172 13).toNatClampNeg b) 172 13 (nI ((s.1 172 13).toNatClampNeg + 1))
def mL (s : St) (L : List Int32) : St := L.foldl mA s
theorem mL_app (s : St) (L M : List Int32) : mL (mL s L) M = mL s (L ++ M) := (List.foldl_append).symm
theorem mA_q {s : St} {b : Int32} {q : Nat} (h1 : q ≠ 172) (h2 : q ≠ 180) : (mA s b).1 q = s.1 q := by unfold mA; rw [pt_nek h1, pt_nek h2]
theorem mA_j {s : St} {b : Int32} {j : Nat} (h : j ≠ 13) : (mA s b).1 172 j = s.1 172 j := by unfold mA; rw [pt_nej h, pt_nek (by decide)]
theorem mA_z {s : St} {b : Int32} {z : Nat} (h : s.1 172 13 = nI z) (hz : z < 30) : (mA s b).1 172 13 = nI (z + 1) := by
  unfold mA
  rw [h, nI_clamp (by omega), pt_at]
theorem mL_q {q : Nat} (h1 : q ≠ 172) (h2 : q ≠ 180) : ∀ (L : List Int32) (s : St), (mL s L).1 q = s.1 q := by
  intro L
  induction L with
  | nil => intro s; rfl
  | cons b L ih => intro s; exact (ih (mA s b)).trans (mA_q h1 h2)
theorem mL_j {j : Nat} (h : j ≠ 13) : ∀ (L : List Int32) (s : St), (mL s L).1 172 j = s.1 172 j := by
  intro L
  induction L with
  | nil => intro s; rfl
  | cons b L ih => intro s; exact (ih (mA s b)).trans (mA_j h)
theorem mL_z : ∀ (L : List Int32) (s : St) (z : Nat), s.1 172 13 = nI z → z + L.length ≤ 30 → (mL s L).1 172 13 = nI (z + L.length) ∧ ∀ i, (mL s L).1 180 i = if z ≤ i ∧ i < z + L.length then L.getD (i - z) 0 else s.1 180 i := by
  intro L
  induction L with
  | nil => intro s z h _; exact ⟨h, fun i => by rw [if_neg (by simp only [List.length_nil]; omega)]; rfl⟩
  | cons b L ih =>
    intro s z h hz
    rw [List.length_cons] at hz
    obtain ⟨a1, a2⟩ := ih (mA s b) (z + 1) (mA_z h (by omega)) (by omega)
    refine ⟨by rw [List.length_cons]; exact a1.trans (by congr 1; omega), fun i => ?_⟩
    rw [List.length_cons]
    refine (a2 i).trans ?_
    by_cases c : i = z
    · subst c
      rw [if_neg (by omega), if_pos (by omega), Nat.sub_self]
      unfold mA
      rw [h, nI_clamp (by omega), pt_nek (by decide)]
      exact pt_at
    · by_cases d : z ≤ i ∧ i < z + (L.length + 1)
      · rw [if_pos (by omega), if_pos d, show i - z = (i - (z + 1)) + 1 by omega]
        rfl
      · rw [if_neg (by omega), if_neg d]
        unfold mA
        rw [h, nI_clamp (by omega), pt_nek (by decide)]
        exact pt_nej c
/-- what a voice needs of the model's world -/
def MV (s : St) (K sp : Nat) (p : Int32) (z : Nat) : Prop := s.1 172 14 = nI sp ∧ sp < 6 ∧ s.1 173 (20 + 4 * sp) = nI K ∧ s.1 173 (22 + 4 * sp) = p ∧ s.1 172 13 = nI z ∧ s.1 172 15 = 0
theorem MV.mA {s : St} {K sp z : Nat} {p b : Int32} (h : MV s K sp p z) (hz : z < 30) : MV (mA s b) K sp p (z + 1) := by
  obtain ⟨a1, a2, a3, a4, a5, a6⟩ := h
  exact ⟨by rw [mA_j (by decide)]; exact a1, a2, by rw [mA_q (by decide) (by decide)]; exact a3, by rw [mA_q (by decide) (by decide)]; exact a4, mA_z a5 hz, by rw [mA_j (by decide)]; exact a6⟩
theorem MV.mL {s : St} {K sp z : Nat} {p : Int32} {L : List Int32} (h : MV s K sp p z) (hz : z + L.length ≤ 30) : MV (mL s L) K sp p (z + L.length) := by
  obtain ⟨a1, a2, a3, a4, a5, a6⟩ := h
  exact ⟨by rw [mL_j (by decide)]; exact a1, a2, by rw [mL_q (by decide) (by decide)]; exact a3, by rw [mL_q (by decide) (by decide)]; exact a4, (mL_z L s z a5 hz).1, by rw [mL_j (by decide)]; exact a6⟩
theorem mBeg {s : St} {K sp z : Nat} {p b : Int32} (h : MV s K sp p z) (hz : z < 30) : f_X12_begins s b = some (mA s b) := by
  unfold f_X12_begins mA
  rw [h.2.2.2.2.1, k30, if_neg (nI_ge hz (by decide)), if_pos (inb_nI hz (by decide)), nI_clamp (by omega), pt_nek (by decide), h.2.2.2.2.1, nI_1]
theorem mKn {s : St} {K sp z : Nat} {p : Int32} (h : MV s K sp p z) : f_X12_kindNow s = some (nI K) := by
  unfold f_X12_kindNow
  have := h.2.1
  rw [h.1, mKind (m := s.1 173) rfl (by omega), bnd_some, h.2.2.1]
theorem mPn {s : St} {K sp z : Nat} {p : Int32} (h : MV s K sp p z) : f_X12_partNow s = some p := by
  unfold f_X12_partNow
  have := h.2.1
  rw [h.1, mChance (m := s.1 173) rfl (by omega), bnd_some, h.2.2.2.1]
theorem mNm0 {d z K sp : Nat} {s : St} {p x : Int32} (h : MV s K sp p z) (hd : 1 ≤ d) (hz : z < 30) : f_X12_calls d s (nI 0) x = some (x + nI sp, mL s [10]) := by
  obtain ⟨d, rfl⟩ : ∃ k, d = k + 1 := ⟨d - 1, by omega⟩
  show bnd (f_X12_begins s 10) (fun s => some (x + s.1 172 14, s)) = _
  rw [mBeg h hz, bnd_some, mA_j (by decide), h.1]
  rfl
theorem mNm1 {d z K sp : Nat} {s : St} {p x : Int32} (h : MV s K sp p z) (hd : 2 ≤ d) (hz : z < 29) : f_X12_calls d s (nI 1) x = some (x + nI sp + 5, mL s [20, 10]) := by
  obtain ⟨d, rfl⟩ : ∃ k, d = k + 1 := ⟨d - 1, by omega⟩
  show bnd (f_X12_begins s 20) (fun s => bnd2 (f_X12_calls d s (nI 0) x) (fun a s => some (a + 5, s))) = _
  rw [mBeg h (by omega), bnd_some, mNm0 (h.mA (by omega)) (by omega) (by omega), bnd2_some]
  rfl
theorem mNm {f : Nat} (hf : f < 7) {d z K sp : Nat} {s : St} {p x : Int32} (h : MV s K sp p z) (hd : 3 ≤ d) (hz : z < 28) : f_X12_calls d s (nI f) x = some (nmV f (nI sp) x, mL s (nmL f)) := by
  obtain ⟨d, rfl⟩ : ∃ k, d = k + 1 := ⟨d - 1, by omega⟩
  have e : f = 0 ∨ f = 1 ∨ f = 2 ∨ f = 3 ∨ f = 4 ∨ f = 5 ∨ f = 6 := by omega
  rcases e with rfl | rfl | rfl | rfl | rfl | rfl | rfl
  · exact mNm0 h (by omega) (by omega)
  · exact mNm1 h (by omega) (by omega)
  · show bnd2 (f_X12_calls d s (nI 1) x) (fun a s => some (a, s)) = _
    rw [mNm1 h (by omega) (by omega), bnd2_some]
    rfl
  · show bnd (f_X12_begins s 40) (fun s => bnd2 (f_X12_calls d s (nI 1) (x / 2)) (fun a s => some (a, s))) = _
    rw [mBeg h (by omega), bnd_some, mNm1 (h.mA (by omega)) (by omega) (by omega), bnd2_some]
    rfl
  · show bnd2 (f_X12_calls d s (nI 0) x) (fun a s => some (a, s)) = _
    rw [mNm0 h (by omega) (by omega), bnd2_some]
    rfl
  · show bnd (f_X12_begins s 70) (fun s => some (8, s)) = _
    rw [mBeg h (by omega), bnd_some]
    rfl
  · show bnd (f_X12_begins s 60) (fun s => bnd2 (f_X12_calls d s (nI 1) x) (fun a s => some (a * 3, s))) = _
    rw [mBeg h (by omega), bnd_some, mNm1 (h.mA (by omega)) (by omega) (by omega), bnd2_some]
    rfl
theorem mBy0 {d z K sp : Nat} {s : St} {p x : Int32} (hK : K < 7) (h : MV s K sp p z) (hd : 1 ≤ d) (hz : z < 27) : f_X12_buys d s (nI 0) x = some (nmV K (nI sp) x * 2, mL s (11 :: nmL K)) := by
  obtain ⟨d, rfl⟩ : ∃ k, d = k + 1 := ⟨d - 1, by omega⟩
  show bnd (f_X12_begins s 11) (fun s => bnd (f_X12_kindNow s) (fun k => bnd2 (f_X12_calls 8 s k x) (fun a s => some (a * 2, s)))) = _
  have h1 := h.mA (b := 11) (by omega)
  rw [mBeg h (by omega), bnd_some, mKn h1, bnd_some, mNm hK h1 (by omega) (by omega), bnd2_some]
  rfl
theorem mBy1 {d z K sp : Nat} {s : St} {p x : Int32} (hK : K < 7) (h : MV s K sp p z) (hd : 2 ≤ d) (hz : z < 27) : f_X12_buys d s (nI 1) x = some (nmV K (nI sp) x * 2, mL s (11 :: nmL K)) := by
  obtain ⟨d, rfl⟩ : ∃ k, d = k + 1 := ⟨d - 1, by omega⟩
  show bnd2 (f_X12_buys d s (nI 0) x) (fun a s => some (a, s)) = _
  rw [mBy0 hK h (by omega) (by omega), bnd2_some]
theorem mBy {f : Nat} (hf : f < 7) {d z K sp : Nat} {s : St} {p x : Int32} (hK : K < 7) (h : MV s K sp p z) (hd : 3 ≤ d) (hz : z < 26) : f_X12_buys d s (nI f) x = some (byV f K (nI sp) x, mL s (byL f K)) := by
  obtain ⟨d, rfl⟩ : ∃ k, d = k + 1 := ⟨d - 1, by omega⟩
  have e : f = 0 ∨ f = 1 ∨ f = 2 ∨ f = 3 ∨ f = 4 ∨ f = 5 ∨ f = 6 := by omega
  rcases e with rfl | rfl | rfl | rfl | rfl | rfl | rfl
  · exact mBy0 hK h (by omega) (by omega)
  · exact mBy1 hK h (by omega) (by omega)
  · show bnd (f_X12_begins s 30) (fun s => bnd2 (f_X12_buys d s (nI 1) x) (fun a s => some (0 - a, s))) = _
    rw [mBeg h (by omega), bnd_some, mBy1 hK (h.mA (by omega)) (by omega) (by omega), bnd2_some]
    rfl
  · show bnd2 (f_X12_buys d s (nI 1) x) (fun a s => some (a, s)) = _
    rw [mBy1 hK h (by omega) (by omega), bnd2_some]
    rfl
  · show bnd2 (f_X12_buys d s (nI 0) x) (fun a s => some (a, s)) = _
    rw [mBy0 hK h (by omega) (by omega), bnd2_some]
    rfl
  · show bnd (f_X12_begins s 71) (fun s => bnd2 (f_X12_buys d s (nI 0) x) (fun a s => some (a + s.1 172 14, s))) = _
    have h1 := h.mA (b := 71) (by omega)
    rw [mBeg h (by omega), bnd_some, mBy0 hK h1 (by omega) (by omega), bnd2_some, mL_j (by decide), h1.1]
    rfl
  · show bnd2 (f_X12_buys d s (nI 1) x) (fun a s => some (a, s)) = _
    rw [mBy1 hK h (by omega) (by omega), bnd2_some]
    rfl
theorem mPy0 {d z K sp : Nat} {s : St} {p x : Int32} (hK : K < 7) (h : MV s K sp p z) (hd : 1 ≤ d) (hz : z < 25) : f_X12_gives d s (nI 0) x = some (byV K K (nI sp) x - p, mL s (12 :: byL K K)) := by
  obtain ⟨d, rfl⟩ : ∃ k, d = k + 1 := ⟨d - 1, by omega⟩
  show bnd (f_X12_begins s 12) (fun s => bnd (f_X12_kindNow s) (fun k => bnd2 (f_X12_buys 8 s k x) (fun a s => bnd (f_X12_partNow s) (fun q => some (a - q, s))))) = _
  have h1 := h.mA (b := 12) (by omega)
  have hl := byL_len K hK K hK
  rw [mBeg h (by omega), bnd_some, mKn h1, bnd_some, mBy hK hK h1 (by omega) (by omega), bnd2_some, mPn (h1.mL (by omega)), bnd_some]
  rfl
theorem mPy1 {d z K sp : Nat} {s : St} {p x : Int32} (hK : K < 7) (h : MV s K sp p z) (hd : 2 ≤ d) (hz : z < 25) : f_X12_gives d s (nI 1) x = some (byV K K (nI sp) x - p, mL s (12 :: byL K K)) := by
  obtain ⟨d, rfl⟩ : ∃ k, d = k + 1 := ⟨d - 1, by omega⟩
  show bnd2 (f_X12_gives d s (nI 0) x) (fun a s => some (a, s)) = _
  rw [mPy0 hK h (by omega) (by omega), bnd2_some]
theorem mPy {f : Nat} (hf : f < 7) {d z K sp : Nat} {s : St} {p x : Int32} (hK : K < 7) (h : MV s K sp p z) (hd : 3 ≤ d) (hz : z < 24) : f_X12_gives d s (nI f) x = some (pyV f K (nI sp) p x, mL s (pyL f K)) := by
  obtain ⟨d, rfl⟩ : ∃ k, d = k + 1 := ⟨d - 1, by omega⟩
  have e : f = 0 ∨ f = 1 ∨ f = 2 ∨ f = 3 ∨ f = 4 ∨ f = 5 ∨ f = 6 := by omega
  rcases e with rfl | rfl | rfl | rfl | rfl | rfl | rfl
  · exact mPy0 hK h (by omega) (by omega)
  · exact mPy1 hK h (by omega) (by omega)
  · show bnd2 (f_X12_gives d s (nI 1) x) (fun a s => some (a, s)) = _
    rw [mPy1 hK h (by omega) (by omega), bnd2_some]
    rfl
  · show bnd (f_X12_begins s 41) (fun s => bnd2 (f_X12_gives d s (nI 1) x) (fun a s => some (a ^^^ s.1 172 14, s))) = _
    have h1 := h.mA (b := 41) (by omega)
    rw [mBeg h (by omega), bnd_some, mPy1 hK h1 (by omega) (by omega), bnd2_some, mL_j (by decide), h1.1]
    rfl
  · show bnd (f_X12_begins s 50) (fun s => bnd2 (f_X12_gives d s (nI 0) (x + 1)) (fun a s => some (a, s))) = _
    rw [mBeg h (by omega), bnd_some, mPy0 hK (h.mA (by omega)) (by omega) (by omega), bnd2_some]
    rfl
  · show bnd2 (f_X12_gives d s (nI 0) x) (fun a s => some (a, s)) = _
    rw [mPy0 hK h (by omega) (by omega), bnd2_some]
    rfl
  · show bnd2 (f_X12_gives d s (nI 1) x) (fun a s => some (a, s)) = _
    rw [mPy1 hK h (by omega) (by omega), bnd2_some]
    rfl
theorem pt_self {S : St} {k j : Nat} {v : Int32} (h : S.1 k j = v) : pt S k j v = S := by
  refine St_ext (fun q i => ?_) rfl
  by_cases a : q = k
  · subst a
    by_cases b : i = j
    · subst b; rw [pt_at, h]
    · rw [pt_nej b]
  · rw [pt_nek a]
theorem mMd0 {d z K sp : Nat} {s : St} {p x : Int32} (h : MV s K sp p z) (hd : 1 ≤ d) (hz : z < 30) : f_X12_minds d s (nI 0) x = if p - nI sp = 0 then some (0, pt (mL s [13]) 172 15 1) else some (x / (p - nI sp), mL s [13]) := by
  obtain ⟨d, rfl⟩ : ∃ k, d = k + 1 := ⟨d - 1, by omega⟩
  have h1 := h.mA (b := 13) hz
  have e : f_X12_minds (d + 1) s (nI 0) x = bnd (f_X12_begins s 13) (fun s => bnd (f_X12_partNow s) (fun q => if q - s.1 172 14 = 0 then f_X12_minds_64 (f_X12_minds d) s x (q - s.1 172 14) 1 else f_X12_minds_64 (f_X12_minds d) s x (q - s.1 172 14) 0)) := rfl
  rw [e, mBeg h hz, bnd_some, mPn h1, bnd_some, h1.1]
  by_cases c : p - nI sp = 0
  · rw [if_pos c, if_pos c]
    unfold f_X12_minds_64
    rw [if_pos (by decide), if_pos c]; rfl
  · rw [if_neg c, if_neg c]
    unfold f_X12_minds_64
    rw [if_pos (by decide), if_neg c, pt_self h1.2.2.2.2.2]
    by_cases c1 : p - nI sp = -1
    · rw [if_pos c1, c1, div_neg1]; rfl
    · rw [if_neg c1, if_neg c]; rfl
theorem mMd1 {d z K sp : Nat} {s : St} {p x : Int32} (hK : K < 7) (h : MV s K sp p z) (hd : 2 ≤ d) (hz : z < 24) : ∃ v, f_X12_minds d s (nI 1) x = some (v, if p - nI sp = 0 then pt (mL s [21, 13]) 172 15 1 else mL s (21 :: 13 :: byL K K)) ∧ (¬ p - nI sp = 0 → v = x / (p - nI sp) + byV K K (nI sp) 1) := by
  obtain ⟨d, rfl⟩ : ∃ k, d = k + 1 := ⟨d - 1, by omega⟩
  have h1 := h.mA (b := 21) (by omega)
  have e : f_X12_minds (d + 1) s (nI 1) x = bnd (f_X12_begins s 21) (fun s => bnd2 (f_X12_minds d s (nI 0) x) (fun a s => if s.1 172 15 = 0 then bnd (f_X12_kindNow s) (fun k => bnd2 (f_X12_buys 8 s k 1) (fun b s => some (a + b, s))) else some (0, s))) := rfl
  rw [e, mBeg h (by omega), bnd_some, mMd0 h1 (by omega) (by omega)]
  by_cases c : p - nI sp = 0
  · rw [if_pos c, if_pos c, bnd2_some, pt_at, if_neg (by decide)]
    exact ⟨_, rfl, fun g => absurd c g⟩
  · rw [if_neg c, if_neg c, bnd2_some]
    have h2 := h1.mL (L := [13]) (by simp only [List.length_cons, List.length_nil]; omega)
    rw [h2.2.2.2.2.2, if_pos rfl, mKn h2, bnd_some, mBy hK hK h2 (by omega) (by simp only [List.length_cons, List.length_nil]; omega), bnd2_some]
    exact ⟨_, rfl, fun _ => rfl⟩
theorem mMd {f : Nat} (hf : f < 7) {d z K sp : Nat} {s : St} {p x : Int32} (hK : K < 7) (h : MV s K sp p z) (hd : 4 ≤ d) (hz : z < 10) : ∃ v, f_X12_minds d s (nI f) x = some (v, if p - nI sp = 0 then pt (mL s (mdP f)) 172 15 1 else mL s (mdL f K)) ∧ (¬ p - nI sp = 0 → v = mdV f K (nI sp) p x) := by
  obtain ⟨d, rfl⟩ : ∃ k, d = k + 1 := ⟨d - 1, by omega⟩
  have r0 : ∀ d, 1 ≤ d → ∃ v, f_X12_minds d s (nI 0) x = some (v, if p - nI sp = 0 then pt (mL s [13]) 172 15 1 else mL s [13]) ∧ (¬ p - nI sp = 0 → v = x / (p - nI sp)) := fun d hd => by
    rw [mMd0 h hd (by omega)]
    by_cases c : p - nI sp = 0
    · rw [if_pos c, if_pos c]; exact ⟨_, rfl, fun g => absurd c g⟩
    · rw [if_neg c, if_neg c]; exact ⟨_, rfl, fun _ => rfl⟩
  have e : f = 0 ∨ f = 1 ∨ f = 2 ∨ f = 3 ∨ f = 4 ∨ f = 5 ∨ f = 6 := by omega
  rcases e with rfl | rfl | rfl | rfl | rfl | rfl | rfl
  · exact r0 (d + 1) (by omega)
  · exact mMd1 hK h (by omega) (by omega)
  · obtain ⟨v, a1, a2⟩ := mMd1 (x := x) (d := d) hK h (by omega) (by omega)
    refine ⟨v, ?_, a2⟩
    show bnd2 (f_X12_minds d s (nI 1) x) (fun a s => some (a, s)) = _
    rw [a1, bnd2_some]; rfl
  · obtain ⟨v, a1, a2⟩ := mMd1 (x := x) (d := d) hK h (by omega) (by omega)
    refine ⟨v, ?_, a2⟩
    show bnd2 (f_X12_minds d s (nI 1) x) (fun a s => some (a, s)) = _
    rw [a1, bnd2_some]; rfl
  · obtain ⟨v, a1, a2⟩ := r0 d (by omega)
    refine ⟨v, ?_, a2⟩
    show bnd2 (f_X12_minds d s (nI 0) x) (fun a s => some (a, s)) = _
    rw [a1, bnd2_some]; rfl
  · obtain ⟨v, a1, a2⟩ := r0 d (by omega)
    refine ⟨v, ?_, a2⟩
    show bnd2 (f_X12_minds d s (nI 0) x) (fun a s => some (a, s)) = _
    rw [a1, bnd2_some]; rfl
  · have h1 := h.mA (b := 61) (by omega)
    have e : f_X12_minds (d + 1) s (nI 6) x = bnd (f_X12_begins s 61) (fun s => bnd2 (f_X12_minds d s (nI 1) x) (fun a s => if s.1 172 15 = 0 then bnd (f_X12_kindNow s) (fun k => bnd2 (f_X12_gives 8 s k 0) (fun b s => some (a - b, s))) else some (0, s))) := rfl
    obtain ⟨v, a1, a2⟩ := mMd1 (x := x) (d := d) hK h1 (by omega) (by omega)
    rw [e, mBeg h (by omega), bnd_some, a1, bnd2_some]
    by_cases c : p - nI sp = 0
    · rw [if_pos c, if_pos c, pt_at, if_neg (by decide)]
      exact ⟨_, rfl, fun g => absurd c g⟩
    · rw [if_neg c, if_neg c]
      have hlen := byL_len K hK K hK
      have h2 := h1.mL (L := 21 :: 13 :: byL K K) (by simp only [List.length_cons]; omega)
      rw [h2.2.2.2.2.2, if_pos rfl, mKn h2, bnd_some, mPy hK hK h2 (by omega) (by simp only [List.length_cons]; omega), bnd2_some, mL_app]
      refine ⟨_, rfl, fun _ => ?_⟩
      rw [a2 c]; rfl
