/-! VOICES: the class -/
def abN (f : Nat) : Nat := [0, 0, 1, 1, 0, 0, 1].getD f 0
def atF (f v : Nat) : Nat := if kBo (4 * f + v) = 0 then (if kBo (4 * abN f + v) = 0 then abN (abN f) else abN f) else f
theorem at_ok : ∀ f, f < 7 → ∀ v, v < 4 → abN f < 7 ∧ abN (abN f) < 7 ∧ (kBo (4 * f + v) = 0 → kAb f = nI (abN f) ∧ (kBo (4 * abN f + v) = 0 → kAb (abN f) = nI (abN (abN f)))) ∧ ¬ kBo (4 * atF f v + v) = 0 ∧ atF f v < 7 := by decide +kernel
theorem cBody {s : St} {f v : Nat} (hf : f < 7) (hv : v < 4) : f_X10_bodyOf s (nI f) (nI v) = some (kBo (4 * f + v)) := by
  unfold f_X10_bodyOf
  have e : nI f * 4 + nI v = nI (4 * f + v) := by rw [k4, pk_mul, nI_add, Nat.mul_comm]
  rw [if_neg (nI_pos (by omega)), e, if_neg (nI_pos (by omega)), show Int32.ofNat 28 = nI 28 from rfl, if_neg (nI_ge (by omega) (by decide)), if_pos (inb_nI (by omega) (by decide)), nI_clamp (by omega)]
theorem cAbove {s : St} {f : Nat} (hf : f < 7) : f_X1_above s (nI f) = some (kAb f) := by
  unfold f_X1_above
  rw [if_neg (nI_pos (by omega)), show Int32.ofNat 7 = nI 7 from rfl, if_neg (nI_ge (by omega) (by decide)), if_pos (inb_nI (by omega) (by decide)), nI_clamp (by omega)]
def tA (s : St) (b : Int32) : St := ad s 155 (s.1 155 1).toNatClampNeg b
def tL (s : St) (L : List Int32) : St := L.foldl tA s
theorem tA_q {s : St} {b : Int32} {q : Nat} (h1 : q ≠ 155) (h2 : q ≠ 156) : (tA s b).1 q = s.1 q := ad_nek h1 h2
theorem tA_z {s : St} {b : Int32} {z : Nat} (h : s.1 155 1 = nI z) (hz : z < 30) : (tA s b).1 155 1 = nI (z + 1) := by
  unfold tA
  rw [h, nI_clamp (by omega), ad_size]
theorem tL_q {q : Nat} (h1 : q ≠ 155) (h2 : q ≠ 156) : ∀ (L : List Int32) (s : St), (tL s L).1 q = s.1 q := by
  intro L
  induction L with
  | nil => intro s; rfl
  | cons b L ih => intro s; exact (ih (tA s b)).trans (tA_q h1 h2)
theorem tL_app (s : St) (L M : List Int32) : tL (tL s L) M = tL s (L ++ M) := (List.foldl_append).symm
theorem tL_z : ∀ (L : List Int32) (s : St) (z : Nat), s.1 155 1 = nI z → z + L.length ≤ 30 → (tL s L).1 155 1 = nI (z + L.length) ∧ ∀ i, (tL s L).1 156 i = if z ≤ i ∧ i < z + L.length then L.getD (i - z) 0 else s.1 156 i := by
  intro L
  induction L with
  | nil => intro s z h _; exact ⟨h, fun i => by rw [if_neg (by simp only [List.length_nil]; omega)]; rfl⟩
  | cons b L ih =>
    intro s z h hz
    rw [List.length_cons] at hz
    obtain ⟨a1, a2⟩ := ih (tA s b) (z + 1) (tA_z h (by omega)) (by omega)
    refine ⟨by rw [List.length_cons]; exact a1.trans (by congr 1; omega), fun i => ?_⟩
    rw [List.length_cons]
    refine (a2 i).trans ?_
    by_cases c : i = z
    · subst c
      rw [if_neg (by omega), if_pos (by omega), Nat.sub_self]
      unfold tA
      rw [h, nI_clamp (by omega)]
      exact ad_new
    · by_cases d : z ≤ i ∧ i < z + (L.length + 1)
      · rw [if_pos (by omega), if_pos d, show i - z = (i - (z + 1)) + 1 by omega]
        rfl
      · rw [if_neg (by omega), if_neg d]
        unfold tA
        rw [h, nI_clamp (by omega)]
        exact ad_old c
theorem cAddT {s : St} {b : Int32} {z : Nat} (h : s.1 155 1 = nI z) (hz : z < 30) : f_X5_add s 155 b = some (tA s b) := by
  rw [p_ad h (show z < 30 from hz) (by decide)]
  unfold tA
  rw [h, nI_clamp (by omega)]
theorem bnd2_id {α β : Type} {x : Option (α × β)} : bnd2 x (fun a s => some (a, s)) = x := by cases x <;> rfl
theorem cSayE {N : Nat} (hN : 10 < N) {d f v z dd : Nat} {s : St} {x : Int32} (hf : f < 7) (hv : v < 4) (hp : s.1 154 1 = 0) (hd : dd ≤ 40) (hz : s.1 155 1 = nI z) (hz30 : z < 30) : f_X10_say N (d + 1) s (nI f) (nI v) x (nI dd) = f_X10_work N (f_X10_say N d) (tA s (kBo (4 * atF f v + v))) (kBo (4 * atF f v + v)) (kAb (atF f v)) x (nI (dd + 1)) := by
  obtain ⟨o1, o2, o3, o4, o5⟩ := at_ok f hf v hv
  have h50 : ∀ g, g < 7 → f_X10_say_50 N (f_X10_say N d) s (nI v) x (nI dd) (nI g) = f_X10_work N (f_X10_say N d) (tA s (kBo (4 * g + v))) (kBo (4 * g + v)) (kAb g) x (nI (dd + 1)) := fun g hg => by
    unfold f_X10_say_50
    rw [cBody hg hv, bnd_some, cAddT hz hz30, bnd_some, cAbove hg, bnd_some, nI_1, bnd2_id]
  obtain ⟨N', eN⟩ : ∃ k, N = k + 4 := ⟨N - 4, by omega⟩
  have e0 : f_X10_say N (d + 1) s (nI f) (nI v) x (nI dd) = f_X10_say_22 N (f_X10_say N d) (N' + 4) s (nI v) x (nI dd) (nI f) 0 := by
    rw [f_X10_say, if_pos hp, k40, if_pos (nI_le hd (by decide)), ← eN]
  rw [e0, f_X10_say_22, if_neg (by decide), cBody hf hv, bnd_some]
  by_cases c : kBo (4 * f + v) = 0
  · rw [if_pos c, cAbove hf, bnd_some, (o3 c).1, f_X10_say_22, if_neg (by decide), cBody o1 hv, bnd_some]
    by_cases c2 : kBo (4 * abN f + v) = 0
    · rw [if_pos c2, cAbove o1, bnd_some, (o3 c).2 c2, f_X10_say_22, if_neg (by decide), cBody o2 hv, bnd_some]
      have ea : atF f v = abN (abN f) := by unfold atF; rw [if_pos c, if_pos c2]
      rw [ea] at o4
      rw [if_neg o4, h50 _ o2, ea]
    · have ea : atF f v = abN f := by unfold atF; rw [if_pos c, if_neg c2]
      rw [if_neg c2, h50 _ o1, ea]
  · have ea : atF f v = f := by unfold atF; rw [if_neg c]
    rw [if_neg c, h50 _ hf, ea]
def nmV (f : Nat) (n x : Int32) : Int32 := if f = 5 then 8 else if f = 1 ∨ f = 2 then x + n + 5 else if f = 3 then x / 2 + n + 5 else if f = 6 then (x + n + 5) * 3 else x + n
def nmL (f : Nat) : List Int32 := [[10], [20, 10], [20, 10], [40, 20, 10], [10], [70], [60, 20, 10]].getD f []
/-- what a voice needs of the class's world -/
def VC (s : St) (K : Nat) (n p : Int32) (z : Nat) : Prop := s.1 154 1 = 0 ∧ s.1 154 2 = nI K ∧ s.1 154 3 = n ∧ s.1 154 4 = p ∧ s.1 155 1 = nI z
theorem VC.tA {s : St} {K z : Nat} {n p b : Int32} (h : VC s K n p z) (hz : z < 30) : VC (tA s b) K n p (z + 1) := by
  obtain ⟨a1, a2, a3, a4, a5⟩ := h
  refine ⟨?_, ?_, ?_, ?_, tA_z a5 hz⟩
  all_goals rw [tA_q (by decide) (by decide)]; assumption
theorem VC.tL {s : St} {K z : Nat} {n p : Int32} {L : List Int32} (h : VC s K n p z) (hz : z + L.length ≤ 30) : VC (tL s L) K n p (z + L.length) := by
  obtain ⟨a1, a2, a3, a4, a5⟩ := h
  refine ⟨?_, ?_, ?_, ?_, (tL_z L s z a5 hz).1⟩
  all_goals rw [tL_q (by decide) (by decide)]; assumption
theorem cNm0 {N : Nat} (hN : 10 < N) {d dd z K : Nat} {s : St} {n p x : Int32} (h : VC s K n p z) (hd : 1 ≤ d) (hdd : dd ≤ 40) (hz : z < 30) : f_X10_say N d s (nI 0) (nI 0) x (nI dd) = some (x + n, tL s [10]) := by
  obtain ⟨d, rfl⟩ : ∃ k, d = k + 1 := ⟨d - 1, by omega⟩
  rw [cSayE hN (by decide) (by decide) h.1 hdd h.2.2.2.2 hz]
  show some (x + (tA s 10).1 154 3, tA s 10) = _
  rw [tA_q (by decide) (by decide), h.2.2.1]
  rfl
theorem cNm1 {N : Nat} (hN : 10 < N) {d dd z K : Nat} {s : St} {n p x : Int32} (h : VC s K n p z) (hd : 2 ≤ d) (hdd : dd ≤ 39) (hz : z < 29) : f_X10_say N d s (nI 1) (nI 0) x (nI dd) = some (x + n + 5, tL s [20, 10]) := by
  obtain ⟨d, rfl⟩ : ∃ k, d = k + 1 := ⟨d - 1, by omega⟩
  rw [cSayE hN (by decide) (by decide) h.1 (by omega) h.2.2.2.2 (by omega)]
  show bnd2 (f_X10_say N d (tA s 20) (nI 0) (nI 0) x (nI (dd + 1))) (fun a s => some (a + 5, s)) = _
  rw [cNm0 hN (h.tA (by omega)) (by omega) (by omega) (by omega), bnd2_some]
  rfl
theorem cNm {N : Nat} (hN : 10 < N) {f : Nat} (hf : f < 7) {d dd z K : Nat} {s : St} {n p x : Int32} (h : VC s K n p z) (hd : 3 ≤ d) (hdd : dd ≤ 38) (hz : z < 28) : f_X10_say N d s (nI f) (nI 0) x (nI dd) = some (nmV f n x, tL s (nmL f)) := by
  obtain ⟨d, rfl⟩ : ∃ k, d = k + 1 := ⟨d - 1, by omega⟩
  have e : f = 0 ∨ f = 1 ∨ f = 2 ∨ f = 3 ∨ f = 4 ∨ f = 5 ∨ f = 6 := by omega
  rcases e with rfl | rfl | rfl | rfl | rfl | rfl | rfl
  · exact cNm0 hN h (by omega) (by omega) (by omega)
  · exact cNm1 hN h (by omega) (by omega) (by omega)
  · rw [cSayE hN (by decide) (by decide) h.1 (by omega) h.2.2.2.2 (by omega)]
    show bnd2 (f_X10_say N d (tA s 20) (nI 0) (nI 0) x (nI (dd + 1))) (fun a s => some (a + 5, s)) = _
    rw [cNm0 hN (h.tA (by omega)) (by omega) (by omega) (by omega), bnd2_some]
    rfl
  · rw [cSayE hN (by decide) (by decide) h.1 (by omega) h.2.2.2.2 (by omega)]
    show bnd2 (f_X10_say N d (tA s 40) (nI 1) (nI 0) (x / 2) (nI (dd + 1))) (fun a s => some (a, s)) = _
    rw [cNm1 hN (h.tA (by omega)) (by omega) (by omega) (by omega), bnd2_some]
    rfl
  · rw [cSayE hN (by decide) (by decide) h.1 (by omega) h.2.2.2.2 (by omega)]
    show some (x + (tA s 10).1 154 3, tA s 10) = _
    rw [tA_q (by decide) (by decide), h.2.2.1]
    rfl
  · rw [cSayE hN (by decide) (by decide) h.1 (by omega) h.2.2.2.2 (by omega)]
    rfl
  · rw [cSayE hN (by decide) (by decide) h.1 (by omega) h.2.2.2.2 (by omega)]
    show bnd2 (f_X10_say N d (tA s 60) (nI 1) (nI 0) x (nI (dd + 1))) (fun a s => some (a * 3, s)) = _
    rw [cNm1 hN (h.tA (by omega)) (by omega) (by omega) (by omega), bnd2_some]
    rfl
theorem nmL_len : ∀ f, f < 7 → (nmL f).length ≤ 3 := by decide
def byV (f K : Nat) (n x : Int32) : Int32 := if f = 2 then 0 - nmV K n x * 2 else if f = 5 then nmV K n x * 2 + n else nmV K n x * 2
def byL (f K : Nat) : List Int32 := (if f = 2 then [30, 11] else if f = 5 then [71, 11] else [11]) ++ nmL K
theorem byL_len : ∀ f, f < 7 → ∀ K, K < 7 → (byL f K).length ≤ 5 := by decide
theorem cBy0 {N : Nat} (hN : 10 < N) {d dd z K f : Nat} {s : St} {n p x : Int32} (hK : K < 7) (h : VC s K n p z) (hd : 4 ≤ d) (hdd : dd ≤ 37) (hz : z < 27) (hf : f < 7) (ef : kBo (4 * atF f 1 + 1) = 11) : f_X10_say N d s (nI f) (nI 1) x (nI dd) = some (nmV K n x * 2, tL s (11 :: nmL K)) := by
  obtain ⟨d, rfl⟩ : ∃ k, d = k + 1 := ⟨d - 1, by omega⟩
  rw [cSayE hN hf (by decide) h.1 (by omega) h.2.2.2.2 (by omega), ef]
  show bnd2 (f_X10_say N d (tA s 11) ((tA s 11).1 154 2) (nI 0) x (nI (dd + 1))) (fun a s => some (a * 2, s)) = _
  rw [(h.tA (b := 11) (by omega)).2.1, cNm hN hK (h.tA (by omega)) (by omega) (by omega) (by omega), bnd2_some]
  rfl
theorem cBy {N : Nat} (hN : 10 < N) {f : Nat} (hf : f < 7) {d dd z K : Nat} {s : St} {n p x : Int32} (hK : K < 7) (h : VC s K n p z) (hd : 5 ≤ d) (hdd : dd ≤ 36) (hz : z < 26) : f_X10_say N d s (nI f) (nI 1) x (nI dd) = some (byV f K n x, tL s (byL f K)) := by
  have e : f = 0 ∨ f = 1 ∨ f = 2 ∨ f = 3 ∨ f = 4 ∨ f = 5 ∨ f = 6 := by omega
  rcases e with rfl | rfl | rfl | rfl | rfl | rfl | rfl
  · exact cBy0 hN hK h (by omega) (by omega) (by omega) (by decide) (by decide)
  · exact cBy0 hN hK h (by omega) (by omega) (by omega) (by decide) (by decide)
  · obtain ⟨d, rfl⟩ : ∃ k, d = k + 1 := ⟨d - 1, by omega⟩
    rw [cSayE hN (by decide) (by decide) h.1 (by omega) h.2.2.2.2 (by omega)]
    show bnd2 (f_X10_say N d (tA s 30) (nI 1) (nI 1) x (nI (dd + 1))) (fun a s => some (0 - a, s)) = _
    rw [cBy0 hN hK (h.tA (by omega)) (by omega) (by omega) (by omega) (by decide) (by decide), bnd2_some]
    rfl
  · exact cBy0 hN hK h (by omega) (by omega) (by omega) (by decide) (by decide)
  · exact cBy0 hN hK h (by omega) (by omega) (by omega) (by decide) (by decide)
  · obtain ⟨d, rfl⟩ : ∃ k, d = k + 1 := ⟨d - 1, by omega⟩
    rw [cSayE hN (by decide) (by decide) h.1 (by omega) h.2.2.2.2 (by omega)]
    show bnd2 (f_X10_say N d (tA s 71) (nI 0) (nI 1) x (nI (dd + 1))) (fun a s => some (a + s.1 154 3, s)) = _
    rw [cBy0 hN hK (h.tA (by omega)) (by omega) (by omega) (by omega) (by decide) (by decide), bnd2_some, tL_q (by decide) (by decide), (h.tA (b := 71) (by omega)).2.2.1]
    rfl
  · exact cBy0 hN hK h (by omega) (by omega) (by omega) (by decide) (by decide)
def pyV (f K : Nat) (n p x : Int32) : Int32 := if f = 3 then (byV K K n x - p) ^^^ n else if f = 4 then byV K K n (x + 1) - p else byV K K n x - p
def pyL (f K : Nat) : List Int32 := (if f = 3 then [41, 12] else if f = 4 then [50, 12] else [12]) ++ byL K K
theorem pyL_len : ∀ f, f < 7 → ∀ K, K < 7 → (pyL f K).length ≤ 7 := by decide
theorem cPy0 {N : Nat} (hN : 10 < N) {d dd z K f : Nat} {s : St} {n p x : Int32} (hK : K < 7) (h : VC s K n p z) (hd : 6 ≤ d) (hdd : dd ≤ 35) (hz : z < 25) (hf : f < 7) (ef : kBo (4 * atF f 2 + 2) = 12) : f_X10_say N d s (nI f) (nI 2) x (nI dd) = some (byV K K n x - p, tL s (12 :: byL K K)) := by
  obtain ⟨d, rfl⟩ : ∃ k, d = k + 1 := ⟨d - 1, by omega⟩
  rw [cSayE hN hf (by decide) h.1 (by omega) h.2.2.2.2 (by omega), ef]
  show bnd2 (f_X10_say N d (tA s 12) ((tA s 12).1 154 2) (nI 1) x (nI (dd + 1))) (fun a s => some (a - s.1 154 4, s)) = _
  rw [(h.tA (b := 12) (by omega)).2.1, cBy hN hK hK (h.tA (by omega)) (by omega) (by omega) (by omega), bnd2_some, tL_q (by decide) (by decide), (h.tA (b := 12) (by omega)).2.2.2.1]
  rfl
theorem cPy {N : Nat} (hN : 10 < N) {f : Nat} (hf : f < 7) {d dd z K : Nat} {s : St} {n p x : Int32} (hK : K < 7) (h : VC s K n p z) (hd : 7 ≤ d) (hdd : dd ≤ 34) (hz : z < 24) : f_X10_say N d s (nI f) (nI 2) x (nI dd) = some (pyV f K n p x, tL s (pyL f K)) := by
  have e : f = 0 ∨ f = 1 ∨ f = 2 ∨ f = 3 ∨ f = 4 ∨ f = 5 ∨ f = 6 := by omega
  rcases e with rfl | rfl | rfl | rfl | rfl | rfl | rfl
  · exact cPy0 hN hK h (by omega) (by omega) (by omega) (by decide) (by decide)
  · exact cPy0 hN hK h (by omega) (by omega) (by omega) (by decide) (by decide)
  · exact cPy0 hN hK h (by omega) (by omega) (by omega) (by decide) (by decide)
  · obtain ⟨d, rfl⟩ : ∃ k, d = k + 1 := ⟨d - 1, by omega⟩
    rw [cSayE hN (by decide) (by decide) h.1 (by omega) h.2.2.2.2 (by omega)]
    show bnd2 (f_X10_say N d (tA s 41) (nI 1) (nI 2) x (nI (dd + 1))) (fun a s => some (a ^^^ s.1 154 3, s)) = _
    rw [cPy0 hN hK (h.tA (by omega)) (by omega) (by omega) (by omega) (by decide) (by decide), bnd2_some, tL_q (by decide) (by decide), (h.tA (b := 41) (by omega)).2.2.1]
    rfl
  · obtain ⟨d, rfl⟩ : ∃ k, d = k + 1 := ⟨d - 1, by omega⟩
    rw [cSayE hN (by decide) (by decide) h.1 (by omega) h.2.2.2.2 (by omega)]
    show bnd2 (f_X10_say N d (tA s 50) (nI 0) (nI 2) (x + 1) (nI (dd + 1))) (fun a s => some (a, s)) = _
    rw [cPy0 hN hK (h.tA (by omega)) (by omega) (by omega) (by omega) (by decide) (by decide), bnd2_some]
    rfl
  · exact cPy0 hN hK h (by omega) (by omega) (by omega) (by decide) (by decide)
  · exact cPy0 hN hK h (by omega) (by omega) (by omega) (by decide) (by decide)
def mdV (f K : Nat) (n p x : Int32) : Int32 := if f = 1 ∨ f = 2 ∨ f = 3 then x / (p - n) + byV K K n 1 else if f = 6 then (x / (p - n) + byV K K n 1) - pyV K K n p 0 else x / (p - n)
def mdL (f K : Nat) : List Int32 := if f = 1 ∨ f = 2 ∨ f = 3 then 21 :: 13 :: byL K K else if f = 6 then 61 :: 21 :: 13 :: (byL K K ++ pyL K K) else [13]
/-- where it is parted -/
def mdP (f : Nat) : List Int32 := if f = 1 ∨ f = 2 ∨ f = 3 then [21, 13] else if f = 6 then [61, 21, 13] else [13]
theorem mdL_len : ∀ f, f < 7 → ∀ K, K < 7 → (mdL f K).length ≤ 15 ∧ (mdP f).length ≤ 3 := by decide
theorem cMd0 {N : Nat} (hN : 10 < N) {d dd z K f : Nat} {s : St} {n p x : Int32} (h : VC s K n p z) (hd : 1 ≤ d) (hdd : dd ≤ 40) (hz : z < 30) (hf : f < 7) (ef : kBo (4 * atF f 3 + 3) = 13) : f_X10_say N d s (nI f) (nI 3) x (nI dd) = if p - n = 0 then some (0, pt (tL s [13]) 154 1 1) else some (x / (p - n), tL s [13]) := by
  obtain ⟨d, rfl⟩ : ∃ k, d = k + 1 := ⟨d - 1, by omega⟩
  rw [cSayE hN hf (by decide) h.1 (by omega) h.2.2.2.2 (by omega), ef]
  show bnd2 (f_X10_minded (tA s 13) x) (fun a s => some (a, s)) = _
  have h1 := h.tA (b := 13) hz
  unfold f_X10_minded
  rw [h1.2.2.1, h1.2.2.2.1]
  by_cases c : p - n = 0
  · rw [if_pos c, if_pos c, bnd2_some]; rfl
  · rw [if_neg c, if_neg c, if_neg c, bnd2_some]; rfl
theorem cMute {N d : Nat} {s : St} {f v x dd : Int32} (hd : 1 ≤ d) (hp : ¬ s.1 154 1 = 0) : f_X10_say N d s f v x dd = some (0, s) := by
  obtain ⟨d, rfl⟩ : ∃ k, d = k + 1 := ⟨d - 1, by omega⟩
  rw [f_X10_say, if_neg hp]
theorem cMd1 {N : Nat} (hN : 10 < N) {d dd z K f : Nat} {s : St} {n p x : Int32} (hK : K < 7) (h : VC s K n p z) (hd : 6 ≤ d) (hdd : dd ≤ 35) (hz : z < 24) (hf : f < 7) (ef : kBo (4 * atF f 3 + 3) = 21) (ea : kAb (atF f 3) = 0) : ∃ v, f_X10_say N d s (nI f) (nI 3) x (nI dd) = some (v, if p - n = 0 then pt (tL s [21, 13]) 154 1 1 else tL s (21 :: 13 :: byL K K)) ∧ (¬ p - n = 0 → v = x / (p - n) + byV K K n 1) := by
  obtain ⟨d, rfl⟩ : ∃ k, d = k + 1 := ⟨d - 1, by omega⟩
  have h1 := h.tA (b := 21) (by omega)
  have e : f_X10_say N (d + 1) s (nI f) (nI 3) x (nI dd) = bnd2 (f_X10_say N d (tA s 21) (nI 0) (nI 3) x (nI (dd + 1))) (fun a s => bnd2 (f_X10_say N d s (s.1 154 2) (nI 1) 1 (nI (dd + 1))) (fun b t => some (a + b, t))) := by
    rw [cSayE hN hf (by decide) h.1 (by omega) h.2.2.2.2 (by omega), ef, ea]
    rfl
  rw [e, cMd0 hN h1 (by omega) (by omega) (by omega) (by decide) (by decide)]
  by_cases c : p - n = 0
  · rw [if_pos c, if_pos c, bnd2_some, cMute (by omega) (by rw [pt_at]; decide), bnd2_some]
    exact ⟨_, rfl, fun g => absurd c g⟩
  · rw [if_neg c, if_neg c, bnd2_some]
    have h2 := h1.tL (L := [13]) (by simp only [List.length_cons, List.length_nil]; omega)
    rw [h2.2.1, cBy hN hK hK h2 (by omega) (by omega) (by simp only [List.length_cons, List.length_nil]; omega), bnd2_some]
    exact ⟨_, rfl, fun _ => rfl⟩
theorem cMd {N : Nat} (hN : 10 < N) {f : Nat} (hf : f < 7) {d dd z K : Nat} {s : St} {n p x : Int32} (hK : K < 7) (h : VC s K n p z) (hd : 9 ≤ d) (hdd : dd ≤ 32) (hz : z < 10) : ∃ v, f_X10_say N d s (nI f) (nI 3) x (nI dd) = some (v, if p - n = 0 then pt (tL s (mdP f)) 154 1 1 else tL s (mdL f K)) ∧ (¬ p - n = 0 → v = mdV f K n p x) := by
  have r0 : ∀ f, f < 7 → kBo (4 * atF f 3 + 3) = 13 → ∃ v, f_X10_say N d s (nI f) (nI 3) x (nI dd) = some (v, if p - n = 0 then pt (tL s [13]) 154 1 1 else tL s [13]) ∧ (¬ p - n = 0 → v = x / (p - n)) := fun f hf ef => by
    rw [cMd0 hN h (by omega) (by omega) (by omega) hf ef]
    by_cases c : p - n = 0
    · rw [if_pos c, if_pos c]; exact ⟨_, rfl, fun g => absurd c g⟩
    · rw [if_neg c, if_neg c]; exact ⟨_, rfl, fun _ => rfl⟩
  have e : f = 0 ∨ f = 1 ∨ f = 2 ∨ f = 3 ∨ f = 4 ∨ f = 5 ∨ f = 6 := by omega
  rcases e with rfl | rfl | rfl | rfl | rfl | rfl | rfl
  · exact r0 0 (by decide) (by decide)
  · exact cMd1 hN hK h (by omega) (by omega) (by omega) (by decide) (by decide) (by decide)
  · exact cMd1 hN hK h (by omega) (by omega) (by omega) (by decide) (by decide) (by decide)
  · exact cMd1 hN hK h (by omega) (by omega) (by omega) (by decide) (by decide) (by decide)
  · exact r0 4 (by decide) (by decide)
  · exact r0 5 (by decide) (by decide)
  · obtain ⟨d, rfl⟩ : ∃ k, d = k + 1 := ⟨d - 1, by omega⟩
    have h1 := h.tA (b := 61) (by omega)
    have e : f_X10_say N (d + 1) s (nI 6) (nI 3) x (nI dd) = bnd2 (f_X10_say N d (tA s 61) (nI 1) (nI 3) x (nI (dd + 1))) (fun a s => bnd2 (f_X10_say N d s (s.1 154 2) (nI 2) 0 (nI (dd + 1))) (fun b t => some (a - b, t))) := by
      rw [cSayE hN (by decide) (by decide) h.1 (by omega) h.2.2.2.2 (by omega)]
      rfl
    obtain ⟨v, a1, a2⟩ := cMd1 hN (f := 1) (x := x) (dd := dd + 1) (d := d) hK h1 (by omega) (by omega) (by omega) (by decide) (by decide) (by decide)
    rw [e, a1, bnd2_some]
    by_cases c : p - n = 0
    · rw [if_pos c, if_pos c, cMute (by omega) (by rw [pt_at]; decide), bnd2_some]
      exact ⟨_, rfl, fun g => absurd c g⟩
    · rw [if_neg c, if_neg c]
      have hlen := byL_len K hK K hK
      have h2 := h1.tL (L := 21 :: 13 :: byL K K) (by simp only [List.length_cons]; omega)
      rw [h2.2.1, cPy hN hK hK h2 (by omega) (by omega) (by simp only [List.length_cons]; omega), bnd2_some, tL_app]
      refine ⟨_, rfl, fun _ => ?_⟩
      rw [a2 c]; rfl
