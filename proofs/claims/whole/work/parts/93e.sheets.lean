/-! SHEETS -/
theorem shAt (v : Int32) : ((∀ s, f_X11_sheetAt s v = some none) ∧ ∀ s, f_X12_isSheet s v = some 0) ∨ ∃ i, i < 4 ∧ v = nI i ∧ (∀ s, f_X11_sheetAt s v = some (some (158 + 3 * i))) ∧ sh (158 + 3 * i) = 6 ∧ ∀ s, f_X12_isSheet s v = some 1 := by
  have hm : ∀ s, f_X12_isSheet s v = some (wi v 3) := fun s => by
    unfold f_X12_isSheet
    rw [mIn, bnd_some, if_pos wi_bo]
  rcases wi_n (v := v) (n := 3) (by decide) with e | ⟨i, hi, rfl, e⟩
  · refine Or.inl ⟨fun s => ?_, fun s => by rw [hm, k3, e]⟩
    unfold f_X11_sheetAt f_X11_sheetAt_22
    by_cases c : v < 0
    · rw [if_pos c]
    · rw [if_neg c]
      obtain ⟨j, hj, rfl⟩ := nI_of c
      unfold wi at e
      rw [if_neg c] at e
      by_cases d : 3 < j
      · rw [show Int32.ofNat 4 = nI 4 from rfl, if_pos (nI_le (by omega) hj)]
      · rw [if_neg (nI_nlt (by omega) (by decide))] at e
        exact absurd e (by decide)
  · refine Or.inr ⟨i, by omega, rfl, fun s => ?_, ?_, fun s => by rw [hm, k3, e]⟩
    · unfold f_X11_sheetAt
      rw [if_neg (nI_pos (by omega)), show Int32.ofNat 4 = nI 4 from rfl, if_neg (nI_ge (by omega) (by decide)), if_pos (inb_nI (by omega) (by decide)), nI_clamp (by omega)]
    · have e : i = 0 ∨ i = 1 ∨ i = 2 ∨ i = 3 := by omega
      rcases e with rfl | rfl | rfl | rfl <;> decide
theorem oeN {α : Type} {a : Option α} {f : Nat → Option α} : oel none a f = a := rfl
theorem oeS {α : Type} {a : Option α} {f : Nat → Option α} {x : Nat} : oel (some x) a f = f x := rfl
theorem ln_sh {i : Nat} (hi : i < 4) : ln (160 + 3 * i) = 24 := by
  have e : i = 0 ∨ i = 1 ∨ i = 2 ∨ i = 3 := by omega
  rcases e with rfl | rfl | rfl | rfl <;> decide
theorem IV.sh {S S' : St} (h : IV S) (f : ∀ q, (q < 158 ∨ 169 < q) → q ≠ 181 → q ≠ 182 → q ≠ 183 → q ≠ 184 → S'.1 q = S.1 q) (hs : ∀ i, i < 4 → SHc S' i) : IV S' := by
  obtain ⟨h1, h2, h3, h4, h5, h6⟩ := h
  have g : ∀ q, (q < 158 ∨ 169 < q) → (q < 181 ∨ 184 < q) → S'.1 q = S.1 q := fun q a b => f q a (by omega) (by omega) (by omega) (by omega)
  refine ⟨⟨?_, ?_, ?_⟩, h2.of (fun q a => g q (by omega) (by omega)) (by rw [g 172 (by omega) (by omega)]), h3.of (fun q a => g q (by omega) (by omega)), h4.of (fun q a => g q (by omega) (by omega)) (by rw [g 172 (by omega) (by omega)]), hs, ?_, ?_, ?_, ?_⟩
  · rw [g 173 (by omega) (by omega)]; exact h1.1.fr (fun q a b => g q (by omega) (by omega))
  · rw [g 173 (by omega) (by omega)]; exact h1.2.1
  · rw [g 173 (by omega) (by omega)]; exact h1.2.2
  · rw [g 87 (by omega) (by omega)]; exact h6.1
  · rw [g 94 (by omega) (by omega)]; exact h6.2.1
  · rw [g 134 (by omega) (by omega)]; exact h6.2.2.1
  · rw [g 141 (by omega) (by omega)]; exact h6.2.2.2
theorem zero24 {N : Nat} (hN : 100 < N) {S : St} {i : Nat} (hi : i < 4) : ∃ S', f_X12_sheet_90 N N S (nI i) 0 = some (1, S') ∧ (∀ q, q ≠ 183 → S'.1 q = S.1 q) ∧ ∀ x, S'.1 183 x = if 24 * i ≤ x ∧ x < 24 * i + 24 then 0 else S.1 183 x := by
  have hstep : ∀ (f j : Nat) (s : St) (a : Unit), j < 24 → ((∀ q, q ≠ 183 → s.1 q = S.1 q) ∧ ∀ x, s.1 183 x = if 24 * i ≤ x ∧ x < 24 * i + j then 0 else S.1 183 x) → ∃ s', f_X12_sheet_90 N (f + 1) s (nI i) (nI j) = f_X12_sheet_90 N f s' (nI i) (nI (j + 1)) ∧ ((∀ q, q ≠ 183 → s'.1 q = S.1 q) ∧ ∀ x, s'.1 183 x = if 24 * i ≤ x ∧ x < 24 * i + (j + 1) then 0 else S.1 183 x) := by
    intro f j s _ hj hR
    refine ⟨pt s 183 (24 * i + j) 0, ?_, fun q hq => by rw [pt_nek hq]; exact hR.1 q hq, fun x => ?_⟩
    · rw [f_X12_sheet_90, k24, if_neg (nI_ge hj (by decide)), pk_mul, nI_add, if_pos (inb_nI (by omega) (by decide)), nI_clamp (by omega), nI_1]
    · by_cases c : x = 24 * i + j
      · subst c; rw [pt_at, if_pos (by omega)]
      · rw [pt_nej c, hR.2 x]
        by_cases d : 24 * i ≤ x ∧ x < 24 * i + j
        · rw [if_pos d, if_pos (by omega)]
        · rw [if_neg d, if_neg (by omega)]
  obtain ⟨s', f', e1, e2⟩ := loopR (fun f j s => f_X12_sheet_90 N f s (nI i) (nI j)) (fun j s (_ : Unit) => (∀ q, q ≠ 183 → s.1 q = S.1 q) ∧ ∀ x, s.1 183 x = if 24 * i ≤ x ∧ x < 24 * i + j then 0 else S.1 183 x) (fun _ a => a) 24 hstep 24 0 N S () ⟨fun _ _ => rfl, fun x => by rw [if_neg (by omega)]⟩ (by omega) (by omega)
  refine ⟨s', ?_, e2⟩
  refine e1.trans ?_
  show f_X12_sheet_90 N (f' + 1) s' (nI i) (nI 24) = _
  rw [f_X12_sheet_90, k24, if_pos (nI_le (Nat.le_refl _) (by decide))]
/-- a sheet made anew, on both sides -/
theorem shMake {N : Nat} (hN : 100 < N) {S : St} (h : IV S) {i k : Nat} (hi : i < 4) (hk : k ≤ 24) {b : Int32} (hb : b = 0 ∨ b = 8 ∨ b = 16 ∨ b = 32) {f g : St → Option (Int32 × St)} (G1 : f S = bnd (f_X5_reset N (pt S (158 + 3 * i) 1 b) (159 + 3 * i) (nI k)) (fun s => some (1, s))) (G2 : ∀ s, g s = f_X12_sheet_90 N N (pt (pt s 181 i b) 182 i (nI k)) (nI i) 0) : CC S f g := by
  have hr := p_reset (S := pt S (158 + 3 * i) 1 b) (r := 159 + 3 * i) (k := k) (N := N) (by rw [show 159 + 3 * i + 1 = 160 + 3 * i by omega, ln_sh hi]; decide) (by rw [show 159 + 3 * i + 1 = 160 + 3 * i by omega, ln_sh hi]; exact hk) (by omega)
  generalize eR : rz (pt S (158 + 3 * i) 1 b) (159 + 3 * i) k = R at hr
  have fR : ∀ q, q ≠ 158 + 3 * i → q ≠ 159 + 3 * i → q ≠ 160 + 3 * i → R.1 q = S.1 q := fun q x1 x2 x3 => by rw [← eR, rz_fr x2 (by omega), pt_nek x1]
  obtain ⟨S2, a2, b2, c2⟩ := zero24 hN (S := pt (pt R 181 i b) 182 i (nI k)) hi
  have f2 : ∀ q, q ≠ 158 + 3 * i → q ≠ 159 + 3 * i → q ≠ 160 + 3 * i → q ≠ 181 → q ≠ 182 → q ≠ 183 → S2.1 q = S.1 q := fun q x1 x2 x3 x4 x5 x6 => by rw [b2 q x6, pt_nek x5, pt_nek x4, fR q x1 x2 x3]
  have g183 : ∀ x, (pt (pt R 181 i b) 182 i (nI k)).1 183 x = S.1 183 x := fun x => by rw [pt_nek (by decide), pt_nek (by decide), fR 183 (by omega) (by omega) (by omega)]
  refine ⟨1, R, S2, ?_, fun q hq => fR q (by omega) (by omega) (by omega), ?_, h.sh (fun q x1 x2 x3 x4 x5 => f2 q (by omega) (by omega) (by omega) x2 x3 x4) (fun j hj => ?_)⟩
  · rw [G1, hr, bnd_some]
  · rw [G2]; exact a2
  · by_cases c : j = i
    · subst c
      refine ⟨k, hk, ?_, ?_, ?_, ?_, fun x hx => ?_⟩
      · rw [b2 _ (by omega), pt_nek (by omega), pt_nek (by omega), ← eR, rz_fr (by omega) (by omega), pt_at, b2 181 (by decide), pt_nek (by decide), pt_at]
      · rw [b2 181 (by decide), pt_nek (by decide), pt_at]; exact hb
      · rw [b2 _ (by omega), pt_nek (by omega), pt_nek (by omega), ← eR, rz_size]
      · rw [b2 182 (by decide), pt_at]
      · have : R.1 (160 + 3 * j) x = 0 := by
          rw [← eR, show 160 + 3 * j = 159 + 3 * j + 1 by omega]; exact rz_at hx
        rw [b2 _ (by omega), pt_nek (by omega), pt_nek (by omega), this, c2, if_pos (by omega)]
    · refine (h.2.2.2.2.1 j hj).of (fun q hq => f2 q (by omega) (by omega) (by omega) (by omega) (by omega) (by omega)) ?_ ?_ (fun x hx => ?_)
      · rw [b2 181 (by decide), pt_nek (by decide), pt_nej c, fR 181 (by omega) (by omega) (by omega)]
      · rw [b2 182 (by decide), pt_nej c, pt_nek (by decide), fR 182 (by omega) (by omega) (by omega)]
      · rw [c2, if_neg (by omega), g183]
theorem K_sheet {N : Nat} (hN : 100 < N) {S : St} (h : IV S) (v1 v2 v3 : Int32) : CC S (fun s => f_X11_sheet N s v1 v2 v3) (fun s => f_X12_sheet N s v1 v2 v3) := by
  rcases shAt v1 with ⟨e1, e2⟩ | ⟨i, hi, rfl, e1, e6, e2⟩
  · refine CC.err h (k := 1) (φ := fun a => a) (by decide) ?_ ?_
    · show f_X11_sheet N S v1 v2 v3 = _
      unfold f_X11_sheet
      rw [e1, bnd_some, oeN]; rfl
    · show f_X12_sheet N (E1 S 1) v1 v2 v3 = _
      unfold f_X12_sheet
      rw [e2, bnd_some, if_pos rfl]; rfl
  · by_cases hb : v2 = 0 ∨ v2 = 8 ∨ v2 = 16 ∨ v2 = 32
    · have cw : ∀ s, f_X6_isWidth s v2 = some 1 := fun s => by
        unfold f_X6_isWidth f_X6_isWidth_22
        rcases hb with rfl | rfl | rfl | rfl <;> rfl
      have cl : f_X11_sheet N S (nI i) v2 v3 = if v2 = 0 then f_X11_sheet_39 N S v2 v3 (158 + 3 * i) else if 0 ≤ v3 then f_X11_sheet_39 N S v2 v3 (158 + 3 * i) else bnd2 (f_X11_fail S 3) (fun a s => some (a, s)) := by
        unfold f_X11_sheet
        rw [e1, bnd_some, oeS, if_pos e6, cw, bnd_some, if_neg (by decide)]
      have ml : ∀ s, f_X12_sheet N s (nI i) v2 v3 = f_X12_sheet_35 N s (nI i) v2 v3 := fun s => by
        unfold f_X12_sheet
        rw [e2, bnd_some, if_neg (by decide)]
        rcases hb with rfl | rfl | rfl | rfl
        · rw [if_pos rfl]
        · rw [if_neg (by decide), if_pos rfl]
        · rw [if_neg (by decide), if_neg (by decide), if_pos rfl]
        · rw [if_neg (by decide), if_neg (by decide), if_neg (by decide), if_pos rfl]
      have h65 : ∀ s, f_X12_sheet_65 N s (nI i) v2 v3 = f_X12_sheet_90 N N (pt (pt s 181 i v2) 182 i (if v2 = 0 then 0 else v3)) (nI i) 0 := fun s => by
        unfold f_X12_sheet_65 f_X12_sheet_86
        rw [if_pos (inb_nI hi (by decide)), nI_clamp (by omega)]
        by_cases c : v2 = 0
        · rw [if_pos c, if_pos c, if_pos (inb_nI hi (by decide))]
        · rw [if_neg c, if_neg c, if_pos (inb_nI hi (by decide))]
      by_cases c0 : v2 = 0
      · refine shMake hN h hi (Nat.zero_le 24) hb (k := 0) ?_ (fun s => ?_)
        · show f_X11_sheet N S (nI i) v2 v3 = _
          rw [cl, if_pos c0]
          unfold f_X11_sheet_39 f_X11_sheet_55 f_X6_make f_X6_make_18
          rw [if_pos c0, if_pos c0, show 158 + 3 * i + 1 = 159 + 3 * i by omega]
          rw [show (0 : Int32) = nI 0 from rfl]
          cases f_X5_reset N (pt S (158 + 3 * i) 1 v2) (159 + 3 * i) (nI 0) <;> rfl
        · show f_X12_sheet N s (nI i) v2 v3 = _
          rw [ml]
          unfold f_X12_sheet_35 f_X12_sheet_49
          rw [if_pos c0, if_pos c0, h65, if_pos c0]; rfl
      · by_cases c1 : 0 ≤ v3
        · obtain ⟨n, hn, rfl⟩ := nI_of (x := v3) (Int32.not_lt.mpr c1)
          by_cases c2 : n ≤ 24
          · refine shMake hN h hi c2 hb (k := n) ?_ (fun s => ?_)
            · show f_X11_sheet N S (nI i) v2 (nI n) = _
              rw [cl, if_neg c0, if_pos c1]
              unfold f_X11_sheet_39 f_X11_sheet_55 f_X6_make f_X6_make_18
              rw [if_neg c0, k24, if_pos (nI_le c2 (by decide)), if_neg c0, show 158 + 3 * i + 1 = 159 + 3 * i by omega]
              cases f_X5_reset N (pt S (158 + 3 * i) 1 v2) (159 + 3 * i) (nI n) <;> rfl
            · show f_X12_sheet N s (nI i) v2 (nI n) = _
              rw [ml]
              unfold f_X12_sheet_35 f_X12_sheet_49
              rw [if_neg c0, if_pos c1, if_neg c0, k24, if_pos (nI_le c2 (by decide)), h65, if_neg c0]
          · refine CC.err h (k := 1) (φ := fun a => a) (by decide) ?_ ?_
            · show f_X11_sheet N S (nI i) v2 (nI n) = _
              rw [cl, if_neg c0, if_pos c1]
              unfold f_X11_sheet_39
              rw [if_neg c0, k24, if_neg (nI_ge (by omega) hn)]; rfl
            · show f_X12_sheet N (E1 S 1) (nI i) v2 (nI n) = _
              rw [ml]
              unfold f_X12_sheet_35 f_X12_sheet_49
              rw [if_neg c0, if_pos c1, if_neg c0, k24, if_neg (nI_ge (by omega) hn)]; rfl
        · refine CC.err h (k := 3) (φ := fun a => a) (by decide) ?_ ?_
          · show f_X11_sheet N S (nI i) v2 v3 = _
            rw [cl, if_neg c0, if_neg c1]; rfl
          · show f_X12_sheet N (E1 S 3) (nI i) v2 v3 = _
            rw [ml]
            unfold f_X12_sheet_35
            rw [if_neg c0, if_neg c1]; rfl
    · have d0 : ¬ v2 = 0 := fun e => hb (Or.inl e)
      have d1 : ¬ v2 = 8 := fun e => hb (Or.inr (Or.inl e))
      have d2 : ¬ v2 = 16 := fun e => hb (Or.inr (Or.inr (Or.inl e)))
      have d3 : ¬ v2 = 32 := fun e => hb (Or.inr (Or.inr (Or.inr e)))
      refine CC.err h (k := 1) (φ := fun a => a) (by decide) ?_ ?_
      · show f_X11_sheet N S (nI i) v2 v3 = _
        unfold f_X11_sheet f_X6_isWidth
        rw [e1, bnd_some, oeS, if_pos e6, if_neg d0, if_neg d1, if_neg d2, if_neg d3, bnd_some, if_pos rfl]; rfl
      · show f_X12_sheet N (E1 S 1) (nI i) v2 v3 = _
        unfold f_X12_sheet
        rw [e2, bnd_some, if_neg (by decide), if_neg d0, if_neg d1, if_neg d2, if_neg d3]; rfl
def hol (n : Nat) (v1 v2 : Int32) : Int32 := if v1 < 0 then 0 else if v2 < 0 then 0 else if nI n - v2 < v1 then 0 else 1
theorem cHolds {S : St} {a n : Nat} {v1 v2 : Int32} (h : S.1 (a + 1) 1 = nI n) : f_X6_holds S a v1 v2 = some (hol n v1 v2) := by
  unfold f_X6_holds hol f_X5_size
  rw [h, bnd_some]
  split
  · rfl
  · split
    · rfl
    · split <;> rfl
theorem hol_1 {n : Nat} {v : Int32} : hol n v 1 = wi v (nI n - 1) := by
  unfold hol wi
  split
  · rfl
  · rw [if_neg (by decide)]
theorem cMiss {S : St} {a : Nat} {b : Int32} (h : S.1 a 1 = b) : f_X6_isMissing S a = some (if b = 0 then 1 else 0) := by
  unfold f_X6_isMissing
  rw [h]
  split <;> rfl
/-! narrowing by shifts -/
theorem nar_bv (x : BitVec 32) (s t : Nat) (hs : s + t = 32) (ht : 0 < t) : ((x <<< s).sshiftRight s) = BitVec.signExtend 32 (BitVec.signExtend t x) := by
  apply BitVec.eq_of_getLsbD_eq
  intro i hi
  rw [BitVec.getLsbD_sshiftRight, BitVec.getLsbD_signExtend, BitVec.msb_eq_getLsbD_last, BitVec.msb_eq_getLsbD_last, BitVec.getLsbD_signExtend, BitVec.getLsbD_signExtend, BitVec.getLsbD_shiftLeft, BitVec.getLsbD_shiftLeft]
  by_cases c : i < t
  · simp [c, hi, show s + i < 32 by omega, show ¬ 32 ≤ i by omega, show ¬ s + i < s by omega]
  · simp [c, hi, show ¬ s + i < 32 by omega, show ¬ 32 ≤ i by omega, show ¬ 31 < s by omega, show t - 1 < t by omega, show t - 1 < 32 by omega, show 31 - s = t - 1 by omega]
theorem nar8 (v : Int32) : (v <<< ((24 : Int32) &&& 31)) >>> ((24 : Int32) &&& 31) = v.toInt8.toInt32 := by
  apply Int32.toBitVec_inj.mp
  exact nar_bv v.toBitVec 24 8 rfl (by decide)
theorem nar16 (v : Int32) : (v <<< ((16 : Int32) &&& 31)) >>> ((16 : Int32) &&& 31) = v.toInt16.toInt32 := by
  apply Int32.toBitVec_inj.mp
  exact nar_bv v.toBitVec 16 16 rfl (by decide)
theorem nar32 (v : Int32) : (v <<< ((0 : Int32) &&& 31)) >>> ((0 : Int32) &&& 31) = v := by
  apply Int32.toBitVec_inj.mp
  have := nar_bv v.toBitVec 0 32 rfl (by decide)
  rw [BitVec.signExtend_eq, BitVec.signExtend_eq] at this
  exact this
def nrw (b v : Int32) : Int32 := if b = 8 then v.toInt8.toInt32 else if b = 16 then v.toInt16.toInt32 else v
theorem nrw_eq {b v : Int32} (hb : b = 0 ∨ b = 8 ∨ b = 16 ∨ b = 32) (h0 : ¬ b = 0) : (v <<< (((32 : Int32) - b) &&& 31)) >>> (((32 : Int32) - b) &&& 31) = nrw b v := by
  rcases hb with rfl | rfl | rfl | rfl
  · exact absurd rfl h0
  · exact nar8 v
  · exact nar16 v
  · exact nar32 v
theorem K_put {S : St} (h : IV S) (v1 v2 v3 : Int32) : CC S (fun s => f_X11_put s v1 v2 v3) (fun s => f_X12_put s v1 v2 v3) := by
  rcases shAt v1 with ⟨e1, e2⟩ | ⟨i, hi, rfl, e1, e6, e2⟩
  · refine CC.err h (k := 1) (φ := fun a => a) (by decide) ?_ ?_
    · show f_X11_put S v1 v2 v3 = _
      unfold f_X11_put
      rw [e1, bnd_some, oeN]; rfl
    · show f_X12_put (E1 S 1) v1 v2 v3 = _
      unfold f_X12_put
      rw [e2, bnd_some, if_pos rfl]; rfl
  · obtain ⟨n, hn, b1, b2, b3, b4, b5⟩ := h.2.2.2.2.1 i hi
    have hmi := cMiss (S := S) (a := 158 + 3 * i) b1
    have hho := cHolds (S := S) (a := 158 + 3 * i) (n := n) (v1 := v2) (v2 := 1) (by rw [show 158 + 3 * i + 1 = 159 + 3 * i by omega]; exact b3)
    rw [hol_1] at hho
    by_cases c0 : S.1 181 i = 0
    · refine CC.err h (k := 2) (φ := fun a => a) (by decide) ?_ ?_
      · show f_X11_put S (nI i) v2 v3 = _
        unfold f_X11_put
        rw [e1, bnd_some, oeS, if_pos e6, hmi, bnd_some, if_pos c0, if_neg (by decide)]; rfl
      · show f_X12_put (E1 S 2) (nI i) v2 v3 = _
        unfold f_X12_put
        rw [e2, bnd_some, if_neg (by decide), if_pos (inb_nI hi (by decide)), nI_clamp (by omega), E1_nek (by decide), if_pos c0]; rfl
    · rcases wi_p (v := v2) (n := n) (by omega) with e | ⟨p, hp, rfl, e⟩
      · refine CC.err h (k := 1) (φ := fun a => a) (by decide) ?_ ?_
        · show f_X11_put S (nI i) v2 v3 = _
          unfold f_X11_put
          rw [e1, bnd_some, oeS, if_pos e6, hmi, bnd_some, if_neg c0, if_pos rfl, hho, bnd_some, e, if_pos rfl]; rfl
        · show f_X12_put (E1 S 1) (nI i) v2 v3 = _
          unfold f_X12_put
          rw [e2, bnd_some, if_neg (by decide), if_pos (inb_nI hi (by decide)), nI_clamp (by omega), E1_nek (by decide), if_neg c0, if_pos (inb_nI hi (by decide)), E1_nek (by decide), b4, mIn, bnd_some, e, if_pos rfl]; rfl
      · have hwr : f_X6_write S (158 + 3 * i) (nI p) v3 = some (pt S (160 + 3 * i) p (nrw (S.1 181 i) v3)) := by
          have hst : ∀ x, f_X5_set S (158 + 3 * i + 1) (nI p) x = some (pt S (160 + 3 * i) p x) := fun x => by
            have := p_set (S := S) (r := 158 + 3 * i + 1) (n := n) (i := p) (v := x) ⟨by rw [show 158 + 3 * i + 1 = 159 + 3 * i by omega]; exact b3, by rw [show 158 + 3 * i + 1 + 1 = 160 + 3 * i by omega, ln_sh hi]; exact hn, by rw [show 158 + 3 * i + 1 + 1 = 160 + 3 * i by omega, ln_sh hi]; decide⟩ hp
            rw [this, show 158 + 3 * i + 1 + 1 = 160 + 3 * i by omega]
          unfold f_X6_write f_X6_write_34 nrw
          rw [b1, hst, hst, hst, bnd_some, bnd_some, bnd_some]
          split
          · rfl
          · split <;> rfl
        have f1 : ∀ q, q ≠ 160 + 3 * i → (pt S (160 + 3 * i) p (nrw (S.1 181 i) v3)).1 q = S.1 q := fun q hq => pt_nek hq
        refine ⟨1, pt S (160 + 3 * i) p (nrw (S.1 181 i) v3), pt (pt S (160 + 3 * i) p (nrw (S.1 181 i) v3)) 183 (24 * i + p) (nrw (S.1 181 i) v3), ?_, fun q hq => pt_nek (by omega), ?_, h.sh (fun q x1 x2 x3 x4 x5 => by rw [pt_nek x4, pt_nek (by omega)]) (fun j hj => ?_)⟩
        · show f_X11_put S (nI i) (nI p) v3 = _
          unfold f_X11_put
          rw [e1, bnd_some, oeS, if_pos e6, hmi, bnd_some, if_neg c0, if_pos rfl, hho, bnd_some, e, if_neg (by decide), hwr, bnd_some]
        · show f_X12_put _ (nI i) (nI p) v3 = _
          unfold f_X12_put
          rw [e2, bnd_some, if_neg (by decide), if_pos (inb_nI hi (by decide)), nI_clamp (n := i) (by omega), f1 181 (by omega), if_neg c0, if_pos (inb_nI hi (by decide)), f1 182 (by omega), b4, mIn, bnd_some, e, if_neg (by decide), if_pos (inb_nI hi (by decide)), k24, pk_mul, nI_add, if_pos (inb_nI (by omega) (by decide)), nI_clamp (n := 24 * i + p) (by omega), nrw_eq b2 c0]
        · by_cases c : j = i
          · subst c
            refine ⟨n, hn, ?_, ?_, ?_, ?_, fun x hx => ?_⟩
            · rw [pt_nek (by omega), pt_nek (by omega), b1, pt_nek (by omega), pt_nek (by omega)]
            · rw [pt_nek (by omega), pt_nek (by omega)]; exact b2
            · rw [pt_nek (by omega), pt_nek (by omega)]; exact b3
            · rw [pt_nek (by omega), pt_nek (by omega)]; exact b4
            · rw [pt_nek (by omega)]
              by_cases ex : x = p
              · subst ex; rw [pt_at, pt_at]
              · rw [pt_nej ex, pt_nej (by omega), pt_nek (by omega)]; exact b5 x hx
          · exact (h.2.2.2.2.1 j hj).of (fun q hq => by rw [pt_nek (by omega), pt_nek (by omega)]) (by rw [pt_nek (by omega), pt_nek (by omega)]) (by rw [pt_nek (by omega), pt_nek (by omega)]) (fun x hx => by rw [pt_nej (by omega), pt_nek (by omega)])
