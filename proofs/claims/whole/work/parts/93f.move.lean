/-! move -/
theorem hol_ne {n : Nat} {v1 v2 : Int32} (h : ¬ hol n v1 v2 = 0) : ¬ v1 < 0 ∧ ¬ v2 < 0 ∧ ¬ nI n - v2 < v1 := by
  unfold hol at h
  by_cases a : v1 < 0
  · rw [if_pos a] at h; exact absurd rfl h
  · rw [if_neg a] at h
    by_cases b : v2 < 0
    · rw [if_pos b] at h; exact absurd rfl h
    · rw [if_neg b] at h
      by_cases c : nI n - v2 < v1
      · rw [if_pos c] at h; exact absurd rfl h
      · exact ⟨a, b, c⟩
theorem hol_ok {n : Nat} {v1 v2 : Int32} (h : ¬ v1 < 0 ∧ ¬ v2 < 0 ∧ ¬ nI n - v2 < v1) : hol n v1 v2 = 1 := by
  unfold hol
  rw [if_neg h.1, if_neg h.2.1, if_neg h.2.2]
theorem hol_in {n : Nat} {v1 v2 : Int32} (hn : n ≤ 24) (h : ¬ v1 < 0 ∧ ¬ v2 < 0 ∧ ¬ nI n - v2 < v1) : ∃ a c, v1 = nI a ∧ v2 = nI c ∧ a + c ≤ n := by
  obtain ⟨h1, h2, h3⟩ := h
  obtain ⟨a, ha, rfl⟩ := nI_of h1
  obtain ⟨c, hc, rfl⟩ := nI_of h2
  refine ⟨a, c, rfl, rfl, ?_⟩
  rw [Int32.lt_iff_toInt_lt, nI_toInt ha, Int32.toInt_sub, nI_toInt (by omega), nI_toInt hc, Int.bmod_eq_of_le (by omega) (by omega)] at h3
  omega
theorem mMoved {N : Nat} (hN : 100 < N) {S : St} {i1 i2 a b n : Nat} (h1 : i1 < 4) (h2 : i2 < 4) (ha : a + n ≤ 24) (hb : b + n ≤ 24) : ∃ S', f_X12_move_115 N N S (nI i1) (nI a) (nI i2) (nI b) (nI n) 0 = some (nI n, S') ∧ (∀ q, q ≠ 183 → q ≠ 184 → S'.1 q = S.1 q) ∧ ∀ x, S'.1 183 x = if 24 * i2 + b ≤ x ∧ x < 24 * i2 + b + n then S.1 183 (24 * i1 + (a + (x - (24 * i2 + b)))) else S.1 183 x := by
  have s1 : ∀ (f j : Nat) (s : St) (u : Unit), j < n → ((∀ q, q ≠ 184 → s.1 q = S.1 q) ∧ ∀ x, x < j → s.1 184 x = S.1 183 (24 * i1 + (a + x))) → ∃ s', f_X12_move_115 N (f + 1) s (nI i1) (nI a) (nI i2) (nI b) (nI n) (nI j) = f_X12_move_115 N f s' (nI i1) (nI a) (nI i2) (nI b) (nI n) (nI (j + 1)) ∧ ((∀ q, q ≠ 184 → s'.1 q = S.1 q) ∧ ∀ x, x < j + 1 → s'.1 184 x = S.1 183 (24 * i1 + (a + x))) := by
    intro f j s _ hj hR
    refine ⟨pt s 184 j (S.1 183 (24 * i1 + (a + j))), ?_, fun q hq => by rw [pt_nek hq]; exact hR.1 q hq, fun x hx => ?_⟩
    · have e : (24 : Int32) * nI i1 + nI a + nI j = nI (24 * i1 + (a + j)) := by rw [k24, pk_mul, nI_add, nI_add, Nat.add_assoc]
      rw [f_X12_move_115, if_neg (nI_ge hj (by omega)), e, if_pos (inb_nI (by omega) (by decide)), if_pos (inb_nI (by omega) (by decide)), nI_clamp (n := j) (by omega), nI_clamp (by omega), hR.1 183 (by decide), nI_1]
    · by_cases c : x = j
      · subst c; rw [pt_at]
      · rw [pt_nej c]; exact hR.2 x (by omega)
  obtain ⟨A, f1, a1, a2⟩ := loopR (fun f j s => f_X12_move_115 N f s (nI i1) (nI a) (nI i2) (nI b) (nI n) (nI j)) (fun j s (_ : Unit) => (∀ q, q ≠ 184 → s.1 q = S.1 q) ∧ ∀ x, x < j → s.1 184 x = S.1 183 (24 * i1 + (a + x))) (fun _ u => u) n s1 n 0 N S () ⟨fun _ _ => rfl, fun x hx => absurd hx (Nat.not_lt_zero _)⟩ (by omega) (by omega)
  have s2 : ∀ (f j : Nat) (s : St) (u : Unit), j < n → ((∀ q, q ≠ 183 → s.1 q = A.1 q) ∧ ∀ x, s.1 183 x = if 24 * i2 + b ≤ x ∧ x < 24 * i2 + b + j then A.1 184 (x - (24 * i2 + b)) else A.1 183 x) → ∃ s', f_X12_move_152 N (f + 1) s (nI i2) (nI b) (nI n) (nI j) = f_X12_move_152 N f s' (nI i2) (nI b) (nI n) (nI (j + 1)) ∧ ((∀ q, q ≠ 183 → s'.1 q = A.1 q) ∧ ∀ x, s'.1 183 x = if 24 * i2 + b ≤ x ∧ x < 24 * i2 + b + (j + 1) then A.1 184 (x - (24 * i2 + b)) else A.1 183 x) := by
    intro f j s _ hj hR
    refine ⟨pt s 183 (24 * i2 + b + j) (A.1 184 j), ?_, fun q hq => by rw [pt_nek hq]; exact hR.1 q hq, fun x => ?_⟩
    · have e : (24 : Int32) * nI i2 + nI b + nI j = nI (24 * i2 + b + j) := by rw [k24, pk_mul, nI_add, nI_add]
      rw [f_X12_move_152, if_neg (nI_ge hj (by omega)), e, if_pos (inb_nI (by omega) (by decide)), if_pos (inb_nI (by omega) (by decide)), nI_clamp (n := j) (by omega), nI_clamp (by omega), hR.1 184 (by decide), nI_1]
    · by_cases c : x = 24 * i2 + b + j
      · subst c
        rw [pt_at, if_pos (by omega), show 24 * i2 + b + j - (24 * i2 + b) = j by omega]
      · rw [pt_nej c, hR.2 x]
        by_cases d : 24 * i2 + b ≤ x ∧ x < 24 * i2 + b + j
        · rw [if_pos d, if_pos (by omega)]
        · rw [if_neg d, if_neg (by omega)]
  obtain ⟨B, f2, b1, b2⟩ := loopR (fun f j s => f_X12_move_152 N f s (nI i2) (nI b) (nI n) (nI j)) (fun j s (_ : Unit) => (∀ q, q ≠ 183 → s.1 q = A.1 q) ∧ ∀ x, s.1 183 x = if 24 * i2 + b ≤ x ∧ x < 24 * i2 + b + j then A.1 184 (x - (24 * i2 + b)) else A.1 183 x) (fun _ u => u) n s2 n 0 N A () ⟨fun _ _ => rfl, fun x => by rw [if_neg (by omega)]⟩ (by omega) (by omega)
  refine ⟨B, ?_, fun q x1 x2 => by rw [b2.1 q x1, a2.1 q x2], fun x => ?_⟩
  · refine a1.trans ?_
    show f_X12_move_115 N (f1 + 1) A (nI i1) (nI a) (nI i2) (nI b) (nI n) (nI n) = _
    rw [f_X12_move_115, if_pos (nI_le (Nat.le_refl _) (by omega))]
    refine Eq.trans b1 ?_
    show f_X12_move_152 N (f2 + 1) B (nI i2) (nI b) (nI n) (nI n) = _
    rw [f_X12_move_152, if_pos (nI_le (Nat.le_refl _) (by omega))]
  · rw [b2.2 x]
    by_cases d : 24 * i2 + b ≤ x ∧ x < 24 * i2 + b + n
    · rw [if_pos d, if_pos d, a2.2 _ (by omega)]
    · rw [if_neg d, if_neg d, a2.1 183 (by decide)]
theorem K_move {N : Nat} (hN : 100 < N) {S : St} (h : IV S) (v1 v2 v3 v4 v5 : Int32) : CC S (fun s => f_X11_move s v1 v2 v3 v4 v5) (fun s => f_X12_move N s v1 v2 v3 v4 v5) := by
  rcases shAt v1 with ⟨e1, e2⟩ | ⟨i, hi, rfl, e1, e6, e2⟩
  · refine CC.err h (k := 1) (φ := fun a => a) (by decide) ?_ ?_
    · show f_X11_move S v1 v2 v3 v4 v5 = _
      unfold f_X11_move
      rw [e1, bnd_some, oeN]
      rcases shAt v3 with ⟨d1, d2⟩ | ⟨j, hj, rfl, d1, d6, d2⟩
      · rw [d1, bnd_some, oeN]; rfl
      · rw [d1, bnd_some, oeS, if_pos d6]; rfl
    · show f_X12_move N (E1 S 1) v1 v2 v3 v4 v5 = _
      unfold f_X12_move
      rw [e2, bnd_some, if_pos rfl]; rfl
  · rcases shAt v3 with ⟨d1, d2⟩ | ⟨j, hj, rfl, d1, d6, d2⟩
    · refine CC.err h (k := 1) (φ := fun a => a) (by decide) ?_ ?_
      · show f_X11_move S (nI i) v2 v3 v4 v5 = _
        unfold f_X11_move
        rw [e1, bnd_some, oeS, if_pos e6, d1, bnd_some, oeN]; rfl
      · show f_X12_move N (E1 S 1) (nI i) v2 v3 v4 v5 = _
        unfold f_X12_move
        rw [e2, bnd_some, if_neg (by decide), d2, bnd_some, if_pos rfl]; rfl
    · obtain ⟨n1, hn1, b1, b2, b3, b4, b5⟩ := h.2.2.2.2.1 i hi
      obtain ⟨n2, hn2, c1, c2, c3, c4, c5⟩ := h.2.2.2.2.1 j hj
      have hm1 := cMiss (S := S) (a := 158 + 3 * i) b1
      have hm2 := cMiss (S := S) (a := 158 + 3 * j) c1
      have hh1 := cHolds (S := S) (a := 158 + 3 * i) (n := n1) (v1 := v2) (v2 := v5) (by rw [show 158 + 3 * i + 1 = 159 + 3 * i by omega]; exact b3)
      have hh2 := cHolds (S := S) (a := 158 + 3 * j) (n := n2) (v1 := v4) (v2 := v5) (by rw [show 158 + 3 * j + 1 = 159 + 3 * j by omega]; exact c3)
      have q1 : inb (nI i) 4 = true := inb_nI hi (by decide)
      have q2 : inb (nI j) 4 = true := inb_nI hj (by decide)
      have q3 : (nI i).toNatClampNeg = i := nI_clamp (by omega)
      have q4 : (nI j).toNatClampNeg = j := nI_clamp (by omega)
      have g181 : ∀ k, (E1 S k).1 181 = S.1 181 := fun k => E1_nek (by decide)
      have g182 : ∀ k, (E1 S k).1 182 = S.1 182 := fun k => E1_nek (by decide)
      by_cases z1 : S.1 181 i = 0
      · refine CC.err h (k := 2) (φ := fun a => a) (by decide) ?_ ?_
        · show f_X11_move S (nI i) v2 (nI j) v4 v5 = _
          unfold f_X11_move
          rw [e1, bnd_some, oeS, if_pos e6, d1, bnd_some, oeS, if_pos d6, hm1, bnd_some, if_pos z1, if_neg (by decide)]; rfl
        · show f_X12_move N (E1 S 2) (nI i) v2 (nI j) v4 v5 = _
          unfold f_X12_move
          rw [e2, bnd_some, if_neg (by decide), d2, bnd_some, if_neg (by decide), if_pos q1, q3, g181, if_pos z1]; rfl
      by_cases z2 : S.1 181 j = 0
      · refine CC.err h (k := 2) (φ := fun a => a) (by decide) ?_ ?_
        · show f_X11_move S (nI i) v2 (nI j) v4 v5 = _
          unfold f_X11_move
          rw [e1, bnd_some, oeS, if_pos e6, d1, bnd_some, oeS, if_pos d6, hm1, bnd_some, if_neg z1, if_pos rfl, hm2, bnd_some, if_pos z2, if_neg (by decide)]; rfl
        · show f_X12_move N (E1 S 2) (nI i) v2 (nI j) v4 v5 = _
          unfold f_X12_move
          rw [e2, bnd_some, if_neg (by decide), d2, bnd_some, if_neg (by decide), if_pos q1, q3, g181, if_neg z1, if_pos q2, q4, if_pos z2]; rfl
      by_cases zb : S.1 181 i = S.1 181 j
      rotate_left
      · refine CC.err h (k := 5) (φ := fun a => a) (by decide) ?_ ?_
        · show f_X11_move S (nI i) v2 (nI j) v4 v5 = _
          unfold f_X11_move
          rw [e1, bnd_some, oeS, if_pos e6, d1, bnd_some, oeS, if_pos d6, hm1, bnd_some, if_neg z1, if_pos rfl, hm2, bnd_some, if_neg z2, if_pos rfl, b1, c1, if_neg zb]; rfl
        · show f_X12_move N (E1 S 5) (nI i) v2 (nI j) v4 v5 = _
          unfold f_X12_move
          rw [e2, bnd_some, if_neg (by decide), d2, bnd_some, if_neg (by decide), if_pos q1, q3, g181, if_neg z1, if_pos q2, q4, if_neg z2, if_pos q1, if_pos q2, if_neg zb]; rfl
      have cl : f_X11_move S (nI i) v2 (nI j) v4 v5 = if hol n1 v2 v5 = 0 then f_X11_move_94 S else if hol n2 v4 v5 = 0 then f_X11_move_94 S else bnd (f_X5_take S (158 + 3 * j + 1) (158 + 3 * i + 1) v2 v4 v5) (fun s => some (v5, s)) := by
        unfold f_X11_move
        rw [e1, bnd_some, oeS, if_pos e6, d1, bnd_some, oeS, if_pos d6, hm1, bnd_some, if_neg z1, if_pos rfl, hm2, bnd_some, if_neg z2, if_pos rfl, b1, c1, if_pos zb, hh1, bnd_some, hh2, bnd_some]
      have ml : ∀ s, s.1 181 = S.1 181 → s.1 182 = S.1 182 → f_X12_move N s (nI i) v2 (nI j) v4 v5 = if v5 < 0 then f_X12_move_106 N s else if v2 < 0 then f_X12_move_106 N s else if v4 < 0 then f_X12_move_106 N s else if nI n1 - v5 < v2 then f_X12_move_106 N s else if v4 ≤ nI n2 - v5 then f_X12_move_115 N N s (nI i) v2 (nI j) v4 v5 0 else f_X12_move_106 N s := fun s g1 g2 => by
        unfold f_X12_move
        rw [e2, bnd_some, if_neg (by decide), d2, bnd_some, if_neg (by decide), if_pos q1, q3, g1, if_neg z1, if_pos q2, q4, if_neg z2, if_pos q1, if_pos q2, if_pos zb, if_pos q1, g2, b4, if_pos q2, c4]
      by_cases good : (¬ v2 < 0 ∧ ¬ v5 < 0 ∧ ¬ nI n1 - v5 < v2) ∧ (¬ v4 < 0 ∧ ¬ v5 < 0 ∧ ¬ nI n2 - v5 < v4)
      · obtain ⟨a, n, rfl, rfl, hab⟩ := hol_in hn1 good.1
        obtain ⟨b, n', rfl, en, hbb⟩ := hol_in hn2 good.2
        have en' : n = n' := (nI_eq (by omega) (by omega)).mp en
        subst en'
        have ht := p_take (S := S) (r := 158 + 3 * j + 1) (r2 := 158 + 3 * i + 1) (i := a) (j := b) (n := n) (by rw [show 158 + 3 * j + 1 + 1 = 160 + 3 * j by omega, ln_sh hj]; decide) (by rw [show 158 + 3 * i + 1 + 1 = 160 + 3 * i by omega, ln_sh hi]; decide) (by rw [show 158 + 3 * i + 1 + 1 = 160 + 3 * i by omega, ln_sh hi]; omega) (by rw [show 158 + 3 * j + 1 + 1 = 160 + 3 * j by omega, ln_sh hj]; omega)
        rw [show 158 + 3 * j + 1 + 1 = 160 + 3 * j by omega, show 158 + 3 * i + 1 + 1 = 160 + 3 * i by omega] at ht
        generalize eA : pa S (160 + 3 * j) (fun k => if b ≤ k ∧ k < b + n then S.1 (160 + 3 * i) (a + (k - b)) else S.1 (160 + 3 * j) k) = A at ht
        have fA : ∀ q, q ≠ 160 + 3 * j → A.1 q = S.1 q := fun q hq => by rw [← eA, pa_nek hq]
        have hA : ∀ k, A.1 (160 + 3 * j) k = if b ≤ k ∧ k < b + n then S.1 (160 + 3 * i) (a + (k - b)) else S.1 (160 + 3 * j) k := fun k => by rw [← eA, pa_same]
        obtain ⟨B, m1, m2, m3⟩ := mMoved hN (S := A) (i1 := i) (i2 := j) (a := a) (b := b) (n := n) hi hj (by omega) (by omega)
        have fB : ∀ q, q ≠ 160 + 3 * j → q ≠ 183 → q ≠ 184 → B.1 q = S.1 q := fun q x1 x2 x3 => by rw [m2 q x2 x3, fA q x1]
        refine ⟨nI n, A, B, ?_, fun q hq => fA q (by omega), ?_, h.sh (fun q x1 x2 x3 x4 x5 => fB q (by omega) x4 x5) (fun k hk => ?_)⟩
        · show f_X11_move S (nI i) (nI a) (nI j) (nI b) (nI n) = _
          rw [cl, hol_ok good.1, hol_ok good.2, if_neg (by decide), if_neg (by decide), ht, bnd_some]
        · show f_X12_move N A (nI i) (nI a) (nI j) (nI b) (nI n) = _
          rw [ml A (fA 181 (by omega)) (fA 182 (by omega)), if_neg good.1.2.1, if_neg good.1.1, if_neg good.2.1, if_neg good.1.2.2, if_pos (Int32.not_lt.mp good.2.2.2), m1]
        · by_cases c : k = j
          · subst c
            refine ⟨n2, hn2, ?_, ?_, ?_, ?_, fun x hx => ?_⟩
            · rw [fB _ (by omega) (by omega) (by omega), fB 181 (by omega) (by omega) (by omega)]; exact c1
            · rw [fB 181 (by omega) (by omega) (by omega)]; exact c2
            · rw [fB _ (by omega) (by omega) (by omega)]; exact c3
            · rw [fB 182 (by omega) (by omega) (by omega)]; exact c4
            · rw [m2 _ (by omega) (by omega), hA, m3, fA 183 (by omega)]
              by_cases d : b ≤ x ∧ x < b + n
              · rw [if_pos d, if_pos (by omega), b5 _ (by omega), show 24 * k + x - (24 * k + b) = x - b by omega]
              · rw [if_neg d, if_neg (by omega)]; exact c5 x hx
          · refine (h.2.2.2.2.1 k hk).of (fun q hq => fB q (by omega) (by omega) (by omega)) (by rw [fB 181 (by omega) (by omega) (by omega)]) (by rw [fB 182 (by omega) (by omega) (by omega)]) (fun x hx => ?_)
            rw [m3, if_neg (by omega), fA 183 (by omega)]
      · refine CC.err h (k := 1) (φ := fun a => a) (by decide) ?_ ?_
        · show f_X11_move S (nI i) v2 (nI j) v4 v5 = _
          rw [cl]
          by_cases w1 : hol n1 v2 v5 = 0
          · rw [if_pos w1]; rfl
          · rw [if_neg w1]
            by_cases w2 : hol n2 v4 v5 = 0
            · rw [if_pos w2]; rfl
            · exact absurd ⟨hol_ne w1, hol_ne w2⟩ good
        · show f_X12_move N (E1 S 1) (nI i) v2 (nI j) v4 v5 = _
          rw [ml _ (g181 1) (g182 1)]
          by_cases w1 : v5 < 0
          · rw [if_pos w1]; rfl
          · rw [if_neg w1]
            by_cases w2 : v2 < 0
            · rw [if_pos w2]; rfl
            · rw [if_neg w2]
              by_cases w3 : v4 < 0
              · rw [if_pos w3]; rfl
              · rw [if_neg w3]
                by_cases w4 : nI n1 - v5 < v2
                · rw [if_pos w4]; rfl
                · rw [if_neg w4]
                  by_cases w5 : v4 ≤ nI n2 - v5
                  · exact absurd ⟨⟨w2, w1, w4⟩, w3, w1, Int32.not_lt.mpr w5⟩ good
                  · rw [if_neg w5]; rfl
