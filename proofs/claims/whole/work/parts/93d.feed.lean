/-! feed -/
theorem byte_bv (x : BitVec 64) (s : Nat) (hs : s ≤ 56) : (BitVec.signExtend 32 (x >>> s)) &&& 255#32 = BitVec.signExtend 32 ((x.sshiftRight s) &&& 255#64) := by
  apply BitVec.eq_of_getLsbD_eq
  intro i hi
  rw [BitVec.getLsbD_and, BitVec.getLsbD_signExtend, BitVec.getLsbD_signExtend, if_pos (show i < 64 by omega), if_pos (show i < 64 by omega), BitVec.getLsbD_and, BitVec.getLsbD_ushiftRight, BitVec.getLsbD_sshiftRight, BitVec.getLsbD_ofNat, BitVec.getLsbD_ofNat]
  by_cases c : i < 8
  · rw [if_pos (show s + i < 64 by omega)]
    simp [hi, show i < 64 by omega, show ¬ 64 ≤ i by omega]
  · have : Nat.testBit 255 i = false := by
      apply Nat.testBit_lt_two_pow
      have : 2 ^ 8 ≤ 2 ^ i := Nat.pow_le_pow_right (by decide) (by omega)
      omega
    simp [this]
def byt (x : Int64) (k : Nat) : Int32 := ((x >>> ((8 * nI k).toInt64 &&& 63)) &&& 255).toInt32
theorem byte_eq (x : Int64) {k : Nat} (hk : k < 8) : ((x.toUInt64 >>> ((8 * nI k).toInt64.toUInt64 &&& Int64.toUInt64 63)).toInt64).toInt32 &&& 255 = byt x k := by
  have e1 : (((8 * nI k).toInt64.toUInt64 &&& Int64.toUInt64 63).toBitVec % 64).toNat = 8 * k ∧ (((8 * nI k).toInt64 &&& 63).toBitVec.smod 64).toNat = 8 * k := by
    have e : k = 0 ∨ k = 1 ∨ k = 2 ∨ k = 3 ∨ k = 4 ∨ k = 5 ∨ k = 6 ∨ k = 7 := by omega
    rcases e with rfl | rfl | rfl | rfl | rfl | rfl | rfl | rfl <;> decide
  apply Int32.toBitVec_inj.mp
  have eL : (((x.toUInt64 >>> ((8 * nI k).toInt64.toUInt64 &&& Int64.toUInt64 63)).toInt64).toInt32 &&& 255).toBitVec = (BitVec.signExtend 32 (x.toBitVec >>> (8 * k))) &&& 255#32 := by
    rw [← e1.1]
    rfl
  have eR : (byt x k).toBitVec = BitVec.signExtend 32 ((x.toBitVec.sshiftRight (8 * k)) &&& 255#64) := by
    rw [← e1.2]
    rfl
  rw [eL, eR]
  exact byte_bv _ _ (by omega)
theorem byt_n (x : Int64) {k : Nat} (hk : k < 8) : ∃ b, b < 256 ∧ byt x k = nI b := by
  rw [← byte_eq x hk]
  exact pk_andE _ 8 (by decide)
def fS (x : Int64) (i : Nat) (a : Nat → Int32) : Nat → Int32 := upd (upd a (432 + w a 6) (byt x i)) 6 (nI (w a 6 + 1))
theorem fS_wf {x : Int64} {i : Nat} {a : Nat → Int32} (h : WF a) (hi : i < 8) (hn : w a 6 < 60) : WF (fS x i a) ∧ w (fS x i a) 6 = w a 6 + 1 ∧ fS x i a 3 = a 3 := by
  obtain ⟨b, hb, eb⟩ := byt_n x hi
  have h1 : WF (upd a (432 + w a 6) (byt x i)) := h.set eb (by omega) (Or.inr (by omega)) (by rw [l_tape _ hn]; exact hb) (fun p e g => by have := h.np.2; omega) (fun p e g => by have := h.nt.2; omega) (fun p e g => by have := h.nk.2; omega)
  refine ⟨h1.set (n := w a 6 + 1) rfl (by decide) (Or.inl (by decide)) (show w a 6 + 1 < 61 by omega) (fun j e => by omega) (fun j e => by omega) (fun j e => by omega), ?_, ?_⟩
  · unfold fS; rw [w_upd_same (by omega)]
  · unfold fS; rw [upd_ne (by decide), upd_ne (by omega)]
theorem K_feed {N : Nat} (hN : 100 < N) {S : St} (h : IV S) (x : Int64) (v3 : Int32) : CC S (fun s => f_X11_feed N s x v3) (fun s => f_X12_feed N s x v3) := by
  have hT := h.1.1
  have hW := h.1.2.1
  have hb6 := hW.nb
  by_cases c : v3 < 1
  · refine CC.err h (k := 1) (by decide) (φ := fun a => a) ?_ ?_
    · show f_X11_feed N S x v3 = _
      unfold f_X11_feed
      rw [if_pos c]; rfl
    · show f_X12_feed N (E1 S 1) x v3 = _
      unfold f_X12_feed f_X12_in
      rw [if_pos c, bnd_some, if_pos rfl]; rfl
  · obtain ⟨j, hj, rfl⟩ := nI_of (x := v3) (fun e => c (by rw [Int32.lt_iff_toInt_lt] at e ⊢; rw [show (0 : Int32).toInt = 0 from by decide] at e; rw [show (1 : Int32).toInt = 1 from by decide]; omega))
    have hj1 : 1 ≤ j := by
      rw [k1, nI_ltI hj (by decide)] at c; omega
    by_cases d : j ≤ 8
    · have ein : ∀ s, f_X12_in s (nI j) 1 8 = some 1 := fun s => by
        unfold f_X12_in
        rw [if_neg c, k8, if_neg (nI_nlt d (by decide))]
      by_cases g : w (S.1 173) 6 + j ≤ 60
      · -- the class
        have cstep : ∀ (f i : Nat) (s : St) (a : Nat → Int32), i < j → (CR S 8 s a ∧ WF a ∧ w a 6 = w (S.1 173) 6 + i ∧ a 3 = S.1 173 3) → ∃ s', f_X11_feed_43 N (f + 1) s x (nI j) (nI i) = f_X11_feed_43 N f s' x (nI j) (nI (i + 1)) ∧ (CR S 8 s' (fS x i a) ∧ WF (fS x i a) ∧ w (fS x i a) 6 = w (S.1 173) 6 + (i + 1) ∧ fS x i a 3 = S.1 173 3) := by
          intro f i s a hi hR
          obtain ⟨r1, r2, r3, r4⟩ := hR
          have hf := fS_wf (x := x) (i := i) r2 (by omega) (by omega)
          have g0 : s.1 51 1 = nI (w a 6) := (r1.2.1 13 (by decide)).1
          refine ⟨ad s 51 (w a 6) (byt x i), ?_, ⟨fun q x1 x2 => by rw [ad_nek (by omega) (by omega)]; exact r1.1 q x1 x2, ?_⟩, hf.1, by rw [hf.2.1]; omega, by rw [hf.2.2]; exact r4⟩
          · rw [f_X11_feed_43, if_neg (nI_ge hi (by omega)), byte_eq x (by omega), p_ad g0 (show w a 6 < 60 by omega) (by decide), bnd_some, nI_1]
          · exact r1.2.more r2 (k := 13) (c := 6) (b := 432) (Or.inl ⟨rfl, rfl, rfl, by omega⟩) rfl
        obtain ⟨S1, f1, a1, b1⟩ := loopR (fun f i s => f_X11_feed_43 N f s x (nI j) (nI i)) (fun i s a => CR S 8 s a ∧ WF a ∧ w a 6 = w (S.1 173) 6 + i ∧ a 3 = S.1 173 3) (fS x) j cstep j 0 N S (S.1 173) ⟨⟨FrC.refl, hT⟩, hW, rfl, rfl⟩ (by omega) (by omega)
        have e1 : S1.1 173 = S.1 173 := b1.1.1 173 (Or.inr (by decide)) (by decide)
        -- the model
        have mstep : ∀ (f i : Nat) (s : St) (a : Nat → Int32), i < j → ((∀ q, q ≠ 173 → s.1 q = S1.1 q) ∧ s.1 173 = a ∧ WF a ∧ w a 6 = w (S.1 173) 6 + i) → ∃ s', f_X12_feed_39 N (f + 1) s x (nI j) (nI i) = f_X12_feed_39 N f s' x (nI j) (nI (i + 1)) ∧ ((∀ q, q ≠ 173 → s'.1 q = S1.1 q) ∧ s'.1 173 = fS x i a ∧ WF (fS x i a) ∧ w (fS x i a) 6 = w (S.1 173) 6 + (i + 1)) := by
          intro f i s a hi hR
          obtain ⟨r1, r2, r3, r4⟩ := hR
          have hf := fS_wf (x := x) (i := i) r3 (by omega) (by omega)
          have g0 : s.1 173 6 = nI (w a 6) := by rw [r2]; exact r3.nb.1
          refine ⟨pt (pt s 173 (432 + w a 6) (byt x i)) 173 6 (nI (w a 6 + 1)), ?_, fun q hq => by rw [pt_nek hq, pt_nek hq]; exact r1 q hq, by rw [pt_same, pt_same, r2]; rfl, hf.1, by rw [hf.2.1]; omega⟩
          rw [f_X12_feed_39, if_neg (nI_ge hi (by omega)), g0, k432, nI_add, if_pos (inb_nI (by omega) (by decide)), nI_clamp (n := 432 + w a 6) (by omega), pt_nej (show 6 ≠ 432 + w a 6 by omega), g0, nI_1, nI_1]
          rfl
        obtain ⟨S2, f2, a2, b2⟩ := loopR (fun f i s => f_X12_feed_39 N f s x (nI j) (nI i)) (fun i s a => (∀ q, q ≠ 173 → s.1 q = S1.1 q) ∧ s.1 173 = a ∧ WF a ∧ w a 6 = w (S.1 173) 6 + i) (fS x) j mstep j 0 N S1 (S.1 173) ⟨fun _ _ => rfl, e1, hW, rfl⟩ (by omega) (by omega)
        refine ⟨nI (w (S.1 173) 6 + j), S1, S2, ?_, fun q hq => b1.1.1 q (Or.inr (by omega)) (by omega), ?_, h.town (fun q x1 x2 x3 x4 x5 x6 x7 x8 => by rw [b2.1 q x3, b1.1.1 q (by omega) (by omega)]) ⟨?_, ?_, ?_⟩⟩
        · show f_X11_feed N S x (nI j) = _
          unfold f_X11_feed
          rw [if_neg c, k8, if_pos (nI_le d (by decide)), show f_X5_size S 51 = _ from cNb hT hW (Or.inl rfl), bnd_some, k60, nI_sub (by omega), if_pos (nI_le (by omega) (by omega))]
          refine Eq.trans a1 ?_
          show f_X11_feed_43 N (f1 + 1) S1 x (nI j) (nI j) = _
          rw [f_X11_feed_43, if_pos (nI_le (Nat.le_refl _) (by omega)), show f_X5_size S1 51 = _ from cNb b1.1.2 b1.2.1 (Or.inl rfl), bnd_some, b1.2.2.1]
        · show f_X12_feed N S1 x (nI j) = _
          unfold f_X12_feed
          rw [ein, bnd_some, if_neg (by decide), e1, hb6.1, nI_add, k60, if_pos (nI_le g (by decide))]
          refine Eq.trans a2 ?_
          show f_X12_feed_39 N (f2 + 1) S2 x (nI j) (nI j) = _
          rw [f_X12_feed_39, if_pos (nI_le (Nat.le_refl _) (by omega)), b2.2.1, b2.2.2.1.nb.1, b2.2.2.2]
        · rw [b2.2.1]; exact b1.1.2.fr (fun q x1 x2 => b2.1 q (by omega))
        · rw [b2.2.1]; exact b1.2.1
        · rw [b2.2.1]; unfold YR; rw [b1.2.2.2]; exact h.1.2.2
      · refine CC.err h (k := 4) (by decide) (φ := fun a => a) ?_ ?_
        · show f_X11_feed N S x (nI j) = _
          unfold f_X11_feed
          rw [if_neg c, k8, if_pos (nI_le d (by decide)), show f_X5_size S 51 = _ from cNb hT hW (Or.inl rfl), bnd_some, k60, nI_sub (by omega), if_neg (nI_ge (by omega) (by omega))]; rfl
        · show f_X12_feed N (E1 S 4) x (nI j) = _
          unfold f_X12_feed
          rw [ein, bnd_some, if_neg (by decide), E1_nek (by decide), hb6.1, nI_add, k60, if_neg (nI_ge (by omega) (by omega))]; rfl
    · refine CC.err h (k := 1) (by decide) (φ := fun a => a) ?_ ?_
      · show f_X11_feed N S x (nI j) = _
        unfold f_X11_feed
        rw [if_neg c, k8, if_neg (nI_ge (by omega) hj)]; rfl
      · show f_X12_feed N (E1 S 1) x (nI j) = _
        unfold f_X12_feed f_X12_in
        rw [if_neg c, k8, if_pos (nI_lt (by omega) hj), bnd_some, if_pos rfl]; rfl
