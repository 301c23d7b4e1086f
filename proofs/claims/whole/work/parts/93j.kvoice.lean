/-! voice -/
theorem IV.voice {S S2 : St} (h : IV S) {n : Nat} (hl : n ≤ 30) (f : ∀ q, q ≠ 154 → q ≠ 155 → q ≠ 156 → q ≠ 171 → q ≠ 172 → q ≠ 176 → q ≠ 180 → S2.1 q = S.1 q) (f3 : S2.1 172 3 = S.1 172 3) (t1 : S2.1 155 1 = nI n) (t2 : S2.1 172 13 = nI n) (t3 : ∀ i, i < n → S2.1 156 i = S2.1 180 i) (hE : ∀ k, k < 7 → S2.1 171 k = S2.1 176 k) : IV S2 := by
  obtain ⟨h1, h2, h3, h4, h5, h6⟩ := h
  have g : ∀ q, (q < 154 ∨ 156 < q) → (q < 171 ∨ 172 < q) → q ≠ 176 → q ≠ 180 → S2.1 q = S.1 q := fun q a b c d => f q (by omega) (by omega) (by omega) (by omega) (by omega) c d
  refine ⟨⟨?_, ?_, ?_⟩, h2.of (fun q a => g q (by omega) (by omega) (by omega) (by omega)) f3, ⟨?_, hE⟩, ⟨n, hl, t1, t2, t3⟩, fun i hi => (h5 i hi).of (fun q a => g q (by omega) (by omega) (by omega) (by omega)) (by rw [g 181 (by omega) (by omega) (by omega) (by omega)]) (by rw [g 182 (by omega) (by omega) (by omega) (by omega)]) (fun j _ => by rw [g 183 (by omega) (by omega) (by omega) (by omega)]), ?_, ?_, ?_, ?_⟩
  · rw [g 173 (by omega) (by omega) (by omega) (by omega)]; exact h1.1.fr (fun q a b => g q (by omega) (by omega) (by omega) (by omega))
  · rw [g 173 (by omega) (by omega) (by omega) (by omega)]; exact h1.2.1
  · rw [g 173 (by omega) (by omega) (by omega) (by omega)]; exact h1.2.2
  · rw [g 170 (by omega) (by omega) (by omega) (by omega)]; exact h3.1
  · rw [g 87 (by omega) (by omega) (by omega) (by omega)]; exact h6.1
  · rw [g 94 (by omega) (by omega) (by omega) (by omega)]; exact h6.2.1
  · rw [g 134 (by omega) (by omega) (by omega) (by omega)]; exact h6.2.2.1
  · rw [g 141 (by omega) (by omega) (by omega) (by omega)]; exact h6.2.2.2
def vs0 (S : St) (K : Nat) (n p : Int32) : St := pt (pt (pt (pt (pt S 155 1 0) 154 1 0) 154 2 (nI K)) 154 3 n) 154 4 p
def vm0 (s : St) (n : Int32) : St := pt (pt (pt s 172 13 0) 172 14 n) 172 15 0
theorem vs0_q {S : St} {K : Nat} {n p : Int32} {q : Nat} (h1 : q ≠ 154) (h2 : q ≠ 155) : (vs0 S K n p).1 q = S.1 q := by unfold vs0; rw [pt_nek h1, pt_nek h1, pt_nek h1, pt_nek h1, pt_nek h2]
theorem vm0_q {s : St} {n : Int32} {q : Nat} (h : q ≠ 172) : (vm0 s n).1 q = s.1 q := by unfold vm0; rw [pt_nek h, pt_nek h, pt_nek h]
theorem vs0_vc {S : St} {K : Nat} {n p : Int32} : VC (vs0 S K n p) K n p 0 := by
  unfold vs0
  refine ⟨?_, ?_, ?_, ?_, ?_⟩
  · rw [pt_nej (by decide), pt_nej (by decide), pt_nej (by decide), pt_at]
  · rw [pt_nej (by decide), pt_nej (by decide), pt_at]
  · rw [pt_nej (by decide), pt_at]
  · rw [pt_at]
  · rw [pt_nek (by decide), pt_nek (by decide), pt_nek (by decide), pt_nek (by decide), pt_at]; rfl
theorem vm0_mv {s : St} {K sp : Nat} {p : Int32} (h2 : sp < 6) (h3 : s.1 173 (20 + 4 * sp) = nI K) (h4 : s.1 173 (22 + 4 * sp) = p) : MV (vm0 s (nI sp)) K sp p 0 := by
  unfold vm0
  refine ⟨?_, h2, ?_, ?_, ?_, ?_⟩
  · rw [pt_nej (by decide), pt_at]
  · rw [pt_nek (by decide), pt_nek (by decide), pt_nek (by decide)]; exact h3
  · rw [pt_nek (by decide), pt_nek (by decide), pt_nek (by decide)]; exact h4
  · rw [pt_nej (by decide), pt_nej (by decide), pt_at]; rfl
  · rw [pt_at]
theorem CC.voice {S : St} {f g : St → Option (Int32 × St)} (h : IV S) {K q : Nat} {P v : Int32} {L : List Int32} (hl : L.length ≤ 30) (G1 : f S = some (v, tL (vs0 S K (nI q) P) L)) (G2 : ∀ s, s.1 173 = S.1 173 → g s = some (v, mL (vm0 s (nI q)) L)) : CC S f g := by
  have hz := tL_z L (vs0 S K (nI q) P) 0 vs0_vc.2.2.2.2 (by omega)
  have f1 : ∀ x, x ≠ 154 → x ≠ 155 → x ≠ 156 → (tL (vs0 S K (nI q) P) L).1 x = S.1 x := fun x a b c => by rw [tL_q b c, vs0_q a b]
  have hm0 : (vm0 (tL (vs0 S K (nI q) P) L) (nI q)).1 172 13 = nI 0 := by unfold vm0; rw [pt_nej (by decide), pt_nej (by decide), pt_at]; rfl
  have hm := mL_z L (vm0 (tL (vs0 S K (nI q) P) L) (nI q)) 0 hm0 (by omega)
  rw [Nat.zero_add] at hz hm
  refine ⟨v, _, _, G1, fun x hx => f1 x (by omega) (by omega) (by omega), G2 _ (f1 173 (by decide) (by decide) (by decide)), h.voice hl (fun x a b c d e f g => by rw [mL_q e g, vm0_q e, f1 x a b c]) ?_ ?_ hm.1 (fun i hi => ?_) (fun k hk => ?_)⟩
  · rw [mL_j (by decide)]; unfold vm0; rw [pt_nej (by decide), pt_nej (by decide), pt_nej (by decide), f1 172 (by decide) (by decide) (by decide)]
  · rw [mL_q (by decide) (by decide), vm0_q (by decide)]; exact hz.1
  · rw [mL_q (by decide) (by decide), vm0_q (by decide), hz.2, hm.2, if_pos (by omega), if_pos (by omega)]
  · rw [mL_q (by decide) (by decide), vm0_q (by decide), mL_q (by decide) (by decide), vm0_q (by decide), f1 171 (by decide) (by decide) (by decide), f1 176 (by decide) (by decide) (by decide)]
    exact h.2.2.1.2 k hk
theorem CC.voiceP {S : St} {f g : St → Option (Int32 × St)} (h : IV S) {K q : Nat} {P : Int32} {L : List Int32} (hl : L.length ≤ 30) (G1 : f S = bnd2 (f_X11_fail (pt (tL (vs0 S K (nI q) P) L) 154 1 1) 6) (fun a s => some (a, s))) (G2 : ∀ s, s.1 173 = S.1 173 → g s = bnd2 (f_X12_error (pt (mL (vm0 s (nI q)) L) 172 15 1) 6) (fun a s => some (a, s))) : CC S f g := by
  have hz := tL_z L (vs0 S K (nI q) P) 0 vs0_vc.2.2.2.2 (by omega)
  have f1 : ∀ x, x ≠ 154 → x ≠ 155 → x ≠ 156 → (pt (tL (vs0 S K (nI q) P) L) 154 1 1).1 x = S.1 x := fun x a b c => by rw [pt_nek a, tL_q b c, vs0_q a b]
  have z1 : (pt (tL (vs0 S K (nI q) P) L) 154 1 1).1 155 1 = nI L.length := by rw [pt_nek (by decide), hz.1, Nat.zero_add]
  have z2 : ∀ i, i < L.length → (pt (tL (vs0 S K (nI q) P) L) 154 1 1).1 156 i = L.getD i 0 := fun i hi => by rw [pt_nek (by decide), hz.2, if_pos (by omega), Nat.sub_zero]
  generalize pt (tL (vs0 S K (nI q) P) L) 154 1 1 = A at G1 f1 z1 z2
  have fE : ∀ x, x ≠ 154 → x ≠ 155 → x ≠ 156 → x ≠ 171 → (E1 A 6).1 x = S.1 x := fun x a b c d => by rw [E1_nek d, f1 x a b c]
  have hm0 : (vm0 (E1 A 6) (nI q)).1 172 13 = nI 0 := by unfold vm0; rw [pt_nej (by decide), pt_nej (by decide), pt_at]; rfl
  have hm := mL_z L (vm0 (E1 A 6) (nI q)) 0 hm0 (by omega)
  rw [Nat.zero_add] at hm
  have fB : ∀ x, x ≠ 172 → x ≠ 180 → (pt (mL (vm0 (E1 A 6) (nI q)) L) 172 15 1).1 x = (E1 A 6).1 x := fun x a b => by rw [pt_nek a, mL_q a b, vm0_q a]
  have b3 : (pt (mL (vm0 (E1 A 6) (nI q)) L) 172 15 1).1 172 3 = S.1 172 3 := by
    rw [pt_nej (by decide), mL_j (by decide)]; unfold vm0; rw [pt_nej (by decide), pt_nej (by decide), pt_nej (by decide), fE 172 (by decide) (by decide) (by decide) (by decide)]
  have b13 : (pt (mL (vm0 (E1 A 6) (nI q)) L) 172 15 1).1 172 13 = nI L.length := by rw [pt_nej (by decide)]; exact hm.1
  have b180 : ∀ i, i < L.length → (pt (mL (vm0 (E1 A 6) (nI q)) L) 172 15 1).1 180 i = L.getD i 0 := fun i hi => by rw [pt_nek (by decide), hm.2, if_pos (by omega), Nat.sub_zero]
  have gg := G2 (E1 A 6) (fE 173 (by decide) (by decide) (by decide) (by decide))
  generalize pt (mL (vm0 (E1 A 6) (nI q)) L) 172 15 1 = B at gg fB b3 b13 b180
  refine ⟨-1000000000 - nI 6, E1 A 6, E2 B 6, ?_, fun x hx => fE x (by omega) (by omega) (by omega) (by omega), ?_, h.voice hl (fun x a b c d e f g => by rw [E2_nek f, fB x e g, fE x a b c d]) ?_ ?_ ?_ (fun i hi => ?_) (fun k hk => ?_)⟩
  · rw [G1, show f_X11_fail A 6 = _ from cErr (k := 6) (by rw [f1 170 (by decide) (by decide) (by decide)]; exact h.2.2.1.1) (by decide), bnd2_some]
  · rw [gg, show f_X12_error B 6 = _ from mErr (k := 6) (by decide), bnd2_some]
  · rw [E2_nek (by decide)]; exact b3
  · rw [E2_nek (by decide), fB 155 (by decide) (by decide), E1_nek (by decide)]; exact z1
  · rw [E2_nek (by decide)]; exact b13
  · rw [E2_nek (by decide), fB 156 (by decide) (by decide), E1_nek (by decide), E2_nek (by decide), z2 i hi, b180 i hi]
  · have e1 : (E2 B 6).1 171 k = upd (S.1 171) 6 (S.1 171 6 + 1) k := by
      rw [E2_nek (by decide), fB 171 (by decide) (by decide)]; unfold E1; rw [pt_same, f1 171 (by decide) (by decide) (by decide)]
    have e2 : (E2 B 6).1 176 k = upd (S.1 176) 6 (S.1 176 6 + 1) k := by
      unfold E2; rw [pt_same, fB 176 (by decide) (by decide), fE 176 (by decide) (by decide) (by decide) (by decide)]
    rw [e1, e2]
    by_cases c : k = 6
    · subst c; rw [upd_same, upd_same, h.2.2.1.2 6 (by decide)]
    · rw [upd_ne c, upd_ne c]; exact h.2.2.1.2 k hk
theorem K_voice {N : Nat} (hN : 100 < N) {S : St} (h : IV S) (v1 v2 x : Int32) : CC S (fun s => f_X11_voice N s v1 v2 x) (fun s => f_X12_voice s v1 v2 x) := by
  have hT := h.1.1
  have hW := h.1.2.1
  have hp6 := hW.np.2
  refine CC.gp h (fun _ => rfl) (fun _ => rfl) (fun q hq e => ?_)
  subst e
  refine CC.gw 3 h rfl (by decide) (fun _ => rfl) (fun _ => rfl) (fun v hv e => ?_)
  subst e
  have hk := hW.ty (l_kind q (by omega)) (by decide)
  obtain ⟨K, eK⟩ : ∃ K, K = w (S.1 173) (20 + 4 * q) := ⟨_, rfl⟩
  obtain ⟨P, eP⟩ : ∃ P, P = S.1 173 (22 + 4 * q) := ⟨_, rfl⟩
  rw [← eK] at hk
  have hK : K < 7 := hk.2
  have hspk : f_X10_speak N S 9 (nI q) (nI v) x = f_X10_say N 30 (vs0 S K (nI q) P) (nI K) (nI v) x (nI 0) := by
    unfold f_X10_speak
    have r1 : RT (pt (pt S 155 1 0) 154 1 0) 8 (S.1 173) := hT.fr (fun a b c => by rw [pt_nek (by omega), pt_nek (by omega)])
    have r2 : RT (pt (pt (pt (pt S 155 1 0) 154 1 0) 154 2 (nI K)) 154 3 (nI q)) 8 (S.1 173) := r1.fr (fun a b c => by rw [pt_nek (by omega), pt_nek (by omega)])
    rw [p_reset0 (n := 0) (by decide) (by omega), bnd_some, show f_X5_at (pt (pt S 155 1 0) 154 1 0) (9 + 1) (nI q) = _ from cKind r1 hW (Or.inl rfl) hq, bnd_some, hk.1, show f_X5_at (pt (pt (pt (pt S 155 1 0) 154 1 0) 154 2 (nI K)) 154 3 (nI q)) (9 + 5) (nI q) = _ from cChance r2 hW (Or.inl rfl) hq, bnd_some, ← eP, bnd2_id]
    show f_X10_say N 30 (vs0 S K (nI q) P) ((vs0 S K (nI q) P).1 154 2) (nI v) x 0 = _
    rw [vs0_vc.2.1]; rfl
  have hmv : ∀ s, s.1 173 = S.1 173 → MV (vm0 s (nI q)) K q P 0 := fun s hs => vm0_mv (by omega) (by rw [hs]; exact hk.1) (by rw [hs, eP])
  have hmk : ∀ s, s.1 173 = S.1 173 → f_X12_kindNow (pt (pt (pt s 172 13 0) 172 14 (nI q)) 172 15 0) = some (nI K) := fun s hs => mKn (hmv s hs)
  have ok : ∀ (val : Int32) (L : List Int32), L.length ≤ 30 → f_X10_say N 30 (vs0 S K (nI q) P) (nI K) (nI v) x (nI 0) = some (val, tL (vs0 S K (nI q) P) L) → bnd2 (f_X10_speak N S 9 (nI q) (nI v) x) (fun a s => if s.1 154 1 = 0 then some (a, s) else bnd2 (f_X11_fail s 6) (fun a s => some (a, s))) = some (val, tL (vs0 S K (nI q) P) L) := fun val L hl e => by
    rw [hspk, e, bnd2_some, tL_q (by decide) (by decide), vs0_vc.1, if_pos rfl]
  have okm : ∀ (val : Int32) (L : List Int32) (s : St), s.1 173 = S.1 173 → f_X12_voice_95 (mL (vm0 s (nI q)) L) val = some (val, mL (vm0 s (nI q)) L) := fun val L s hs => by
    unfold f_X12_voice_95
    rw [mL_j (by decide), (hmv s hs).2.2.2.2.2, if_pos rfl]
  have e : v = 0 ∨ v = 1 ∨ v = 2 ∨ v = 3 := by omega
  rcases e with rfl | rfl | rfl | rfl
  · have hl := nmL_len K hK
    refine CC.voice h (K := K) (q := q) (P := P) (L := nmL K) (by omega) (ok (nmV K (nI q) x) (nmL K) (by omega) (cNm (by omega) hK vs0_vc (by decide) (by decide) (by decide))) (fun s hs => ?_)
    (try dsimp only)
    rw [hmk s hs, bnd_some, if_pos (show nI 0 = (0 : Int32) from rfl), show f_X12_calls 8 (pt (pt (pt s 172 13 0) 172 14 (nI q)) 172 15 0) (nI K) x = _ from mNm hK (hmv s hs) (by decide) (by decide), bnd2_some]
    exact okm _ _ s hs
  · have hl := byL_len K hK K hK
    refine CC.voice h (K := K) (q := q) (P := P) (L := byL K K) (by omega) (ok (byV K K (nI q) x) (byL K K) (by omega) (cBy (by omega) hK hK vs0_vc (by decide) (by decide) (by decide))) (fun s hs => ?_)
    (try dsimp only)
    rw [hmk s hs, bnd_some, if_neg (show ¬ nI 1 = (0 : Int32) by decide), if_pos (show nI 1 = (1 : Int32) from rfl), show f_X12_buys 8 (pt (pt (pt s 172 13 0) 172 14 (nI q)) 172 15 0) (nI K) x = _ from mBy hK hK (hmv s hs) (by decide) (by decide), bnd2_some]
    exact okm _ _ s hs
  · have hl := pyL_len K hK K hK
    refine CC.voice h (K := K) (q := q) (P := P) (L := pyL K K) (by omega) (ok (pyV K K (nI q) P x) (pyL K K) (by omega) (cPy (by omega) hK hK vs0_vc (by decide) (by decide) (by decide))) (fun s hs => ?_)
    (try dsimp only)
    rw [hmk s hs, bnd_some, if_neg (show ¬ nI 2 = (0 : Int32) by decide), if_neg (show ¬ nI 2 = (1 : Int32) by decide), if_pos (show nI 2 = (2 : Int32) from rfl), show f_X12_gives 8 (pt (pt (pt s 172 13 0) 172 14 (nI q)) 172 15 0) (nI K) x = _ from mPy hK hK (hmv s hs) (by decide) (by decide), bnd2_some]
    exact okm _ _ s hs
  · have hl := mdL_len K hK K hK
    obtain ⟨v', a1, a2⟩ := cMd (N := N) (by omega) hK (x := x) (d := 30) (dd := 0) hK (vs0_vc (S := S) (K := K) (n := nI q) (p := P)) (by decide) (by decide) (by decide)
    have hmm : ∀ s, s.1 173 = S.1 173 → ∃ v, f_X12_minds 8 (pt (pt (pt s 172 13 0) 172 14 (nI q)) 172 15 0) (nI K) x = some (v, if P - nI q = 0 then pt (mL (vm0 s (nI q)) (mdP K)) 172 15 1 else mL (vm0 s (nI q)) (mdL K K)) ∧ (¬ P - nI q = 0 → v = mdV K K (nI q) P x) := fun s hs => mMd hK hK (hmv s hs) (by decide) (by decide)
    by_cases c : P - nI q = 0
    · rw [if_pos c] at a1
      refine CC.voiceP h (K := K) (q := q) (P := P) (L := mdP K) (by omega) ?_ (fun s hs => ?_)
      · (try dsimp only)
        rw [hspk, a1, bnd2_some, pt_at, if_neg (by decide)]
      · (try dsimp only)
        obtain ⟨v2, b1, b2⟩ := hmm s hs
        rw [if_pos c] at b1
        rw [hmk s hs, bnd_some, if_neg (show ¬ nI 3 = (0 : Int32) by decide), if_neg (show ¬ nI 3 = (1 : Int32) by decide), if_neg (show ¬ nI 3 = (2 : Int32) by decide), b1, bnd2_some]
        unfold f_X12_voice_95
        rw [pt_at, if_neg (by decide)]
    · rw [if_neg c] at a1
      refine CC.voice h (K := K) (q := q) (P := P) (L := mdL K K) (by omega) (ok _ (mdL K K) (by omega) a1) (fun s hs => ?_)
      (try dsimp only)
      obtain ⟨v2, b1, b2⟩ := hmm s hs
      rw [if_neg c] at b1
      rw [hmk s hs, bnd_some, if_neg (show ¬ nI 3 = (0 : Int32) by decide), if_neg (show ¬ nI 3 = (1 : Int32) by decide), if_neg (show ¬ nI 3 = (2 : Int32) by decide), b1, bnd2_some, okm _ _ s hs, b2 c, a2 c]
