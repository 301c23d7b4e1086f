/-! the model's descent: one -/
theorem mIsNm {s : St} {u : Nat} {a : Int32} (hu : u < 2) (h8 : s.1 172 8 = nI u) : f_X12_isName s a = some (if idxS (2 + u) a < 0 then 0 else 1) := by
  unfold f_X12_isName f_X12_isName_39 f_X12_isName_65
  rw [h8]
  by_cases c1 : a = 118
  · subst c1
    rcases (show u = 0 ∨ u = 1 by omega) with rfl | rfl <;> rfl
  by_cases c2 : a = 114
  · subst c2
    rcases (show u = 0 ∨ u = 1 by omega) with rfl | rfl <;> rfl
  rw [if_neg c1, if_neg c2]
  rcases (show u = 0 ∨ u = 1 by omega) with rfl | rfl
  · rw [if_pos (show nI 0 = (0 : Int32) from rfl)]
    by_cases c3 : a = 109
    · subst c3; rfl
    by_cases c4 : a = 112
    · subst c4; rfl
    by_cases c5 : a = 121
    · subst c5; rfl
    rw [if_neg c3, if_neg c4, if_neg c5]
    have e : idxS (2 + 0) a = -1 := by
      unfold idxS
      rw [if_pos rfl, if_neg c1, if_neg c3, if_neg c4, if_neg c2, if_neg c5]
    rw [e]; rfl
  · rw [if_neg (show ¬ nI 1 = (0 : Int32) by decide)]
    by_cases c3 : a = 115
    · subst c3; rfl
    by_cases c4 : a = 99
    · subst c4; rfl
    by_cases c5 : a = 117
    · subst c5; rfl
    rw [if_neg c3, if_neg c4, if_neg c5]
    have e : idxS (2 + 1) a = -1 := by
      unfold idxS
      rw [if_neg (by decide), if_neg c1, if_neg c3, if_neg c4, if_neg c5, if_neg c2]
    rw [e]; rfl
theorem nm_ge {u b : Nat} (hb : b < 256) (h : isNm u (nI b)) : 99 ≤ b := by
  have inj : ∀ k, k < 256 → nI b = nI k → b = k := fun k hk e => (nI_eq (by omega) (by omega)).mp e
  unfold isNm at h
  rcases h with h | h | h
  · have := inj 118 (by decide) h; omega
  · have := inj 114 (by decide) h; omega
  · split at h
    · rcases h with h | h | h
      · have := inj 109 (by decide) h; omega
      · have := inj 112 (by decide) h; omega
      · have := inj 121 (by decide) h; omega
    · rcases h with h | h | h
      · have := inj 115 (by decide) h; omega
      · have := inj 99 (by decide) h; omega
      · have := inj 117 (by decide) h; omega
theorem mIn48 {s : St} {b : Nat} (hb : b < 256) : f_X12_in s (nI b) 48 57 = some (if 48 ≤ b ∧ b ≤ 57 then 1 else 0) := by
  unfold f_X12_in
  by_cases c : b < 48
  · rw [if_pos (show nI b < (48 : Int32) from nI_lt (b := 48) c (by decide)), if_neg (by omega)]
  · rw [if_neg (show ¬ nI b < (48 : Int32) from nI_nlt (b := 48) (by omega) (by omega))]
    by_cases d : 57 < b
    · rw [if_pos (show (57 : Int32) < nI b from nI_lt (a := 57) d (by omega)), if_neg (by omega)]
    · rw [if_neg (show ¬ (57 : Int32) < nI b from nI_nlt (a := 57) (b := b) (by omega) (by decide)), if_pos (by omega)]
theorem mNum {S : St} {u n N : Nat} {T : Nat → Nat} (hE : EV S u n T) {rc : St → Option (Int32 × St)} : ∀ (k j f : Nat) (s : St) (i : Nat) (M : ML) (O : List Nat) (v : Nat), k + j = 4 → 1 ≤ j → MS S s M i (cnt O) → i ≤ n → J u ((0, nI v) :: M, O, j, false) i → k < f → ∃ s' i' v' j', f_X12_one_46 N rc f s (nI v) (nI j) = some (1, s') ∧ MS S s' ((0, nI v') :: M) i' (cnt O) ∧ i ≤ i' ∧ i' ≤ n ∧ go u T n i ((0, nI v) :: M, O, j, false) = go u T n i' ((0, nI v') :: M, O, j', false) ∧ J u ((0, nI v') :: M, O, j', false) i' ∧ DNx u n T 6 ((0, nI v') :: M, O, j', false) i' := by
  have h60 := hE.2.1
  intro k
  induction k with
  | zero =>
    intro j f s i M O v h1 h2 h3 h4 h5 h6
    obtain ⟨f, rfl⟩ := fuel h6
    have hl := h5.1
    simp only [List.length_cons] at hl
    obtain ⟨s', l1, l2⟩ := mLays (a := 0) (v := nI v) h3 (by omega)
    refine ⟨s', i, v, j, ?_, l2, Nat.le_refl _, h4, rfl, h5, fun hi => ⟨fun c => ?_, fun a b => by omega⟩⟩
    · rw [f_X12_one_46, show j = 4 by omega, if_pos (by decide)]
      unfold f_X12_one_94
      rw [l1, bnd_some]
    · unfold nxt
      simp only
      rw [if_pos c, if_neg (by omega), if_neg (by decide)]
  | succ k ih =>
    intro j f s i M O v h1 h2 h3 h4 h5 h6
    obtain ⟨f, rfl⟩ := fuel h6
    have hl := h5.1
    simp only [List.length_cons] at hl
    have hlk := mLook hE h3 h4
    rw [f_X12_one_46, k4, if_neg (nI_ge (by omega) (by decide)), hlk, bnd_some, bnd_some]
    have stop : (¬ (i < n ∧ 48 ≤ T i ∧ T i ≤ 57)) → ∃ s' i' v' j', f_X12_one_94 N rc s (nI v) = some (1, s') ∧ MS S s' ((0, nI v') :: M) i' (cnt O) ∧ i ≤ i' ∧ i' ≤ n ∧ go u T n i ((0, nI v) :: M, O, j, false) = go u T n i' ((0, nI v') :: M, O, j', false) ∧ J u ((0, nI v') :: M, O, j', false) i' ∧ DNx u n T 6 ((0, nI v') :: M, O, j', false) i' := fun c => by
      obtain ⟨s', l1, l2⟩ := mLays (a := 0) (v := nI v) h3 (by omega)
      refine ⟨s', i, v, j, ?_, l2, Nat.le_refl _, h4, rfl, h5, fun hi => ⟨fun c' => absurd ⟨hi, c'⟩ c, fun a b => by omega⟩⟩
      unfold f_X12_one_94
      rw [l1, bnd_some]
    by_cases ci : i < n
    · have hb := hE.2.2.1 i ci
      have hlv : lkv T n i = nI (T i) := by unfold lkv; rw [if_pos ci]
      rw [hlv, mIn48 hb, bnd_some]
      by_cases cd : 48 ≤ T i ∧ T i ≤ 57
      · rw [if_pos cd, if_neg (by decide)]
        have ev : (10 : Int32) * nI v + nI (T i) - 48 = nI (v * 10 + (T i - 48)) := by
          rw [k10, pk_mul, nI_add, show (48 : Int32) = nI 48 from rfl, nI_sub (by omega)]; congr 1; omega
        have ev2 : nI v * 10 + nI (T i - 48) = nI (v * 10 + (T i - 48)) := by rw [k10, pk_mul, nI_add]
        have hn : nxt u ((0, nI v) :: M, O, j, false) (T i) = some ((0, nI (v * 10 + (T i - 48))) :: M, O, j + 1, false) := by
          unfold nxt
          simp only
          rw [if_pos cd, if_pos (by omega)]
          show some ((0, nI v * 10 + nI (T i - 48)) :: M, O, j + 1, false) = _
          rw [ev2]
        have hg := go_some ci hn
        have hJ := nxt_J hE.1 hb h5 hn
        rw [h3.2.1, nI_1, nI_1, ev, hg]
        obtain ⟨s', i', v', j', a1, a2, a3, a4, a5, a6, a7⟩ := ih (j + 1) f (pt s 172 5 (nI (i + 1))) (i + 1) M O (v * 10 + (T i - 48)) (by omega) (by omega) h3.at (by omega) hJ (by omega)
        exact ⟨s', i', v', j', a1, a2, by omega, a4, a5, a6, a7⟩
      · rw [if_neg cd, if_pos rfl]
        exact stop (fun c => cd c.2)
    · have hlv : lkv T n i = -1 := by unfold lkv; rw [if_neg ci]
      rw [hlv, show f_X12_in s (-1) 48 57 = some 0 from rfl, bnd_some, if_pos rfl]
      exact stop (fun c => ci c.1)
theorem nxt_none {u n i dg : Nat} {T : Nat → Nat} {M : ML} {O : List Nat} (h : DNx u n T 1 (M, O, dg, false) i) (hi : i < n) (h41 : T i ≠ 41) : nxt u (M, O, dg, false) (T i) = none := by
  by_cases c : 48 ≤ T i ∧ T i ≤ 57
  · exact (h hi).1 c
  · by_cases d : 1 ≤ rk (T i) ∧ rk (T i) ≤ 5
    · exact (h hi).2 d.1 d.2
    · have := rk_le (T i)
      unfold nxt
      simp only
      rw [if_neg c, if_neg (show ¬ false = true by decide), if_neg h41]
      by_cases e : rk (T i) = 0
      · rw [if_pos e]
      · rw [if_neg e, if_pos (by omega)]
theorem dn6 {u n i : Nat} {T : Nat → Nat} {M : ML} {O : List Nat} : DNx u n T 6 (M, O, 0, false) i := fun hi => ⟨fun c => by
  unfold nxt
  simp only
  rw [if_pos c, if_neg (by omega), if_neg (by decide)], fun a b => by omega⟩
theorem lvl6 {S : St} {u n N : Nat} {T : Nat → Nat} (hE : EV S u n T) (hN : 100 < N) : ∀ d, PL S u n T 6 d (f_X12_one N d) := by
  intro d
  induction d with
  | zero =>
    intro s i M O h1 h2 h3 h4 h5
    have := h5.2.2.2.2.1
    simp only at this
    omega
  | succ d ih =>
    have hW := lvl1 hE hN ih
    have h60 := hE.2.1
    intro s i M O h1 h2 h3 h4 h5
    have hc5 : cnt O ≤ 5 := h5.2.2.2.2.1
    have hlen : M.length + O.length ≤ i := h5.1
    have h8 : s.1 172 8 = nI u := by rw [h1.1.2 8 (by decide) (by decide) (by decide)]; exact hE.2.2.2.1
    rw [f_X12_one, mLook hE h1 h2, bnd_some, mIsNm hE.1 h8, bnd_some]
    by_cases ci : i < n
    · have hb := hE.2.2.1 i ci
      have hlv : lkv T n i = nI (T i) := by unfold lkv; rw [if_pos ci]
      rw [hlv]
      by_cases cn : idxS (2 + u) (nI (T i)) < 0
      · rw [if_pos cn, if_pos rfl, mIn48 hb, bnd_some]
        by_cases cd : 48 ≤ T i ∧ T i ≤ 57
        · -- a number
          rw [if_pos cd, if_neg (by decide)]
          obtain ⟨N', eN⟩ : ∃ k, N = k + 1 := ⟨N - 1, by omega⟩
          have hn : nxt u (M, O, 0, true) (T i) = some ((0, nI (T i - 48)) :: M, O, 1, false) := by
            unfold nxt
            simp only
            rw [if_pos cd, if_neg (by omega), if_pos True.intro]
          have hg := go_some ci hn
          have hJ := nxt_J hE.1 hb h5 hn
          obtain ⟨s', i', v', j', a1, a2, a3, a4, a5, a6, a7⟩ := mNum (N := N) (rc := f_X12_one N d) hE 3 1 N' (pt s 172 5 (nI (i + 1))) (i + 1) M O (T i - 48) rfl (by decide) h1.at (by omega) hJ (by omega)
          have e46 : f_X12_one_46 N (f_X12_one N d) N s 0 0 = f_X12_one_46 N (f_X12_one N d) N' (pt s 172 5 (nI (i + 1))) (nI (T i - 48)) (nI 1) := by
            rw [show f_X12_one_46 N (f_X12_one N d) N s 0 0 = f_X12_one_46 N (f_X12_one N d) (N' + 1) s (nI 0) (nI 0) from by rw [← eN]; rfl, f_X12_one_46, if_neg (by decide), mLook hE h1 h2, bnd_some, bnd_some, hlv, mIn48 hb, bnd_some, if_pos cd, if_neg (by decide), h1.2.1, nI_1, nI_1]
            have ev : (10 : Int32) * nI 0 + nI (T i) - 48 = nI (T i - 48) := by
              rw [k10, pk_mul, nI_add, show (48 : Int32) = nI 48 from rfl, nI_sub (by omega)]; congr 1; omega
            rw [ev]
          rw [e46, a1]
          exact Or.inl ⟨s', i', _, [], (0, nI v') :: M, j', rfl, a2, by omega, a4, by rw [hg, a5]; rfl, fun p hp => absurd hp List.not_mem_nil, rfl, a6, a7⟩
        · rw [if_neg cd, if_pos rfl]
          -- what is opened
          have hop : ∀ b, b = 33 ∨ b = 40 → T i = b → (cnt O = 5 → f_X12_opens s = some (0, s) ∧ go u T n i (M, O, 0, true) = .inl i) ∧ (cnt O ≠ 5 → f_X12_opens s = some (1, pt (pt s 172 6 (nI (cnt O + 1))) 172 5 (nI (i + 1))) ∧ MS S (pt (pt s 172 6 (nI (cnt O + 1))) 172 5 (nI (i + 1))) M (i + 1) (cnt (b :: O)) ∧ go u T n i (M, O, 0, true) = go u T n (i + 1) (M, b :: O, 0, true) ∧ J u (M, b :: O, 0, true) (i + 1) ∧ cnt (b :: O) = cnt O + 1) := fun b hbb eb => by
            have ec : cnt (b :: O) = cnt O + 1 := by
              show (if b = 33 ∨ b = 40 then 1 else 0) + cnt O = cnt O + 1
              rw [if_pos hbb, Nat.add_comm]
            unfold f_X12_opens
            rw [h1.2.2.1]
            constructor
            · intro c
              have hn : nxt u (M, O, 0, true) (T i) = none := by
                unfold nxt
                simp only
                rw [if_neg cd, if_pos True.intro, if_pos (by rw [eb]; exact hbb), if_pos (by omega)]
              exact ⟨by rw [c, if_pos (show nI 5 = (5 : Int32) from rfl)], go_none ci hn⟩
            · intro c
              have hn : nxt u (M, O, 0, true) (T i) = some (M, b :: O, 0, true) := by
                unfold nxt
                simp only
                rw [if_neg cd, if_pos True.intro, if_pos (by rw [eb]; exact hbb), if_neg (by omega), eb]
              refine ⟨?_, ?_, go_some ci hn, nxt_J hE.1 hb h5 hn, ec⟩
              · rw [if_neg (show ¬ nI (cnt O) = (5 : Int32) from fun e => c ((nI_eq (by omega) (by decide)).mp (show nI (cnt O) = nI 5 from e))), nI_1, pt_nej (by decide), h1.2.1, nI_1]
              · rw [ec]; exact h1.op.at
          by_cases c33 : T i = 33
          · rw [c33, if_pos (show nI 33 = (33 : Int32) from rfl)]
            obtain ⟨o1, o2⟩ := hop 33 (Or.inl rfl) c33
            by_cases c5 : cnt O = 5
            · obtain ⟨p1, p2⟩ := o1 c5
              rw [p1, bnd2_some, if_pos rfl]
              exact Or.inr ⟨s, i, rfl, h1.1, h1.2.1, h2, p2⟩
            · obtain ⟨p1, p2, p3, p4, p5⟩ := o2 c5
              rw [p1, bnd2_some, if_neg (by decide)]
              have hres := ih _ (i + 1) M (33 :: O) p2 (by omega) (Or.inl rfl) (by omega) p4
              rw [← p3] at hres
              rcases hres with ⟨s2, i2, M2, P2, M2', dg2, r1, r2, r3, r4, r5, r6, r7, r8, r9⟩ | ⟨s2, i2, r1, r2⟩
              · rw [r1, bnd2_some, if_neg (by decide)]
                have hl2 : M2.length ≤ 60 := by
                  have := r8.1
                  simp only [List.length_append, List.length_cons] at this
                  rw [← r7, fl_len]; omega
                have hop2 : MS S (pt s2 172 6 (s2.1 172 6 - 1)) M2 i2 (cnt O) := by
                  rw [r2.2.2.1, p5, nI_pred]; exact r2.op
                obtain ⟨s3, l1, l2⟩ := mLays (a := 2) (v := 0) hop2 hl2
                rw [l1, bnd_some]
                have ea : P2 ++ 33 :: O = (P2 ++ [33]) ++ O := by rw [List.append_assoc]; rfl
                rw [ea] at r5 r8 r9
                refine Or.inl ⟨s3, i2, _, P2 ++ [33], M2', dg2, rfl, l2, by omega, r4, r5, fun p hp => ?_, ?_, r8, r9⟩
                · rcases List.mem_append.mp hp with hp | hp
                  · exact r6 p hp
                  · rw [List.mem_singleton.mp hp]; decide
                · rw [fl_app, r7]; rfl
              · rw [r1, bnd2_some, if_pos rfl]
                exact Or.inr ⟨s2, i2, rfl, r2⟩
          · rw [if_neg (show ¬ nI (T i) = (33 : Int32) from fun e => c33 ((nI_eq (by omega) (by decide)).mp (show nI (T i) = nI 33 from e)))]
            by_cases c40 : T i = 40
            · rw [c40, if_pos (show nI 40 = (40 : Int32) from rfl)]
              obtain ⟨o1, o2⟩ := hop 40 (Or.inr rfl) c40
              by_cases c5 : cnt O = 5
              · obtain ⟨p1, p2⟩ := o1 c5
                rw [p1, bnd2_some, if_pos rfl]
                exact Or.inr ⟨s, i, rfl, h1.1, h1.2.1, h2, p2⟩
              · obtain ⟨p1, p2, p3, p4, p5⟩ := o2 c5
                rw [p1, bnd2_some, if_neg (by decide)]
                have hres := hW _ (i + 1) M (40 :: O) p2 (by omega) (Or.inr (show rk 40 < 1 by decide)) (by omega) p4
                rw [← p3] at hres
                rcases hres with ⟨s2, i2, M2, P2, M2', dg2, r1, r2, r3, r4, r5, r6, r7, r8, r9⟩ | ⟨s2, i2, r1, r2⟩
                · rw [r1, bnd2_some, if_neg (by decide), mLook hE r2 r4, bnd_some]
                  have hcl : cls 1 (P2 ++ 40 :: O) M2' = (M2, 40 :: O) := by rw [cls_fl (show rkT (40 :: O) < 1 from (show rk 40 < 1 by decide)) P2 M2' r6, r7]
                  by_cases c41 : i2 < n ∧ T i2 = 41
                  · have hlv2 : lkv T n i2 = 41 := by unfold lkv; rw [if_pos c41.1, c41.2]; rfl
                    rw [hlv2, if_pos rfl]
                    have hn : nxt u (M2', P2 ++ 40 :: O, dg2, false) (T i2) = some (M2, O, 0, false) := by
                      rw [c41.2]
                      unfold nxt
                      simp only
                      rw [if_neg (by decide), if_neg (show ¬ false = true by decide), if_pos True.intro, hcl, if_pos (show (M2, 40 :: O).2.head? = some 40 from rfl)]
                      rfl
                    have hg := go_some c41.1 hn
                    have hJ := nxt_J hE.1 (hE.2.2.1 i2 c41.1) r8 hn
                    have e5 : s2.1 172 5 + 1 = nI (i2 + 1) := by rw [r2.2.1, nI_1]
                    have e6 : (pt s2 172 5 (nI (i2 + 1))).1 172 6 - 1 = nI (cnt O) := by rw [pt_nej (by decide), r2.2.2.1, p5, nI_pred]
                    rw [e5, e6]
                    exact Or.inl ⟨_, i2 + 1, M2, [], M2, 0, rfl, r2.at.op, by omega, by omega, by rw [r5, hg]; rfl, fun p hp => absurd hp List.not_mem_nil, rfl, hJ, dn6⟩
                  · have hlv2 : ¬ lkv T n i2 = 41 := fun e => by
                      unfold lkv at e
                      by_cases c : i2 < n
                      · rw [if_pos c] at e
                        exact c41 ⟨c, (nI_eq (by have := hE.2.2.1 i2 c; omega) (by decide)).mp (show nI (T i2) = nI 41 from e)⟩
                      · rw [if_neg c] at e
                        exact absurd e (by decide)
                    rw [if_neg hlv2]
                    refine Or.inr ⟨s2, i2, rfl, r2.1, r2.2.1, r4, ?_⟩
                    rw [r5]
                    by_cases c : i2 < n
                    · exact go_none c (nxt_none r9 c (fun e => c41 ⟨c, e⟩))
                    · have : i2 = n := by omega
                      subst this
                      rw [go_end]
                      simp only
                      rw [hcl, if_pos (Or.inr (by show 0 < (40 :: O).length; rw [List.length_cons]; omega))]
                · rw [r1, bnd2_some, if_pos rfl]
                  exact Or.inr ⟨s2, i2, rfl, r2⟩
            · rw [if_neg (show ¬ nI (T i) = (40 : Int32) from fun e => c40 ((nI_eq (by omega) (by decide)).mp (show nI (T i) = nI 40 from e)))]
              have hn : nxt u (M, O, 0, true) (T i) = none := by
                unfold nxt
                simp only
                rw [if_neg cd, if_pos True.intro, if_neg (by omega), if_pos cn]
              exact Or.inr ⟨s, i, rfl, h1.1, h1.2.1, h2, go_none ci hn⟩
      · -- a name
        have h99 := nm_ge hb (nm_idx hE.1 cn)
        rw [if_neg cn, if_neg (by decide)]
        have hn : nxt u (M, O, 0, true) (T i) = some ((1, nI (T i)) :: M, O, 0, false) := by
          unfold nxt
          simp only
          have hnd : ¬ (48 ≤ T i ∧ T i ≤ 57) := by omega
          rw [if_neg hnd, if_pos True.intro, if_neg (by omega), if_neg cn]
        have hg := go_some ci hn
        have hJ := nxt_J hE.1 hb h5 hn
        have e5 : s.1 172 5 + 1 = nI (i + 1) := by rw [h1.2.1, nI_1]
        rw [e5]
        obtain ⟨s', l1, l2⟩ := mLays (a := 1) (v := nI (T i)) (h1.at (i' := i + 1)) (by omega)
        rw [l1, bnd_some]
        exact Or.inl ⟨s', i + 1, _, [], (1, nI (T i)) :: M, 0, rfl, l2, by omega, by omega, by rw [hg]; rfl, fun p hp => absurd hp List.not_mem_nil, rfl, hJ, dn6⟩
    · -- the tape's end
      have hlv : lkv T n i = -1 := by unfold lkv; rw [if_neg ci]
      have hz : idxS (2 + u) (-1) < 0 := by rcases (show u = 0 ∨ u = 1 by have := hE.1; omega) with rfl | rfl <;> decide
      rw [hlv, if_pos hz, if_pos rfl, show f_X12_in s (-1) 48 57 = some 0 from rfl, bnd_some, if_pos rfl, if_neg (by decide), if_neg (by decide)]
      have : i = n := by omega
      subst this
      refine Or.inr ⟨s, i, rfl, h1.1, h1.2.1, h2, ?_⟩
      rw [go_end, if_pos (Or.inl rfl)]
