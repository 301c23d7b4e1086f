set_option maxRecDepth 100000 in
set_option maxHeartbeats 8000000 in
theorem whole_start {p : Program} {e : Env} {s : State} {m : MethodId} {below : List Frame} {meth : Method} {c : Code} (l : Launch) (hflags : l.flags = flags0) {b L : Nat} {xs : Nat → Int32} (hL : L ≤ 3072) (C0 : lw_At p s m meth c b L xs) : W p l e room_1 s m #[Value.ref b] below meth c s.heap [] 0 0 (lw_Z below #[Value.ref b] s) (entryFrame m ([Value.ref b] : List Value).toArray 4) := by
  obtain ⟨hx, hb, hr, hml, hown, hts, hX, hbl, hlocks, hgv⟩ := id C0
  have hA0 : ∀ a : Nat, a < s.heap.size → ¬ (fun q : Nat => s.heap.size ≤ q) a := fun a h => Nat.not_le.mpr h
  have hs := flat_of_before _ hgv
  have hel0 : ∀ j : Nat, j < 7 → (Term.elem (Term.static "NamedPrices$Kind" "ABOVE" "[I") (.int (Int32.ofNat j))).eval #[Value.ref b] s none [] s = some (.int (kAb j)) := by
    intro j hj
    rcases Nat.eq_or_lt_of_le (Nat.le_of_lt_succ hj) with rfl | hj
    · exact va_eqt (z := kAb 6) (hs (Cond.eq (.elem (Term.static "NamedPrices$Kind" "ABOVE" "[I") (.int (Int32.ofNat 6))) (.int (kAb 6))) (by decide +kernel))
    rcases Nat.eq_or_lt_of_le (Nat.le_of_lt_succ hj) with rfl | hj
    · exact va_eqt (z := kAb 5) (hs (Cond.eq (.elem (Term.static "NamedPrices$Kind" "ABOVE" "[I") (.int (Int32.ofNat 5))) (.int (kAb 5))) (by decide +kernel))
    rcases Nat.eq_or_lt_of_le (Nat.le_of_lt_succ hj) with rfl | hj
    · exact va_eqt (z := kAb 4) (hs (Cond.eq (.elem (Term.static "NamedPrices$Kind" "ABOVE" "[I") (.int (Int32.ofNat 4))) (.int (kAb 4))) (by decide +kernel))
    rcases Nat.eq_or_lt_of_le (Nat.le_of_lt_succ hj) with rfl | hj
    · exact va_eqt (z := kAb 3) (hs (Cond.eq (.elem (Term.static "NamedPrices$Kind" "ABOVE" "[I") (.int (Int32.ofNat 3))) (.int (kAb 3))) (by decide +kernel))
    rcases Nat.eq_or_lt_of_le (Nat.le_of_lt_succ hj) with rfl | hj
    · exact va_eqt (z := kAb 2) (hs (Cond.eq (.elem (Term.static "NamedPrices$Kind" "ABOVE" "[I") (.int (Int32.ofNat 2))) (.int (kAb 2))) (by decide +kernel))
    rcases Nat.eq_or_lt_of_le (Nat.le_of_lt_succ hj) with rfl | hj
    · exact va_eqt (z := kAb 1) (hs (Cond.eq (.elem (Term.static "NamedPrices$Kind" "ABOVE" "[I") (.int (Int32.ofNat 1))) (.int (kAb 1))) (by decide +kernel))
    rcases Nat.eq_or_lt_of_le (Nat.le_of_lt_succ hj) with rfl | hj
    · exact va_eqt (z := kAb 0) (hs (Cond.eq (.elem (Term.static "NamedPrices$Kind" "ABOVE" "[I") (.int (Int32.ofNat 0))) (.int (kAb 0))) (by decide +kernel))
    exact absurd hj (Nat.not_lt_zero _)
  obtain ⟨t0, ev0, hT0⟩ := va_Tof (tm := (Term.static "NamedPrices$Kind" "ABOVE" "[I")) (ty := .int) (N := 7) (f := fun j => .int (kAb j)) (by decide) (hs (Cond.arrayOf (Term.static "NamedPrices$Kind" "ABOVE" "[I") .int) (by decide +kernel)) (va_eqt (z := Int32.ofNat 7) (hs (Cond.eq (.length (Term.static "NamedPrices$Kind" "ABOVE" "[I")) (.int (Int32.ofNat 7))) (by decide +kernel))) hel0 hA0
  have hZ0 := va_Zof (C := "NamedPrices$Kind") (n := "ABOVE") (d := "[I") (hts _ (List.mem_of_getElem? (i := 429) (by decide +kernel))) (hts _ (List.mem_of_getElem? (i := 85) (by decide +kernel))) ev0 hA0
  have hel1 : ∀ j : Nat, j < 28 → (Term.elem (Term.static "NamedPrices$Voices" "BODIES" "[I") (.int (Int32.ofNat j))).eval #[Value.ref b] s none [] s = some (.int (kBo j)) := by
    intro j hj
    rcases Nat.eq_or_lt_of_le (Nat.le_of_lt_succ hj) with rfl | hj
    · exact va_eqt (z := kBo 27) (hs (Cond.eq (.elem (Term.static "NamedPrices$Voices" "BODIES" "[I") (.int (Int32.ofNat 27))) (.int (kBo 27))) (by decide +kernel))
    rcases Nat.eq_or_lt_of_le (Nat.le_of_lt_succ hj) with rfl | hj
    · exact va_eqt (z := kBo 26) (hs (Cond.eq (.elem (Term.static "NamedPrices$Voices" "BODIES" "[I") (.int (Int32.ofNat 26))) (.int (kBo 26))) (by decide +kernel))
    rcases Nat.eq_or_lt_of_le (Nat.le_of_lt_succ hj) with rfl | hj
    · exact va_eqt (z := kBo 25) (hs (Cond.eq (.elem (Term.static "NamedPrices$Voices" "BODIES" "[I") (.int (Int32.ofNat 25))) (.int (kBo 25))) (by decide +kernel))
    rcases Nat.eq_or_lt_of_le (Nat.le_of_lt_succ hj) with rfl | hj
    · exact va_eqt (z := kBo 24) (hs (Cond.eq (.elem (Term.static "NamedPrices$Voices" "BODIES" "[I") (.int (Int32.ofNat 24))) (.int (kBo 24))) (by decide +kernel))
    rcases Nat.eq_or_lt_of_le (Nat.le_of_lt_succ hj) with rfl | hj
    · exact va_eqt (z := kBo 23) (hs (Cond.eq (.elem (Term.static "NamedPrices$Voices" "BODIES" "[I") (.int (Int32.ofNat 23))) (.int (kBo 23))) (by decide +kernel))
    rcases Nat.eq_or_lt_of_le (Nat.le_of_lt_succ hj) with rfl | hj
    · exact va_eqt (z := kBo 22) (hs (Cond.eq (.elem (Term.static "NamedPrices$Voices" "BODIES" "[I") (.int (Int32.ofNat 22))) (.int (kBo 22))) (by decide +kernel))
    rcases Nat.eq_or_lt_of_le (Nat.le_of_lt_succ hj) with rfl | hj
    · exact va_eqt (z := kBo 21) (hs (Cond.eq (.elem (Term.static "NamedPrices$Voices" "BODIES" "[I") (.int (Int32.ofNat 21))) (.int (kBo 21))) (by decide +kernel))
    rcases Nat.eq_or_lt_of_le (Nat.le_of_lt_succ hj) with rfl | hj
    · exact va_eqt (z := kBo 20) (hs (Cond.eq (.elem (Term.static "NamedPrices$Voices" "BODIES" "[I") (.int (Int32.ofNat 20))) (.int (kBo 20))) (by decide +kernel))
    rcases Nat.eq_or_lt_of_le (Nat.le_of_lt_succ hj) with rfl | hj
    · exact va_eqt (z := kBo 19) (hs (Cond.eq (.elem (Term.static "NamedPrices$Voices" "BODIES" "[I") (.int (Int32.ofNat 19))) (.int (kBo 19))) (by decide +kernel))
    rcases Nat.eq_or_lt_of_le (Nat.le_of_lt_succ hj) with rfl | hj
    · exact va_eqt (z := kBo 18) (hs (Cond.eq (.elem (Term.static "NamedPrices$Voices" "BODIES" "[I") (.int (Int32.ofNat 18))) (.int (kBo 18))) (by decide +kernel))
    rcases Nat.eq_or_lt_of_le (Nat.le_of_lt_succ hj) with rfl | hj
    · exact va_eqt (z := kBo 17) (hs (Cond.eq (.elem (Term.static "NamedPrices$Voices" "BODIES" "[I") (.int (Int32.ofNat 17))) (.int (kBo 17))) (by decide +kernel))
    rcases Nat.eq_or_lt_of_le (Nat.le_of_lt_succ hj) with rfl | hj
    · exact va_eqt (z := kBo 16) (hs (Cond.eq (.elem (Term.static "NamedPrices$Voices" "BODIES" "[I") (.int (Int32.ofNat 16))) (.int (kBo 16))) (by decide +kernel))
    rcases Nat.eq_or_lt_of_le (Nat.le_of_lt_succ hj) with rfl | hj
    · exact va_eqt (z := kBo 15) (hs (Cond.eq (.elem (Term.static "NamedPrices$Voices" "BODIES" "[I") (.int (Int32.ofNat 15))) (.int (kBo 15))) (by decide +kernel))
    rcases Nat.eq_or_lt_of_le (Nat.le_of_lt_succ hj) with rfl | hj
    · exact va_eqt (z := kBo 14) (hs (Cond.eq (.elem (Term.static "NamedPrices$Voices" "BODIES" "[I") (.int (Int32.ofNat 14))) (.int (kBo 14))) (by decide +kernel))
    rcases Nat.eq_or_lt_of_le (Nat.le_of_lt_succ hj) with rfl | hj
    · exact va_eqt (z := kBo 13) (hs (Cond.eq (.elem (Term.static "NamedPrices$Voices" "BODIES" "[I") (.int (Int32.ofNat 13))) (.int (kBo 13))) (by decide +kernel))
    rcases Nat.eq_or_lt_of_le (Nat.le_of_lt_succ hj) with rfl | hj
    · exact va_eqt (z := kBo 12) (hs (Cond.eq (.elem (Term.static "NamedPrices$Voices" "BODIES" "[I") (.int (Int32.ofNat 12))) (.int (kBo 12))) (by decide +kernel))
    rcases Nat.eq_or_lt_of_le (Nat.le_of_lt_succ hj) with rfl | hj
    · exact va_eqt (z := kBo 11) (hs (Cond.eq (.elem (Term.static "NamedPrices$Voices" "BODIES" "[I") (.int (Int32.ofNat 11))) (.int (kBo 11))) (by decide +kernel))
    rcases Nat.eq_or_lt_of_le (Nat.le_of_lt_succ hj) with rfl | hj
    · exact va_eqt (z := kBo 10) (hs (Cond.eq (.elem (Term.static "NamedPrices$Voices" "BODIES" "[I") (.int (Int32.ofNat 10))) (.int (kBo 10))) (by decide +kernel))
    rcases Nat.eq_or_lt_of_le (Nat.le_of_lt_succ hj) with rfl | hj
    · exact va_eqt (z := kBo 9) (hs (Cond.eq (.elem (Term.static "NamedPrices$Voices" "BODIES" "[I") (.int (Int32.ofNat 9))) (.int (kBo 9))) (by decide +kernel))
    rcases Nat.eq_or_lt_of_le (Nat.le_of_lt_succ hj) with rfl | hj
    · exact va_eqt (z := kBo 8) (hs (Cond.eq (.elem (Term.static "NamedPrices$Voices" "BODIES" "[I") (.int (Int32.ofNat 8))) (.int (kBo 8))) (by decide +kernel))
    rcases Nat.eq_or_lt_of_le (Nat.le_of_lt_succ hj) with rfl | hj
    · exact va_eqt (z := kBo 7) (hs (Cond.eq (.elem (Term.static "NamedPrices$Voices" "BODIES" "[I") (.int (Int32.ofNat 7))) (.int (kBo 7))) (by decide +kernel))
    rcases Nat.eq_or_lt_of_le (Nat.le_of_lt_succ hj) with rfl | hj
    · exact va_eqt (z := kBo 6) (hs (Cond.eq (.elem (Term.static "NamedPrices$Voices" "BODIES" "[I") (.int (Int32.ofNat 6))) (.int (kBo 6))) (by decide +kernel))
    rcases Nat.eq_or_lt_of_le (Nat.le_of_lt_succ hj) with rfl | hj
    · exact va_eqt (z := kBo 5) (hs (Cond.eq (.elem (Term.static "NamedPrices$Voices" "BODIES" "[I") (.int (Int32.ofNat 5))) (.int (kBo 5))) (by decide +kernel))
    rcases Nat.eq_or_lt_of_le (Nat.le_of_lt_succ hj) with rfl | hj
    · exact va_eqt (z := kBo 4) (hs (Cond.eq (.elem (Term.static "NamedPrices$Voices" "BODIES" "[I") (.int (Int32.ofNat 4))) (.int (kBo 4))) (by decide +kernel))
    rcases Nat.eq_or_lt_of_le (Nat.le_of_lt_succ hj) with rfl | hj
    · exact va_eqt (z := kBo 3) (hs (Cond.eq (.elem (Term.static "NamedPrices$Voices" "BODIES" "[I") (.int (Int32.ofNat 3))) (.int (kBo 3))) (by decide +kernel))
    rcases Nat.eq_or_lt_of_le (Nat.le_of_lt_succ hj) with rfl | hj
    · exact va_eqt (z := kBo 2) (hs (Cond.eq (.elem (Term.static "NamedPrices$Voices" "BODIES" "[I") (.int (Int32.ofNat 2))) (.int (kBo 2))) (by decide +kernel))
    rcases Nat.eq_or_lt_of_le (Nat.le_of_lt_succ hj) with rfl | hj
    · exact va_eqt (z := kBo 1) (hs (Cond.eq (.elem (Term.static "NamedPrices$Voices" "BODIES" "[I") (.int (Int32.ofNat 1))) (.int (kBo 1))) (by decide +kernel))
    rcases Nat.eq_or_lt_of_le (Nat.le_of_lt_succ hj) with rfl | hj
    · exact va_eqt (z := kBo 0) (hs (Cond.eq (.elem (Term.static "NamedPrices$Voices" "BODIES" "[I") (.int (Int32.ofNat 0))) (.int (kBo 0))) (by decide +kernel))
    exact absurd hj (Nat.not_lt_zero _)
  obtain ⟨t1, ev1, hT1⟩ := va_Tof (tm := (Term.static "NamedPrices$Voices" "BODIES" "[I")) (ty := .int) (N := 28) (f := fun j => .int (kBo j)) (by decide) (hs (Cond.arrayOf (Term.static "NamedPrices$Voices" "BODIES" "[I") .int) (by decide +kernel)) (va_eqt (z := Int32.ofNat 28) (hs (Cond.eq (.length (Term.static "NamedPrices$Voices" "BODIES" "[I")) (.int (Int32.ofNat 28))) (by decide +kernel))) hel1 hA0
  have hZ1 := va_Zof (C := "NamedPrices$Voices") (n := "BODIES") (d := "[I") (hts _ (List.mem_of_getElem? (i := 1004) (by decide +kernel))) (hts _ (List.mem_of_getElem? (i := 82) (by decide +kernel))) ev1 hA0
  have hZc := va_Zof (C := "java/lang/String") (n := "COMPACT_STRINGS") (d := "Z") (hts _ (List.mem_of_getElem? (i := 637) (by decide +kernel))) (hts _ (List.mem_of_getElem? (i := 86) (by decide +kernel))) (va_eqi (z := 1) (hs (Cond.eq (.static "java/lang/String" "COMPACT_STRINGS" "Z") (.int 1)) (by decide +kernel))) hA0
  have two : ∀ {Q : Nat → Prop}, Q 0 → Q 1 → ∀ i : Nat, i < 2 → Q i := fun h0 h1 i hi => match i, hi with | 0, _ => h0 | 1, _ => h1
  have five : ∀ {Q : Nat → Prop}, Q 0 → Q 1 → Q 2 → Q 3 → Q 4 → ∀ i : Nat, i < 5 → Q i := fun h0 h1 h2 h3 h4 i hi => match i, hi with | 0, _ => h0 | 1, _ => h1 | 2, _ => h2 | 3, _ => h3 | 4, _ => h4
  let tm : Nat → Term := fun i => if i = 0 then .string "NamedPrices" 198 else .string "NamedPrices" 200
  obtain ⟨adK, adV, hSt, hev⟩ := vk_Sof (args := #[Value.ref b]) (s := s) (N := 2) (tm := tm) (len := [5, 5]) (byt := kSt) (A := fun q : Nat => s.heap.size ≤ q) (two (by decide) (by decide))
    (two (hs (Cond.exactly (.string "NamedPrices" 198) "java/lang/String") (by decide +kernel)) (hs (Cond.exactly (.string "NamedPrices" 200) "java/lang/String") (by decide +kernel)))
    (two (hs (Cond.eq (.field (.string "NamedPrices" 198) "java/lang/String" "coder" "B") (.int 0)) (by decide +kernel)) (hs (Cond.eq (.field (.string "NamedPrices" 200) "java/lang/String" "coder" "B") (.int 0)) (by decide +kernel)))
    (two (hs (Cond.arrayOf (.field (.string "NamedPrices" 198) "java/lang/String" "value" "[B") .byte) (by decide +kernel)) (hs (Cond.arrayOf (.field (.string "NamedPrices" 200) "java/lang/String" "value" "[B") .byte) (by decide +kernel)))
    (two (hs (Cond.eq (.length (.field (.string "NamedPrices" 198) "java/lang/String" "value" "[B")) (.int (Int32.ofNat 5))) (by decide +kernel)) (hs (Cond.eq (.length (.field (.string "NamedPrices" 200) "java/lang/String" "value" "[B")) (.int (Int32.ofNat 5))) (by decide +kernel)))
    (two (five (hs (Cond.eq (.elem (.field (.string "NamedPrices" 198) "java/lang/String" "value" "[B") (.int (Int32.ofNat 0))) (.int 118)) (by decide +kernel)) (hs (Cond.eq (.elem (.field (.string "NamedPrices" 198) "java/lang/String" "value" "[B") (.int (Int32.ofNat 1))) (.int 109)) (by decide +kernel)) (hs (Cond.eq (.elem (.field (.string "NamedPrices" 198) "java/lang/String" "value" "[B") (.int (Int32.ofNat 2))) (.int 112)) (by decide +kernel)) (hs (Cond.eq (.elem (.field (.string "NamedPrices" 198) "java/lang/String" "value" "[B") (.int (Int32.ofNat 3))) (.int 114)) (by decide +kernel)) (hs (Cond.eq (.elem (.field (.string "NamedPrices" 198) "java/lang/String" "value" "[B") (.int (Int32.ofNat 4))) (.int 121)) (by decide +kernel))) (five (hs (Cond.eq (.elem (.field (.string "NamedPrices" 200) "java/lang/String" "value" "[B") (.int (Int32.ofNat 0))) (.int 118)) (by decide +kernel)) (hs (Cond.eq (.elem (.field (.string "NamedPrices" 200) "java/lang/String" "value" "[B") (.int (Int32.ofNat 1))) (.int 115)) (by decide +kernel)) (hs (Cond.eq (.elem (.field (.string "NamedPrices" 200) "java/lang/String" "value" "[B") (.int (Int32.ofNat 2))) (.int 99)) (by decide +kernel)) (hs (Cond.eq (.elem (.field (.string "NamedPrices" 200) "java/lang/String" "value" "[B") (.int (Int32.ofNat 3))) (.int 117)) (by decide +kernel)) (hs (Cond.eq (.elem (.field (.string "NamedPrices" 200) "java/lang/String" "value" "[B") (.int (Int32.ofNat 4))) (.int 114)) (by decide +kernel))))
    (fun i j hi hj hij => by
      have h1 : (i = 0 ∧ j = 1) ∨ (i = 1 ∧ j = 0) := by omega
      have hne : (Cond.not (Cond.eq (tm 0) (tm 1))).before #[Value.ref b] s = true := (hs (Cond.not (Cond.eq (.string "NamedPrices" 198) (.string "NamedPrices" 200))) (by decide +kernel))
      rcases h1 with ⟨rfl, rfl⟩ | ⟨rfl, rfl⟩
      · exact Or.inl hne
      · exact Or.inr hne) hA0
  let sa : Nat → Nat := fun k => if k = 0 then t0 else if k = 1 then t1 else if k < 4 then adK (k - 2) else adV (k - 4)
  have eK : (fun i => sa (2 + i)) 0 = adK 0 ∧ (fun i => sa (2 + i)) 1 = adK 1 ∧ (fun i => sa (4 + i)) 0 = adV 0 ∧ (fun i => sa (4 + i)) 1 = adV 1 := ⟨rfl, rfl, rfl, rfl⟩
  have hSt2 : vk_S 2 [5, 5] kSt (fun i => sa (2 + i)) (fun i => sa (4 + i)) (fun q : Nat => s.heap.size ≤ q) s s.heap := ⟨two (hSt.1 0 (by decide)) (hSt.1 1 (by decide)), fun i j hi hj e => hSt.2 i j hi hj (by have h1 : (i = 0 ∨ i = 1) ∧ (j = 0 ∨ j = 1) := (by omega); rcases h1 with ⟨rfl | rfl, rfl | rfl⟩ <;> exact e)⟩
  have hSF : SF sa (fun q : Nat => s.heap.size ≤ q) s s.heap := ⟨hZ0, hT0, hZ1, hT1, hZc, hSt2, vk_R.of (A := #[Value.ref b]) (hts _ (List.mem_of_getElem? (i := 597) (by decide +kernel))) (hev 0 (by decide)), vk_R.of (A := #[Value.ref b]) (hts _ (List.mem_of_getElem? (i := 598) (by decide +kernel))) (hev 1 (by decide)), va_Nw.of (A := #[Value.ref b]) rfl (hts _ (List.mem_of_getElem? (i := 244) (by decide +kernel))), va_AO.of (A := #[Value.ref b]) (hts _ (List.mem_of_getElem? (i := 373) (by decide +kernel)))⟩
  obtain ⟨c2, iS2, hKn2⟩ := u_known (C := RX2) (T := TX2) (N := 5) (n := 5) hts (fun w h => tb_tbl w (inX2 w h)) (hts _ (tb_tbl _ q_inst_X2))
  obtain ⟨c3, iS3, hKn3⟩ := u_known (C := RX3) (T := TX3) (N := 4) (n := 4) hts (fun w h => tb_tbl w (inX3 w h)) (hts _ (tb_tbl _ q_inst_X3))
  obtain ⟨c4, iS4, hKn4⟩ := u_known (C := RX4) (T := TX4) (N := 5) (n := 5) hts (fun w h => tb_tbl w (inX4 w h)) (hts _ (tb_tbl _ q_inst_X4))
  obtain ⟨c5, iS5, hKn5⟩ := u_known (C := RX5) (T := TX5) (N := 2) (n := 2) hts (fun w h => tb_tbl w (inX5 w h)) (hts _ (tb_tbl _ q_inst_X5))
  obtain ⟨c6, iS6, hKn6⟩ := u_known (C := RX6) (T := TX6) (N := 2) (n := 2) hts (fun w h => tb_tbl w (inX6 w h)) (hts _ (tb_tbl _ q_inst_X6))
  obtain ⟨c7, iS7, hKn7⟩ := u_known (C := RX7) (T := TX7) (N := 3) (n := 3) hts (fun w h => tb_tbl w (inX7 w h)) (hts _ (tb_tbl _ q_inst_X7))
  obtain ⟨c8, iS8, hKn8⟩ := u_known (C := RX8) (T := TX8) (N := 5) (n := 5) hts (fun w h => tb_tbl w (inX8 w h)) (hts _ (tb_tbl _ q_inst_X8))
  obtain ⟨c9, iS9, hKn9⟩ := u_known (C := RX9) (T := TX9) (N := 15) (n := 15) hts (fun w h => tb_tbl w (inX9 w h)) (hts _ (tb_tbl _ q_inst_X9))
  obtain ⟨c10, iS10, hKn10⟩ := u_known (C := RX10) (T := TX10) (N := 5) (n := 5) hts (fun w h => tb_tbl w (inX10 w h)) (hts _ (tb_tbl _ q_inst_X10))
  obtain ⟨c11, iS11, hKn11⟩ := u_known (C := RX11) (T := TX11) (N := 9) (n := 9) hts (fun w h => tb_tbl w (inX11 w h)) (hts _ (tb_tbl _ q_inst_X11))
  obtain ⟨c12, iS12, hKn12⟩ := u_known (C := RX12) (T := TX12) (N := 20) (n := 20) hts (fun w h => tb_tbl w (inX12 w h)) (hts _ (tb_tbl _ q_inst_X12))
  let dC : Nat → ClassId := fun k => [c2, c3, c4, c5, c6, c7, c8, c9, c10, c11, c12].getD k c2
  let dI : Nat → Nat → Nat := fun k => [iS2, iS3, iS4, iS5, iS6, iS7, iS8, iS9, iS10, iS11, iS12].getD k iS2
  have hKc : ∀ (k : Nat) (q : vw_C), vwCl[k]? = some q → u_Kn s q.1 q.2.1 q.2.2 (dC k) (dI k) := by
    intro k q hq
    match k, hq with
    | 0, hq => cases hq; exact hKn2
    | 1, hq => cases hq; exact hKn3
    | 2, hq => cases hq; exact hKn4
    | 3, hq => cases hq; exact hKn5
    | 4, hq => cases hq; exact hKn6
    | 5, hq => cases hq; exact hKn7
    | 6, hq => cases hq; exact hKn8
    | 7, hq => cases hq; exact hKn9
    | 8, hq => cases hq; exact hKn10
    | 9, hq => cases hq; exact hKn11
    | 10, hq => cases hq; exact hKn12
    | k + 11, hq => simp [vwCl] at hq
  obtain ⟨cI, kI, compI, i1, i2, i3⟩ := Cond.arrayClass_spec (hts (.arrayClass .int) (tb_tbl _ q_arr_int))
  have hAO : (Cond.arrayOver (.object "NamedPrices$Sheet")).before #[Value.ref b] s = true := (hts _ (List.mem_of_getElem? (i := 373) (by decide +kernel)))
  obtain ⟨compS, cS, kS, j1, j2, j3, j4, j5⟩ := Cond.arrayOver_spec hAO
  have hK : va_K (dC, dI) vwCl [(cI, .int), (cS, .object RX6)] s := by
    refine ⟨hKc, fun k q hq => ?_⟩
    match k, hq with
    | 0, hq => cases hq; exact ⟨fun n z => ⟨fun k h => (by cases h), kI, i2, compI, i3⟩, i1⟩
    | 1, hq => cases hq; exact ⟨fun n z => ⟨fun k h => (by cases h), kS, j3, compS, j4⟩, kS, compS, j3, j4, j1, j5⟩
    | k + 2, hq => simp at hq
  let κ : kT := (p, e, room_1, s, m, #[Value.ref b], below, meth, c, lw_Z below #[Value.ref b] s, fun q : Nat => s.heap.size ≤ q)
  let ε : eT := (l, (dC, dI), cI, cS, fun _ => 0, sa)
  have C : Act ε κ code 4 RL 1900 := ⟨⟨hx, hb, hml, hown, fun w h => hts w (tb_tbl w h)⟩, hlocks, hK, fun q h => h, hSF, Nat.le_of_ble_eq_true rfl, Nat.le_of_ble_eq_true rfl⟩
  have Z : LC κ b L xs := ⟨hX, hbl, Nat.not_le.mpr hbl, ⟨Nat.le_of_ble_eq_true rfl, Nat.le_of_ble_eq_true rfl⟩, hr, rfl, rfl, rfl, rfl⟩
  have key : V ε κ 4 0 [(0, .ref b)] [] [] 0 0 := by
    refine V_new C inX11 tyX11 tyX11_ok (ci := 9) rfl q_CL_L_7 q_inst_X11 q_init_X11 [.null, .null, .null, .null, .null, .null, .null, .null, .int 0] (by decide +kernel) (Nat.le_of_ble_eq_true rfl) (Nat.le_of_ble_eq_true rfl) dL_law_0 (fun a1 => ?_)
    refine V_dup C dL_law_3 rfl ?_
    refine V_sufI (wr := []) C cf_X11_init m_X11_init q_ML_L_9 dL_law_4 (by decide) rfl rfl (Nat.le_of_ble_eq_true rfl) ⟨Nat.le_of_ble_eq_true rfl, Nat.le_of_ble_eq_true rfl⟩ (fun r w1 h => ?_)
    obtain ⟨rfl, al1, e1, rfl⟩ := h
    refine V_eq C (st' := [.ref a1]) rfl ?_
    refine V_astore_n (lv' := [(1, .ref a1), (0, .ref b)]) C dL_law_7 rfl (by decide) rfl ?_
    refine V_new C inX12 tyX12 tyX12_ok (ci := 10) rfl q_CL_L_10 q_inst_X12 q_init_X12 [.null, .null, .null, .int 0, .null, .int 0, .int 0, .int 0, .int 0, .null, .null, .null, .null, .int 0, .int 0, .int 0, .null, .null, .null, .null] (by decide +kernel) (Nat.le_of_ble_eq_true rfl) (Nat.le_of_ble_eq_true rfl) dL_law_8 (fun a2 => ?_)
    refine V_dup C dL_law_11 rfl ?_
    refine V_sufI (wr := [] ++ cells_X11 ε al1) C cf_X12_init m_X12_init q_ML_L_12 dL_law_12 (by decide) rfl rfl (Nat.le_of_ble_eq_true rfl) ⟨Nat.le_of_ble_eq_true rfl, Nat.le_of_ble_eq_true rfl⟩ (fun r w1 h => ?_)
    obtain ⟨rfl, al2, e2, rfl⟩ := h
    refine V_eq C (st' := [.ref a2]) rfl ?_
    refine V_astore_n (lv' := [(2, .ref a2), (1, .ref a1), (0, .ref b)]) C dL_law_15 rfl (by decide) rfl ?_
    refine V_iconst C dL_law_16 kc_i_0 ?_
    refine V_istore_n (lv' := [(3, .int 0), (2, .ref a2), (1, .ref a1), (0, .ref b)]) C dL_law_17 rfl (by decide) rfl ?_
    refine V_sub C [3, 2, 1, 0] rfl ?_
    refine V_widen (k' := 600000) (n' := 7302250) C (Nat.le_of_ble_eq_true rfl) (Nat.le_of_ble_eq_true rfl) ?_
    subst e1
    subst e2
    exact V_al (al' := al0 al1 al2) (first_ws l (dC, dI) cI cS _ sa al1 al2) (v_L_law_18 (Act_al C) Z 1000 S0 0 (lawful hL))
  have hl := lv_entry ([.ref b]) (n := 4) (Nat.le_of_ble_eq_true rfl)
  rw [lg_entry_eq]
  exact key s.heap [] _ (fun k q h => by simp at h) ⟨fun i j p q h => by simp at h, fun k q h => by simp at h⟩ va_S.rf hl
