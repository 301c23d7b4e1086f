def al0 (a1 a2 : Nat → Nat) (k : Nat) : Nat := if k < 172 then a1 k else a2 (k - 172)
set_option maxRecDepth 1000000 in
set_option maxHeartbeats 8000000 in
theorem first_ws (l : Launch) (D : va_G) (cI cS : ClassId) (al sa a1 a2 : Nat → Nat) : cells_X11 (l, D, cI, cS, al, sa) a1 ++ cells_X12 (l, D, cI, cS, al, sa) a2 = wsOf (l, D, cI, cS, al0 a1 a2, sa) S0 := by rfl
theorem V_al {l : Launch} {D : va_G} {cI cS : ClassId} {al al' sa : Nat → Nat} {κ : kT} {nL pc : Nat} {lv : List (Nat × Value)} {st : List Value} {ws ws' : va_W} {k n : Nat} (h : ws = ws') (K : V (l, D, cI, cS, al', sa) κ nL pc lv st ws' k n) : V (l, D, cI, cS, al, sa) κ nL pc lv st ws k n := by subst h; exact K
theorem Act_al {l : Launch} {D : va_G} {cI cS : ClassId} {al al' sa : Nat → Nat} {κ : kT} {cc : ByteArray} {nL d : Nat} {own : String} (C : Act (l, D, cI, cS, al, sa) κ cc nL own d) : Act (l, D, cI, cS, al', sa) κ cc nL own d := C
