def rul0 : Nat → Int32 := upd (upd (upd (upd (fun _ => 0) 0 5) 1 10) 3 1) 4 20
def mdl0 : Nat → Int32 := upd (upd (upd (upd (upd (fun _ => 0) 8 1) 10 5) 11 10) 13 1) 14 20
def cells_X2 (ε : eT) (al : Nat → Nat) : va_W := [(al 0, .inr (0, [.ref (al 1), .ref (al 3), .ref (al 5), .long 0, .int 0])), (al 1, .inr (3, [.ref (al 2), .int 0])), (al 2, .inl (eI ε, 6, .inl (fun _ => 0))), (al 3, .inr (3, [.ref (al 4), .int 0])), (al 4, .inl (eI ε, 6, .inl (fun _ => 0))), (al 5, .inr (3, [.ref (al 6), .int 0])), (al 6, .inl (eI ε, 6, .inl (fun _ => 0)))]
def cells_X3 (ε : eT) (al : Nat → Nat) : va_W := [(al 0, .inr (1, [.ref (al 1), .ref (al 3), .ref (al 5), .ref (al 7)])), (al 1, .inr (3, [.ref (al 2), .int 0])), (al 2, .inl (eI ε, 6, .inl (fun _ => 0))), (al 3, .inr (3, [.ref (al 4), .int 0])), (al 4, .inl (eI ε, 6, .inl (fun _ => 0))), (al 5, .inr (3, [.ref (al 6), .int 0])), (al 6, .inl (eI ε, 6, .inl (fun _ => 0))), (al 7, .inr (3, [.ref (al 8), .int 0])), (al 8, .inl (eI ε, 6, .inl (fun _ => 0)))]
def cells_X4 (ε : eT) (al : Nat → Nat) : va_W := [(al 0, .inr (2, [.ref (al 1), .ref (al 3), .int 0, .int 0, .int 0])), (al 1, .inr (3, [.ref (al 2), .int 0])), (al 2, .inl (eI ε, 60, .inl (fun _ => 0))), (al 3, .inr (3, [.ref (al 4), .int 0])), (al 4, .inl (eI ε, 60, .inl (fun _ => 0)))]
def cells_X6 (ε : eT) (al : Nat → Nat) : va_W := [(al 0, .inr (4, [.ref (al 1), .int 0])), (al 1, .inr (3, [.ref (al 2), .int 0])), (al 2, .inl (eI ε, 24, .inl (fun _ => 0)))]
def cells_X7 (ε : eT) (al : Nat → Nat) : va_W := [(al 0, .inr (5, [.ref (al 1), .ref (al 3), .ref (al 5)])), (al 1, .inr (3, [.ref (al 2), .int 0])), (al 2, .inl (eI ε, 60, .inl (fun _ => 0))), (al 3, .inr (3, [.ref (al 4), .int 5])), (al 4, .inl (eI ε, 5, .inl (fun _ => 0))), (al 5, .inr (3, [.ref (al 6), .int 0])), (al 6, .inl (eI ε, 60, .inl (fun _ => 0)))]
def cells_X8 (ε : eT) (al : Nat → Nat) : va_W := [(al 0, .inr (6, [.ref (al 1), .ref (al 3), .ref (al 5), .ref (al 7), .ref (al 9)])), (al 1, .inr (3, [.ref (al 2), .int 0])), (al 2, .inl (eI ε, 12, .inl (fun _ => 0))), (al 3, .inr (3, [.ref (al 4), .int 0])), (al 4, .inl (eI ε, 12, .inl (fun _ => 0))), (al 5, .inr (3, [.ref (al 6), .int 0])), (al 6, .inl (eI ε, 12, .inl (fun _ => 0))), (al 7, .inr (3, [.ref (al 8), .int 0])), (al 8, .inl (eI ε, 12, .inl (fun _ => 0))), (al 9, .inr (3, [.ref (al 10), .int 72])), (al 10, .inl (eI ε, 72, .inl (fun _ => 0)))]
def cells_X9 (ε : eT) (al : Nat → Nat) (mk : Nat) : va_W := [(al 0, .inr (7, [.ref (al 1), .ref (al 10), .ref (al 21), .ref (al 23), .ref (al 25), .ref (al 27), .ref (al 29), .ref (al 36), .ref (al 43), .ref (al 45), .ref mk, .int 0, .int 0, .int 0, .int 1])), (al 1, .inr (1, [.ref (al 2), .ref (al 4), .ref (al 6), .ref (al 8)])), (al 2, .inr (3, [.ref (al 3), .int 0])), (al 3, .inl (eI ε, 6, .inl (fun _ => 0))), (al 4, .inr (3, [.ref (al 5), .int 0])), (al 5, .inl (eI ε, 6, .inl (fun _ => 0))), (al 6, .inr (3, [.ref (al 7), .int 0])), (al 7, .inl (eI ε, 6, .inl (fun _ => 0))), (al 8, .inr (3, [.ref (al 9), .int 0])), (al 9, .inl (eI ε, 6, .inl (fun _ => 0))), (al 10, .inr (6, [.ref (al 11), .ref (al 13), .ref (al 15), .ref (al 17), .ref (al 19)])), (al 11, .inr (3, [.ref (al 12), .int 0])), (al 12, .inl (eI ε, 12, .inl (fun _ => 0))), (al 13, .inr (3, [.ref (al 14), .int 0])), (al 14, .inl (eI ε, 12, .inl (fun _ => 0))), (al 15, .inr (3, [.ref (al 16), .int 0])), (al 16, .inl (eI ε, 12, .inl (fun _ => 0))), (al 17, .inr (3, [.ref (al 18), .int 0])), (al 18, .inl (eI ε, 12, .inl (fun _ => 0))), (al 19, .inr (3, [.ref (al 20), .int 72])), (al 20, .inl (eI ε, 72, .inl (fun _ => 0))), (al 21, .inr (3, [.ref (al 22), .int 0])), (al 22, .inl (eI ε, 6, .inl (fun _ => 0))), (al 23, .inr (3, [.ref (al 24), .int 0])), (al 24, .inl (eI ε, 6, .inl (fun _ => 0))), (al 25, .inr (3, [.ref (al 26), .int 0])), (al 26, .inl (eI ε, 6, .inl (fun _ => 0))), (al 27, .inr (3, [.ref (al 28), .int 5])), (al 28, .inl (eI ε, 5, .inl (rul0))), (al 29, .inr (5, [.ref (al 30), .ref (al 32), .ref (al 34)])), (al 30, .inr (3, [.ref (al 31), .int 0])), (al 31, .inl (eI ε, 60, .inl (fun _ => 0))), (al 32, .inr (3, [.ref (al 33), .int 5])), (al 33, .inl (eI ε, 5, .inl (fun _ => 0))), (al 34, .inr (3, [.ref (al 35), .int 0])), (al 35, .inl (eI ε, 60, .inl (fun _ => 0))), (al 36, .inr (5, [.ref (al 37), .ref (al 39), .ref (al 41)])), (al 37, .inr (3, [.ref (al 38), .int 0])), (al 38, .inl (eI ε, 60, .inl (fun _ => 0))), (al 39, .inr (3, [.ref (al 40), .int 5])), (al 40, .inl (eI ε, 5, .inl (fun _ => 0))), (al 41, .inr (3, [.ref (al 42), .int 0])), (al 42, .inl (eI ε, 60, .inl (fun _ => 0))), (al 43, .inr (3, [.ref (al 44), .int 0])), (al 44, .inl (eI ε, 60, .inl (fun _ => 0))), (al 45, .inr (3, [.ref (al 46), .int 0])), (al 46, .inl (eI ε, 24, .inl (fun _ => 0)))]
def cells_X10 (ε : eT) (al : Nat → Nat) : va_W := [(al 0, .inr (8, [.ref (al 1), .int 0, .int 0, .int 0, .int 0])), (al 1, .inr (3, [.ref (al 2), .int 0])), (al 2, .inl (eI ε, 30, .inl (fun _ => 0)))]
def cells_X11 (ε : eT) (al : Nat → Nat) : va_W := [(al 0, .inr (9, [.ref (al 8), .ref (al 55), .ref (al 102), .ref (al 149), .ref (al 1), .ref (al 154), .ref (al 157), .ref (al 170), .int 0])), (al 1, .inr (0, [.ref (al 2), .ref (al 4), .ref (al 6), .long 0, .int 0])), (al 2, .inr (3, [.ref (al 3), .int 0])), (al 3, .inl (eI ε, 6, .inl (fun _ => 0))), (al 4, .inr (3, [.ref (al 5), .int 0])), (al 5, .inl (eI ε, 6, .inl (fun _ => 0))), (al 6, .inr (3, [.ref (al 7), .int 0])), (al 7, .inl (eI ε, 6, .inl (fun _ => 0))), (al 8, .inr (7, [.ref (al 9), .ref (al 18), .ref (al 29), .ref (al 31), .ref (al 33), .ref (al 35), .ref (al 37), .ref (al 44), .ref (al 51), .ref (al 53), .ref (al 1), .int 0, .int 0, .int 0, .int 1])), (al 9, .inr (1, [.ref (al 10), .ref (al 12), .ref (al 14), .ref (al 16)])), (al 10, .inr (3, [.ref (al 11), .int 0])), (al 11, .inl (eI ε, 6, .inl (fun _ => 0))), (al 12, .inr (3, [.ref (al 13), .int 0])), (al 13, .inl (eI ε, 6, .inl (fun _ => 0))), (al 14, .inr (3, [.ref (al 15), .int 0])), (al 15, .inl (eI ε, 6, .inl (fun _ => 0))), (al 16, .inr (3, [.ref (al 17), .int 0])), (al 17, .inl (eI ε, 6, .inl (fun _ => 0))), (al 18, .inr (6, [.ref (al 19), .ref (al 21), .ref (al 23), .ref (al 25), .ref (al 27)])), (al 19, .inr (3, [.ref (al 20), .int 0])), (al 20, .inl (eI ε, 12, .inl (fun _ => 0))), (al 21, .inr (3, [.ref (al 22), .int 0])), (al 22, .inl (eI ε, 12, .inl (fun _ => 0))), (al 23, .inr (3, [.ref (al 24), .int 0])), (al 24, .inl (eI ε, 12, .inl (fun _ => 0))), (al 25, .inr (3, [.ref (al 26), .int 0])), (al 26, .inl (eI ε, 12, .inl (fun _ => 0))), (al 27, .inr (3, [.ref (al 28), .int 72])), (al 28, .inl (eI ε, 72, .inl (fun _ => 0))), (al 29, .inr (3, [.ref (al 30), .int 0])), (al 30, .inl (eI ε, 6, .inl (fun _ => 0))), (al 31, .inr (3, [.ref (al 32), .int 0])), (al 32, .inl (eI ε, 6, .inl (fun _ => 0))), (al 33, .inr (3, [.ref (al 34), .int 0])), (al 34, .inl (eI ε, 6, .inl (fun _ => 0))), (al 35, .inr (3, [.ref (al 36), .int 5])), (al 36, .inl (eI ε, 5, .inl (rul0))), (al 37, .inr (5, [.ref (al 38), .ref (al 40), .ref (al 42)])), (al 38, .inr (3, [.ref (al 39), .int 0])), (al 39, .inl (eI ε, 60, .inl (fun _ => 0))), (al 40, .inr (3, [.ref (al 41), .int 5])), (al 41, .inl (eI ε, 5, .inl (fun _ => 0))), (al 42, .inr (3, [.ref (al 43), .int 0])), (al 43, .inl (eI ε, 60, .inl (fun _ => 0))), (al 44, .inr (5, [.ref (al 45), .ref (al 47), .ref (al 49)])), (al 45, .inr (3, [.ref (al 46), .int 0])), (al 46, .inl (eI ε, 60, .inl (fun _ => 0))), (al 47, .inr (3, [.ref (al 48), .int 5])), (al 48, .inl (eI ε, 5, .inl (fun _ => 0))), (al 49, .inr (3, [.ref (al 50), .int 0])), (al 50, .inl (eI ε, 60, .inl (fun _ => 0))), (al 51, .inr (3, [.ref (al 52), .int 0])), (al 52, .inl (eI ε, 60, .inl (fun _ => 0))), (al 53, .inr (3, [.ref (al 54), .int 0])), (al 54, .inl (eI ε, 24, .inl (fun _ => 0))), (al 55, .inr (7, [.ref (al 56), .ref (al 65), .ref (al 76), .ref (al 78), .ref (al 80), .ref (al 82), .ref (al 84), .ref (al 91), .ref (al 98), .ref (al 100), .ref (al 1), .int 0, .int 0, .int 0, .int 1])), (al 56, .inr (1, [.ref (al 57), .ref (al 59), .ref (al 61), .ref (al 63)])), (al 57, .inr (3, [.ref (al 58), .int 0])), (al 58, .inl (eI ε, 6, .inl (fun _ => 0))), (al 59, .inr (3, [.ref (al 60), .int 0])), (al 60, .inl (eI ε, 6, .inl (fun _ => 0))), (al 61, .inr (3, [.ref (al 62), .int 0])), (al 62, .inl (eI ε, 6, .inl (fun _ => 0))), (al 63, .inr (3, [.ref (al 64), .int 0])), (al 64, .inl (eI ε, 6, .inl (fun _ => 0))), (al 65, .inr (6, [.ref (al 66), .ref (al 68), .ref (al 70), .ref (al 72), .ref (al 74)])), (al 66, .inr (3, [.ref (al 67), .int 0])), (al 67, .inl (eI ε, 12, .inl (fun _ => 0))), (al 68, .inr (3, [.ref (al 69), .int 0])), (al 69, .inl (eI ε, 12, .inl (fun _ => 0))), (al 70, .inr (3, [.ref (al 71), .int 0])), (al 71, .inl (eI ε, 12, .inl (fun _ => 0))), (al 72, .inr (3, [.ref (al 73), .int 0])), (al 73, .inl (eI ε, 12, .inl (fun _ => 0))), (al 74, .inr (3, [.ref (al 75), .int 72])), (al 75, .inl (eI ε, 72, .inl (fun _ => 0))), (al 76, .inr (3, [.ref (al 77), .int 0])), (al 77, .inl (eI ε, 6, .inl (fun _ => 0))), (al 78, .inr (3, [.ref (al 79), .int 0])), (al 79, .inl (eI ε, 6, .inl (fun _ => 0))), (al 80, .inr (3, [.ref (al 81), .int 0])), (al 81, .inl (eI ε, 6, .inl (fun _ => 0))), (al 82, .inr (3, [.ref (al 83), .int 5])), (al 83, .inl (eI ε, 5, .inl (rul0))), (al 84, .inr (5, [.ref (al 85), .ref (al 87), .ref (al 89)])), (al 85, .inr (3, [.ref (al 86), .int 0])), (al 86, .inl (eI ε, 60, .inl (fun _ => 0))), (al 87, .inr (3, [.ref (al 88), .int 5])), (al 88, .inl (eI ε, 5, .inl (fun _ => 0))), (al 89, .inr (3, [.ref (al 90), .int 0])), (al 90, .inl (eI ε, 60, .inl (fun _ => 0))), (al 91, .inr (5, [.ref (al 92), .ref (al 94), .ref (al 96)])), (al 92, .inr (3, [.ref (al 93), .int 0])), (al 93, .inl (eI ε, 60, .inl (fun _ => 0))), (al 94, .inr (3, [.ref (al 95), .int 5])), (al 95, .inl (eI ε, 5, .inl (fun _ => 0))), (al 96, .inr (3, [.ref (al 97), .int 0])), (al 97, .inl (eI ε, 60, .inl (fun _ => 0))), (al 98, .inr (3, [.ref (al 99), .int 0])), (al 99, .inl (eI ε, 60, .inl (fun _ => 0))), (al 100, .inr (3, [.ref (al 101), .int 0])), (al 101, .inl (eI ε, 24, .inl (fun _ => 0))), (al 102, .inr (7, [.ref (al 103), .ref (al 112), .ref (al 123), .ref (al 125), .ref (al 127), .ref (al 129), .ref (al 131), .ref (al 138), .ref (al 145), .ref (al 147), .ref (al 1), .int 0, .int 0, .int 0, .int 1])), (al 103, .inr (1, [.ref (al 104), .ref (al 106), .ref (al 108), .ref (al 110)])), (al 104, .inr (3, [.ref (al 105), .int 0])), (al 105, .inl (eI ε, 6, .inl (fun _ => 0))), (al 106, .inr (3, [.ref (al 107), .int 0])), (al 107, .inl (eI ε, 6, .inl (fun _ => 0))), (al 108, .inr (3, [.ref (al 109), .int 0])), (al 109, .inl (eI ε, 6, .inl (fun _ => 0))), (al 110, .inr (3, [.ref (al 111), .int 0])), (al 111, .inl (eI ε, 6, .inl (fun _ => 0))), (al 112, .inr (6, [.ref (al 113), .ref (al 115), .ref (al 117), .ref (al 119), .ref (al 121)])), (al 113, .inr (3, [.ref (al 114), .int 0])), (al 114, .inl (eI ε, 12, .inl (fun _ => 0))), (al 115, .inr (3, [.ref (al 116), .int 0])), (al 116, .inl (eI ε, 12, .inl (fun _ => 0))), (al 117, .inr (3, [.ref (al 118), .int 0])), (al 118, .inl (eI ε, 12, .inl (fun _ => 0))), (al 119, .inr (3, [.ref (al 120), .int 0])), (al 120, .inl (eI ε, 12, .inl (fun _ => 0))), (al 121, .inr (3, [.ref (al 122), .int 72])), (al 122, .inl (eI ε, 72, .inl (fun _ => 0))), (al 123, .inr (3, [.ref (al 124), .int 0])), (al 124, .inl (eI ε, 6, .inl (fun _ => 0))), (al 125, .inr (3, [.ref (al 126), .int 0])), (al 126, .inl (eI ε, 6, .inl (fun _ => 0))), (al 127, .inr (3, [.ref (al 128), .int 0])), (al 128, .inl (eI ε, 6, .inl (fun _ => 0))), (al 129, .inr (3, [.ref (al 130), .int 5])), (al 130, .inl (eI ε, 5, .inl (rul0))), (al 131, .inr (5, [.ref (al 132), .ref (al 134), .ref (al 136)])), (al 132, .inr (3, [.ref (al 133), .int 0])), (al 133, .inl (eI ε, 60, .inl (fun _ => 0))), (al 134, .inr (3, [.ref (al 135), .int 5])), (al 135, .inl (eI ε, 5, .inl (fun _ => 0))), (al 136, .inr (3, [.ref (al 137), .int 0])), (al 137, .inl (eI ε, 60, .inl (fun _ => 0))), (al 138, .inr (5, [.ref (al 139), .ref (al 141), .ref (al 143)])), (al 139, .inr (3, [.ref (al 140), .int 0])), (al 140, .inl (eI ε, 60, .inl (fun _ => 0))), (al 141, .inr (3, [.ref (al 142), .int 5])), (al 142, .inl (eI ε, 5, .inl (fun _ => 0))), (al 143, .inr (3, [.ref (al 144), .int 0])), (al 144, .inl (eI ε, 60, .inl (fun _ => 0))), (al 145, .inr (3, [.ref (al 146), .int 0])), (al 146, .inl (eI ε, 60, .inl (fun _ => 0))), (al 147, .inr (3, [.ref (al 148), .int 0])), (al 148, .inl (eI ε, 24, .inl (fun _ => 0))), (al 149, .inr (2, [.ref (al 150), .ref (al 152), .int 0, .int 0, .int 0])), (al 150, .inr (3, [.ref (al 151), .int 0])), (al 151, .inl (eI ε, 60, .inl (fun _ => 0))), (al 152, .inr (3, [.ref (al 153), .int 0])), (al 153, .inl (eI ε, 60, .inl (fun _ => 0))), (al 154, .inr (8, [.ref (al 155), .int 0, .int 0, .int 0, .int 0])), (al 155, .inr (3, [.ref (al 156), .int 0])), (al 156, .inl (eI ε, 30, .inl (fun _ => 0))), (al 157, .inl (eS ε, 4, .inr (.inr (.inr (.inr (shf al 157)))))), (al 158, .inr (4, [.ref (al 159), .int 0])), (al 159, .inr (3, [.ref (al 160), .int 0])), (al 160, .inl (eI ε, 24, .inl (fun _ => 0))), (al 161, .inr (4, [.ref (al 162), .int 0])), (al 162, .inr (3, [.ref (al 163), .int 0])), (al 163, .inl (eI ε, 24, .inl (fun _ => 0))), (al 164, .inr (4, [.ref (al 165), .int 0])), (al 165, .inr (3, [.ref (al 166), .int 0])), (al 166, .inl (eI ε, 24, .inl (fun _ => 0))), (al 167, .inr (4, [.ref (al 168), .int 0])), (al 168, .inr (3, [.ref (al 169), .int 0])), (al 169, .inl (eI ε, 24, .inl (fun _ => 0))), (al 170, .inr (3, [.ref (al 171), .int 7])), (al 171, .inl (eI ε, 7, .inl (fun _ => 0)))]
def cells_X12 (ε : eT) (al : Nat → Nat) : va_W := [(al 0, .inr (10, [.ref (al 1), .ref (al 2), .ref (al 3), .int 0, .ref (al 4), .int 0, .int 0, .int 0, .int 0, .ref (al 5), .ref (al 6), .ref (al 7), .ref (al 8), .int 0, .int 0, .int 0, .ref (al 9), .ref (al 10), .ref (al 11), .ref (al 12)])), (al 1, .inl (eI ε, 516, .inl (mdl0))), (al 2, .inl (eI ε, 516, .inl (fun _ => 0))), (al 3, .inl (eI ε, 516, .inl (fun _ => 0))), (al 4, .inl (eI ε, 7, .inl (fun _ => 0))), (al 5, .inl (eI ε, 124, .inl (fun _ => 0))), (al 6, .inl (eI ε, 128, .inl (fun _ => 0))), (al 7, .inl (eI ε, 64, .inl (fun _ => 0))), (al 8, .inl (eI ε, 30, .inl (fun _ => 0))), (al 9, .inl (eI ε, 4, .inl (fun _ => 0))), (al 10, .inl (eI ε, 4, .inl (fun _ => 0))), (al 11, .inl (eI ε, 96, .inl (fun _ => 0))), (al 12, .inl (eI ε, 24, .inl (fun _ => 0)))]
theorem CT_ofI {ε : eT} {y : MethodName} {cc : ByteArray} {nL : Nat} {ret : Option FieldType} {d : Nat} {av : List Value} {ws : va_W} {post : Option Value → va_W → Prop} {mc ms : Nat} (hy : plainName y.cls = true) (hlen : (lg_sl av).length ≤ nL) {lv : List (Nat × Value)} (hlv : lv_args 0 av = lv)
    (body : ∀ κ : kT, Act ε κ cc nL y.cls d → Rt ε κ ret post mc ms → (kR κ).cells = mc ∧ (kR κ).slots = ms → (kM κ).name = y.name → V ε κ nL 0 lv [] ws 0 0) : CT ε y cc nL ret d av ws post mc ms := by
  intro sz
  refine Met.ofW (cc := cc) (maxL := nL) (ret := ret) hy rfl ?_
  intro p e s m args below meth c s₁ B hml hv
  obtain ⟨rfl, hsz, hP, hK, hD0, hSF⟩ := hv
  subst hsz
  subst hlv
  have hts : ∀ w ∈ wsM y cc nL ret, w.before av.toArray s = true := atoms_spec (ws := wsM y cc nL ret) B.pre
  have key := body (p, e, Rm d mc ms, s, m, av.toArray, below, meth, c, MQ below (PostC ε post (va_A ws s.heap.size)) av.toArray s mc ms (va_A ws s.heap.size), va_A ws s.heap.size)
    ⟨⟨B.exec, B.bytes, hml, findClass_of_methodNamed B.named, fun w h => hts w (List.mem_cons_of_mem _ h)⟩, B.notSynchronized, hK, fun q h => Or.inr h, hSF, Nat.le_refl _, Nat.le_refl _⟩ ⟨B.returns, rfl⟩ ⟨rfl, rfl⟩ ((name_of_methodNamed B.named B.method).1)
    s.heap [] _ hP hD0.self va_S.rf (lv_entry av hlen)
  rw [lg_entry_eq]
  exact key
theorem V_oinit {ε : eT} {κ : kT} {cc : ByteArray} {nL d : Nat} {own : String} (C : Act ε κ cc nL own d) {pc k n : Nat} {lv : List (Nat × Value)} {st : List Value} {ws : va_W} {i a : Nat} (hl' : Cond.methodLink own i objectInit ∈ tbW) (hd : 1 ≤ d) (hw : (st.map fun v => v.category).sum ≤ 8) (hdg : decode cc pc = .ok (.invokespecial i, 3)) (K : V ε κ nL (pc + 3) lv st ws k n) : V ε κ nL pc lv (.ref a :: st) ws k n := fun H locs ls hP hD hS hl => W.objInit C.1.1 C.1.2.1 C.1.2.2.2.1 (C.1.2.2.2.2 _ hl') (C.1.2.2.2.2 _ q_im_oinit) (C.1.2.2.2.2 _ q_code_oinit) rfl (hl.1.trans C.1.2.2.1.symm) rfl hdg (Nat.le_trans hd C.2.2.2.2.2.1) (by have h1 := C.2.2.2.2.2.2; have h2 := lv_room (m := km κ) (pc := pc) (ls := ls) (rest := .ref a :: st) hw; show 2 * (F0 (km κ) pc ls (.ref a :: st)).monitorRoom + _ + 12 ≤ _; omega) (K H locs ls hP hD hS hl)
theorem V_new {ε : eT} {κ : kT} {cc : ByteArray} {nL d : Nat} {own : String} (C : Act ε κ cc nL own d) {pc k n : Nat} {lv : List (Nat × Value)} {st : List Value} {ws : va_W} {Cn : String} {T : u_T} {N ci i : Nat} (hin : ∀ w ∈ u_ws Cn T N, w ∈ tbW) (ty : Nat → FieldType) (hty : ∀ k, k < N → parseFieldDescriptor (T k).2.2.1 = some (ty k)) (hc : vwCl[ci]? = some (Cn, T, N)) (hcl : Cond.classLink own i Cn ∈ tbW) (hinst : Cond.instantiable Cn N ∈ tbW) (hini : Cond.initialized Cn ∈ tbW) (fs : List Value) (hfs : ∀ j, j < N → defaultValue (ty j) = vp_V fs j) (hcells : k + 1 ≤ (kR κ).cells) (hslots : n + N ≤ (kR κ).slots) (hdg : decode cc pc = .ok (.new i, 3)) (K : ∀ q : Nat, V ε κ nL (pc + 3) lv (.ref q :: st) (ws ++ [(q, .inr (ci, fs))]) (k + 1) (n + N)) : V ε κ nL pc lv st ws k n := fun H locs ls hP hD hS hl => va_new C.1.1 C.1.2.1 C.1.2.2.2.2 hin ty hty C.1.2.2.2.1 (C.1.2.2.2.2 _ hcl) (C.1.2.2.2.2 _ hinst) (C.1.2.2.2.2 _ hini) C.2.2.1 hP hD hS C.2.2.2.1 hc hfs hcells hslots hdg (fun q H1 h1 h2 h3 => K q H1 locs ls h1 h2 h3 hl)
theorem V_newa {ε : eT} {κ : kT} {cc : ByteArray} {nL d : Nat} {own : String} (C : Act ε κ cc nL own d) {pc k n : Nat} {lv : List (Nat × Value)} {st : List Value} {ws : va_W} {z : Int32} {N : Nat} (hn : ¬ z < 0) (hN : z.toNatClampNeg = N) (hb : N * 4 ≤ 536870912) (hcells : k + 1 ≤ (kR κ).cells) (hslots : n + N ≤ (kR κ).slots) (hdg : decode cc pc = .ok (.newarray .int, 2)) (K : ∀ q : Nat, V ε κ nL (pc + 2) lv (.ref q :: st) (ws ++ [(q, .inl (eI ε, N, .inl (fun _ => 0)))]) (k + 1) (n + N)) : V ε κ nL pc lv (.int z :: st) ws k n := fun H locs ls hP hD hS hl => va_newa (atype := .int) (a0 := (N, .inl (fun _ => 0))) C.1.1 C.1.2.1 (C.1.2.2.2.2 _ q_arr_int) rfl C.2.2.1 hP hD hS C.2.2.2.1 (fun _ => rfl) hn hN hb hcells hslots hdg (fun q cA H1 hK1 h1 h2 h3 => by
    have e : cA = eI ε := Option.some.inj ((hK1.2 2 (cA, .int) rfl).2.symm.trans (C.2.2.1.2 0 (eI ε, .int) rfl).2)
    subst e
    exact K q H1 locs ls h1 h2 h3 hl)
theorem V_newS {ε : eT} {κ : kT} {cc : ByteArray} {nL d : Nat} {own : String} (C : Act ε κ cc nL own d) {pc k n : Nat} {lv : List (Nat × Value)} {st : List Value} {ws : va_W} {z : Int32} {N i : Nat} (hcl : Cond.classLink own i RX6 ∈ tbW) (hn : ¬ z < 0) (hN : z.toNatClampNeg = N) (hb : N * 4 ≤ 536870912) (hcells : k + 1 ≤ (kR κ).cells) (hslots : n + N ≤ (kR κ).slots) (hdg : decode cc pc = .ok (.anewarray i, 3)) (K : ∀ q : Nat, V ε κ nL (pc + 3) lv (.ref q :: st) (ws ++ [(q, .inl (eS ε, N, .inr (.inr (.inr (.inr (fun _ => none))))))]) (k + 1) (n + N)) : V ε κ nL pc lv (.int z :: st) ws k n := fun H locs ls hP hD hS hl => va_newq C.1.1 C.1.2.1 C.1.2.2.2.1 (C.1.2.2.2.2 _ hcl) C.2.2.2.2.1.2.2.2.2.2.2.2.2.2 C.2.2.1 hP hD hS C.2.2.2.1 hn hN hb hcells hslots hdg (fun q cA H1 hK1 h1 h2 h3 => by
    have e : cA = eS ε := by
      obtain ⟨_, _, _, _, _, g1⟩ := (hK1.2 2 (cA, .object RX6) rfl).2
      obtain ⟨_, _, _, _, _, g2⟩ := (C.2.2.1.2 1 (eS ε, .object RX6) rfl).2
      exact Option.some.inj (g1.symm.trans g2)
    subst e
    exact K q H1 locs ls h1 h2 h3 hl)
theorem V_aastS {ε : eT} {κ : kT} {cc : ByteArray} {nL d : Nat} {own : String} (C : Act ε κ cc nL own d) {pc k n : Nat} {lv : List (Nat × Value)} {st : List Value} {ws : va_W} {a v z : Nat} {f : Nat → Option Nat} {i : Int32} {vs : List Value} (q0 qk : Nat) (he : ws[q0]? = some (a, .inl (eS ε, z, .inr (.inr (.inr (.inr f)))))) (hv : ws[qk]? = some (v, .inr (4, vs))) (hin : vp_in i z) (hdg : decode cc pc = .ok (.aastore, 1)) {ws' : va_W} (hs : ws.set q0 (a, .inl (eS ε, z, .inr (.inr (.inr (.inr (va_up f i.toNatClampNeg (some v))))))) = ws') (K : V ε κ nL (pc + 1) lv st ws' k n) : V ε κ nL pc lv (.ref v :: .int i :: .ref a :: st) ws k n := fun H locs ls hP hD hS hl => va_astq C.1.1 C.1.2.1 C.2.2.1 hP hD hS q0 1 qk 4 (r := (RX6, TX6, 2)) he rfl hv rfl hin hdg (fun H1 locs1 h1 h2 h3 => K H1 locs1 ls (hs ▸ h1) (hs ▸ h2) h3 hl)
theorem V_putF {ε : eT} {κ : kT} {cc : ByteArray} {nL d : Nat} {own : String} (C : Act ε κ cc nL own d) {pc k n : Nat} {lv : List (Nat × Value)} {st : List Value} {ws : va_W} {Cn : String} {T : u_T} {N ci index a : Nat} (hin : ∀ w ∈ u_ws Cn T N, w ∈ tbW) (hc : vwCl[ci]? = some (Cn, T, N)) (ty0 : Nat → FieldType) (hty : ∀ k, k < N → parseFieldDescriptor (T k).2.2.1 = some (ty0 k)) (hnm : ∀ a, a < N → ∀ b, b < N → a ≠ b → (T a).2.1 ≠ (T b).2.1) (hini : (kM κ).name = "<init>") (j : Nat) (hj : j < N) (hw : Cond.fieldLink own index (T j).1 (T j).2.1 (T j).2.2.1 ∈ tbW) (hfin : (T j).2.2.2 = true) (hdecl : (T j).1 = own) (q0 : Nat) {fs : List Value} (he : ws[q0]? = some (a, .inr (ci, fs))) {ty : FieldType} {v : Value} (hd : parseFieldDescriptor (T j).2.2.1 = some ty) (hn : narrow ty v = v) (hfit : fits ty v = true) (hl0 : j < fs.length) (hdg : decode cc pc = .ok (.putfield index, 3)) {ws' : va_W} (hs : ws.set q0 (a, .inr (ci, fs.set j v)) = ws') (K : V ε κ nL (pc + 3) lv st ws' k n) : V ε κ nL pc lv (v :: .ref a :: st) ws k n := fun H locs ls hP hD hS hl => va_putF C.1.1 C.1.2.1 C.1.2.2.2.2 hin ty0 hty hnm C.1.2.2.2.1 C.2.2.1 hP hD hS q0 he hc j hj (C.1.2.2.2.2 _ hw) (fun _ h => h) hfin hini hdecl hd hn hfit hl0 hdg (fun H1 locs1 h1 h2 h3 => K H1 locs1 ls (hs ▸ h1) (hs ▸ h2) h3 hl)
theorem map_fm {α β : Type} (g : α → Option β) : ∀ (is : List α) (w : List β), is.map g = w.map some → is.filterMap g = w := by
  intro is
  induction is with
  | nil => intro w h; cases w with
    | nil => rfl
    | cons a w => simp at h
  | cons i is ih =>
    intro w h
    cases w with
    | nil => simp at h
    | cons a w =>
      simp only [List.map_cons, List.cons.injEq] at h
      rw [List.filterMap_cons, h.1, ih w h.2]
theorem suf_R (wr wc : va_W) : (List.range wr.length).map (fun i => (wr ++ wc)[i]?) = wr.map some := by
  apply List.ext_getElem?
  intro i
  by_cases h : i < wr.length
  · simp [h, List.getElem?_append_left]
  · rw [List.getElem?_eq_none (by simpa using h), List.getElem?_eq_none (by simpa using h)]
theorem suf_C (wr wc : va_W) : ((List.range wc.length).map (fun i => wr.length + i)).map (fun i => (wr ++ wc)[i]?) = wc.map some := by
  apply List.ext_getElem?
  intro i
  by_cases h : i < wc.length
  · simp [h, List.getElem?_append_right]
  · rw [List.getElem?_eq_none (by simpa using h), List.getElem?_eq_none (by simpa using h)]
theorem nd_cons (i : Nat) (l : List Nat) : va_nd (i :: l) = true ↔ i ∉ l ∧ va_nd l = true := by
  simp [va_nd]
theorem nd_range : ∀ (n m : Nat), va_nd (List.range' m n) = true := by
  intro n
  induction n with
  | zero => intro m; rfl
  | succ n ih =>
    intro m
    rw [List.range'_succ, nd_cons]
    exact ⟨by simp [List.mem_range'_1]; omega, ih (m + 1)⟩
theorem nd_r (n : Nat) : va_nd (List.range n) = true := by rw [List.range_eq_range']; exact nd_range n 0
theorem nd_map (m : Nat) : ∀ (n s : Nat), va_nd ((List.range' s n).map (fun i => m + i)) = true := by
  intro n
  induction n with
  | zero => intro s; rfl
  | succ n ih =>
    intro s
    rw [List.range'_succ, List.map_cons, nd_cons]
    refine ⟨?_, ih (s + 1)⟩
    intro h
    obtain ⟨j, hj, e⟩ := List.mem_map.mp h
    have := List.mem_range'_1.mp hj
    omega
theorem nd_c (n m : Nat) : va_nd ((List.range n).map (fun i => m + i)) = true := by rw [List.range_eq_range']; exact nd_map m n 0
/-- a call whose cells are the last ones of the world -/
theorem V_suf {ε : eT} {κ : kT} {cc : ByteArray} {nL d : Nat} {own : String} (C : Act ε κ cc nL own d) {pc k n : Nat} {lv : List (Nat × Value)} {wr wc : va_W} {post : Option Value → va_W → Prop} {av st0 rest : List Value} {mc ms : Nat}
    (hr : ∀ (H : Heap) (locs : List Loc) (ls : Array Slot), va_P (eD ε) vwCl wc H → va_D (kA κ) wc → va_S (kA κ) (ks κ).heap H locs → lv_has ls nL lv → va_Run (kp κ) ε.1 (ke κ) (kR κ) (ks κ) (km κ) (ka κ) (kb κ) (kM κ) (kc κ) H locs k n mc ms (F0 (km κ) pc ls st0) rest (PostC ε post (va_A wc H.size) av.toArray) (va_A wc H.size))
    (K : ∀ (r : Option Value) (w1 : va_W), post r w1 → V ε κ nL (pc + 3) lv (r.toList ++ rest) (wr ++ w1) (k + mc) (n + ms)) : V ε κ nL pc lv st0 (wr ++ wc) k n := by
  intro H locs ls hP hD hS hl T hT X
  have hPc : va_P (eD ε) vwCl wc H := hP.sub ((List.range wc.length).map (fun i => wr.length + i)) (map_fm _ _ _ (suf_C wr wc))
  have hDc : va_D (kA κ) wc := hD.sub ((List.range wc.length).map (fun i => wr.length + i)) (nd_c _ _) (suf_C wr wc)
  have sub := vA_sub hDc hS C.2.2.2.1
  obtain ⟨v, st₀, t, T', L, h0, X', hL, e1, e2, ⟨⟨r, ws', hv, hp, hP1, hK1, hD1⟩, hz, hk⟩, st⟩ := hr H locs ls hPc hDc hS hl T hT X
  cases hv
  rw [h0] at hz hk
  obtain ⟨hPj, hDj⟩ := va_join hP hD ((List.range wc.length).map (fun i => wr.length + i)) (List.range wr.length) (suf_C wr wc) (suf_R wr wc) (nd_r _) (fun i hi hj => by
    obtain ⟨j, -, e⟩ := List.mem_map.mp hj
    have := List.mem_range.mp hi
    omega) (fun q h1 h2 => hk q h1 h2) sub hP1 hD1
  obtain ⟨t2, a1, b1⟩ := K v ws' hp T'.heap (locs ++ L) ls (by rw [e1]; exact hPj) hDj
    ⟨Nat.le_trans hS.1 (by rw [e1]; exact hz), fun q h1 h2 => by rw [e1, hk q (Nat.lt_of_lt_of_le h1 hS.1) (fun z => h2 (sub q z))]; exact hS.2.1 q h1 h2, fun q hq => by
      rcases List.mem_append.mp hq with h | h
      · exact hS.2.2 q h
      · exact sub _ (hL q h)⟩ hl T' rfl X'
  exact ⟨t2, st t2 a1, b1⟩
theorem V_sufI {ε : eT} {κ : kT} {cc : ByteArray} {nL d : Nat} {own : String} (C : Act ε κ cc nL own d) {y : MethodName} {cy : ByteArray} {nY na : Nat} (F : CFi y cy nY na) {index d' b : Nat} {As rest : List Value} {wr wc : va_W} {post : Option Value → va_W → Prop} {mc ms pc k n : Nat} {lv : List (Nat × Value)} {st0 : List Value}
    (hM : CT ε y cy nY none d' (.ref b :: As) wc post mc ms) (hl : Cond.methodLink own index y ∈ tbW) (hdg : decode cc pc = .ok (.invokespecial index, 3)) (hd : d' + 1 ≤ d) (hn : As.length = na) (hst : st0 = As.reverse ++ .ref b :: rest) (hw : (rest.map fun v => v.category).sum ≤ 8) (hf : k + mc ≤ (kR κ).cells ∧ n + ms ≤ (kR κ).slots)
    (K : ∀ (r : Option Value) (w1 : va_W), post r w1 → V ε κ nL (pc + 3) lv (r.toList ++ rest) (wr ++ w1) (k + mc) (n + ms)) : V ε κ nL pc lv st0 (wr ++ wc) k n := by
  refine V_suf C (av := .ref b :: As) (mc := mc) (ms := ms) (rest := rest) (fun H locs ls hP hD hS hl2 => ?_) K
  have F2 := F.1.2.2.2
  have C5 := C.2.2.2.2.2
  exact va_runI C.1 (hM H.size) (cwI na C.1.2.2.2.2 (gd_M F.1.1) rfl rfl rfl (C.1.2.2.2.2 _ F.1.2.1) (C.1.2.2.2.2 _ hl) (C.1.2.2.2.2 _ F.2.1) F.2.2 F.1.2.2.1 ⟨by show d' + 1 ≤ _; omega, by show 8 + (nY + 11) + 44 * d' ≤ _; omega⟩)
    ⟨PreC_blind, PreC_of C hP hD hS⟩ rfl hn hl2.1 hst (lv_room hw) hdg hf
theorem V_sufV {ε : eT} {κ : kT} {cc : ByteArray} {nL d : Nat} {own : String} (C : Act ε κ cc nL own d) {y : MethodName} {cy : ByteArray} {nY na : Nat} {ret : Option FieldType} (F : CFv y cy nY ret na) {index d' b : Nat} {As rest : List Value} {wr wc : va_W} {post : Option Value → va_W → Prop} {mc ms pc k n : Nat} {lv : List (Nat × Value)} {st0 : List Value}
    (hM : CT ε y cy nY ret d' (.ref b :: As) wc post mc ms) (hl : Cond.methodLink own index y ∈ tbW) (q0 : Nat) {ci : Nat} {fs : List Value} {T : u_T} {N : Nat} (he : wc[q0]? = some (b, .inr (ci, fs))) (hc : vwCl[ci]? = some (y.cls, T, N)) (hdg : decode cc pc = .ok (.invokevirtual index, 3)) (hd : d' + 1 ≤ d) (hn : As.length = na) (hst : st0 = As.reverse ++ .ref b :: rest) (hw : (rest.map fun v => v.category).sum ≤ 8) (hf : k + mc ≤ (kR κ).cells ∧ n + ms ≤ (kR κ).slots)
    (K : ∀ (r : Option Value) (w1 : va_W), post r w1 → V ε κ nL (pc + 3) lv (r.toList ++ rest) (wr ++ w1) (k + mc) (n + ms)) : V ε κ nL pc lv st0 (wr ++ wc) k n := by
  refine V_suf C (av := .ref b :: As) (mc := mc) (ms := ms) (rest := rest) (fun H locs ls hP hD hS hl2 => ?_) K
  have F2 := F.1.2.2.2
  have C5 := C.2.2.2.2.2
  exact va_runV C.1 (hM H.size) (cwV na C.1.2.2.2.2 (gd_cons hl (gd_cons F.2.1 (gd_cons F.2.2 (gd_cons F.1.2.1 (gd_M F.1.1))))) rfl rfl rfl ⟨rfl, F.1.2.2.1⟩ ⟨by show d' + 1 ≤ _; omega, by show 8 + (nY + 11) + 44 * d' ≤ _; omega⟩)
    ⟨PreC_blind, va_recv C.2.2.1 hP hc he, PreC_of C hP hD hS⟩ rfl hn hl2.1 hst (lv_room hw) hdg hf
/-! a row's own two cells -/
abbrev rw2 (ε : eT) (h0 q : Nat) (s : Int32) (z : Nat) (f : Nat → Int32) : va_W := [(h0, .inr (3, [.ref q, .int s])), (q, .inl (eI ε, z, .inl f))]
set_option maxRecDepth 20000 in
theorem m_X5_set {ε : eT} {h0 q z j : Nat} {s i v : Int32} {f : Nat → Int32} (h1 : ¬ i < 0) (h2 : ¬ s ≤ i) (h3 : ¬ Int32.ofNat z ≤ i) (h4 : i.toNatClampNeg = j) (h5 : j < z) : CT ε yX5_set cX5_set 3 none 1 [.ref h0, .int i, .int v] (rw2 ε h0 q s z f) (fun r w => r = none ∧ w = rw2 ε h0 q s z (upd f j v)) 0 0 := by
  refine CT_ofI (by decide) (Nat.le_of_ble_eq_true rfl) rfl (fun κ C X hR hnm => ?_)
  have hin : vp_in i z := fun g => g.elim h1 (fun g => by omega)
  refine V_iload_n C 1 dX5_set_0 rfl rfl ?_
  refine V_if_lt C dX5_set_1 rfl (fun c => absurd c h1) (fun _ => ?_)
  refine V_iload_n C 1 dX5_set_4 rfl rfl ?_
  refine V_aload_n C 0 dX5_set_5 rfl rfl ?_
  refine V_get C inX5 rfl 1 (by decide) q_FL_X5_19 0 rfl rfl dX5_set_6 ?_
  refine V_icmp_ge C dX5_set_9 rfl (fun c => absurd c h2) (fun _ => ?_)
  refine V_iload_n C 1 dX5_set_12 rfl rfl ?_
  refine V_aload_n C 0 dX5_set_13 rfl rfl ?_
  refine V_get C inX5 rfl 0 (by decide) q_FL_X5_13 0 rfl rfl dX5_set_14 ?_
  refine V_alen C 1 rfl dX5_set_17 ?_
  refine V_icmp_ge C dX5_set_18 rfl (fun c => absurd c h3) (fun _ => ?_)
  refine V_aload_n C 0 dX5_set_21 rfl rfl ?_
  refine V_get C inX5 rfl 0 (by decide) q_FL_X5_13 0 rfl rfl dX5_set_22 ?_
  refine V_iload_n C 1 dX5_set_25 rfl rfl ?_
  refine V_iload_n C 2 dX5_set_26 rfl rfl ?_
  refine V_iast (ws' := rw2 ε h0 q s z (upd f i.toNatClampNeg v)) C 1 rfl hin dX5_set_27 rfl ?_
  exact V_vret C X dX5_set_28 ⟨rfl, by rw [h4]⟩
theorem upd_0 (j : Nat) : upd (fun _ => (0 : Int32)) j 0 = fun _ => 0 := by funext k; simp [upd]
set_option maxRecDepth 20000 in
theorem m_X5_reset {ε : eT} {h0 q z : Nat} {x s : Int32} (hx : x = nI z) (hz : z < 1000) : CT ε yX5_reset cX5_reset 3 none 2 [.ref h0, .int x] (rw2 ε h0 q s z (fun _ => 0)) (fun r w => r = none ∧ w = rw2 ε h0 q x z (fun _ => 0)) 0 0 := by
  refine CT_ofI (by decide) (Nat.le_of_ble_eq_true rfl) rfl (fun κ C X hR hnm => ?_)
  subst hx
  refine V_aload_n C 0 dX5_reset_0 rfl rfl ?_
  refine V_iconst C dX5_reset_1 kc_i_0 ?_
  refine V_iload_n C 1 dX5_reset_2 rfl rfl ?_
  refine V_aload_n C 0 dX5_reset_3 rfl rfl ?_
  refine V_get C inX5 rfl 0 (by decide) q_FL_X5_13 0 rfl rfl dX5_reset_4 ?_
  refine V_alen C 1 rfl dX5_reset_7 ?_
  refine V_mmin C q_ML_X5_31 (by decide) (Nat.le_of_ble_eq_true rfl) ⟨Nat.zero_le _, Nat.zero_le _⟩ dX5_reset_8 ?_
  refine V_mmax C q_ML_X5_7 (by decide) (Nat.le_of_ble_eq_true rfl) ⟨Nat.zero_le _, Nat.zero_le _⟩ dX5_reset_11 ?_
  refine V_eq C (st' := [.int (nI z), .ref h0]) ?_ ?_
  · have e1 : ¬ nI z < nI z := nI_nlt (Nat.le_refl _) (by omega)
    have e2 : (if (0 : Int32) < nI z then nI z else 0) = nI z := by
      split
      · rfl
      · rename_i h
        rw [← nI_0] at h ⊢
        by_cases hz0 : z = 0
        · rw [hz0]
        · exact absurd (nI_lt (Nat.pos_of_ne_zero hz0) (by omega)) h
    show [Value.int (if (0 : Int32) < (if nI z < nI z then nI z else nI z) then (if nI z < nI z then nI z else nI z) else 0), Value.ref h0] = _
    rw [if_neg e1, e2]
  refine V_put (ws' := rw2 ε h0 q (nI z) z (fun _ => 0)) C inX5 rfl tyX5 tyX5_ok nmX5 1 (by decide) q_FL_X5_19 rfl 0 rfl rfl rfl rfl (Nat.le_of_ble_eq_true rfl) dX5_reset_14 rfl ?_
  refine V_iconst C dX5_reset_17 kc_i_0 ?_
  refine V_istore_n (lv' := [(2, .int 0), (0, .ref h0), (1, .int (nI z))]) C dX5_reset_18 rfl (by decide) rfl ?_
  have key : ∀ (n i : Nat), z - i = n → i ≤ z → V ε κ 3 19 [(2, .int (nI i)), (0, .ref h0), (1, .int (nI z))] [] (rw2 ε h0 q (nI z) z (fun _ => 0)) 0 0 := by
    intro n
    induction n with
    | zero =>
      intro i h1 h2
      have hi : i = z := by omega
      subst hi
      refine V_iload_n C 0 dX5_reset_19 rfl rfl ?_
      refine V_aload_n C 1 dX5_reset_20 rfl rfl ?_
      refine V_get C inX5 rfl 1 (by decide) q_FL_X5_19 0 rfl rfl dX5_reset_21 ?_
      refine V_icmp_ge C dX5_reset_24 rfl (fun c => ?_) (fun c => absurd (nI_le (Nat.le_refl _) (by omega)) c)
      exact V_vret C X dX5_reset_39 ⟨rfl, rfl⟩
    | succ n ih =>
      intro i h1 h2
      refine V_iload_n C 0 dX5_reset_19 rfl rfl ?_
      refine V_aload_n C 1 dX5_reset_20 rfl rfl ?_
      refine V_get C inX5 rfl 1 (by decide) q_FL_X5_19 0 rfl rfl dX5_reset_21 ?_
      refine V_icmp_ge C dX5_reset_24 rfl (fun c => absurd c (nI_ge (by omega) (by omega))) (fun c => ?_)
      refine V_aload_n C 1 dX5_reset_27 rfl rfl ?_
      refine V_iload_n C 0 dX5_reset_28 rfl rfl ?_
      refine V_iconst C dX5_reset_29 kc_i_0 ?_
      refine V_sufV (wr := []) C cf_X5_set (m_X5_set (h0 := h0) (q := q) (z := z) (j := i) (s := nI z) (i := nI i) (v := 0) (f := fun _ => 0) (nI_pos (by omega)) (nI_ge (by omega) (by omega)) (nI_ge (by omega) (by omega)) (nI_clamp (by omega)) (by omega)) q_ML_X5_27 0 rfl rfl dX5_reset_30 (by decide) rfl rfl (Nat.le_of_ble_eq_true rfl) ⟨Nat.zero_le _, Nat.zero_le _⟩ (fun r w1 h => ?_)
      obtain ⟨rfl, rfl⟩ := h
      rw [upd_0]
      refine V_iinc (v := nI (i + 1)) (lv' := [(2, .int (nI (i + 1))), (0, .ref h0), (1, .int (nI z))]) C 0 dX5_reset_33 rfl (nI_1 i) (by decide) rfl ?_
      refine V_goto C dX5_reset_36 rfl ?_
      exact ih (i + 1) (by omega) (by omega)
  exact key z 0 (by omega) (Nat.zero_le _)
set_option maxRecDepth 20000 in
theorem m_X5_init {ε : eT} {h0 z : Nat} {x : Int32} (hx : x = nI z) (hz : z < 1000) : CT ε yX5_init cX5_init 2 none 2 [.ref h0, .int x] [(h0, .inr (3, [.null, .int 0]))] (fun r w => r = none ∧ ∃ q : Nat, w = rw2 ε h0 q 0 z (fun _ => 0)) 1 z := by
  refine CT_ofI (by decide) (Nat.le_of_ble_eq_true rfl) rfl (fun κ C X hR hnm => ?_)
  subst hx
  refine V_aload_n C 0 dX5_init_0 rfl rfl ?_
  refine V_oinit C q_ML_X5_1 (by decide) (Nat.le_of_ble_eq_true rfl) dX5_init_1 ?_
  refine V_aload_n C 0 dX5_init_4 rfl rfl ?_
  refine V_iload_n C 1 dX5_init_5 rfl rfl ?_
  refine V_iconst C dX5_init_6 kc_i_0 ?_
  refine V_mmax C q_ML_X5_7 (by decide) (Nat.le_of_ble_eq_true rfl) ⟨Nat.zero_le _, Nat.zero_le _⟩ dX5_init_7 ?_
  refine V_eq C (st' := [.int (nI z), .ref h0]) ?_ ?_
  · show [Value.int (if nI z < 0 then 0 else nI z), Value.ref h0] = _
    rw [if_neg (nI_pos (by omega))]
  refine V_newa (N := z) C (nI_pos (by omega)) (nI_clamp (by omega)) (by omega) (by rw [hR.1]; omega) (by rw [hR.2]; omega) dX5_init_10 (fun q => ?_)
  refine V_putF (ws' := rw2 ε h0 q 0 z (fun _ => 0)) C inX5 rfl tyX5 tyX5_ok nmX5 hnm 0 (by decide) q_FL_X5_13 rfl rfl 0 rfl rfl rfl rfl (Nat.le_of_ble_eq_true rfl) dX5_init_12 rfl ?_
  refine V_aload_n C 0 dX5_init_15 rfl rfl ?_
  refine V_iconst C dX5_init_16 kc_i_0 ?_
  refine V_put (ws' := rw2 ε h0 q 0 z (fun _ => 0)) C inX5 rfl tyX5 tyX5_ok nmX5 1 (by decide) q_FL_X5_19 rfl 0 rfl rfl rfl rfl (Nat.le_of_ble_eq_true rfl) dX5_init_17 rfl ?_
  refine V_widen (k' := 1) (n' := z) C (by omega) (by omega) ?_
  exact V_vret C X dX5_init_20 ⟨rfl, q, rfl⟩
set_option maxRecDepth 100000 in
set_option maxHeartbeats 4000000 in
theorem m_X6_init {ε : eT} {h0 : Nat} : CT ε yX6_init cX6_init 1 none 3 [.ref h0] [(h0, .inr (4, [.null, .int 0]))] (fun r w => r = none ∧ ∃ al : Nat → Nat, al 0 = h0 ∧ w = cells_X6 ε al) 2 26 := by
  refine CT_ofI (by decide) (Nat.le_of_ble_eq_true rfl) rfl (fun κ C X hR hnm => ?_)
  refine V_aload_n C 0 dX6_init_0 rfl rfl ?_
  refine V_oinit C q_ML_X6_3 (by decide) (Nat.le_of_ble_eq_true rfl) dX6_init_1 ?_
  refine V_aload_n C 0 dX6_init_4 rfl rfl ?_
  refine V_new C inX5 tyX5 tyX5_ok (ci := 3) rfl q_CL_X6_9 q_inst_X5 q_init_X5 [.null, .int 0] (by decide +kernel) (by rw [hR.1]; decide) (by rw [hR.2]; decide) dX6_init_5 (fun a1 => ?_)
  refine V_dup C dX6_init_8 rfl ?_
  refine V_bipush C dX6_init_9 (v := 24) (by decide) ?_
  refine V_sufI (wr := ([(h0, .inr (4, [.null, .int 0]))] : va_W)) C cf_X5_init (m_X5_init (x := 24) (z := 24) (by decide) (by decide)) q_ML_X6_11 dX6_init_11 (by decide) rfl rfl (Nat.le_of_ble_eq_true rfl) ⟨by rw [hR.1]; decide, by rw [hR.2]; decide⟩ (fun r w1 h => ?_)
  obtain ⟨rfl, q2, rfl⟩ := h
  refine V_eq C (st' := [.ref a1, .ref h0]) rfl ?_
  refine V_putF (ws' := (([(h0, .inr (4, [.ref a1, .int 0]))] : va_W) ++ rw2 ε a1 q2 0 24 (fun _ => 0))) C inX6 rfl tyX6 tyX6_ok nmX6 hnm 0 (by decide) q_FL_X6_14 rfl rfl 0 rfl rfl rfl rfl (Nat.le_of_ble_eq_true rfl) dX6_init_14 rfl ?_
  refine V_widen (k' := 2) (n' := 26) C (by decide) (by decide) ?_
  exact V_vret C X dX6_init_17 ⟨rfl, fun k => ([h0, a1, q2] : List Nat).getD k 0, rfl, rfl⟩
set_option maxRecDepth 100000 in
set_option maxHeartbeats 4000000 in
theorem m_X2_init {ε : eT} {h0 : Nat} : CT ε yX2_init cX2_init 1 none 3 [.ref h0] [(h0, .inr (0, [.null, .null, .null, .long 0, .int 0]))] (fun r w => r = none ∧ ∃ al : Nat → Nat, al 0 = h0 ∧ w = cells_X2 ε al) 6 24 := by
  refine CT_ofI (by decide) (Nat.le_of_ble_eq_true rfl) rfl (fun κ C X hR hnm => ?_)
  refine V_aload_n C 0 dX2_init_0 rfl rfl ?_
  refine V_oinit C q_ML_X2_3 (by decide) (Nat.le_of_ble_eq_true rfl) dX2_init_1 ?_
  refine V_aload_n C 0 dX2_init_4 rfl rfl ?_
  refine V_new C inX5 tyX5 tyX5_ok (ci := 3) rfl q_CL_X2_9 q_inst_X5 q_init_X5 [.null, .int 0] (by decide +kernel) (by rw [hR.1]; decide) (by rw [hR.2]; decide) dX2_init_5 (fun a1 => ?_)
  refine V_dup C dX2_init_8 rfl ?_
  refine V_bipush C dX2_init_9 (v := 6) (by decide) ?_
  refine V_sufI (wr := ([(h0, .inr (0, [.null, .null, .null, .long 0, .int 0]))] : va_W)) C cf_X5_init (m_X5_init (x := 6) (z := 6) (by decide) (by decide)) q_ML_X2_11 dX2_init_11 (by decide) rfl rfl (Nat.le_of_ble_eq_true rfl) ⟨by rw [hR.1]; decide, by rw [hR.2]; decide⟩ (fun r w1 h => ?_)
  obtain ⟨rfl, q2, rfl⟩ := h
  refine V_eq C (st' := [.ref a1, .ref h0]) rfl ?_
  refine V_putF (ws' := (([(h0, .inr (0, [.ref a1, .null, .null, .long 0, .int 0]))] : va_W) ++ rw2 ε a1 q2 0 6 (fun _ => 0))) C inX2 rfl tyX2 tyX2_ok nmX2 hnm 0 (by decide) q_FL_X2_14 rfl rfl 0 rfl rfl rfl rfl (Nat.le_of_ble_eq_true rfl) dX2_init_14 rfl ?_
  refine V_aload_n C 0 dX2_init_17 rfl rfl ?_
  refine V_new C inX5 tyX5 tyX5_ok (ci := 3) rfl q_CL_X2_9 q_inst_X5 q_init_X5 [.null, .int 0] (by decide +kernel) (by rw [hR.1]; decide) (by rw [hR.2]; decide) dX2_init_18 (fun a3 => ?_)
  refine V_dup C dX2_init_21 rfl ?_
  refine V_bipush C dX2_init_22 (v := 6) (by decide) ?_
  refine V_sufI (wr := (([(h0, .inr (0, [.ref a1, .null, .null, .long 0, .int 0]))] : va_W) ++ rw2 ε a1 q2 0 6 (fun _ => 0))) C cf_X5_init (m_X5_init (x := 6) (z := 6) (by decide) (by decide)) q_ML_X2_11 dX2_init_24 (by decide) rfl rfl (Nat.le_of_ble_eq_true rfl) ⟨by rw [hR.1]; decide, by rw [hR.2]; decide⟩ (fun r w1 h => ?_)
  obtain ⟨rfl, q4, rfl⟩ := h
  refine V_eq C (st' := [.ref a3, .ref h0]) rfl ?_
  refine V_putF (ws' := ((([(h0, .inr (0, [.ref a1, .ref a3, .null, .long 0, .int 0]))] : va_W) ++ rw2 ε a1 q2 0 6 (fun _ => 0)) ++ rw2 ε a3 q4 0 6 (fun _ => 0))) C inX2 rfl tyX2 tyX2_ok nmX2 hnm 1 (by decide) q_FL_X2_20 rfl rfl 0 rfl rfl rfl rfl (Nat.le_of_ble_eq_true rfl) dX2_init_27 rfl ?_
  refine V_aload_n C 0 dX2_init_30 rfl rfl ?_
  refine V_new C inX5 tyX5 tyX5_ok (ci := 3) rfl q_CL_X2_9 q_inst_X5 q_init_X5 [.null, .int 0] (by decide +kernel) (by rw [hR.1]; decide) (by rw [hR.2]; decide) dX2_init_31 (fun a5 => ?_)
  refine V_dup C dX2_init_34 rfl ?_
  refine V_bipush C dX2_init_35 (v := 6) (by decide) ?_
  refine V_sufI (wr := ((([(h0, .inr (0, [.ref a1, .ref a3, .null, .long 0, .int 0]))] : va_W) ++ rw2 ε a1 q2 0 6 (fun _ => 0)) ++ rw2 ε a3 q4 0 6 (fun _ => 0))) C cf_X5_init (m_X5_init (x := 6) (z := 6) (by decide) (by decide)) q_ML_X2_11 dX2_init_37 (by decide) rfl rfl (Nat.le_of_ble_eq_true rfl) ⟨by rw [hR.1]; decide, by rw [hR.2]; decide⟩ (fun r w1 h => ?_)
  obtain ⟨rfl, q6, rfl⟩ := h
  refine V_eq C (st' := [.ref a5, .ref h0]) rfl ?_
  refine V_putF (ws' := (((([(h0, .inr (0, [.ref a1, .ref a3, .ref a5, .long 0, .int 0]))] : va_W) ++ rw2 ε a1 q2 0 6 (fun _ => 0)) ++ rw2 ε a3 q4 0 6 (fun _ => 0)) ++ rw2 ε a5 q6 0 6 (fun _ => 0))) C inX2 rfl tyX2 tyX2_ok nmX2 hnm 2 (by decide) q_FL_X2_23 rfl rfl 0 rfl rfl rfl rfl (Nat.le_of_ble_eq_true rfl) dX2_init_40 rfl ?_
  refine V_widen (k' := 6) (n' := 24) C (by decide) (by decide) ?_
  exact V_vret C X dX2_init_43 ⟨rfl, fun k => ([h0, a1, q2, a3, q4, a5, q6] : List Nat).getD k 0, rfl, rfl⟩
set_option maxRecDepth 100000 in
set_option maxHeartbeats 4000000 in
theorem m_X3_init {ε : eT} {h0 : Nat} : CT ε yX3_init cX3_init 1 none 3 [.ref h0] [(h0, .inr (1, [.null, .null, .null, .null]))] (fun r w => r = none ∧ ∃ al : Nat → Nat, al 0 = h0 ∧ w = cells_X3 ε al) 8 32 := by
  refine CT_ofI (by decide) (Nat.le_of_ble_eq_true rfl) rfl (fun κ C X hR hnm => ?_)
  refine V_aload_n C 0 dX3_init_0 rfl rfl ?_
  refine V_oinit C q_ML_X3_3 (by decide) (Nat.le_of_ble_eq_true rfl) dX3_init_1 ?_
  refine V_aload_n C 0 dX3_init_4 rfl rfl ?_
  refine V_new C inX5 tyX5 tyX5_ok (ci := 3) rfl q_CL_X3_9 q_inst_X5 q_init_X5 [.null, .int 0] (by decide +kernel) (by rw [hR.1]; decide) (by rw [hR.2]; decide) dX3_init_5 (fun a1 => ?_)
  refine V_dup C dX3_init_8 rfl ?_
  refine V_bipush C dX3_init_9 (v := 6) (by decide) ?_
  refine V_sufI (wr := ([(h0, .inr (1, [.null, .null, .null, .null]))] : va_W)) C cf_X5_init (m_X5_init (x := 6) (z := 6) (by decide) (by decide)) q_ML_X3_11 dX3_init_11 (by decide) rfl rfl (Nat.le_of_ble_eq_true rfl) ⟨by rw [hR.1]; decide, by rw [hR.2]; decide⟩ (fun r w1 h => ?_)
  obtain ⟨rfl, q2, rfl⟩ := h
  refine V_eq C (st' := [.ref a1, .ref h0]) rfl ?_
  refine V_putF (ws' := (([(h0, .inr (1, [.ref a1, .null, .null, .null]))] : va_W) ++ rw2 ε a1 q2 0 6 (fun _ => 0))) C inX3 rfl tyX3 tyX3_ok nmX3 hnm 0 (by decide) q_FL_X3_14 rfl rfl 0 rfl rfl rfl rfl (Nat.le_of_ble_eq_true rfl) dX3_init_14 rfl ?_
  refine V_aload_n C 0 dX3_init_17 rfl rfl ?_
  refine V_new C inX5 tyX5 tyX5_ok (ci := 3) rfl q_CL_X3_9 q_inst_X5 q_init_X5 [.null, .int 0] (by decide +kernel) (by rw [hR.1]; decide) (by rw [hR.2]; decide) dX3_init_18 (fun a3 => ?_)
  refine V_dup C dX3_init_21 rfl ?_
  refine V_bipush C dX3_init_22 (v := 6) (by decide) ?_
  refine V_sufI (wr := (([(h0, .inr (1, [.ref a1, .null, .null, .null]))] : va_W) ++ rw2 ε a1 q2 0 6 (fun _ => 0))) C cf_X5_init (m_X5_init (x := 6) (z := 6) (by decide) (by decide)) q_ML_X3_11 dX3_init_24 (by decide) rfl rfl (Nat.le_of_ble_eq_true rfl) ⟨by rw [hR.1]; decide, by rw [hR.2]; decide⟩ (fun r w1 h => ?_)
  obtain ⟨rfl, q4, rfl⟩ := h
  refine V_eq C (st' := [.ref a3, .ref h0]) rfl ?_
  refine V_putF (ws' := ((([(h0, .inr (1, [.ref a1, .ref a3, .null, .null]))] : va_W) ++ rw2 ε a1 q2 0 6 (fun _ => 0)) ++ rw2 ε a3 q4 0 6 (fun _ => 0))) C inX3 rfl tyX3 tyX3_ok nmX3 hnm 1 (by decide) q_FL_X3_20 rfl rfl 0 rfl rfl rfl rfl (Nat.le_of_ble_eq_true rfl) dX3_init_27 rfl ?_
  refine V_aload_n C 0 dX3_init_30 rfl rfl ?_
  refine V_new C inX5 tyX5 tyX5_ok (ci := 3) rfl q_CL_X3_9 q_inst_X5 q_init_X5 [.null, .int 0] (by decide +kernel) (by rw [hR.1]; decide) (by rw [hR.2]; decide) dX3_init_31 (fun a5 => ?_)
  refine V_dup C dX3_init_34 rfl ?_
  refine V_bipush C dX3_init_35 (v := 6) (by decide) ?_
  refine V_sufI (wr := ((([(h0, .inr (1, [.ref a1, .ref a3, .null, .null]))] : va_W) ++ rw2 ε a1 q2 0 6 (fun _ => 0)) ++ rw2 ε a3 q4 0 6 (fun _ => 0))) C cf_X5_init (m_X5_init (x := 6) (z := 6) (by decide) (by decide)) q_ML_X3_11 dX3_init_37 (by decide) rfl rfl (Nat.le_of_ble_eq_true rfl) ⟨by rw [hR.1]; decide, by rw [hR.2]; decide⟩ (fun r w1 h => ?_)
  obtain ⟨rfl, q6, rfl⟩ := h
  refine V_eq C (st' := [.ref a5, .ref h0]) rfl ?_
  refine V_putF (ws' := (((([(h0, .inr (1, [.ref a1, .ref a3, .ref a5, .null]))] : va_W) ++ rw2 ε a1 q2 0 6 (fun _ => 0)) ++ rw2 ε a3 q4 0 6 (fun _ => 0)) ++ rw2 ε a5 q6 0 6 (fun _ => 0))) C inX3 rfl tyX3 tyX3_ok nmX3 hnm 2 (by decide) q_FL_X3_23 rfl rfl 0 rfl rfl rfl rfl (Nat.le_of_ble_eq_true rfl) dX3_init_40 rfl ?_
  refine V_aload_n C 0 dX3_init_43 rfl rfl ?_
  refine V_new C inX5 tyX5 tyX5_ok (ci := 3) rfl q_CL_X3_9 q_inst_X5 q_init_X5 [.null, .int 0] (by decide +kernel) (by rw [hR.1]; decide) (by rw [hR.2]; decide) dX3_init_44 (fun a7 => ?_)
  refine V_dup C dX3_init_47 rfl ?_
  refine V_bipush C dX3_init_48 (v := 6) (by decide) ?_
  refine V_sufI (wr := (((([(h0, .inr (1, [.ref a1, .ref a3, .ref a5, .null]))] : va_W) ++ rw2 ε a1 q2 0 6 (fun _ => 0)) ++ rw2 ε a3 q4 0 6 (fun _ => 0)) ++ rw2 ε a5 q6 0 6 (fun _ => 0))) C cf_X5_init (m_X5_init (x := 6) (z := 6) (by decide) (by decide)) q_ML_X3_11 dX3_init_50 (by decide) rfl rfl (Nat.le_of_ble_eq_true rfl) ⟨by rw [hR.1]; decide, by rw [hR.2]; decide⟩ (fun r w1 h => ?_)
  obtain ⟨rfl, q8, rfl⟩ := h
  refine V_eq C (st' := [.ref a7, .ref h0]) rfl ?_
  refine V_putF (ws' := ((((([(h0, .inr (1, [.ref a1, .ref a3, .ref a5, .ref a7]))] : va_W) ++ rw2 ε a1 q2 0 6 (fun _ => 0)) ++ rw2 ε a3 q4 0 6 (fun _ => 0)) ++ rw2 ε a5 q6 0 6 (fun _ => 0)) ++ rw2 ε a7 q8 0 6 (fun _ => 0))) C inX3 rfl tyX3 tyX3_ok nmX3 hnm 3 (by decide) q_FL_X3_26 rfl rfl 0 rfl rfl rfl rfl (Nat.le_of_ble_eq_true rfl) dX3_init_53 rfl ?_
  refine V_widen (k' := 8) (n' := 32) C (by decide) (by decide) ?_
  exact V_vret C X dX3_init_56 ⟨rfl, fun k => ([h0, a1, q2, a3, q4, a5, q6, a7, q8] : List Nat).getD k 0, rfl, rfl⟩
set_option maxRecDepth 100000 in
set_option maxHeartbeats 4000000 in
theorem m_X4_init {ε : eT} {h0 : Nat} : CT ε yX4_init cX4_init 1 none 3 [.ref h0] [(h0, .inr (2, [.null, .null, .int 0, .int 0, .int 0]))] (fun r w => r = none ∧ ∃ al : Nat → Nat, al 0 = h0 ∧ w = cells_X4 ε al) 4 124 := by
  refine CT_ofI (by decide) (Nat.le_of_ble_eq_true rfl) rfl (fun κ C X hR hnm => ?_)
  refine V_aload_n C 0 dX4_init_0 rfl rfl ?_
  refine V_oinit C q_ML_X4_3 (by decide) (Nat.le_of_ble_eq_true rfl) dX4_init_1 ?_
  refine V_aload_n C 0 dX4_init_4 rfl rfl ?_
  refine V_new C inX5 tyX5 tyX5_ok (ci := 3) rfl q_CL_X4_9 q_inst_X5 q_init_X5 [.null, .int 0] (by decide +kernel) (by rw [hR.1]; decide) (by rw [hR.2]; decide) dX4_init_5 (fun a1 => ?_)
  refine V_dup C dX4_init_8 rfl ?_
  refine V_bipush C dX4_init_9 (v := 60) (by decide) ?_
  refine V_sufI (wr := ([(h0, .inr (2, [.null, .null, .int 0, .int 0, .int 0]))] : va_W)) C cf_X5_init (m_X5_init (x := 60) (z := 60) (by decide) (by decide)) q_ML_X4_11 dX4_init_11 (by decide) rfl rfl (Nat.le_of_ble_eq_true rfl) ⟨by rw [hR.1]; decide, by rw [hR.2]; decide⟩ (fun r w1 h => ?_)
  obtain ⟨rfl, q2, rfl⟩ := h
  refine V_eq C (st' := [.ref a1, .ref h0]) rfl ?_
  refine V_putF (ws' := (([(h0, .inr (2, [.ref a1, .null, .int 0, .int 0, .int 0]))] : va_W) ++ rw2 ε a1 q2 0 60 (fun _ => 0))) C inX4 rfl tyX4 tyX4_ok nmX4 hnm 0 (by decide) q_FL_X4_14 rfl rfl 0 rfl rfl rfl rfl (Nat.le_of_ble_eq_true rfl) dX4_init_14 rfl ?_
  refine V_aload_n C 0 dX4_init_17 rfl rfl ?_
  refine V_new C inX5 tyX5 tyX5_ok (ci := 3) rfl q_CL_X4_9 q_inst_X5 q_init_X5 [.null, .int 0] (by decide +kernel) (by rw [hR.1]; decide) (by rw [hR.2]; decide) dX4_init_18 (fun a3 => ?_)
  refine V_dup C dX4_init_21 rfl ?_
  refine V_bipush C dX4_init_22 (v := 60) (by decide) ?_
  refine V_sufI (wr := (([(h0, .inr (2, [.ref a1, .null, .int 0, .int 0, .int 0]))] : va_W) ++ rw2 ε a1 q2 0 60 (fun _ => 0))) C cf_X5_init (m_X5_init (x := 60) (z := 60) (by decide) (by decide)) q_ML_X4_11 dX4_init_24 (by decide) rfl rfl (Nat.le_of_ble_eq_true rfl) ⟨by rw [hR.1]; decide, by rw [hR.2]; decide⟩ (fun r w1 h => ?_)
  obtain ⟨rfl, q4, rfl⟩ := h
  refine V_eq C (st' := [.ref a3, .ref h0]) rfl ?_
  refine V_putF (ws' := ((([(h0, .inr (2, [.ref a1, .ref a3, .int 0, .int 0, .int 0]))] : va_W) ++ rw2 ε a1 q2 0 60 (fun _ => 0)) ++ rw2 ε a3 q4 0 60 (fun _ => 0))) C inX4 rfl tyX4 tyX4_ok nmX4 hnm 1 (by decide) q_FL_X4_20 rfl rfl 0 rfl rfl rfl rfl (Nat.le_of_ble_eq_true rfl) dX4_init_27 rfl ?_
  refine V_widen (k' := 4) (n' := 124) C (by decide) (by decide) ?_
  exact V_vret C X dX4_init_30 ⟨rfl, fun k => ([h0, a1, q2, a3, q4] : List Nat).getD k 0, rfl, rfl⟩
set_option maxRecDepth 100000 in
set_option maxHeartbeats 4000000 in
theorem m_X10_init {ε : eT} {h0 : Nat} : CT ε yX10_init cX10_init 1 none 3 [.ref h0] [(h0, .inr (8, [.null, .int 0, .int 0, .int 0, .int 0]))] (fun r w => r = none ∧ ∃ al : Nat → Nat, al 0 = h0 ∧ w = cells_X10 ε al) 2 32 := by
  refine CT_ofI (by decide) (Nat.le_of_ble_eq_true rfl) rfl (fun κ C X hR hnm => ?_)
  refine V_aload_n C 0 dX10_init_0 rfl rfl ?_
  refine V_oinit C q_ML_X10_1 (by decide) (Nat.le_of_ble_eq_true rfl) dX10_init_1 ?_
  refine V_aload_n C 0 dX10_init_4 rfl rfl ?_
  refine V_new C inX5 tyX5 tyX5_ok (ci := 3) rfl q_CL_X10_7 q_inst_X5 q_init_X5 [.null, .int 0] (by decide +kernel) (by rw [hR.1]; decide) (by rw [hR.2]; decide) dX10_init_5 (fun a1 => ?_)
  refine V_dup C dX10_init_8 rfl ?_
  refine V_bipush C dX10_init_9 (v := 30) (by decide) ?_
  refine V_sufI (wr := ([(h0, .inr (8, [.null, .int 0, .int 0, .int 0, .int 0]))] : va_W)) C cf_X5_init (m_X5_init (x := 30) (z := 30) (by decide) (by decide)) q_ML_X10_11 dX10_init_11 (by decide) rfl rfl (Nat.le_of_ble_eq_true rfl) ⟨by rw [hR.1]; decide, by rw [hR.2]; decide⟩ (fun r w1 h => ?_)
  obtain ⟨rfl, q2, rfl⟩ := h
  refine V_eq C (st' := [.ref a1, .ref h0]) rfl ?_
  refine V_putF (ws' := (([(h0, .inr (8, [.ref a1, .int 0, .int 0, .int 0, .int 0]))] : va_W) ++ rw2 ε a1 q2 0 30 (fun _ => 0))) C inX10 rfl tyX10 tyX10_ok nmX10 hnm 0 (by decide) q_FL_X10_14 rfl rfl 0 rfl rfl rfl rfl (Nat.le_of_ble_eq_true rfl) dX10_init_14 rfl ?_
  refine V_widen (k' := 2) (n' := 32) C (by decide) (by decide) ?_
  exact V_vret C X dX10_init_17 ⟨rfl, fun k => ([h0, a1, q2] : List Nat).getD k 0, rfl, rfl⟩
set_option maxRecDepth 100000 in
set_option maxHeartbeats 4000000 in
theorem m_X7_init {ε : eT} {h0 : Nat} : CT ε yX7_init cX7_init 1 none 3 [.ref h0] [(h0, .inr (5, [.null, .null, .null]))] (fun r w => r = none ∧ ∃ al : Nat → Nat, al 0 = h0 ∧ w = cells_X7 ε al) 6 131 := by
  refine CT_ofI (by decide) (Nat.le_of_ble_eq_true rfl) rfl (fun κ C X hR hnm => ?_)
  refine V_aload_n C 0 dX7_init_0 rfl rfl ?_
  refine V_oinit C q_ML_X7_3 (by decide) (Nat.le_of_ble_eq_true rfl) dX7_init_1 ?_
  refine V_aload_n C 0 dX7_init_4 rfl rfl ?_
  refine V_new C inX5 tyX5 tyX5_ok (ci := 3) rfl q_CL_X7_9 q_inst_X5 q_init_X5 [.null, .int 0] (by decide +kernel) (by rw [hR.1]; decide) (by rw [hR.2]; decide) dX7_init_5 (fun a1 => ?_)
  refine V_dup C dX7_init_8 rfl ?_
  refine V_bipush C dX7_init_9 (v := 60) (by decide) ?_
  refine V_sufI (wr := ([(h0, .inr (5, [.null, .null, .null]))] : va_W)) C cf_X5_init (m_X5_init (x := 60) (z := 60) (by decide) (by decide)) q_ML_X7_11 dX7_init_11 (by decide) rfl rfl (Nat.le_of_ble_eq_true rfl) ⟨by rw [hR.1]; decide, by rw [hR.2]; decide⟩ (fun r w1 h => ?_)
  obtain ⟨rfl, q2, rfl⟩ := h
  refine V_eq C (st' := [.ref a1, .ref h0]) rfl ?_
  refine V_putF (ws' := (([(h0, .inr (5, [.ref a1, .null, .null]))] : va_W) ++ rw2 ε a1 q2 0 60 (fun _ => 0))) C inX7 rfl tyX7 tyX7_ok nmX7 hnm 0 (by decide) q_FL_X7_14 rfl rfl 0 rfl rfl rfl rfl (Nat.le_of_ble_eq_true rfl) dX7_init_14 rfl ?_
  refine V_aload_n C 0 dX7_init_17 rfl rfl ?_
  refine V_new C inX5 tyX5 tyX5_ok (ci := 3) rfl q_CL_X7_9 q_inst_X5 q_init_X5 [.null, .int 0] (by decide +kernel) (by rw [hR.1]; decide) (by rw [hR.2]; decide) dX7_init_18 (fun a3 => ?_)
  refine V_dup C dX7_init_21 rfl ?_
  refine V_iconst C dX7_init_22 (v := 5) (by decide) ?_
  refine V_sufI (wr := (([(h0, .inr (5, [.ref a1, .null, .null]))] : va_W) ++ rw2 ε a1 q2 0 60 (fun _ => 0))) C cf_X5_init (m_X5_init (x := 5) (z := 5) (by decide) (by decide)) q_ML_X7_11 dX7_init_23 (by decide) rfl rfl (Nat.le_of_ble_eq_true rfl) ⟨by rw [hR.1]; decide, by rw [hR.2]; decide⟩ (fun r w1 h => ?_)
  obtain ⟨rfl, q4, rfl⟩ := h
  refine V_eq C (st' := [.ref a3, .ref h0]) rfl ?_
  refine V_putF (ws' := ((([(h0, .inr (5, [.ref a1, .ref a3, .null]))] : va_W) ++ rw2 ε a1 q2 0 60 (fun _ => 0)) ++ rw2 ε a3 q4 0 5 (fun _ => 0))) C inX7 rfl tyX7 tyX7_ok nmX7 hnm 1 (by decide) q_FL_X7_20 rfl rfl 0 rfl rfl rfl rfl (Nat.le_of_ble_eq_true rfl) dX7_init_26 rfl ?_
  refine V_aload_n C 0 dX7_init_29 rfl rfl ?_
  refine V_get C inX7 rfl 1 (by decide) q_FL_X7_20 0 rfl rfl dX7_init_30 ?_
  refine V_iconst C dX7_init_33 (v := 5) (by decide) ?_
  refine V_sufV (wr := (([(h0, .inr (5, [.ref a1, .ref a3, .null]))] : va_W) ++ rw2 ε a1 q2 0 60 (fun _ => 0))) C cf_X5_reset (m_X5_reset (s := 0) (x := 5) (z := 5) (by decide) (by decide)) q_ML_X7_23 0 rfl rfl dX7_init_34 (by decide) rfl rfl (Nat.le_of_ble_eq_true rfl) ⟨by rw [hR.1]; decide, by rw [hR.2]; decide⟩ (fun r w1 h => ?_)
  obtain ⟨rfl, rfl⟩ := h
  refine V_eq C (st' := []) rfl ?_
  refine V_aload_n C 0 dX7_init_37 rfl rfl ?_
  refine V_new C inX5 tyX5 tyX5_ok (ci := 3) rfl q_CL_X7_9 q_inst_X5 q_init_X5 [.null, .int 0] (by decide +kernel) (by rw [hR.1]; decide) (by rw [hR.2]; decide) dX7_init_38 (fun a5 => ?_)
  refine V_dup C dX7_init_41 rfl ?_
  refine V_bipush C dX7_init_42 (v := 60) (by decide) ?_
  refine V_sufI (wr := ((([(h0, .inr (5, [.ref a1, .ref a3, .null]))] : va_W) ++ rw2 ε a1 q2 0 60 (fun _ => 0)) ++ rw2 ε a3 q4 5 5 (fun _ => 0))) C cf_X5_init (m_X5_init (x := 60) (z := 60) (by decide) (by decide)) q_ML_X7_11 dX7_init_44 (by decide) rfl rfl (Nat.le_of_ble_eq_true rfl) ⟨by rw [hR.1]; decide, by rw [hR.2]; decide⟩ (fun r w1 h => ?_)
  obtain ⟨rfl, q6, rfl⟩ := h
  refine V_eq C (st' := [.ref a5, .ref h0]) rfl ?_
  refine V_putF (ws' := (((([(h0, .inr (5, [.ref a1, .ref a3, .ref a5]))] : va_W) ++ rw2 ε a1 q2 0 60 (fun _ => 0)) ++ rw2 ε a3 q4 5 5 (fun _ => 0)) ++ rw2 ε a5 q6 0 60 (fun _ => 0))) C inX7 rfl tyX7 tyX7_ok nmX7 hnm 2 (by decide) q_FL_X7_26 rfl rfl 0 rfl rfl rfl rfl (Nat.le_of_ble_eq_true rfl) dX7_init_47 rfl ?_
  refine V_widen (k' := 6) (n' := 131) C (by decide) (by decide) ?_
  exact V_vret C X dX7_init_50 ⟨rfl, fun k => ([h0, a1, q2, a3, q4, a5, q6] : List Nat).getD k 0, rfl, rfl⟩
set_option maxRecDepth 100000 in
set_option maxHeartbeats 4000000 in
theorem m_X8_init {ε : eT} {h0 : Nat} : CT ε yX8_init cX8_init 1 none 3 [.ref h0] [(h0, .inr (6, [.null, .null, .null, .null, .null]))] (fun r w => r = none ∧ ∃ al : Nat → Nat, al 0 = h0 ∧ w = cells_X8 ε al) 10 130 := by
  refine CT_ofI (by decide) (Nat.le_of_ble_eq_true rfl) rfl (fun κ C X hR hnm => ?_)
  refine V_aload_n C 0 dX8_init_0 rfl rfl ?_
  refine V_oinit C q_ML_X8_3 (by decide) (Nat.le_of_ble_eq_true rfl) dX8_init_1 ?_
  refine V_aload_n C 0 dX8_init_4 rfl rfl ?_
  refine V_new C inX5 tyX5 tyX5_ok (ci := 3) rfl q_CL_X8_9 q_inst_X5 q_init_X5 [.null, .int 0] (by decide +kernel) (by rw [hR.1]; decide) (by rw [hR.2]; decide) dX8_init_5 (fun a1 => ?_)
  refine V_dup C dX8_init_8 rfl ?_
  refine V_bipush C dX8_init_9 (v := 12) (by decide) ?_
  refine V_sufI (wr := ([(h0, .inr (6, [.null, .null, .null, .null, .null]))] : va_W)) C cf_X5_init (m_X5_init (x := 12) (z := 12) (by decide) (by decide)) q_ML_X8_11 dX8_init_11 (by decide) rfl rfl (Nat.le_of_ble_eq_true rfl) ⟨by rw [hR.1]; decide, by rw [hR.2]; decide⟩ (fun r w1 h => ?_)
  obtain ⟨rfl, q2, rfl⟩ := h
  refine V_eq C (st' := [.ref a1, .ref h0]) rfl ?_
  refine V_putF (ws' := (([(h0, .inr (6, [.ref a1, .null, .null, .null, .null]))] : va_W) ++ rw2 ε a1 q2 0 12 (fun _ => 0))) C inX8 rfl tyX8 tyX8_ok nmX8 hnm 0 (by decide) q_FL_X8_14 rfl rfl 0 rfl rfl rfl rfl (Nat.le_of_ble_eq_true rfl) dX8_init_14 rfl ?_
  refine V_aload_n C 0 dX8_init_17 rfl rfl ?_
  refine V_new C inX5 tyX5 tyX5_ok (ci := 3) rfl q_CL_X8_9 q_inst_X5 q_init_X5 [.null, .int 0] (by decide +kernel) (by rw [hR.1]; decide) (by rw [hR.2]; decide) dX8_init_18 (fun a3 => ?_)
  refine V_dup C dX8_init_21 rfl ?_
  refine V_bipush C dX8_init_22 (v := 12) (by decide) ?_
  refine V_sufI (wr := (([(h0, .inr (6, [.ref a1, .null, .null, .null, .null]))] : va_W) ++ rw2 ε a1 q2 0 12 (fun _ => 0))) C cf_X5_init (m_X5_init (x := 12) (z := 12) (by decide) (by decide)) q_ML_X8_11 dX8_init_24 (by decide) rfl rfl (Nat.le_of_ble_eq_true rfl) ⟨by rw [hR.1]; decide, by rw [hR.2]; decide⟩ (fun r w1 h => ?_)
  obtain ⟨rfl, q4, rfl⟩ := h
  refine V_eq C (st' := [.ref a3, .ref h0]) rfl ?_
  refine V_putF (ws' := ((([(h0, .inr (6, [.ref a1, .ref a3, .null, .null, .null]))] : va_W) ++ rw2 ε a1 q2 0 12 (fun _ => 0)) ++ rw2 ε a3 q4 0 12 (fun _ => 0))) C inX8 rfl tyX8 tyX8_ok nmX8 hnm 1 (by decide) q_FL_X8_20 rfl rfl 0 rfl rfl rfl rfl (Nat.le_of_ble_eq_true rfl) dX8_init_27 rfl ?_
  refine V_aload_n C 0 dX8_init_30 rfl rfl ?_
  refine V_new C inX5 tyX5 tyX5_ok (ci := 3) rfl q_CL_X8_9 q_inst_X5 q_init_X5 [.null, .int 0] (by decide +kernel) (by rw [hR.1]; decide) (by rw [hR.2]; decide) dX8_init_31 (fun a5 => ?_)
  refine V_dup C dX8_init_34 rfl ?_
  refine V_bipush C dX8_init_35 (v := 12) (by decide) ?_
  refine V_sufI (wr := ((([(h0, .inr (6, [.ref a1, .ref a3, .null, .null, .null]))] : va_W) ++ rw2 ε a1 q2 0 12 (fun _ => 0)) ++ rw2 ε a3 q4 0 12 (fun _ => 0))) C cf_X5_init (m_X5_init (x := 12) (z := 12) (by decide) (by decide)) q_ML_X8_11 dX8_init_37 (by decide) rfl rfl (Nat.le_of_ble_eq_true rfl) ⟨by rw [hR.1]; decide, by rw [hR.2]; decide⟩ (fun r w1 h => ?_)
  obtain ⟨rfl, q6, rfl⟩ := h
  refine V_eq C (st' := [.ref a5, .ref h0]) rfl ?_
  refine V_putF (ws' := (((([(h0, .inr (6, [.ref a1, .ref a3, .ref a5, .null, .null]))] : va_W) ++ rw2 ε a1 q2 0 12 (fun _ => 0)) ++ rw2 ε a3 q4 0 12 (fun _ => 0)) ++ rw2 ε a5 q6 0 12 (fun _ => 0))) C inX8 rfl tyX8 tyX8_ok nmX8 hnm 2 (by decide) q_FL_X8_23 rfl rfl 0 rfl rfl rfl rfl (Nat.le_of_ble_eq_true rfl) dX8_init_40 rfl ?_
  refine V_aload_n C 0 dX8_init_43 rfl rfl ?_
  refine V_new C inX5 tyX5 tyX5_ok (ci := 3) rfl q_CL_X8_9 q_inst_X5 q_init_X5 [.null, .int 0] (by decide +kernel) (by rw [hR.1]; decide) (by rw [hR.2]; decide) dX8_init_44 (fun a7 => ?_)
  refine V_dup C dX8_init_47 rfl ?_
  refine V_bipush C dX8_init_48 (v := 12) (by decide) ?_
  refine V_sufI (wr := (((([(h0, .inr (6, [.ref a1, .ref a3, .ref a5, .null, .null]))] : va_W) ++ rw2 ε a1 q2 0 12 (fun _ => 0)) ++ rw2 ε a3 q4 0 12 (fun _ => 0)) ++ rw2 ε a5 q6 0 12 (fun _ => 0))) C cf_X5_init (m_X5_init (x := 12) (z := 12) (by decide) (by decide)) q_ML_X8_11 dX8_init_50 (by decide) rfl rfl (Nat.le_of_ble_eq_true rfl) ⟨by rw [hR.1]; decide, by rw [hR.2]; decide⟩ (fun r w1 h => ?_)
  obtain ⟨rfl, q8, rfl⟩ := h
  refine V_eq C (st' := [.ref a7, .ref h0]) rfl ?_
  refine V_putF (ws' := ((((([(h0, .inr (6, [.ref a1, .ref a3, .ref a5, .ref a7, .null]))] : va_W) ++ rw2 ε a1 q2 0 12 (fun _ => 0)) ++ rw2 ε a3 q4 0 12 (fun _ => 0)) ++ rw2 ε a5 q6 0 12 (fun _ => 0)) ++ rw2 ε a7 q8 0 12 (fun _ => 0))) C inX8 rfl tyX8 tyX8_ok nmX8 hnm 3 (by decide) q_FL_X8_26 rfl rfl 0 rfl rfl rfl rfl (Nat.le_of_ble_eq_true rfl) dX8_init_53 rfl ?_
  refine V_aload_n C 0 dX8_init_56 rfl rfl ?_
  refine V_new C inX5 tyX5 tyX5_ok (ci := 3) rfl q_CL_X8_9 q_inst_X5 q_init_X5 [.null, .int 0] (by decide +kernel) (by rw [hR.1]; decide) (by rw [hR.2]; decide) dX8_init_57 (fun a9 => ?_)
  refine V_dup C dX8_init_60 rfl ?_
  refine V_bipush C dX8_init_61 (v := 72) (by decide) ?_
  refine V_sufI (wr := ((((([(h0, .inr (6, [.ref a1, .ref a3, .ref a5, .ref a7, .null]))] : va_W) ++ rw2 ε a1 q2 0 12 (fun _ => 0)) ++ rw2 ε a3 q4 0 12 (fun _ => 0)) ++ rw2 ε a5 q6 0 12 (fun _ => 0)) ++ rw2 ε a7 q8 0 12 (fun _ => 0))) C cf_X5_init (m_X5_init (x := 72) (z := 72) (by decide) (by decide)) q_ML_X8_11 dX8_init_63 (by decide) rfl rfl (Nat.le_of_ble_eq_true rfl) ⟨by rw [hR.1]; decide, by rw [hR.2]; decide⟩ (fun r w1 h => ?_)
  obtain ⟨rfl, q10, rfl⟩ := h
  refine V_eq C (st' := [.ref a9, .ref h0]) rfl ?_
  refine V_putF (ws' := (((((([(h0, .inr (6, [.ref a1, .ref a3, .ref a5, .ref a7, .ref a9]))] : va_W) ++ rw2 ε a1 q2 0 12 (fun _ => 0)) ++ rw2 ε a3 q4 0 12 (fun _ => 0)) ++ rw2 ε a5 q6 0 12 (fun _ => 0)) ++ rw2 ε a7 q8 0 12 (fun _ => 0)) ++ rw2 ε a9 q10 0 72 (fun _ => 0))) C inX8 rfl tyX8 tyX8_ok nmX8 hnm 4 (by decide) q_FL_X8_29 rfl rfl 0 rfl rfl rfl rfl (Nat.le_of_ble_eq_true rfl) dX8_init_66 rfl ?_
  refine V_aload_n C 0 dX8_init_69 rfl rfl ?_
  refine V_get C inX8 rfl 4 (by decide) q_FL_X8_29 0 rfl rfl dX8_init_70 ?_
  refine V_bipush C dX8_init_73 (v := 72) (by decide) ?_
  refine V_sufV (wr := ((((([(h0, .inr (6, [.ref a1, .ref a3, .ref a5, .ref a7, .ref a9]))] : va_W) ++ rw2 ε a1 q2 0 12 (fun _ => 0)) ++ rw2 ε a3 q4 0 12 (fun _ => 0)) ++ rw2 ε a5 q6 0 12 (fun _ => 0)) ++ rw2 ε a7 q8 0 12 (fun _ => 0))) C cf_X5_reset (m_X5_reset (s := 0) (x := 72) (z := 72) (by decide) (by decide)) q_ML_X8_32 0 rfl rfl dX8_init_75 (by decide) rfl rfl (Nat.le_of_ble_eq_true rfl) ⟨by rw [hR.1]; decide, by rw [hR.2]; decide⟩ (fun r w1 h => ?_)
  obtain ⟨rfl, rfl⟩ := h
  refine V_eq C (st' := []) rfl ?_
  refine V_widen (k' := 10) (n' := 130) C (by decide) (by decide) ?_
  exact V_vret C X dX8_init_78 ⟨rfl, fun k => ([h0, a1, q2, a3, q4, a5, q6, a7, q8, a9, q10] : List Nat).getD k 0, rfl, rfl⟩
set_option maxRecDepth 100000 in
set_option maxHeartbeats 4000000 in
theorem m_X12_init {ε : eT} {h0 : Nat} : CT ε yX12_init cX12_init 1 none 2 [.ref h0] [(h0, .inr (10, [.null, .null, .null, .int 0, .null, .int 0, .int 0, .int 0, .int 0, .null, .null, .null, .null, .int 0, .int 0, .int 0, .null, .null, .null, .null]))] (fun r w => r = none ∧ ∃ al : Nat → Nat, al 0 = h0 ∧ w = cells_X12 ε al) 12 2029 := by
  refine CT_ofI (by decide) (Nat.le_of_ble_eq_true rfl) rfl (fun κ C X hR hnm => ?_)
  refine V_aload_n C 0 dX12_init_0 rfl rfl ?_
  refine V_oinit C q_ML_X12_1 (by decide) (Nat.le_of_ble_eq_true rfl) dX12_init_1 ?_
  refine V_aload_n C 0 dX12_init_4 rfl rfl ?_
  refine V_sipush C dX12_init_5 (v := 516) (by decide) ?_
  refine V_newa (N := 516) C (by decide) (by decide) (by decide) (by rw [hR.1]; decide) (by rw [hR.2]; decide) dX12_init_8 (fun a1 => ?_)
  refine V_putF (ws' := (([(h0, .inr (10, [.ref a1, .null, .null, .int 0, .null, .int 0, .int 0, .int 0, .int 0, .null, .null, .null, .null, .int 0, .int 0, .int 0, .null, .null, .null, .null]))] : va_W) ++ ([(a1, .inl (eI ε, 516, .inl (fun _ => 0)))] : va_W))) C inX12 rfl tyX12 tyX12_ok nmX12 hnm 0 (by decide) q_FL_X12_7 rfl rfl 0 rfl rfl rfl rfl (Nat.le_of_ble_eq_true rfl) dX12_init_10 rfl ?_
  refine V_aload_n C 0 dX12_init_13 rfl rfl ?_
  refine V_sipush C dX12_init_14 (v := 516) (by decide) ?_
  refine V_newa (N := 516) C (by decide) (by decide) (by decide) (by rw [hR.1]; decide) (by rw [hR.2]; decide) dX12_init_17 (fun a2 => ?_)
  refine V_putF (ws' := ((([(h0, .inr (10, [.ref a1, .ref a2, .null, .int 0, .null, .int 0, .int 0, .int 0, .int 0, .null, .null, .null, .null, .int 0, .int 0, .int 0, .null, .null, .null, .null]))] : va_W) ++ ([(a1, .inl (eI ε, 516, .inl (fun _ => 0)))] : va_W)) ++ ([(a2, .inl (eI ε, 516, .inl (fun _ => 0)))] : va_W))) C inX12 rfl tyX12 tyX12_ok nmX12 hnm 1 (by decide) q_FL_X12_13 rfl rfl 0 rfl rfl rfl rfl (Nat.le_of_ble_eq_true rfl) dX12_init_19 rfl ?_
  refine V_aload_n C 0 dX12_init_22 rfl rfl ?_
  refine V_sipush C dX12_init_23 (v := 516) (by decide) ?_
  refine V_newa (N := 516) C (by decide) (by decide) (by decide) (by rw [hR.1]; decide) (by rw [hR.2]; decide) dX12_init_26 (fun a3 => ?_)
  refine V_putF (ws' := (((([(h0, .inr (10, [.ref a1, .ref a2, .ref a3, .int 0, .null, .int 0, .int 0, .int 0, .int 0, .null, .null, .null, .null, .int 0, .int 0, .int 0, .null, .null, .null, .null]))] : va_W) ++ ([(a1, .inl (eI ε, 516, .inl (fun _ => 0)))] : va_W)) ++ ([(a2, .inl (eI ε, 516, .inl (fun _ => 0)))] : va_W)) ++ ([(a3, .inl (eI ε, 516, .inl (fun _ => 0)))] : va_W))) C inX12 rfl tyX12 tyX12_ok nmX12 hnm 2 (by decide) q_FL_X12_16 rfl rfl 0 rfl rfl rfl rfl (Nat.le_of_ble_eq_true rfl) dX12_init_28 rfl ?_
  refine V_aload_n C 0 dX12_init_31 rfl rfl ?_
  refine V_bipush C dX12_init_32 (v := 7) (by decide) ?_
  refine V_newa (N := 7) C (by decide) (by decide) (by decide) (by rw [hR.1]; decide) (by rw [hR.2]; decide) dX12_init_34 (fun a4 => ?_)
  refine V_putF (ws' := ((((([(h0, .inr (10, [.ref a1, .ref a2, .ref a3, .int 0, .ref a4, .int 0, .int 0, .int 0, .int 0, .null, .null, .null, .null, .int 0, .int 0, .int 0, .null, .null, .null, .null]))] : va_W) ++ ([(a1, .inl (eI ε, 516, .inl (fun _ => 0)))] : va_W)) ++ ([(a2, .inl (eI ε, 516, .inl (fun _ => 0)))] : va_W)) ++ ([(a3, .inl (eI ε, 516, .inl (fun _ => 0)))] : va_W)) ++ ([(a4, .inl (eI ε, 7, .inl (fun _ => 0)))] : va_W))) C inX12 rfl tyX12 tyX12_ok nmX12 hnm 4 (by decide) q_FL_X12_19 rfl rfl 0 rfl rfl rfl rfl (Nat.le_of_ble_eq_true rfl) dX12_init_36 rfl ?_
  refine V_aload_n C 0 dX12_init_39 rfl rfl ?_
  refine V_bipush C dX12_init_40 (v := 124) (by decide) ?_
  refine V_newa (N := 124) C (by decide) (by decide) (by decide) (by rw [hR.1]; decide) (by rw [hR.2]; decide) dX12_init_42 (fun a5 => ?_)
  refine V_putF (ws' := (((((([(h0, .inr (10, [.ref a1, .ref a2, .ref a3, .int 0, .ref a4, .int 0, .int 0, .int 0, .int 0, .ref a5, .null, .null, .null, .int 0, .int 0, .int 0, .null, .null, .null, .null]))] : va_W) ++ ([(a1, .inl (eI ε, 516, .inl (fun _ => 0)))] : va_W)) ++ ([(a2, .inl (eI ε, 516, .inl (fun _ => 0)))] : va_W)) ++ ([(a3, .inl (eI ε, 516, .inl (fun _ => 0)))] : va_W)) ++ ([(a4, .inl (eI ε, 7, .inl (fun _ => 0)))] : va_W)) ++ ([(a5, .inl (eI ε, 124, .inl (fun _ => 0)))] : va_W))) C inX12 rfl tyX12 tyX12_ok nmX12 hnm 9 (by decide) q_FL_X12_22 rfl rfl 0 rfl rfl rfl rfl (Nat.le_of_ble_eq_true rfl) dX12_init_44 rfl ?_
  refine V_aload_n C 0 dX12_init_47 rfl rfl ?_
  refine V_sipush C dX12_init_48 (v := 128) (by decide) ?_
  refine V_newa (N := 128) C (by decide) (by decide) (by decide) (by rw [hR.1]; decide) (by rw [hR.2]; decide) dX12_init_51 (fun a6 => ?_)
  refine V_putF (ws' := ((((((([(h0, .inr (10, [.ref a1, .ref a2, .ref a3, .int 0, .ref a4, .int 0, .int 0, .int 0, .int 0, .ref a5, .ref a6, .null, .null, .int 0, .int 0, .int 0, .null, .null, .null, .null]))] : va_W) ++ ([(a1, .inl (eI ε, 516, .inl (fun _ => 0)))] : va_W)) ++ ([(a2, .inl (eI ε, 516, .inl (fun _ => 0)))] : va_W)) ++ ([(a3, .inl (eI ε, 516, .inl (fun _ => 0)))] : va_W)) ++ ([(a4, .inl (eI ε, 7, .inl (fun _ => 0)))] : va_W)) ++ ([(a5, .inl (eI ε, 124, .inl (fun _ => 0)))] : va_W)) ++ ([(a6, .inl (eI ε, 128, .inl (fun _ => 0)))] : va_W))) C inX12 rfl tyX12 tyX12_ok nmX12 hnm 10 (by decide) q_FL_X12_25 rfl rfl 0 rfl rfl rfl rfl (Nat.le_of_ble_eq_true rfl) dX12_init_53 rfl ?_
  refine V_aload_n C 0 dX12_init_56 rfl rfl ?_
  refine V_bipush C dX12_init_57 (v := 64) (by decide) ?_
  refine V_newa (N := 64) C (by decide) (by decide) (by decide) (by rw [hR.1]; decide) (by rw [hR.2]; decide) dX12_init_59 (fun a7 => ?_)
  refine V_putF (ws' := (((((((([(h0, .inr (10, [.ref a1, .ref a2, .ref a3, .int 0, .ref a4, .int 0, .int 0, .int 0, .int 0, .ref a5, .ref a6, .ref a7, .null, .int 0, .int 0, .int 0, .null, .null, .null, .null]))] : va_W) ++ ([(a1, .inl (eI ε, 516, .inl (fun _ => 0)))] : va_W)) ++ ([(a2, .inl (eI ε, 516, .inl (fun _ => 0)))] : va_W)) ++ ([(a3, .inl (eI ε, 516, .inl (fun _ => 0)))] : va_W)) ++ ([(a4, .inl (eI ε, 7, .inl (fun _ => 0)))] : va_W)) ++ ([(a5, .inl (eI ε, 124, .inl (fun _ => 0)))] : va_W)) ++ ([(a6, .inl (eI ε, 128, .inl (fun _ => 0)))] : va_W)) ++ ([(a7, .inl (eI ε, 64, .inl (fun _ => 0)))] : va_W))) C inX12 rfl tyX12 tyX12_ok nmX12 hnm 11 (by decide) q_FL_X12_28 rfl rfl 0 rfl rfl rfl rfl (Nat.le_of_ble_eq_true rfl) dX12_init_61 rfl ?_
  refine V_aload_n C 0 dX12_init_64 rfl rfl ?_
  refine V_bipush C dX12_init_65 (v := 30) (by decide) ?_
  refine V_newa (N := 30) C (by decide) (by decide) (by decide) (by rw [hR.1]; decide) (by rw [hR.2]; decide) dX12_init_67 (fun a8 => ?_)
  refine V_putF (ws' := ((((((((([(h0, .inr (10, [.ref a1, .ref a2, .ref a3, .int 0, .ref a4, .int 0, .int 0, .int 0, .int 0, .ref a5, .ref a6, .ref a7, .ref a8, .int 0, .int 0, .int 0, .null, .null, .null, .null]))] : va_W) ++ ([(a1, .inl (eI ε, 516, .inl (fun _ => 0)))] : va_W)) ++ ([(a2, .inl (eI ε, 516, .inl (fun _ => 0)))] : va_W)) ++ ([(a3, .inl (eI ε, 516, .inl (fun _ => 0)))] : va_W)) ++ ([(a4, .inl (eI ε, 7, .inl (fun _ => 0)))] : va_W)) ++ ([(a5, .inl (eI ε, 124, .inl (fun _ => 0)))] : va_W)) ++ ([(a6, .inl (eI ε, 128, .inl (fun _ => 0)))] : va_W)) ++ ([(a7, .inl (eI ε, 64, .inl (fun _ => 0)))] : va_W)) ++ ([(a8, .inl (eI ε, 30, .inl (fun _ => 0)))] : va_W))) C inX12 rfl tyX12 tyX12_ok nmX12 hnm 12 (by decide) q_FL_X12_31 rfl rfl 0 rfl rfl rfl rfl (Nat.le_of_ble_eq_true rfl) dX12_init_69 rfl ?_
  refine V_aload_n C 0 dX12_init_72 rfl rfl ?_
  refine V_iconst C dX12_init_73 (v := 4) (by decide) ?_
  refine V_newa (N := 4) C (by decide) (by decide) (by decide) (by rw [hR.1]; decide) (by rw [hR.2]; decide) dX12_init_74 (fun a9 => ?_)
  refine V_putF (ws' := (((((((((([(h0, .inr (10, [.ref a1, .ref a2, .ref a3, .int 0, .ref a4, .int 0, .int 0, .int 0, .int 0, .ref a5, .ref a6, .ref a7, .ref a8, .int 0, .int 0, .int 0, .ref a9, .null, .null, .null]))] : va_W) ++ ([(a1, .inl (eI ε, 516, .inl (fun _ => 0)))] : va_W)) ++ ([(a2, .inl (eI ε, 516, .inl (fun _ => 0)))] : va_W)) ++ ([(a3, .inl (eI ε, 516, .inl (fun _ => 0)))] : va_W)) ++ ([(a4, .inl (eI ε, 7, .inl (fun _ => 0)))] : va_W)) ++ ([(a5, .inl (eI ε, 124, .inl (fun _ => 0)))] : va_W)) ++ ([(a6, .inl (eI ε, 128, .inl (fun _ => 0)))] : va_W)) ++ ([(a7, .inl (eI ε, 64, .inl (fun _ => 0)))] : va_W)) ++ ([(a8, .inl (eI ε, 30, .inl (fun _ => 0)))] : va_W)) ++ ([(a9, .inl (eI ε, 4, .inl (fun _ => 0)))] : va_W))) C inX12 rfl tyX12 tyX12_ok nmX12 hnm 16 (by decide) q_FL_X12_34 rfl rfl 0 rfl rfl rfl rfl (Nat.le_of_ble_eq_true rfl) dX12_init_76 rfl ?_
  refine V_aload_n C 0 dX12_init_79 rfl rfl ?_
  refine V_iconst C dX12_init_80 (v := 4) (by decide) ?_
  refine V_newa (N := 4) C (by decide) (by decide) (by decide) (by rw [hR.1]; decide) (by rw [hR.2]; decide) dX12_init_81 (fun a10 => ?_)
  refine V_putF (ws' := ((((((((((([(h0, .inr (10, [.ref a1, .ref a2, .ref a3, .int 0, .ref a4, .int 0, .int 0, .int 0, .int 0, .ref a5, .ref a6, .ref a7, .ref a8, .int 0, .int 0, .int 0, .ref a9, .ref a10, .null, .null]))] : va_W) ++ ([(a1, .inl (eI ε, 516, .inl (fun _ => 0)))] : va_W)) ++ ([(a2, .inl (eI ε, 516, .inl (fun _ => 0)))] : va_W)) ++ ([(a3, .inl (eI ε, 516, .inl (fun _ => 0)))] : va_W)) ++ ([(a4, .inl (eI ε, 7, .inl (fun _ => 0)))] : va_W)) ++ ([(a5, .inl (eI ε, 124, .inl (fun _ => 0)))] : va_W)) ++ ([(a6, .inl (eI ε, 128, .inl (fun _ => 0)))] : va_W)) ++ ([(a7, .inl (eI ε, 64, .inl (fun _ => 0)))] : va_W)) ++ ([(a8, .inl (eI ε, 30, .inl (fun _ => 0)))] : va_W)) ++ ([(a9, .inl (eI ε, 4, .inl (fun _ => 0)))] : va_W)) ++ ([(a10, .inl (eI ε, 4, .inl (fun _ => 0)))] : va_W))) C inX12 rfl tyX12 tyX12_ok nmX12 hnm 17 (by decide) q_FL_X12_37 rfl rfl 0 rfl rfl rfl rfl (Nat.le_of_ble_eq_true rfl) dX12_init_83 rfl ?_
  refine V_aload_n C 0 dX12_init_86 rfl rfl ?_
  refine V_bipush C dX12_init_87 (v := 96) (by decide) ?_
  refine V_newa (N := 96) C (by decide) (by decide) (by decide) (by rw [hR.1]; decide) (by rw [hR.2]; decide) dX12_init_89 (fun a11 => ?_)
  refine V_putF (ws' := (((((((((((([(h0, .inr (10, [.ref a1, .ref a2, .ref a3, .int 0, .ref a4, .int 0, .int 0, .int 0, .int 0, .ref a5, .ref a6, .ref a7, .ref a8, .int 0, .int 0, .int 0, .ref a9, .ref a10, .ref a11, .null]))] : va_W) ++ ([(a1, .inl (eI ε, 516, .inl (fun _ => 0)))] : va_W)) ++ ([(a2, .inl (eI ε, 516, .inl (fun _ => 0)))] : va_W)) ++ ([(a3, .inl (eI ε, 516, .inl (fun _ => 0)))] : va_W)) ++ ([(a4, .inl (eI ε, 7, .inl (fun _ => 0)))] : va_W)) ++ ([(a5, .inl (eI ε, 124, .inl (fun _ => 0)))] : va_W)) ++ ([(a6, .inl (eI ε, 128, .inl (fun _ => 0)))] : va_W)) ++ ([(a7, .inl (eI ε, 64, .inl (fun _ => 0)))] : va_W)) ++ ([(a8, .inl (eI ε, 30, .inl (fun _ => 0)))] : va_W)) ++ ([(a9, .inl (eI ε, 4, .inl (fun _ => 0)))] : va_W)) ++ ([(a10, .inl (eI ε, 4, .inl (fun _ => 0)))] : va_W)) ++ ([(a11, .inl (eI ε, 96, .inl (fun _ => 0)))] : va_W))) C inX12 rfl tyX12 tyX12_ok nmX12 hnm 18 (by decide) q_FL_X12_40 rfl rfl 0 rfl rfl rfl rfl (Nat.le_of_ble_eq_true rfl) dX12_init_91 rfl ?_
  refine V_aload_n C 0 dX12_init_94 rfl rfl ?_
  refine V_bipush C dX12_init_95 (v := 24) (by decide) ?_
  refine V_newa (N := 24) C (by decide) (by decide) (by decide) (by rw [hR.1]; decide) (by rw [hR.2]; decide) dX12_init_97 (fun a12 => ?_)
  refine V_putF (ws' := ((((((((((((([(h0, .inr (10, [.ref a1, .ref a2, .ref a3, .int 0, .ref a4, .int 0, .int 0, .int 0, .int 0, .ref a5, .ref a6, .ref a7, .ref a8, .int 0, .int 0, .int 0, .ref a9, .ref a10, .ref a11, .ref a12]))] : va_W) ++ ([(a1, .inl (eI ε, 516, .inl (fun _ => 0)))] : va_W)) ++ ([(a2, .inl (eI ε, 516, .inl (fun _ => 0)))] : va_W)) ++ ([(a3, .inl (eI ε, 516, .inl (fun _ => 0)))] : va_W)) ++ ([(a4, .inl (eI ε, 7, .inl (fun _ => 0)))] : va_W)) ++ ([(a5, .inl (eI ε, 124, .inl (fun _ => 0)))] : va_W)) ++ ([(a6, .inl (eI ε, 128, .inl (fun _ => 0)))] : va_W)) ++ ([(a7, .inl (eI ε, 64, .inl (fun _ => 0)))] : va_W)) ++ ([(a8, .inl (eI ε, 30, .inl (fun _ => 0)))] : va_W)) ++ ([(a9, .inl (eI ε, 4, .inl (fun _ => 0)))] : va_W)) ++ ([(a10, .inl (eI ε, 4, .inl (fun _ => 0)))] : va_W)) ++ ([(a11, .inl (eI ε, 96, .inl (fun _ => 0)))] : va_W)) ++ ([(a12, .inl (eI ε, 24, .inl (fun _ => 0)))] : va_W))) C inX12 rfl tyX12 tyX12_ok nmX12 hnm 19 (by decide) q_FL_X12_43 rfl rfl 0 rfl rfl rfl rfl (Nat.le_of_ble_eq_true rfl) dX12_init_99 rfl ?_
  refine V_aload_n C 0 dX12_init_102 rfl rfl ?_
  refine V_get C inX12 rfl 0 (by decide) q_FL_X12_7 0 rfl rfl dX12_init_103 ?_
  refine V_bipush C dX12_init_106 (v := 8) (by decide) ?_
  refine V_iconst C dX12_init_108 (v := 1) (by decide) ?_
  refine V_iast (ws' := ((((((((((((([(h0, .inr (10, [.ref a1, .ref a2, .ref a3, .int 0, .ref a4, .int 0, .int 0, .int 0, .int 0, .ref a5, .ref a6, .ref a7, .ref a8, .int 0, .int 0, .int 0, .ref a9, .ref a10, .ref a11, .ref a12]))] : va_W) ++ ([(a1, .inl (eI ε, 516, .inl (upd (fun _ => 0) 8 1)))] : va_W)) ++ ([(a2, .inl (eI ε, 516, .inl (fun _ => 0)))] : va_W)) ++ ([(a3, .inl (eI ε, 516, .inl (fun _ => 0)))] : va_W)) ++ ([(a4, .inl (eI ε, 7, .inl (fun _ => 0)))] : va_W)) ++ ([(a5, .inl (eI ε, 124, .inl (fun _ => 0)))] : va_W)) ++ ([(a6, .inl (eI ε, 128, .inl (fun _ => 0)))] : va_W)) ++ ([(a7, .inl (eI ε, 64, .inl (fun _ => 0)))] : va_W)) ++ ([(a8, .inl (eI ε, 30, .inl (fun _ => 0)))] : va_W)) ++ ([(a9, .inl (eI ε, 4, .inl (fun _ => 0)))] : va_W)) ++ ([(a10, .inl (eI ε, 4, .inl (fun _ => 0)))] : va_W)) ++ ([(a11, .inl (eI ε, 96, .inl (fun _ => 0)))] : va_W)) ++ ([(a12, .inl (eI ε, 24, .inl (fun _ => 0)))] : va_W))) C 1 rfl (inb_in (by decide)) dX12_init_109 rfl ?_
  refine V_aload_n C 0 dX12_init_110 rfl rfl ?_
  refine V_get C inX12 rfl 0 (by decide) q_FL_X12_7 0 rfl rfl dX12_init_111 ?_
  refine V_bipush C dX12_init_114 (v := 10) (by decide) ?_
  refine V_iconst C dX12_init_116 (v := 5) (by decide) ?_
  refine V_iast (ws' := ((((((((((((([(h0, .inr (10, [.ref a1, .ref a2, .ref a3, .int 0, .ref a4, .int 0, .int 0, .int 0, .int 0, .ref a5, .ref a6, .ref a7, .ref a8, .int 0, .int 0, .int 0, .ref a9, .ref a10, .ref a11, .ref a12]))] : va_W) ++ ([(a1, .inl (eI ε, 516, .inl (upd (upd (fun _ => 0) 8 1) 10 5)))] : va_W)) ++ ([(a2, .inl (eI ε, 516, .inl (fun _ => 0)))] : va_W)) ++ ([(a3, .inl (eI ε, 516, .inl (fun _ => 0)))] : va_W)) ++ ([(a4, .inl (eI ε, 7, .inl (fun _ => 0)))] : va_W)) ++ ([(a5, .inl (eI ε, 124, .inl (fun _ => 0)))] : va_W)) ++ ([(a6, .inl (eI ε, 128, .inl (fun _ => 0)))] : va_W)) ++ ([(a7, .inl (eI ε, 64, .inl (fun _ => 0)))] : va_W)) ++ ([(a8, .inl (eI ε, 30, .inl (fun _ => 0)))] : va_W)) ++ ([(a9, .inl (eI ε, 4, .inl (fun _ => 0)))] : va_W)) ++ ([(a10, .inl (eI ε, 4, .inl (fun _ => 0)))] : va_W)) ++ ([(a11, .inl (eI ε, 96, .inl (fun _ => 0)))] : va_W)) ++ ([(a12, .inl (eI ε, 24, .inl (fun _ => 0)))] : va_W))) C 1 rfl (inb_in (by decide)) dX12_init_117 rfl ?_
  refine V_aload_n C 0 dX12_init_118 rfl rfl ?_
  refine V_get C inX12 rfl 0 (by decide) q_FL_X12_7 0 rfl rfl dX12_init_119 ?_
  refine V_bipush C dX12_init_122 (v := 11) (by decide) ?_
  refine V_bipush C dX12_init_124 (v := 10) (by decide) ?_
  refine V_iast (ws' := ((((((((((((([(h0, .inr (10, [.ref a1, .ref a2, .ref a3, .int 0, .ref a4, .int 0, .int 0, .int 0, .int 0, .ref a5, .ref a6, .ref a7, .ref a8, .int 0, .int 0, .int 0, .ref a9, .ref a10, .ref a11, .ref a12]))] : va_W) ++ ([(a1, .inl (eI ε, 516, .inl (upd (upd (upd (fun _ => 0) 8 1) 10 5) 11 10)))] : va_W)) ++ ([(a2, .inl (eI ε, 516, .inl (fun _ => 0)))] : va_W)) ++ ([(a3, .inl (eI ε, 516, .inl (fun _ => 0)))] : va_W)) ++ ([(a4, .inl (eI ε, 7, .inl (fun _ => 0)))] : va_W)) ++ ([(a5, .inl (eI ε, 124, .inl (fun _ => 0)))] : va_W)) ++ ([(a6, .inl (eI ε, 128, .inl (fun _ => 0)))] : va_W)) ++ ([(a7, .inl (eI ε, 64, .inl (fun _ => 0)))] : va_W)) ++ ([(a8, .inl (eI ε, 30, .inl (fun _ => 0)))] : va_W)) ++ ([(a9, .inl (eI ε, 4, .inl (fun _ => 0)))] : va_W)) ++ ([(a10, .inl (eI ε, 4, .inl (fun _ => 0)))] : va_W)) ++ ([(a11, .inl (eI ε, 96, .inl (fun _ => 0)))] : va_W)) ++ ([(a12, .inl (eI ε, 24, .inl (fun _ => 0)))] : va_W))) C 1 rfl (inb_in (by decide)) dX12_init_126 rfl ?_
  refine V_aload_n C 0 dX12_init_127 rfl rfl ?_
  refine V_get C inX12 rfl 0 (by decide) q_FL_X12_7 0 rfl rfl dX12_init_128 ?_
  refine V_bipush C dX12_init_131 (v := 13) (by decide) ?_
  refine V_iconst C dX12_init_133 (v := 1) (by decide) ?_
  refine V_iast (ws' := ((((((((((((([(h0, .inr (10, [.ref a1, .ref a2, .ref a3, .int 0, .ref a4, .int 0, .int 0, .int 0, .int 0, .ref a5, .ref a6, .ref a7, .ref a8, .int 0, .int 0, .int 0, .ref a9, .ref a10, .ref a11, .ref a12]))] : va_W) ++ ([(a1, .inl (eI ε, 516, .inl (upd (upd (upd (upd (fun _ => 0) 8 1) 10 5) 11 10) 13 1)))] : va_W)) ++ ([(a2, .inl (eI ε, 516, .inl (fun _ => 0)))] : va_W)) ++ ([(a3, .inl (eI ε, 516, .inl (fun _ => 0)))] : va_W)) ++ ([(a4, .inl (eI ε, 7, .inl (fun _ => 0)))] : va_W)) ++ ([(a5, .inl (eI ε, 124, .inl (fun _ => 0)))] : va_W)) ++ ([(a6, .inl (eI ε, 128, .inl (fun _ => 0)))] : va_W)) ++ ([(a7, .inl (eI ε, 64, .inl (fun _ => 0)))] : va_W)) ++ ([(a8, .inl (eI ε, 30, .inl (fun _ => 0)))] : va_W)) ++ ([(a9, .inl (eI ε, 4, .inl (fun _ => 0)))] : va_W)) ++ ([(a10, .inl (eI ε, 4, .inl (fun _ => 0)))] : va_W)) ++ ([(a11, .inl (eI ε, 96, .inl (fun _ => 0)))] : va_W)) ++ ([(a12, .inl (eI ε, 24, .inl (fun _ => 0)))] : va_W))) C 1 rfl (inb_in (by decide)) dX12_init_134 rfl ?_
  refine V_aload_n C 0 dX12_init_135 rfl rfl ?_
  refine V_get C inX12 rfl 0 (by decide) q_FL_X12_7 0 rfl rfl dX12_init_136 ?_
  refine V_bipush C dX12_init_139 (v := 14) (by decide) ?_
  refine V_bipush C dX12_init_141 (v := 20) (by decide) ?_
  refine V_iast (ws' := ((((((((((((([(h0, .inr (10, [.ref a1, .ref a2, .ref a3, .int 0, .ref a4, .int 0, .int 0, .int 0, .int 0, .ref a5, .ref a6, .ref a7, .ref a8, .int 0, .int 0, .int 0, .ref a9, .ref a10, .ref a11, .ref a12]))] : va_W) ++ ([(a1, .inl (eI ε, 516, .inl (upd (upd (upd (upd (upd (fun _ => 0) 8 1) 10 5) 11 10) 13 1) 14 20)))] : va_W)) ++ ([(a2, .inl (eI ε, 516, .inl (fun _ => 0)))] : va_W)) ++ ([(a3, .inl (eI ε, 516, .inl (fun _ => 0)))] : va_W)) ++ ([(a4, .inl (eI ε, 7, .inl (fun _ => 0)))] : va_W)) ++ ([(a5, .inl (eI ε, 124, .inl (fun _ => 0)))] : va_W)) ++ ([(a6, .inl (eI ε, 128, .inl (fun _ => 0)))] : va_W)) ++ ([(a7, .inl (eI ε, 64, .inl (fun _ => 0)))] : va_W)) ++ ([(a8, .inl (eI ε, 30, .inl (fun _ => 0)))] : va_W)) ++ ([(a9, .inl (eI ε, 4, .inl (fun _ => 0)))] : va_W)) ++ ([(a10, .inl (eI ε, 4, .inl (fun _ => 0)))] : va_W)) ++ ([(a11, .inl (eI ε, 96, .inl (fun _ => 0)))] : va_W)) ++ ([(a12, .inl (eI ε, 24, .inl (fun _ => 0)))] : va_W))) C 1 rfl (inb_in (by decide)) dX12_init_143 rfl ?_
  refine V_widen (k' := 12) (n' := 2029) C (by decide) (by decide) ?_
  exact V_vret C X dX12_init_144 ⟨rfl, fun k => ([h0, a1, a2, a3, a4, a5, a6, a7, a8, a9, a10, a11, a12] : List Nat).getD k 0, rfl, rfl⟩
set_option maxRecDepth 100000 in
set_option maxHeartbeats 4000000 in
theorem m_X9_init {ε : eT} {h0 mk : Nat} : CT ε yX9_init cX9_init 2 none 5 [.ref h0, .ref mk] [(h0, .inr (7, [.null, .null, .null, .null, .null, .null, .null, .null, .null, .null, .null, .int 0, .int 0, .int 0, .int 0]))] (fun r w => r = none ∧ ∃ al : Nat → Nat, al 0 = h0 ∧ w = cells_X9 ε al mk) 46 558 := by
  refine CT_ofI (by decide) (Nat.le_of_ble_eq_true rfl) rfl (fun κ C X hR hnm => ?_)
  refine V_aload_n C 0 dX9_init_0 rfl rfl ?_
  refine V_oinit C q_ML_X9_3 (by decide) (Nat.le_of_ble_eq_true rfl) dX9_init_1 ?_
  refine V_aload_n C 0 dX9_init_4 rfl rfl ?_
  refine V_new C inX3 tyX3 tyX3_ok (ci := 1) rfl q_CL_X9_9 q_inst_X3 q_init_X3 [.null, .null, .null, .null] (by decide +kernel) (by rw [hR.1]; decide) (by rw [hR.2]; decide) dX9_init_5 (fun a1 => ?_)
  refine V_dup C dX9_init_8 rfl ?_
  refine V_sufI (wr := ([(h0, .inr (7, [.null, .null, .null, .null, .null, .null, .null, .null, .null, .null, .null, .int 0, .int 0, .int 0, .int 0]))] : va_W)) C cf_X3_init (m_X3_init) q_ML_X9_11 dX9_init_9 (by decide) rfl rfl (Nat.le_of_ble_eq_true rfl) ⟨by rw [hR.1]; decide, by rw [hR.2]; decide⟩ (fun r w1 h => ?_)
  obtain ⟨rfl, al2, e2, rfl⟩ := h
  subst e2
  refine V_eq C (st' := [.ref (al2 0), .ref h0]) rfl ?_
  refine V_putF (ws' := (([(h0, .inr (7, [.ref (al2 0), .null, .null, .null, .null, .null, .null, .null, .null, .null, .null, .int 0, .int 0, .int 0, .int 0]))] : va_W) ++ cells_X3 ε al2)) C inX9 rfl tyX9 tyX9_ok nmX9 hnm 0 (by decide) q_FL_X9_12 rfl rfl 0 rfl rfl rfl rfl (Nat.le_of_ble_eq_true rfl) dX9_init_12 rfl ?_
  refine V_aload_n C 0 dX9_init_15 rfl rfl ?_
  refine V_new C inX8 tyX8 tyX8_ok (ci := 6) rfl q_CL_X9_18 q_inst_X8 q_init_X8 [.null, .null, .null, .null, .null] (by decide +kernel) (by rw [hR.1]; decide) (by rw [hR.2]; decide) dX9_init_16 (fun a3 => ?_)
  refine V_dup C dX9_init_19 rfl ?_
  refine V_sufI (wr := (([(h0, .inr (7, [.ref (al2 0), .null, .null, .null, .null, .null, .null, .null, .null, .null, .null, .int 0, .int 0, .int 0, .int 0]))] : va_W) ++ cells_X3 ε al2)) C cf_X8_init (m_X8_init) q_ML_X9_20 dX9_init_20 (by decide) rfl rfl (Nat.le_of_ble_eq_true rfl) ⟨by rw [hR.1]; decide, by rw [hR.2]; decide⟩ (fun r w1 h => ?_)
  obtain ⟨rfl, al4, e4, rfl⟩ := h
  subst e4
  refine V_eq C (st' := [.ref (al4 0), .ref h0]) rfl ?_
  refine V_putF (ws' := ((([(h0, .inr (7, [.ref (al2 0), .ref (al4 0), .null, .null, .null, .null, .null, .null, .null, .null, .null, .int 0, .int 0, .int 0, .int 0]))] : va_W) ++ cells_X3 ε al2) ++ cells_X8 ε al4)) C inX9 rfl tyX9 tyX9_ok nmX9 hnm 1 (by decide) q_FL_X9_21 rfl rfl 0 rfl rfl rfl rfl (Nat.le_of_ble_eq_true rfl) dX9_init_23 rfl ?_
  refine V_aload_n C 0 dX9_init_26 rfl rfl ?_
  refine V_new C inX5 tyX5 tyX5_ok (ci := 3) rfl q_CL_X9_25 q_inst_X5 q_init_X5 [.null, .int 0] (by decide +kernel) (by rw [hR.1]; decide) (by rw [hR.2]; decide) dX9_init_27 (fun a5 => ?_)
  refine V_dup C dX9_init_30 rfl ?_
  refine V_bipush C dX9_init_31 (v := 6) (by decide) ?_
  refine V_sufI (wr := ((([(h0, .inr (7, [.ref (al2 0), .ref (al4 0), .null, .null, .null, .null, .null, .null, .null, .null, .null, .int 0, .int 0, .int 0, .int 0]))] : va_W) ++ cells_X3 ε al2) ++ cells_X8 ε al4)) C cf_X5_init (m_X5_init (x := 6) (z := 6) (by decide) (by decide)) q_ML_X9_27 dX9_init_33 (by decide) rfl rfl (Nat.le_of_ble_eq_true rfl) ⟨by rw [hR.1]; decide, by rw [hR.2]; decide⟩ (fun r w1 h => ?_)
  obtain ⟨rfl, q6, rfl⟩ := h
  refine V_eq C (st' := [.ref a5, .ref h0]) rfl ?_
  refine V_putF (ws' := (((([(h0, .inr (7, [.ref (al2 0), .ref (al4 0), .ref a5, .null, .null, .null, .null, .null, .null, .null, .null, .int 0, .int 0, .int 0, .int 0]))] : va_W) ++ cells_X3 ε al2) ++ cells_X8 ε al4) ++ rw2 ε a5 q6 0 6 (fun _ => 0))) C inX9 rfl tyX9 tyX9_ok nmX9 hnm 2 (by decide) q_FL_X9_30 rfl rfl 0 rfl rfl rfl rfl (Nat.le_of_ble_eq_true rfl) dX9_init_36 rfl ?_
  refine V_aload_n C 0 dX9_init_39 rfl rfl ?_
  refine V_new C inX5 tyX5 tyX5_ok (ci := 3) rfl q_CL_X9_25 q_inst_X5 q_init_X5 [.null, .int 0] (by decide +kernel) (by rw [hR.1]; decide) (by rw [hR.2]; decide) dX9_init_40 (fun a7 => ?_)
  refine V_dup C dX9_init_43 rfl ?_
  refine V_bipush C dX9_init_44 (v := 6) (by decide) ?_
  refine V_sufI (wr := (((([(h0, .inr (7, [.ref (al2 0), .ref (al4 0), .ref a5, .null, .null, .null, .null, .null, .null, .null, .null, .int 0, .int 0, .int 0, .int 0]))] : va_W) ++ cells_X3 ε al2) ++ cells_X8 ε al4) ++ rw2 ε a5 q6 0 6 (fun _ => 0))) C cf_X5_init (m_X5_init (x := 6) (z := 6) (by decide) (by decide)) q_ML_X9_27 dX9_init_46 (by decide) rfl rfl (Nat.le_of_ble_eq_true rfl) ⟨by rw [hR.1]; decide, by rw [hR.2]; decide⟩ (fun r w1 h => ?_)
  obtain ⟨rfl, q8, rfl⟩ := h
  refine V_eq C (st' := [.ref a7, .ref h0]) rfl ?_
  refine V_putF (ws' := ((((([(h0, .inr (7, [.ref (al2 0), .ref (al4 0), .ref a5, .ref a7, .null, .null, .null, .null, .null, .null, .null, .int 0, .int 0, .int 0, .int 0]))] : va_W) ++ cells_X3 ε al2) ++ cells_X8 ε al4) ++ rw2 ε a5 q6 0 6 (fun _ => 0)) ++ rw2 ε a7 q8 0 6 (fun _ => 0))) C inX9 rfl tyX9 tyX9_ok nmX9 hnm 3 (by decide) q_FL_X9_34 rfl rfl 0 rfl rfl rfl rfl (Nat.le_of_ble_eq_true rfl) dX9_init_49 rfl ?_
  refine V_aload_n C 0 dX9_init_52 rfl rfl ?_
  refine V_new C inX5 tyX5 tyX5_ok (ci := 3) rfl q_CL_X9_25 q_inst_X5 q_init_X5 [.null, .int 0] (by decide +kernel) (by rw [hR.1]; decide) (by rw [hR.2]; decide) dX9_init_53 (fun a9 => ?_)
  refine V_dup C dX9_init_56 rfl ?_
  refine V_bipush C dX9_init_57 (v := 6) (by decide) ?_
  refine V_sufI (wr := ((((([(h0, .inr (7, [.ref (al2 0), .ref (al4 0), .ref a5, .ref a7, .null, .null, .null, .null, .null, .null, .null, .int 0, .int 0, .int 0, .int 0]))] : va_W) ++ cells_X3 ε al2) ++ cells_X8 ε al4) ++ rw2 ε a5 q6 0 6 (fun _ => 0)) ++ rw2 ε a7 q8 0 6 (fun _ => 0))) C cf_X5_init (m_X5_init (x := 6) (z := 6) (by decide) (by decide)) q_ML_X9_27 dX9_init_59 (by decide) rfl rfl (Nat.le_of_ble_eq_true rfl) ⟨by rw [hR.1]; decide, by rw [hR.2]; decide⟩ (fun r w1 h => ?_)
  obtain ⟨rfl, q10, rfl⟩ := h
  refine V_eq C (st' := [.ref a9, .ref h0]) rfl ?_
  refine V_putF (ws' := (((((([(h0, .inr (7, [.ref (al2 0), .ref (al4 0), .ref a5, .ref a7, .ref a9, .null, .null, .null, .null, .null, .null, .int 0, .int 0, .int 0, .int 0]))] : va_W) ++ cells_X3 ε al2) ++ cells_X8 ε al4) ++ rw2 ε a5 q6 0 6 (fun _ => 0)) ++ rw2 ε a7 q8 0 6 (fun _ => 0)) ++ rw2 ε a9 q10 0 6 (fun _ => 0))) C inX9 rfl tyX9 tyX9_ok nmX9 hnm 4 (by decide) q_FL_X9_37 rfl rfl 0 rfl rfl rfl rfl (Nat.le_of_ble_eq_true rfl) dX9_init_62 rfl ?_
  refine V_aload_n C 0 dX9_init_65 rfl rfl ?_
  refine V_new C inX5 tyX5 tyX5_ok (ci := 3) rfl q_CL_X9_25 q_inst_X5 q_init_X5 [.null, .int 0] (by decide +kernel) (by rw [hR.1]; decide) (by rw [hR.2]; decide) dX9_init_66 (fun a11 => ?_)
  refine V_dup C dX9_init_69 rfl ?_
  refine V_iconst C dX9_init_70 (v := 5) (by decide) ?_
  refine V_sufI (wr := (((((([(h0, .inr (7, [.ref (al2 0), .ref (al4 0), .ref a5, .ref a7, .ref a9, .null, .null, .null, .null, .null, .null, .int 0, .int 0, .int 0, .int 0]))] : va_W) ++ cells_X3 ε al2) ++ cells_X8 ε al4) ++ rw2 ε a5 q6 0 6 (fun _ => 0)) ++ rw2 ε a7 q8 0 6 (fun _ => 0)) ++ rw2 ε a9 q10 0 6 (fun _ => 0))) C cf_X5_init (m_X5_init (x := 5) (z := 5) (by decide) (by decide)) q_ML_X9_27 dX9_init_71 (by decide) rfl rfl (Nat.le_of_ble_eq_true rfl) ⟨by rw [hR.1]; decide, by rw [hR.2]; decide⟩ (fun r w1 h => ?_)
  obtain ⟨rfl, q12, rfl⟩ := h
  refine V_eq C (st' := [.ref a11, .ref h0]) rfl ?_
  refine V_putF (ws' := ((((((([(h0, .inr (7, [.ref (al2 0), .ref (al4 0), .ref a5, .ref a7, .ref a9, .ref a11, .null, .null, .null, .null, .null, .int 0, .int 0, .int 0, .int 0]))] : va_W) ++ cells_X3 ε al2) ++ cells_X8 ε al4) ++ rw2 ε a5 q6 0 6 (fun _ => 0)) ++ rw2 ε a7 q8 0 6 (fun _ => 0)) ++ rw2 ε a9 q10 0 6 (fun _ => 0)) ++ rw2 ε a11 q12 0 5 (fun _ => 0))) C inX9 rfl tyX9 tyX9_ok nmX9 hnm 5 (by decide) q_FL_X9_40 rfl rfl 0 rfl rfl rfl rfl (Nat.le_of_ble_eq_true rfl) dX9_init_74 rfl ?_
  refine V_aload_n C 0 dX9_init_77 rfl rfl ?_
  refine V_get C inX9 rfl 5 (by decide) q_FL_X9_40 0 rfl rfl dX9_init_78 ?_
  refine V_iconst C dX9_init_81 (v := 5) (by decide) ?_
  refine V_sufV (wr := (((((([(h0, .inr (7, [.ref (al2 0), .ref (al4 0), .ref a5, .ref a7, .ref a9, .ref a11, .null, .null, .null, .null, .null, .int 0, .int 0, .int 0, .int 0]))] : va_W) ++ cells_X3 ε al2) ++ cells_X8 ε al4) ++ rw2 ε a5 q6 0 6 (fun _ => 0)) ++ rw2 ε a7 q8 0 6 (fun _ => 0)) ++ rw2 ε a9 q10 0 6 (fun _ => 0))) C cf_X5_reset (m_X5_reset (s := 0) (x := 5) (z := 5) (by decide) (by decide)) q_ML_X9_43 0 rfl rfl dX9_init_82 (by decide) rfl rfl (Nat.le_of_ble_eq_true rfl) ⟨by rw [hR.1]; decide, by rw [hR.2]; decide⟩ (fun r w1 h => ?_)
  obtain ⟨rfl, rfl⟩ := h
  refine V_eq C (st' := []) rfl ?_
  refine V_aload_n C 0 dX9_init_85 rfl rfl ?_
  refine V_get C inX9 rfl 5 (by decide) q_FL_X9_40 0 rfl rfl dX9_init_86 ?_
  refine V_iconst C dX9_init_89 (v := 0) (by decide) ?_
  refine V_iconst C dX9_init_90 (v := 5) (by decide) ?_
  refine V_sufV (wr := (((((([(h0, .inr (7, [.ref (al2 0), .ref (al4 0), .ref a5, .ref a7, .ref a9, .ref a11, .null, .null, .null, .null, .null, .int 0, .int 0, .int 0, .int 0]))] : va_W) ++ cells_X3 ε al2) ++ cells_X8 ε al4) ++ rw2 ε a5 q6 0 6 (fun _ => 0)) ++ rw2 ε a7 q8 0 6 (fun _ => 0)) ++ rw2 ε a9 q10 0 6 (fun _ => 0))) C cf_X5_set (m_X5_set (s := 5) (i := 0) (v := 5) (j := 0) (z := 5) (f := fun _ => 0) (by decide) (by decide) (by decide) (by decide) (by decide)) q_ML_X9_46 0 rfl rfl dX9_init_91 (by decide) rfl rfl (Nat.le_of_ble_eq_true rfl) ⟨by rw [hR.1]; decide, by rw [hR.2]; decide⟩ (fun r w1 h => ?_)
  obtain ⟨rfl, rfl⟩ := h
  refine V_eq C (st' := []) rfl ?_
  refine V_aload_n C 0 dX9_init_94 rfl rfl ?_
  refine V_get C inX9 rfl 5 (by decide) q_FL_X9_40 0 rfl rfl dX9_init_95 ?_
  refine V_iconst C dX9_init_98 (v := 1) (by decide) ?_
  refine V_bipush C dX9_init_99 (v := 10) (by decide) ?_
  refine V_sufV (wr := (((((([(h0, .inr (7, [.ref (al2 0), .ref (al4 0), .ref a5, .ref a7, .ref a9, .ref a11, .null, .null, .null, .null, .null, .int 0, .int 0, .int 0, .int 0]))] : va_W) ++ cells_X3 ε al2) ++ cells_X8 ε al4) ++ rw2 ε a5 q6 0 6 (fun _ => 0)) ++ rw2 ε a7 q8 0 6 (fun _ => 0)) ++ rw2 ε a9 q10 0 6 (fun _ => 0))) C cf_X5_set (m_X5_set (s := 5) (i := 1) (v := 10) (j := 1) (z := 5) (f := upd (fun _ => 0) 0 5) (by decide) (by decide) (by decide) (by decide) (by decide)) q_ML_X9_46 0 rfl rfl dX9_init_101 (by decide) rfl rfl (Nat.le_of_ble_eq_true rfl) ⟨by rw [hR.1]; decide, by rw [hR.2]; decide⟩ (fun r w1 h => ?_)
  obtain ⟨rfl, rfl⟩ := h
  refine V_eq C (st' := []) rfl ?_
  refine V_aload_n C 0 dX9_init_104 rfl rfl ?_
  refine V_get C inX9 rfl 5 (by decide) q_FL_X9_40 0 rfl rfl dX9_init_105 ?_
  refine V_iconst C dX9_init_108 (v := 3) (by decide) ?_
  refine V_iconst C dX9_init_109 (v := 1) (by decide) ?_
  refine V_sufV (wr := (((((([(h0, .inr (7, [.ref (al2 0), .ref (al4 0), .ref a5, .ref a7, .ref a9, .ref a11, .null, .null, .null, .null, .null, .int 0, .int 0, .int 0, .int 0]))] : va_W) ++ cells_X3 ε al2) ++ cells_X8 ε al4) ++ rw2 ε a5 q6 0 6 (fun _ => 0)) ++ rw2 ε a7 q8 0 6 (fun _ => 0)) ++ rw2 ε a9 q10 0 6 (fun _ => 0))) C cf_X5_set (m_X5_set (s := 5) (i := 3) (v := 1) (j := 3) (z := 5) (f := upd (upd (fun _ => 0) 0 5) 1 10) (by decide) (by decide) (by decide) (by decide) (by decide)) q_ML_X9_46 0 rfl rfl dX9_init_110 (by decide) rfl rfl (Nat.le_of_ble_eq_true rfl) ⟨by rw [hR.1]; decide, by rw [hR.2]; decide⟩ (fun r w1 h => ?_)
  obtain ⟨rfl, rfl⟩ := h
  refine V_eq C (st' := []) rfl ?_
  refine V_aload_n C 0 dX9_init_113 rfl rfl ?_
  refine V_get C inX9 rfl 5 (by decide) q_FL_X9_40 0 rfl rfl dX9_init_114 ?_
  refine V_iconst C dX9_init_117 (v := 4) (by decide) ?_
  refine V_bipush C dX9_init_118 (v := 20) (by decide) ?_
  refine V_sufV (wr := (((((([(h0, .inr (7, [.ref (al2 0), .ref (al4 0), .ref a5, .ref a7, .ref a9, .ref a11, .null, .null, .null, .null, .null, .int 0, .int 0, .int 0, .int 0]))] : va_W) ++ cells_X3 ε al2) ++ cells_X8 ε al4) ++ rw2 ε a5 q6 0 6 (fun _ => 0)) ++ rw2 ε a7 q8 0 6 (fun _ => 0)) ++ rw2 ε a9 q10 0 6 (fun _ => 0))) C cf_X5_set (m_X5_set (s := 5) (i := 4) (v := 20) (j := 4) (z := 5) (f := upd (upd (upd (fun _ => 0) 0 5) 1 10) 3 1) (by decide) (by decide) (by decide) (by decide) (by decide)) q_ML_X9_46 0 rfl rfl dX9_init_120 (by decide) rfl rfl (Nat.le_of_ble_eq_true rfl) ⟨by rw [hR.1]; decide, by rw [hR.2]; decide⟩ (fun r w1 h => ?_)
  obtain ⟨rfl, rfl⟩ := h
  refine V_eq C (st' := []) rfl ?_
  refine V_aload_n C 0 dX9_init_123 rfl rfl ?_
  refine V_new C inX7 tyX7 tyX7_ok (ci := 5) rfl q_CL_X9_50 q_inst_X7 q_init_X7 [.null, .null, .null] (by decide +kernel) (by rw [hR.1]; decide) (by rw [hR.2]; decide) dX9_init_124 (fun a13 => ?_)
  refine V_dup C dX9_init_127 rfl ?_
  refine V_sufI (wr := ((((((([(h0, .inr (7, [.ref (al2 0), .ref (al4 0), .ref a5, .ref a7, .ref a9, .ref a11, .null, .null, .null, .null, .null, .int 0, .int 0, .int 0, .int 0]))] : va_W) ++ cells_X3 ε al2) ++ cells_X8 ε al4) ++ rw2 ε a5 q6 0 6 (fun _ => 0)) ++ rw2 ε a7 q8 0 6 (fun _ => 0)) ++ rw2 ε a9 q10 0 6 (fun _ => 0)) ++ rw2 ε a11 q12 5 5 (upd (upd (upd (upd (fun _ => 0) 0 5) 1 10) 3 1) 4 20))) C cf_X7_init (m_X7_init) q_ML_X9_52 dX9_init_128 (by decide) rfl rfl (Nat.le_of_ble_eq_true rfl) ⟨by rw [hR.1]; decide, by rw [hR.2]; decide⟩ (fun r w1 h => ?_)
  obtain ⟨rfl, al14, e14, rfl⟩ := h
  subst e14
  refine V_eq C (st' := [.ref (al14 0), .ref h0]) rfl ?_
  refine V_putF (ws' := (((((((([(h0, .inr (7, [.ref (al2 0), .ref (al4 0), .ref a5, .ref a7, .ref a9, .ref a11, .ref (al14 0), .null, .null, .null, .null, .int 0, .int 0, .int 0, .int 0]))] : va_W) ++ cells_X3 ε al2) ++ cells_X8 ε al4) ++ rw2 ε a5 q6 0 6 (fun _ => 0)) ++ rw2 ε a7 q8 0 6 (fun _ => 0)) ++ rw2 ε a9 q10 0 6 (fun _ => 0)) ++ rw2 ε a11 q12 5 5 (upd (upd (upd (upd (fun _ => 0) 0 5) 1 10) 3 1) 4 20)) ++ cells_X7 ε al14)) C inX9 rfl tyX9 tyX9_ok nmX9 hnm 6 (by decide) q_FL_X9_53 rfl rfl 0 rfl rfl rfl rfl (Nat.le_of_ble_eq_true rfl) dX9_init_131 rfl ?_
  refine V_aload_n C 0 dX9_init_134 rfl rfl ?_
  refine V_new C inX7 tyX7 tyX7_ok (ci := 5) rfl q_CL_X9_50 q_inst_X7 q_init_X7 [.null, .null, .null] (by decide +kernel) (by rw [hR.1]; decide) (by rw [hR.2]; decide) dX9_init_135 (fun a15 => ?_)
  refine V_dup C dX9_init_138 rfl ?_
  refine V_sufI (wr := (((((((([(h0, .inr (7, [.ref (al2 0), .ref (al4 0), .ref a5, .ref a7, .ref a9, .ref a11, .ref (al14 0), .null, .null, .null, .null, .int 0, .int 0, .int 0, .int 0]))] : va_W) ++ cells_X3 ε al2) ++ cells_X8 ε al4) ++ rw2 ε a5 q6 0 6 (fun _ => 0)) ++ rw2 ε a7 q8 0 6 (fun _ => 0)) ++ rw2 ε a9 q10 0 6 (fun _ => 0)) ++ rw2 ε a11 q12 5 5 (upd (upd (upd (upd (fun _ => 0) 0 5) 1 10) 3 1) 4 20)) ++ cells_X7 ε al14)) C cf_X7_init (m_X7_init) q_ML_X9_52 dX9_init_139 (by decide) rfl rfl (Nat.le_of_ble_eq_true rfl) ⟨by rw [hR.1]; decide, by rw [hR.2]; decide⟩ (fun r w1 h => ?_)
  obtain ⟨rfl, al16, e16, rfl⟩ := h
  subst e16
  refine V_eq C (st' := [.ref (al16 0), .ref h0]) rfl ?_
  refine V_putF (ws' := ((((((((([(h0, .inr (7, [.ref (al2 0), .ref (al4 0), .ref a5, .ref a7, .ref a9, .ref a11, .ref (al14 0), .ref (al16 0), .null, .null, .null, .int 0, .int 0, .int 0, .int 0]))] : va_W) ++ cells_X3 ε al2) ++ cells_X8 ε al4) ++ rw2 ε a5 q6 0 6 (fun _ => 0)) ++ rw2 ε a7 q8 0 6 (fun _ => 0)) ++ rw2 ε a9 q10 0 6 (fun _ => 0)) ++ rw2 ε a11 q12 5 5 (upd (upd (upd (upd (fun _ => 0) 0 5) 1 10) 3 1) 4 20)) ++ cells_X7 ε al14) ++ cells_X7 ε al16)) C inX9 rfl tyX9 tyX9_ok nmX9 hnm 7 (by decide) q_FL_X9_57 rfl rfl 0 rfl rfl rfl rfl (Nat.le_of_ble_eq_true rfl) dX9_init_142 rfl ?_
  refine V_aload_n C 0 dX9_init_145 rfl rfl ?_
  refine V_new C inX5 tyX5 tyX5_ok (ci := 3) rfl q_CL_X9_25 q_inst_X5 q_init_X5 [.null, .int 0] (by decide +kernel) (by rw [hR.1]; decide) (by rw [hR.2]; decide) dX9_init_146 (fun a17 => ?_)
  refine V_dup C dX9_init_149 rfl ?_
  refine V_bipush C dX9_init_150 (v := 60) (by decide) ?_
  refine V_sufI (wr := ((((((((([(h0, .inr (7, [.ref (al2 0), .ref (al4 0), .ref a5, .ref a7, .ref a9, .ref a11, .ref (al14 0), .ref (al16 0), .null, .null, .null, .int 0, .int 0, .int 0, .int 0]))] : va_W) ++ cells_X3 ε al2) ++ cells_X8 ε al4) ++ rw2 ε a5 q6 0 6 (fun _ => 0)) ++ rw2 ε a7 q8 0 6 (fun _ => 0)) ++ rw2 ε a9 q10 0 6 (fun _ => 0)) ++ rw2 ε a11 q12 5 5 (upd (upd (upd (upd (fun _ => 0) 0 5) 1 10) 3 1) 4 20)) ++ cells_X7 ε al14) ++ cells_X7 ε al16)) C cf_X5_init (m_X5_init (x := 60) (z := 60) (by decide) (by decide)) q_ML_X9_27 dX9_init_152 (by decide) rfl rfl (Nat.le_of_ble_eq_true rfl) ⟨by rw [hR.1]; decide, by rw [hR.2]; decide⟩ (fun r w1 h => ?_)
  obtain ⟨rfl, q18, rfl⟩ := h
  refine V_eq C (st' := [.ref a17, .ref h0]) rfl ?_
  refine V_putF (ws' := (((((((((([(h0, .inr (7, [.ref (al2 0), .ref (al4 0), .ref a5, .ref a7, .ref a9, .ref a11, .ref (al14 0), .ref (al16 0), .ref a17, .null, .null, .int 0, .int 0, .int 0, .int 0]))] : va_W) ++ cells_X3 ε al2) ++ cells_X8 ε al4) ++ rw2 ε a5 q6 0 6 (fun _ => 0)) ++ rw2 ε a7 q8 0 6 (fun _ => 0)) ++ rw2 ε a9 q10 0 6 (fun _ => 0)) ++ rw2 ε a11 q12 5 5 (upd (upd (upd (upd (fun _ => 0) 0 5) 1 10) 3 1) 4 20)) ++ cells_X7 ε al14) ++ cells_X7 ε al16) ++ rw2 ε a17 q18 0 60 (fun _ => 0))) C inX9 rfl tyX9 tyX9_ok nmX9 hnm 8 (by decide) q_FL_X9_60 rfl rfl 0 rfl rfl rfl rfl (Nat.le_of_ble_eq_true rfl) dX9_init_155 rfl ?_
  refine V_aload_n C 0 dX9_init_158 rfl rfl ?_
  refine V_new C inX5 tyX5 tyX5_ok (ci := 3) rfl q_CL_X9_25 q_inst_X5 q_init_X5 [.null, .int 0] (by decide +kernel) (by rw [hR.1]; decide) (by rw [hR.2]; decide) dX9_init_159 (fun a19 => ?_)
  refine V_dup C dX9_init_162 rfl ?_
  refine V_bipush C dX9_init_163 (v := 24) (by decide) ?_
  refine V_sufI (wr := (((((((((([(h0, .inr (7, [.ref (al2 0), .ref (al4 0), .ref a5, .ref a7, .ref a9, .ref a11, .ref (al14 0), .ref (al16 0), .ref a17, .null, .null, .int 0, .int 0, .int 0, .int 0]))] : va_W) ++ cells_X3 ε al2) ++ cells_X8 ε al4) ++ rw2 ε a5 q6 0 6 (fun _ => 0)) ++ rw2 ε a7 q8 0 6 (fun _ => 0)) ++ rw2 ε a9 q10 0 6 (fun _ => 0)) ++ rw2 ε a11 q12 5 5 (upd (upd (upd (upd (fun _ => 0) 0 5) 1 10) 3 1) 4 20)) ++ cells_X7 ε al14) ++ cells_X7 ε al16) ++ rw2 ε a17 q18 0 60 (fun _ => 0))) C cf_X5_init (m_X5_init (x := 24) (z := 24) (by decide) (by decide)) q_ML_X9_27 dX9_init_165 (by decide) rfl rfl (Nat.le_of_ble_eq_true rfl) ⟨by rw [hR.1]; decide, by rw [hR.2]; decide⟩ (fun r w1 h => ?_)
  obtain ⟨rfl, q20, rfl⟩ := h
  refine V_eq C (st' := [.ref a19, .ref h0]) rfl ?_
  refine V_putF (ws' := ((((((((((([(h0, .inr (7, [.ref (al2 0), .ref (al4 0), .ref a5, .ref a7, .ref a9, .ref a11, .ref (al14 0), .ref (al16 0), .ref a17, .ref a19, .null, .int 0, .int 0, .int 0, .int 0]))] : va_W) ++ cells_X3 ε al2) ++ cells_X8 ε al4) ++ rw2 ε a5 q6 0 6 (fun _ => 0)) ++ rw2 ε a7 q8 0 6 (fun _ => 0)) ++ rw2 ε a9 q10 0 6 (fun _ => 0)) ++ rw2 ε a11 q12 5 5 (upd (upd (upd (upd (fun _ => 0) 0 5) 1 10) 3 1) 4 20)) ++ cells_X7 ε al14) ++ cells_X7 ε al16) ++ rw2 ε a17 q18 0 60 (fun _ => 0)) ++ rw2 ε a19 q20 0 24 (fun _ => 0))) C inX9 rfl tyX9 tyX9_ok nmX9 hnm 9 (by decide) q_FL_X9_63 rfl rfl 0 rfl rfl rfl rfl (Nat.le_of_ble_eq_true rfl) dX9_init_168 rfl ?_
  refine V_aload_n C 0 dX9_init_171 rfl rfl ?_
  refine V_aload_n C 1 dX9_init_172 rfl rfl ?_
  refine V_putF (ws' := ((((((((((([(h0, .inr (7, [.ref (al2 0), .ref (al4 0), .ref a5, .ref a7, .ref a9, .ref a11, .ref (al14 0), .ref (al16 0), .ref a17, .ref a19, .ref mk, .int 0, .int 0, .int 0, .int 0]))] : va_W) ++ cells_X3 ε al2) ++ cells_X8 ε al4) ++ rw2 ε a5 q6 0 6 (fun _ => 0)) ++ rw2 ε a7 q8 0 6 (fun _ => 0)) ++ rw2 ε a9 q10 0 6 (fun _ => 0)) ++ rw2 ε a11 q12 5 5 (upd (upd (upd (upd (fun _ => 0) 0 5) 1 10) 3 1) 4 20)) ++ cells_X7 ε al14) ++ cells_X7 ε al16) ++ rw2 ε a17 q18 0 60 (fun _ => 0)) ++ rw2 ε a19 q20 0 24 (fun _ => 0))) C inX9 rfl tyX9 tyX9_ok nmX9 hnm 10 (by decide) q_FL_X9_66 rfl rfl 0 rfl rfl rfl rfl (Nat.le_of_ble_eq_true rfl) dX9_init_173 rfl ?_
  refine V_aload_n C 0 dX9_init_176 rfl rfl ?_
  refine V_iconst C dX9_init_177 (v := 1) (by decide) ?_
  refine V_put (ws' := ((((((((((([(h0, .inr (7, [.ref (al2 0), .ref (al4 0), .ref a5, .ref a7, .ref a9, .ref a11, .ref (al14 0), .ref (al16 0), .ref a17, .ref a19, .ref mk, .int 0, .int 0, .int 0, .int 1]))] : va_W) ++ cells_X3 ε al2) ++ cells_X8 ε al4) ++ rw2 ε a5 q6 0 6 (fun _ => 0)) ++ rw2 ε a7 q8 0 6 (fun _ => 0)) ++ rw2 ε a9 q10 0 6 (fun _ => 0)) ++ rw2 ε a11 q12 5 5 (upd (upd (upd (upd (fun _ => 0) 0 5) 1 10) 3 1) 4 20)) ++ cells_X7 ε al14) ++ cells_X7 ε al16) ++ rw2 ε a17 q18 0 60 (fun _ => 0)) ++ rw2 ε a19 q20 0 24 (fun _ => 0))) C inX9 rfl tyX9 tyX9_ok nmX9 14 (by decide) q_FL_X9_70 rfl 0 rfl rfl rfl rfl (Nat.le_of_ble_eq_true rfl) dX9_init_178 rfl ?_
  refine V_widen (k' := 46) (n' := 558) C (by decide) (by decide) ?_
  exact V_vret C X dX9_init_181 ⟨rfl, fun k => ([h0, al2 0, al2 1, al2 2, al2 3, al2 4, al2 5, al2 6, al2 7, al2 8, al4 0, al4 1, al4 2, al4 3, al4 4, al4 5, al4 6, al4 7, al4 8, al4 9, al4 10, a5, q6, a7, q8, a9, q10, a11, q12, al14 0, al14 1, al14 2, al14 3, al14 4, al14 5, al14 6, al16 0, al16 1, al16 2, al16 3, al16 4, al16 5, al16 6, a17, q18, a19, q20] : List Nat).getD k 0, rfl, rfl⟩
set_option maxRecDepth 100000 in
set_option maxHeartbeats 4000000 in
theorem m_X11_init {ε : eT} {h0 : Nat} : CT ε yX11_init cX11_init 2 none 7 [.ref h0] [(h0, .inr (9, [.null, .null, .null, .null, .null, .null, .null, .null, .int 0]))] (fun r w => r = none ∧ ∃ al : Nat → Nat, al 0 = h0 ∧ w = cells_X11 ε al) 171 2039 := by
  refine CT_ofI (by decide) (Nat.le_of_ble_eq_true rfl) rfl (fun κ C X hR hnm => ?_)
  refine V_aload_n C 0 dX11_init_0 rfl rfl ?_
  refine V_oinit C q_ML_X11_1 (by decide) (Nat.le_of_ble_eq_true rfl) dX11_init_1 ?_
  refine V_aload_n C 0 dX11_init_4 rfl rfl ?_
  refine V_new C inX2 tyX2 tyX2_ok (ci := 0) rfl q_CL_X11_7 q_inst_X2 q_init_X2 [.null, .null, .null, .long 0, .int 0] (by decide +kernel) (by rw [hR.1]; decide) (by rw [hR.2]; decide) dX11_init_5 (fun a1 => ?_)
  refine V_dup C dX11_init_8 rfl ?_
  refine V_sufI (wr := ([(h0, .inr (9, [.null, .null, .null, .null, .null, .null, .null, .null, .int 0]))] : va_W)) C cf_X2_init (m_X2_init) q_ML_X11_9 dX11_init_9 (by decide) rfl rfl (Nat.le_of_ble_eq_true rfl) ⟨by rw [hR.1]; decide, by rw [hR.2]; decide⟩ (fun r w1 h => ?_)
  obtain ⟨rfl, al2, e2, rfl⟩ := h
  subst e2
  refine V_eq C (st' := [.ref (al2 0), .ref h0]) rfl ?_
  refine V_putF (ws' := (([(h0, .inr (9, [.null, .null, .null, .null, .ref (al2 0), .null, .null, .null, .int 0]))] : va_W) ++ cells_X2 ε al2)) C inX11 rfl tyX11 tyX11_ok nmX11 hnm 4 (by decide) q_FL_X11_10 rfl rfl 0 rfl rfl rfl rfl (Nat.le_of_ble_eq_true rfl) dX11_init_12 rfl ?_
  refine V_aload_n C 0 dX11_init_15 rfl rfl ?_
  refine V_new C inX9 tyX9 tyX9_ok (ci := 7) rfl q_CL_X11_16 q_inst_X9 q_init_X9 [.null, .null, .null, .null, .null, .null, .null, .null, .null, .null, .null, .int 0, .int 0, .int 0, .int 0] (by decide +kernel) (by rw [hR.1]; decide) (by rw [hR.2]; decide) dX11_init_16 (fun a3 => ?_)
  refine V_dup C dX11_init_19 rfl ?_
  refine V_aload_n C 0 dX11_init_20 rfl rfl ?_
  refine V_get C inX11 rfl 4 (by decide) q_FL_X11_10 0 rfl rfl dX11_init_21 ?_
  refine V_sufI (wr := (([(h0, .inr (9, [.null, .null, .null, .null, .ref (al2 0), .null, .null, .null, .int 0]))] : va_W) ++ cells_X2 ε al2)) C cf_X9_init (m_X9_init (mk := (al2 0))) q_ML_X11_18 dX11_init_24 (by decide) rfl rfl (Nat.le_of_ble_eq_true rfl) ⟨by rw [hR.1]; decide, by rw [hR.2]; decide⟩ (fun r w1 h => ?_)
  obtain ⟨rfl, al4, e4, rfl⟩ := h
  subst e4
  refine V_eq C (st' := [.ref (al4 0), .ref h0]) rfl ?_
  refine V_putF (ws' := ((([(h0, .inr (9, [.ref (al4 0), .null, .null, .null, .ref (al2 0), .null, .null, .null, .int 0]))] : va_W) ++ cells_X2 ε al2) ++ cells_X9 ε al4 (al2 0))) C inX11 rfl tyX11 tyX11_ok nmX11 hnm 0 (by decide) q_FL_X11_21 rfl rfl 0 rfl rfl rfl rfl (Nat.le_of_ble_eq_true rfl) dX11_init_27 rfl ?_
  refine V_aload_n C 0 dX11_init_30 rfl rfl ?_
  refine V_new C inX9 tyX9 tyX9_ok (ci := 7) rfl q_CL_X11_16 q_inst_X9 q_init_X9 [.null, .null, .null, .null, .null, .null, .null, .null, .null, .null, .null, .int 0, .int 0, .int 0, .int 0] (by decide +kernel) (by rw [hR.1]; decide) (by rw [hR.2]; decide) dX11_init_31 (fun a5 => ?_)
  refine V_dup C dX11_init_34 rfl ?_
  refine V_aload_n C 0 dX11_init_35 rfl rfl ?_
  refine V_get C inX11 rfl 4 (by decide) q_FL_X11_10 0 rfl rfl dX11_init_36 ?_
  refine V_sufI (wr := ((([(h0, .inr (9, [.ref (al4 0), .null, .null, .null, .ref (al2 0), .null, .null, .null, .int 0]))] : va_W) ++ cells_X2 ε al2) ++ cells_X9 ε al4 (al2 0))) C cf_X9_init (m_X9_init (mk := (al2 0))) q_ML_X11_18 dX11_init_39 (by decide) rfl rfl (Nat.le_of_ble_eq_true rfl) ⟨by rw [hR.1]; decide, by rw [hR.2]; decide⟩ (fun r w1 h => ?_)
  obtain ⟨rfl, al6, e6, rfl⟩ := h
  subst e6
  refine V_eq C (st' := [.ref (al6 0), .ref h0]) rfl ?_
  refine V_putF (ws' := (((([(h0, .inr (9, [.ref (al4 0), .ref (al6 0), .null, .null, .ref (al2 0), .null, .null, .null, .int 0]))] : va_W) ++ cells_X2 ε al2) ++ cells_X9 ε al4 (al2 0)) ++ cells_X9 ε al6 (al2 0))) C inX11 rfl tyX11 tyX11_ok nmX11 hnm 1 (by decide) q_FL_X11_25 rfl rfl 0 rfl rfl rfl rfl (Nat.le_of_ble_eq_true rfl) dX11_init_42 rfl ?_
  refine V_aload_n C 0 dX11_init_45 rfl rfl ?_
  refine V_new C inX9 tyX9 tyX9_ok (ci := 7) rfl q_CL_X11_16 q_inst_X9 q_init_X9 [.null, .null, .null, .null, .null, .null, .null, .null, .null, .null, .null, .int 0, .int 0, .int 0, .int 0] (by decide +kernel) (by rw [hR.1]; decide) (by rw [hR.2]; decide) dX11_init_46 (fun a7 => ?_)
  refine V_dup C dX11_init_49 rfl ?_
  refine V_aload_n C 0 dX11_init_50 rfl rfl ?_
  refine V_get C inX11 rfl 4 (by decide) q_FL_X11_10 0 rfl rfl dX11_init_51 ?_
  refine V_sufI (wr := (((([(h0, .inr (9, [.ref (al4 0), .ref (al6 0), .null, .null, .ref (al2 0), .null, .null, .null, .int 0]))] : va_W) ++ cells_X2 ε al2) ++ cells_X9 ε al4 (al2 0)) ++ cells_X9 ε al6 (al2 0))) C cf_X9_init (m_X9_init (mk := (al2 0))) q_ML_X11_18 dX11_init_54 (by decide) rfl rfl (Nat.le_of_ble_eq_true rfl) ⟨by rw [hR.1]; decide, by rw [hR.2]; decide⟩ (fun r w1 h => ?_)
  obtain ⟨rfl, al8, e8, rfl⟩ := h
  subst e8
  refine V_eq C (st' := [.ref (al8 0), .ref h0]) rfl ?_
  refine V_putF (ws' := ((((([(h0, .inr (9, [.ref (al4 0), .ref (al6 0), .ref (al8 0), .null, .ref (al2 0), .null, .null, .null, .int 0]))] : va_W) ++ cells_X2 ε al2) ++ cells_X9 ε al4 (al2 0)) ++ cells_X9 ε al6 (al2 0)) ++ cells_X9 ε al8 (al2 0))) C inX11 rfl tyX11 tyX11_ok nmX11 hnm 2 (by decide) q_FL_X11_28 rfl rfl 0 rfl rfl rfl rfl (Nat.le_of_ble_eq_true rfl) dX11_init_57 rfl ?_
  refine V_aload_n C 0 dX11_init_60 rfl rfl ?_
  refine V_new C inX4 tyX4 tyX4_ok (ci := 2) rfl q_CL_X11_31 q_inst_X4 q_init_X4 [.null, .null, .int 0, .int 0, .int 0] (by decide +kernel) (by rw [hR.1]; decide) (by rw [hR.2]; decide) dX11_init_61 (fun a9 => ?_)
  refine V_dup C dX11_init_64 rfl ?_
  refine V_sufI (wr := ((((([(h0, .inr (9, [.ref (al4 0), .ref (al6 0), .ref (al8 0), .null, .ref (al2 0), .null, .null, .null, .int 0]))] : va_W) ++ cells_X2 ε al2) ++ cells_X9 ε al4 (al2 0)) ++ cells_X9 ε al6 (al2 0)) ++ cells_X9 ε al8 (al2 0))) C cf_X4_init (m_X4_init) q_ML_X11_33 dX11_init_65 (by decide) rfl rfl (Nat.le_of_ble_eq_true rfl) ⟨by rw [hR.1]; decide, by rw [hR.2]; decide⟩ (fun r w1 h => ?_)
  obtain ⟨rfl, al10, e10, rfl⟩ := h
  subst e10
  refine V_eq C (st' := [.ref (al10 0), .ref h0]) rfl ?_
  refine V_putF (ws' := (((((([(h0, .inr (9, [.ref (al4 0), .ref (al6 0), .ref (al8 0), .ref (al10 0), .ref (al2 0), .null, .null, .null, .int 0]))] : va_W) ++ cells_X2 ε al2) ++ cells_X9 ε al4 (al2 0)) ++ cells_X9 ε al6 (al2 0)) ++ cells_X9 ε al8 (al2 0)) ++ cells_X4 ε al10)) C inX11 rfl tyX11 tyX11_ok nmX11 hnm 3 (by decide) q_FL_X11_34 rfl rfl 0 rfl rfl rfl rfl (Nat.le_of_ble_eq_true rfl) dX11_init_68 rfl ?_
  refine V_aload_n C 0 dX11_init_71 rfl rfl ?_
  refine V_new C inX10 tyX10 tyX10_ok (ci := 8) rfl q_CL_X11_38 q_inst_X10 q_init_X10 [.null, .int 0, .int 0, .int 0, .int 0] (by decide +kernel) (by rw [hR.1]; decide) (by rw [hR.2]; decide) dX11_init_72 (fun a11 => ?_)
  refine V_dup C dX11_init_75 rfl ?_
  refine V_sufI (wr := (((((([(h0, .inr (9, [.ref (al4 0), .ref (al6 0), .ref (al8 0), .ref (al10 0), .ref (al2 0), .null, .null, .null, .int 0]))] : va_W) ++ cells_X2 ε al2) ++ cells_X9 ε al4 (al2 0)) ++ cells_X9 ε al6 (al2 0)) ++ cells_X9 ε al8 (al2 0)) ++ cells_X4 ε al10)) C cf_X10_init (m_X10_init) q_ML_X11_40 dX11_init_76 (by decide) rfl rfl (Nat.le_of_ble_eq_true rfl) ⟨by rw [hR.1]; decide, by rw [hR.2]; decide⟩ (fun r w1 h => ?_)
  obtain ⟨rfl, al12, e12, rfl⟩ := h
  subst e12
  refine V_eq C (st' := [.ref (al12 0), .ref h0]) rfl ?_
  refine V_putF (ws' := ((((((([(h0, .inr (9, [.ref (al4 0), .ref (al6 0), .ref (al8 0), .ref (al10 0), .ref (al2 0), .ref (al12 0), .null, .null, .int 0]))] : va_W) ++ cells_X2 ε al2) ++ cells_X9 ε al4 (al2 0)) ++ cells_X9 ε al6 (al2 0)) ++ cells_X9 ε al8 (al2 0)) ++ cells_X4 ε al10) ++ cells_X10 ε al12)) C inX11 rfl tyX11 tyX11_ok nmX11 hnm 5 (by decide) q_FL_X11_41 rfl rfl 0 rfl rfl rfl rfl (Nat.le_of_ble_eq_true rfl) dX11_init_79 rfl ?_
  refine V_aload_n C 0 dX11_init_82 rfl rfl ?_
  refine V_iconst C dX11_init_83 (v := 4) (by decide) ?_
  refine V_newS (N := 4) C q_CL_X11_45 (by decide) (by decide) (by decide) (by rw [hR.1]; decide) (by rw [hR.2]; decide) dX11_init_84 (fun a13 => ?_)
  refine V_putF (ws' := (((((((([(h0, .inr (9, [.ref (al4 0), .ref (al6 0), .ref (al8 0), .ref (al10 0), .ref (al2 0), .ref (al12 0), .ref a13, .null, .int 0]))] : va_W) ++ cells_X2 ε al2) ++ cells_X9 ε al4 (al2 0)) ++ cells_X9 ε al6 (al2 0)) ++ cells_X9 ε al8 (al2 0)) ++ cells_X4 ε al10) ++ cells_X10 ε al12) ++ ([(a13, .inl (eS ε, 4, .inr (.inr (.inr (.inr (fun _ => none))))))] : va_W))) C inX11 rfl tyX11 tyX11_ok nmX11 hnm 6 (by decide) q_FL_X11_47 rfl rfl 0 rfl rfl rfl rfl (Nat.le_of_ble_eq_true rfl) dX11_init_87 rfl ?_
  refine V_iconst C dX11_init_90 (v := 0) (by decide) ?_
  refine V_istore_n (lv' := [(1, .int 0), (0, .ref h0)]) C dX11_init_91 rfl (by decide) rfl ?_
  refine V_iload_n C 0 dX11_init_92 rfl rfl ?_
  refine V_aload_n C 1 dX11_init_93 rfl rfl ?_
  refine V_get C inX11 rfl 6 (by decide) q_FL_X11_47 0 rfl rfl dX11_init_94 ?_
  refine V_alenS C 157 rfl dX11_init_97 ?_
  refine V_eq C (st' := [.int 4, .int 0]) rfl ?_
  refine V_icmp_ge C dX11_init_98 rfl (fun c => absurd c (by decide)) (fun _ => ?_)
  refine V_aload_n C 1 dX11_init_101 rfl rfl ?_
  refine V_get C inX11 rfl 6 (by decide) q_FL_X11_47 0 rfl rfl dX11_init_102 ?_
  refine V_iload_n C 0 dX11_init_105 rfl rfl ?_
  refine V_new C inX6 tyX6 tyX6_ok (ci := 4) rfl q_CL_X11_45 q_inst_X6 q_init_X6 [.null, .int 0] (by decide +kernel) (by rw [hR.1]; decide) (by rw [hR.2]; decide) dX11_init_106 (fun a14 => ?_)
  refine V_dup C dX11_init_109 rfl ?_
  refine V_sufI (wr := (((((((([(h0, .inr (9, [.ref (al4 0), .ref (al6 0), .ref (al8 0), .ref (al10 0), .ref (al2 0), .ref (al12 0), .ref a13, .null, .int 0]))] : va_W) ++ cells_X2 ε al2) ++ cells_X9 ε al4 (al2 0)) ++ cells_X9 ε al6 (al2 0)) ++ cells_X9 ε al8 (al2 0)) ++ cells_X4 ε al10) ++ cells_X10 ε al12) ++ ([(a13, .inl (eS ε, 4, .inr (.inr (.inr (.inr (fun _ => none))))))] : va_W))) C cf_X6_init (m_X6_init) q_ML_X11_51 dX11_init_110 (by decide) rfl rfl (Nat.le_of_ble_eq_true rfl) ⟨by rw [hR.1]; decide, by rw [hR.2]; decide⟩ (fun r w1 h => ?_)
  obtain ⟨rfl, al15, e15, rfl⟩ := h
  subst e15
  refine V_eq C (st' := [.ref (al15 0), .int 0, .ref a13]) rfl ?_
  refine V_aastS (ws' := ((((((((([(h0, .inr (9, [.ref (al4 0), .ref (al6 0), .ref (al8 0), .ref (al10 0), .ref (al2 0), .ref (al12 0), .ref a13, .null, .int 0]))] : va_W) ++ cells_X2 ε al2) ++ cells_X9 ε al4 (al2 0)) ++ cells_X9 ε al6 (al2 0)) ++ cells_X9 ε al8 (al2 0)) ++ cells_X4 ε al10) ++ cells_X10 ε al12) ++ ([(a13, .inl (eS ε, 4, .inr (.inr (.inr (.inr (va_up (fun _ => none) 0 (some (al15 0))))))))] : va_W)) ++ cells_X6 ε al15)) C 157 158 rfl rfl (inb_in (by decide)) dX11_init_113 rfl ?_
  refine V_iinc (v := 1) (lv' := [(1, .int 1), (0, .ref h0)]) C 0 dX11_init_114 rfl (by decide) (by decide) rfl ?_
  refine V_goto C dX11_init_117 rfl ?_
  refine V_iload_n C 0 dX11_init_92 rfl rfl ?_
  refine V_aload_n C 1 dX11_init_93 rfl rfl ?_
  refine V_get C inX11 rfl 6 (by decide) q_FL_X11_47 0 rfl rfl dX11_init_94 ?_
  refine V_alenS C 157 rfl dX11_init_97 ?_
  refine V_eq C (st' := [.int 4, .int 1]) rfl ?_
  refine V_icmp_ge C dX11_init_98 rfl (fun c => absurd c (by decide)) (fun _ => ?_)
  refine V_aload_n C 1 dX11_init_101 rfl rfl ?_
  refine V_get C inX11 rfl 6 (by decide) q_FL_X11_47 0 rfl rfl dX11_init_102 ?_
  refine V_iload_n C 0 dX11_init_105 rfl rfl ?_
  refine V_new C inX6 tyX6 tyX6_ok (ci := 4) rfl q_CL_X11_45 q_inst_X6 q_init_X6 [.null, .int 0] (by decide +kernel) (by rw [hR.1]; decide) (by rw [hR.2]; decide) dX11_init_106 (fun a16 => ?_)
  refine V_dup C dX11_init_109 rfl ?_
  refine V_sufI (wr := ((((((((([(h0, .inr (9, [.ref (al4 0), .ref (al6 0), .ref (al8 0), .ref (al10 0), .ref (al2 0), .ref (al12 0), .ref a13, .null, .int 0]))] : va_W) ++ cells_X2 ε al2) ++ cells_X9 ε al4 (al2 0)) ++ cells_X9 ε al6 (al2 0)) ++ cells_X9 ε al8 (al2 0)) ++ cells_X4 ε al10) ++ cells_X10 ε al12) ++ ([(a13, .inl (eS ε, 4, .inr (.inr (.inr (.inr (va_up (fun _ => none) 0 (some (al15 0))))))))] : va_W)) ++ cells_X6 ε al15)) C cf_X6_init (m_X6_init) q_ML_X11_51 dX11_init_110 (by decide) rfl rfl (Nat.le_of_ble_eq_true rfl) ⟨by rw [hR.1]; decide, by rw [hR.2]; decide⟩ (fun r w1 h => ?_)
  obtain ⟨rfl, al17, e17, rfl⟩ := h
  subst e17
  refine V_eq C (st' := [.ref (al17 0), .int 1, .ref a13]) rfl ?_
  refine V_aastS (ws' := (((((((((([(h0, .inr (9, [.ref (al4 0), .ref (al6 0), .ref (al8 0), .ref (al10 0), .ref (al2 0), .ref (al12 0), .ref a13, .null, .int 0]))] : va_W) ++ cells_X2 ε al2) ++ cells_X9 ε al4 (al2 0)) ++ cells_X9 ε al6 (al2 0)) ++ cells_X9 ε al8 (al2 0)) ++ cells_X4 ε al10) ++ cells_X10 ε al12) ++ ([(a13, .inl (eS ε, 4, .inr (.inr (.inr (.inr (va_up (va_up (fun _ => none) 0 (some (al15 0))) 1 (some (al17 0))))))))] : va_W)) ++ cells_X6 ε al15) ++ cells_X6 ε al17)) C 157 161 rfl rfl (inb_in (by decide)) dX11_init_113 rfl ?_
  refine V_iinc (v := 2) (lv' := [(1, .int 2), (0, .ref h0)]) C 0 dX11_init_114 rfl (by decide) (by decide) rfl ?_
  refine V_goto C dX11_init_117 rfl ?_
  refine V_iload_n C 0 dX11_init_92 rfl rfl ?_
  refine V_aload_n C 1 dX11_init_93 rfl rfl ?_
  refine V_get C inX11 rfl 6 (by decide) q_FL_X11_47 0 rfl rfl dX11_init_94 ?_
  refine V_alenS C 157 rfl dX11_init_97 ?_
  refine V_eq C (st' := [.int 4, .int 2]) rfl ?_
  refine V_icmp_ge C dX11_init_98 rfl (fun c => absurd c (by decide)) (fun _ => ?_)
  refine V_aload_n C 1 dX11_init_101 rfl rfl ?_
  refine V_get C inX11 rfl 6 (by decide) q_FL_X11_47 0 rfl rfl dX11_init_102 ?_
  refine V_iload_n C 0 dX11_init_105 rfl rfl ?_
  refine V_new C inX6 tyX6 tyX6_ok (ci := 4) rfl q_CL_X11_45 q_inst_X6 q_init_X6 [.null, .int 0] (by decide +kernel) (by rw [hR.1]; decide) (by rw [hR.2]; decide) dX11_init_106 (fun a18 => ?_)
  refine V_dup C dX11_init_109 rfl ?_
  refine V_sufI (wr := (((((((((([(h0, .inr (9, [.ref (al4 0), .ref (al6 0), .ref (al8 0), .ref (al10 0), .ref (al2 0), .ref (al12 0), .ref a13, .null, .int 0]))] : va_W) ++ cells_X2 ε al2) ++ cells_X9 ε al4 (al2 0)) ++ cells_X9 ε al6 (al2 0)) ++ cells_X9 ε al8 (al2 0)) ++ cells_X4 ε al10) ++ cells_X10 ε al12) ++ ([(a13, .inl (eS ε, 4, .inr (.inr (.inr (.inr (va_up (va_up (fun _ => none) 0 (some (al15 0))) 1 (some (al17 0))))))))] : va_W)) ++ cells_X6 ε al15) ++ cells_X6 ε al17)) C cf_X6_init (m_X6_init) q_ML_X11_51 dX11_init_110 (by decide) rfl rfl (Nat.le_of_ble_eq_true rfl) ⟨by rw [hR.1]; decide, by rw [hR.2]; decide⟩ (fun r w1 h => ?_)
  obtain ⟨rfl, al19, e19, rfl⟩ := h
  subst e19
  refine V_eq C (st' := [.ref (al19 0), .int 2, .ref a13]) rfl ?_
  refine V_aastS (ws' := ((((((((((([(h0, .inr (9, [.ref (al4 0), .ref (al6 0), .ref (al8 0), .ref (al10 0), .ref (al2 0), .ref (al12 0), .ref a13, .null, .int 0]))] : va_W) ++ cells_X2 ε al2) ++ cells_X9 ε al4 (al2 0)) ++ cells_X9 ε al6 (al2 0)) ++ cells_X9 ε al8 (al2 0)) ++ cells_X4 ε al10) ++ cells_X10 ε al12) ++ ([(a13, .inl (eS ε, 4, .inr (.inr (.inr (.inr (va_up (va_up (va_up (fun _ => none) 0 (some (al15 0))) 1 (some (al17 0))) 2 (some (al19 0))))))))] : va_W)) ++ cells_X6 ε al15) ++ cells_X6 ε al17) ++ cells_X6 ε al19)) C 157 164 rfl rfl (inb_in (by decide)) dX11_init_113 rfl ?_
  refine V_iinc (v := 3) (lv' := [(1, .int 3), (0, .ref h0)]) C 0 dX11_init_114 rfl (by decide) (by decide) rfl ?_
  refine V_goto C dX11_init_117 rfl ?_
  refine V_iload_n C 0 dX11_init_92 rfl rfl ?_
  refine V_aload_n C 1 dX11_init_93 rfl rfl ?_
  refine V_get C inX11 rfl 6 (by decide) q_FL_X11_47 0 rfl rfl dX11_init_94 ?_
  refine V_alenS C 157 rfl dX11_init_97 ?_
  refine V_eq C (st' := [.int 4, .int 3]) rfl ?_
  refine V_icmp_ge C dX11_init_98 rfl (fun c => absurd c (by decide)) (fun _ => ?_)
  refine V_aload_n C 1 dX11_init_101 rfl rfl ?_
  refine V_get C inX11 rfl 6 (by decide) q_FL_X11_47 0 rfl rfl dX11_init_102 ?_
  refine V_iload_n C 0 dX11_init_105 rfl rfl ?_
  refine V_new C inX6 tyX6 tyX6_ok (ci := 4) rfl q_CL_X11_45 q_inst_X6 q_init_X6 [.null, .int 0] (by decide +kernel) (by rw [hR.1]; decide) (by rw [hR.2]; decide) dX11_init_106 (fun a20 => ?_)
  refine V_dup C dX11_init_109 rfl ?_
  refine V_sufI (wr := ((((((((((([(h0, .inr (9, [.ref (al4 0), .ref (al6 0), .ref (al8 0), .ref (al10 0), .ref (al2 0), .ref (al12 0), .ref a13, .null, .int 0]))] : va_W) ++ cells_X2 ε al2) ++ cells_X9 ε al4 (al2 0)) ++ cells_X9 ε al6 (al2 0)) ++ cells_X9 ε al8 (al2 0)) ++ cells_X4 ε al10) ++ cells_X10 ε al12) ++ ([(a13, .inl (eS ε, 4, .inr (.inr (.inr (.inr (va_up (va_up (va_up (fun _ => none) 0 (some (al15 0))) 1 (some (al17 0))) 2 (some (al19 0))))))))] : va_W)) ++ cells_X6 ε al15) ++ cells_X6 ε al17) ++ cells_X6 ε al19)) C cf_X6_init (m_X6_init) q_ML_X11_51 dX11_init_110 (by decide) rfl rfl (Nat.le_of_ble_eq_true rfl) ⟨by rw [hR.1]; decide, by rw [hR.2]; decide⟩ (fun r w1 h => ?_)
  obtain ⟨rfl, al21, e21, rfl⟩ := h
  subst e21
  refine V_eq C (st' := [.ref (al21 0), .int 3, .ref a13]) rfl ?_
  refine V_aastS (ws' := (((((((((((([(h0, .inr (9, [.ref (al4 0), .ref (al6 0), .ref (al8 0), .ref (al10 0), .ref (al2 0), .ref (al12 0), .ref a13, .null, .int 0]))] : va_W) ++ cells_X2 ε al2) ++ cells_X9 ε al4 (al2 0)) ++ cells_X9 ε al6 (al2 0)) ++ cells_X9 ε al8 (al2 0)) ++ cells_X4 ε al10) ++ cells_X10 ε al12) ++ ([(a13, .inl (eS ε, 4, .inr (.inr (.inr (.inr (va_up (va_up (va_up (va_up (fun _ => none) 0 (some (al15 0))) 1 (some (al17 0))) 2 (some (al19 0))) 3 (some (al21 0))))))))] : va_W)) ++ cells_X6 ε al15) ++ cells_X6 ε al17) ++ cells_X6 ε al19) ++ cells_X6 ε al21)) C 157 167 rfl rfl (inb_in (by decide)) dX11_init_113 rfl ?_
  refine V_iinc (v := 4) (lv' := [(1, .int 4), (0, .ref h0)]) C 0 dX11_init_114 rfl (by decide) (by decide) rfl ?_
  refine V_goto C dX11_init_117 rfl ?_
  refine V_iload_n C 0 dX11_init_92 rfl rfl ?_
  refine V_aload_n C 1 dX11_init_93 rfl rfl ?_
  refine V_get C inX11 rfl 6 (by decide) q_FL_X11_47 0 rfl rfl dX11_init_94 ?_
  refine V_alenS C 157 rfl dX11_init_97 ?_
  refine V_eq C (st' := [.int 4, .int 4]) rfl ?_
  refine V_icmp_ge C dX11_init_98 rfl (fun _ => ?_) (fun c => absurd (by decide) c)
  refine V_aload_n C 1 dX11_init_120 rfl rfl ?_
  refine V_new C inX5 tyX5 tyX5_ok (ci := 3) rfl q_CL_X11_52 q_inst_X5 q_init_X5 [.null, .int 0] (by decide +kernel) (by rw [hR.1]; decide) (by rw [hR.2]; decide) dX11_init_121 (fun a22 => ?_)
  refine V_dup C dX11_init_124 rfl ?_
  refine V_bipush C dX11_init_125 (v := 7) (by decide) ?_
  refine V_sufI (wr := (((((((((((([(h0, .inr (9, [.ref (al4 0), .ref (al6 0), .ref (al8 0), .ref (al10 0), .ref (al2 0), .ref (al12 0), .ref a13, .null, .int 0]))] : va_W) ++ cells_X2 ε al2) ++ cells_X9 ε al4 (al2 0)) ++ cells_X9 ε al6 (al2 0)) ++ cells_X9 ε al8 (al2 0)) ++ cells_X4 ε al10) ++ cells_X10 ε al12) ++ ([(a13, .inl (eS ε, 4, .inr (.inr (.inr (.inr (va_up (va_up (va_up (va_up (fun _ => none) 0 (some (al15 0))) 1 (some (al17 0))) 2 (some (al19 0))) 3 (some (al21 0))))))))] : va_W)) ++ cells_X6 ε al15) ++ cells_X6 ε al17) ++ cells_X6 ε al19) ++ cells_X6 ε al21)) C cf_X5_init (m_X5_init (x := 7) (z := 7) (by decide) (by decide)) q_ML_X11_54 dX11_init_127 (by decide) rfl rfl (Nat.le_of_ble_eq_true rfl) ⟨by rw [hR.1]; decide, by rw [hR.2]; decide⟩ (fun r w1 h => ?_)
  obtain ⟨rfl, q23, rfl⟩ := h
  refine V_eq C (st' := [.ref a22, .ref h0]) rfl ?_
  refine V_putF (ws' := ((((((((((((([(h0, .inr (9, [.ref (al4 0), .ref (al6 0), .ref (al8 0), .ref (al10 0), .ref (al2 0), .ref (al12 0), .ref a13, .ref a22, .int 0]))] : va_W) ++ cells_X2 ε al2) ++ cells_X9 ε al4 (al2 0)) ++ cells_X9 ε al6 (al2 0)) ++ cells_X9 ε al8 (al2 0)) ++ cells_X4 ε al10) ++ cells_X10 ε al12) ++ ([(a13, .inl (eS ε, 4, .inr (.inr (.inr (.inr (va_up (va_up (va_up (va_up (fun _ => none) 0 (some (al15 0))) 1 (some (al17 0))) 2 (some (al19 0))) 3 (some (al21 0))))))))] : va_W)) ++ cells_X6 ε al15) ++ cells_X6 ε al17) ++ cells_X6 ε al19) ++ cells_X6 ε al21) ++ rw2 ε a22 q23 0 7 (fun _ => 0))) C inX11 rfl tyX11 tyX11_ok nmX11 hnm 7 (by decide) q_FL_X11_57 rfl rfl 0 rfl rfl rfl rfl (Nat.le_of_ble_eq_true rfl) dX11_init_130 rfl ?_
  refine V_aload_n C 1 dX11_init_133 rfl rfl ?_
  refine V_get C inX11 rfl 7 (by decide) q_FL_X11_57 0 rfl rfl dX11_init_134 ?_
  refine V_bipush C dX11_init_137 (v := 7) (by decide) ?_
  refine V_sufV (wr := (((((((((((([(h0, .inr (9, [.ref (al4 0), .ref (al6 0), .ref (al8 0), .ref (al10 0), .ref (al2 0), .ref (al12 0), .ref a13, .ref a22, .int 0]))] : va_W) ++ cells_X2 ε al2) ++ cells_X9 ε al4 (al2 0)) ++ cells_X9 ε al6 (al2 0)) ++ cells_X9 ε al8 (al2 0)) ++ cells_X4 ε al10) ++ cells_X10 ε al12) ++ ([(a13, .inl (eS ε, 4, .inr (.inr (.inr (.inr (va_up (va_up (va_up (va_up (fun _ => none) 0 (some (al15 0))) 1 (some (al17 0))) 2 (some (al19 0))) 3 (some (al21 0))))))))] : va_W)) ++ cells_X6 ε al15) ++ cells_X6 ε al17) ++ cells_X6 ε al19) ++ cells_X6 ε al21)) C cf_X5_reset (m_X5_reset (s := 0) (x := 7) (z := 7) (by decide) (by decide)) q_ML_X11_61 0 rfl rfl dX11_init_139 (by decide) rfl rfl (Nat.le_of_ble_eq_true rfl) ⟨by rw [hR.1]; decide, by rw [hR.2]; decide⟩ (fun r w1 h => ?_)
  obtain ⟨rfl, rfl⟩ := h
  refine V_eq C (st' := []) rfl ?_
  refine V_aload_n C 1 dX11_init_142 rfl rfl ?_
  refine V_iconst C dX11_init_143 (v := 0) (by decide) ?_
  refine V_put (ws' := ((((((((((((([(h0, .inr (9, [.ref (al4 0), .ref (al6 0), .ref (al8 0), .ref (al10 0), .ref (al2 0), .ref (al12 0), .ref a13, .ref a22, .int 0]))] : va_W) ++ cells_X2 ε al2) ++ cells_X9 ε al4 (al2 0)) ++ cells_X9 ε al6 (al2 0)) ++ cells_X9 ε al8 (al2 0)) ++ cells_X4 ε al10) ++ cells_X10 ε al12) ++ ([(a13, .inl (eS ε, 4, .inr (.inr (.inr (.inr (va_up (va_up (va_up (va_up (fun _ => none) 0 (some (al15 0))) 1 (some (al17 0))) 2 (some (al19 0))) 3 (some (al21 0))))))))] : va_W)) ++ cells_X6 ε al15) ++ cells_X6 ε al17) ++ cells_X6 ε al19) ++ cells_X6 ε al21) ++ rw2 ε a22 q23 7 7 (fun _ => 0))) C inX11 rfl tyX11 tyX11_ok nmX11 8 (by decide) q_FL_X11_64 rfl 0 rfl rfl rfl rfl (Nat.le_of_ble_eq_true rfl) dX11_init_144 rfl ?_
  refine V_widen (k' := 171) (n' := 2039) C (by decide) (by decide) ?_
  exact V_vret C X dX11_init_147 ⟨rfl, fun k => ([h0, al2 0, al2 1, al2 2, al2 3, al2 4, al2 5, al2 6, al4 0, al4 1, al4 2, al4 3, al4 4, al4 5, al4 6, al4 7, al4 8, al4 9, al4 10, al4 11, al4 12, al4 13, al4 14, al4 15, al4 16, al4 17, al4 18, al4 19, al4 20, al4 21, al4 22, al4 23, al4 24, al4 25, al4 26, al4 27, al4 28, al4 29, al4 30, al4 31, al4 32, al4 33, al4 34, al4 35, al4 36, al4 37, al4 38, al4 39, al4 40, al4 41, al4 42, al4 43, al4 44, al4 45, al4 46, al6 0, al6 1, al6 2, al6 3, al6 4, al6 5, al6 6, al6 7, al6 8, al6 9, al6 10, al6 11, al6 12, al6 13, al6 14, al6 15, al6 16, al6 17, al6 18, al6 19, al6 20, al6 21, al6 22, al6 23, al6 24, al6 25, al6 26, al6 27, al6 28, al6 29, al6 30, al6 31, al6 32, al6 33, al6 34, al6 35, al6 36, al6 37, al6 38, al6 39, al6 40, al6 41, al6 42, al6 43, al6 44, al6 45, al6 46, al8 0, al8 1, al8 2, al8 3, al8 4, al8 5, al8 6, al8 7, al8 8, al8 9, al8 10, al8 11, al8 12, al8 13, al8 14, al8 15, al8 16, al8 17, al8 18, al8 19, al8 20, al8 21, al8 22, al8 23, al8 24, al8 25, al8 26, al8 27, al8 28, al8 29, al8 30, al8 31, al8 32, al8 33, al8 34, al8 35, al8 36, al8 37, al8 38, al8 39, al8 40, al8 41, al8 42, al8 43, al8 44, al8 45, al8 46, al10 0, al10 1, al10 2, al10 3, al10 4, al12 0, al12 1, al12 2, a13, al15 0, al15 1, al15 2, al17 0, al17 1, al17 2, al19 0, al19 1, al19 2, al21 0, al21 1, al21 2, a22, q23] : List Nat).getD k 0, rfl, rfl⟩
