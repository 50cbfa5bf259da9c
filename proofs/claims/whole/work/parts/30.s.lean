/-! the fixed cells: from B on those of the class, from B + 66 on those of the reference -/
def st_kd : List Nat := [12, 0, 0, 0, 14, 6, 16, 14, 14, 14, 14, 14, 14, 3, 0, 15, 15, 9, 14, 14, 14, 14, 14, 11, 14, 14, 14, 14, 14, 14, 14, 14, 14, 14, 14, 14, 14, 10, 14, 14, 14, 14, 15, 15, 15, 14, 14, 4, 14, 14, 14, 14, 2, 14, 19, 14, 14, 19, 14, 14, 19, 14, 14, 14, 14, 14, 13, 14, 14, 14, 14, 14, 14, 17, 14, 14, 14, 14, 14, 16, 14, 14, 14, 14, 14, 14, 14, 14, 14, 14, 15, 15, 14, 14, 14, 14, 14, 14, 14, 14, 14, 14, 14, 14, 14, 14, 14, 14, 14, 14, 14, 14, 14, 14, 14, 14, 14, 14, 14, 14, 14, 14, 14, 14, 14, 14, 17, 14, 14, 14, 14, 14, 17, 17, 15, 15, 15, 14, 14, 14, 14, 14, 14, 14, 14, 14, 15]
def st_n : List Nat := [0, 0, 0, 0, 10, 0, 400, 401, 401, 401, 400, 10, 11, 0, 0, 14, 80, 0, 100, 100, 100, 100, 100, 0, 20, 20, 20, 20, 200, 200, 200, 200, 200, 20, 20, 20, 20, 0, 5, 5, 4, 4, 25, 25, 6, 5, 5, 0, 8, 8, 8, 256, 0, 2, 2, 10, 10, 2, 10, 10, 2, 10, 10, 10, 100, 1, 0, 40, 40, 40, 40, 40, 10, 40, 200, 200, 200, 200, 200, 400, 30, 30, 30, 30, 300, 300, 300, 12000, 12000, 400, 400, 14, 20, 20, 20, 20, 300, 300, 300, 300, 300, 300, 300, 300, 300, 300, 300, 900, 900, 900, 900, 100, 100, 100, 100, 100, 8, 20, 20, 20, 20, 200, 200, 200, 200, 200, 800, 5, 5, 4, 5, 5, 20, 300, 25, 25, 5, 8, 8, 8, 256, 2, 20, 20, 20, 10, 11264]
def st_r : List (Nat × Nat × Nat) := [(0, 0, 1), (0, 1, 2), (0, 2, 3), (0, 3, 4), (0, 4, 5), (0, 5, 13), (0, 6, 17), (0, 7, 23), (0, 8, 37), (0, 9, 47), (0, 10, 52), (5, 0, 6), (5, 2, 7), (5, 3, 8), (5, 4, 9), (5, 9, 10), (5, 11, 11), (5, 12, 12), (13, 0, 14), (13, 1, 15), (13, 2, 16), (17, 0, 18), (17, 1, 19), (17, 2, 20), (17, 3, 21), (17, 4, 22), (23, 0, 24), (23, 1, 25), (23, 2, 26), (23, 3, 27), (23, 5, 28), (23, 6, 29), (23, 7, 30), (23, 8, 31), (23, 9, 32), (23, 11, 33), (23, 12, 34), (23, 13, 35), (23, 14, 36), (37, 0, 38), (37, 1, 39), (37, 3, 40), (37, 4, 41), (37, 6, 42), (37, 7, 43), (37, 8, 44), (37, 9, 45), (37, 10, 46), (47, 0, 48), (47, 1, 49), (47, 2, 50), (47, 4, 51), (52, 0, 53), (52, 1, 54), (52, 2, 57), (52, 3, 60), (52, 4, 63), (52, 8, 64), (54, 0, 55), (54, 1, 56), (57, 0, 58), (57, 1, 59), (60, 0, 61), (60, 1, 62), (66, 3, 67), (66, 4, 68), (66, 5, 69), (66, 6, 70), (66, 7, 71), (66, 8, 72), (66, 9, 73), (66, 11, 74), (66, 12, 75), (66, 13, 76), (66, 14, 77), (66, 15, 78), (66, 16, 79), (66, 24, 80), (66, 25, 81), (66, 26, 82), (66, 27, 83), (66, 28, 84), (66, 29, 85), (66, 30, 86), (66, 31, 87), (66, 32, 88), (66, 35, 89), (66, 36, 90), (66, 37, 91), (66, 39, 92), (66, 40, 93), (66, 41, 94), (66, 42, 95), (66, 44, 96), (66, 45, 97), (66, 46, 98), (66, 47, 99), (66, 48, 100), (66, 49, 101), (66, 50, 102), (66, 51, 103), (66, 52, 104), (66, 53, 105), (66, 54, 106), (66, 55, 107), (66, 56, 108), (66, 57, 109), (66, 58, 110), (66, 62, 111), (66, 63, 112), (66, 64, 113), (66, 65, 114), (66, 66, 115), (66, 75, 116), (66, 78, 117), (66, 79, 118), (66, 80, 119), (66, 81, 120), (66, 82, 121), (66, 83, 122), (66, 84, 123), (66, 85, 124), (66, 86, 125), (66, 87, 126), (66, 92, 127), (66, 93, 128), (66, 94, 129), (66, 95, 130), (66, 96, 131), (66, 97, 132), (66, 98, 133), (66, 99, 134), (66, 100, 135), (66, 101, 136), (66, 104, 137), (66, 105, 138), (66, 106, 139), (66, 107, 140), (66, 109, 141), (66, 110, 142), (66, 111, 143), (66, 112, 144), (66, 113, 145), (66, 116, 146)]
def mS (B : Nat) (h : mm_H) : Prop := B + 147 ≤ mm_sz h ∧ (∀ j, j < 147 → mm_kd h (B + j) = st_kd.getD j 0 ∧ mm_n h (B + j) = st_n.getD j 0) ∧ ∀ j, j < 144 → mm_r h (B + (st_r.getD j (0, 0, 0)).1) (st_r.getD j (0, 0, 0)).2.1 = some (B + (st_r.getD j (0, 0, 0)).2.2)
section SS
variable {B : Nat} {h : mm_H}
theorem sk0 (S : mS B h) : mm_kd h B = 12 := (S.2.1 0 (by decide)).1
theorem sk1 (S : mS B h) : mm_kd h (B + 1) = 0 := (S.2.1 1 (by decide)).1
theorem sk2 (S : mS B h) : mm_kd h (B + 2) = 0 := (S.2.1 2 (by decide)).1
theorem sk3 (S : mS B h) : mm_kd h (B + 3) = 0 := (S.2.1 3 (by decide)).1
theorem sk4 (S : mS B h) : mm_kd h (B + 4) = 14 := (S.2.1 4 (by decide)).1
theorem sn4 (S : mS B h) : mm_n h (B + 4) = 10 := (S.2.1 4 (by decide)).2
theorem sk5 (S : mS B h) : mm_kd h (B + 5) = 6 := (S.2.1 5 (by decide)).1
theorem sk6 (S : mS B h) : mm_kd h (B + 6) = 16 := (S.2.1 6 (by decide)).1
theorem sn6 (S : mS B h) : mm_n h (B + 6) = 400 := (S.2.1 6 (by decide)).2
theorem sk7 (S : mS B h) : mm_kd h (B + 7) = 14 := (S.2.1 7 (by decide)).1
theorem sn7 (S : mS B h) : mm_n h (B + 7) = 401 := (S.2.1 7 (by decide)).2
theorem sk8 (S : mS B h) : mm_kd h (B + 8) = 14 := (S.2.1 8 (by decide)).1
theorem sn8 (S : mS B h) : mm_n h (B + 8) = 401 := (S.2.1 8 (by decide)).2
theorem sk9 (S : mS B h) : mm_kd h (B + 9) = 14 := (S.2.1 9 (by decide)).1
theorem sn9 (S : mS B h) : mm_n h (B + 9) = 401 := (S.2.1 9 (by decide)).2
theorem sk10 (S : mS B h) : mm_kd h (B + 10) = 14 := (S.2.1 10 (by decide)).1
theorem sn10 (S : mS B h) : mm_n h (B + 10) = 400 := (S.2.1 10 (by decide)).2
theorem sk11 (S : mS B h) : mm_kd h (B + 11) = 14 := (S.2.1 11 (by decide)).1
theorem sn11 (S : mS B h) : mm_n h (B + 11) = 10 := (S.2.1 11 (by decide)).2
theorem sk12 (S : mS B h) : mm_kd h (B + 12) = 14 := (S.2.1 12 (by decide)).1
theorem sn12 (S : mS B h) : mm_n h (B + 12) = 11 := (S.2.1 12 (by decide)).2
theorem sk13 (S : mS B h) : mm_kd h (B + 13) = 3 := (S.2.1 13 (by decide)).1
theorem sk14 (S : mS B h) : mm_kd h (B + 14) = 0 := (S.2.1 14 (by decide)).1
theorem sk15 (S : mS B h) : mm_kd h (B + 15) = 15 := (S.2.1 15 (by decide)).1
theorem sn15 (S : mS B h) : mm_n h (B + 15) = 14 := (S.2.1 15 (by decide)).2
theorem sk16 (S : mS B h) : mm_kd h (B + 16) = 15 := (S.2.1 16 (by decide)).1
theorem sn16 (S : mS B h) : mm_n h (B + 16) = 80 := (S.2.1 16 (by decide)).2
theorem sk17 (S : mS B h) : mm_kd h (B + 17) = 9 := (S.2.1 17 (by decide)).1
theorem sk18 (S : mS B h) : mm_kd h (B + 18) = 14 := (S.2.1 18 (by decide)).1
theorem sn18 (S : mS B h) : mm_n h (B + 18) = 100 := (S.2.1 18 (by decide)).2
theorem sk19 (S : mS B h) : mm_kd h (B + 19) = 14 := (S.2.1 19 (by decide)).1
theorem sn19 (S : mS B h) : mm_n h (B + 19) = 100 := (S.2.1 19 (by decide)).2
theorem sk20 (S : mS B h) : mm_kd h (B + 20) = 14 := (S.2.1 20 (by decide)).1
theorem sn20 (S : mS B h) : mm_n h (B + 20) = 100 := (S.2.1 20 (by decide)).2
theorem sk21 (S : mS B h) : mm_kd h (B + 21) = 14 := (S.2.1 21 (by decide)).1
theorem sn21 (S : mS B h) : mm_n h (B + 21) = 100 := (S.2.1 21 (by decide)).2
theorem sk22 (S : mS B h) : mm_kd h (B + 22) = 14 := (S.2.1 22 (by decide)).1
theorem sn22 (S : mS B h) : mm_n h (B + 22) = 100 := (S.2.1 22 (by decide)).2
theorem sk23 (S : mS B h) : mm_kd h (B + 23) = 11 := (S.2.1 23 (by decide)).1
theorem sk24 (S : mS B h) : mm_kd h (B + 24) = 14 := (S.2.1 24 (by decide)).1
theorem sn24 (S : mS B h) : mm_n h (B + 24) = 20 := (S.2.1 24 (by decide)).2
theorem sk25 (S : mS B h) : mm_kd h (B + 25) = 14 := (S.2.1 25 (by decide)).1
theorem sn25 (S : mS B h) : mm_n h (B + 25) = 20 := (S.2.1 25 (by decide)).2
theorem sk26 (S : mS B h) : mm_kd h (B + 26) = 14 := (S.2.1 26 (by decide)).1
theorem sn26 (S : mS B h) : mm_n h (B + 26) = 20 := (S.2.1 26 (by decide)).2
theorem sk27 (S : mS B h) : mm_kd h (B + 27) = 14 := (S.2.1 27 (by decide)).1
theorem sn27 (S : mS B h) : mm_n h (B + 27) = 20 := (S.2.1 27 (by decide)).2
theorem sk28 (S : mS B h) : mm_kd h (B + 28) = 14 := (S.2.1 28 (by decide)).1
theorem sn28 (S : mS B h) : mm_n h (B + 28) = 200 := (S.2.1 28 (by decide)).2
theorem sk29 (S : mS B h) : mm_kd h (B + 29) = 14 := (S.2.1 29 (by decide)).1
theorem sn29 (S : mS B h) : mm_n h (B + 29) = 200 := (S.2.1 29 (by decide)).2
theorem sk30 (S : mS B h) : mm_kd h (B + 30) = 14 := (S.2.1 30 (by decide)).1
theorem sn30 (S : mS B h) : mm_n h (B + 30) = 200 := (S.2.1 30 (by decide)).2
theorem sk31 (S : mS B h) : mm_kd h (B + 31) = 14 := (S.2.1 31 (by decide)).1
theorem sn31 (S : mS B h) : mm_n h (B + 31) = 200 := (S.2.1 31 (by decide)).2
theorem sk32 (S : mS B h) : mm_kd h (B + 32) = 14 := (S.2.1 32 (by decide)).1
theorem sn32 (S : mS B h) : mm_n h (B + 32) = 200 := (S.2.1 32 (by decide)).2
theorem sk33 (S : mS B h) : mm_kd h (B + 33) = 14 := (S.2.1 33 (by decide)).1
theorem sn33 (S : mS B h) : mm_n h (B + 33) = 20 := (S.2.1 33 (by decide)).2
theorem sk34 (S : mS B h) : mm_kd h (B + 34) = 14 := (S.2.1 34 (by decide)).1
theorem sn34 (S : mS B h) : mm_n h (B + 34) = 20 := (S.2.1 34 (by decide)).2
theorem sk35 (S : mS B h) : mm_kd h (B + 35) = 14 := (S.2.1 35 (by decide)).1
theorem sn35 (S : mS B h) : mm_n h (B + 35) = 20 := (S.2.1 35 (by decide)).2
theorem sk36 (S : mS B h) : mm_kd h (B + 36) = 14 := (S.2.1 36 (by decide)).1
theorem sn36 (S : mS B h) : mm_n h (B + 36) = 20 := (S.2.1 36 (by decide)).2
theorem sk37 (S : mS B h) : mm_kd h (B + 37) = 10 := (S.2.1 37 (by decide)).1
theorem sk38 (S : mS B h) : mm_kd h (B + 38) = 14 := (S.2.1 38 (by decide)).1
theorem sn38 (S : mS B h) : mm_n h (B + 38) = 5 := (S.2.1 38 (by decide)).2
theorem sk39 (S : mS B h) : mm_kd h (B + 39) = 14 := (S.2.1 39 (by decide)).1
theorem sn39 (S : mS B h) : mm_n h (B + 39) = 5 := (S.2.1 39 (by decide)).2
theorem sk40 (S : mS B h) : mm_kd h (B + 40) = 14 := (S.2.1 40 (by decide)).1
theorem sn40 (S : mS B h) : mm_n h (B + 40) = 4 := (S.2.1 40 (by decide)).2
theorem sk41 (S : mS B h) : mm_kd h (B + 41) = 14 := (S.2.1 41 (by decide)).1
theorem sn41 (S : mS B h) : mm_n h (B + 41) = 4 := (S.2.1 41 (by decide)).2
theorem sk42 (S : mS B h) : mm_kd h (B + 42) = 15 := (S.2.1 42 (by decide)).1
theorem sn42 (S : mS B h) : mm_n h (B + 42) = 25 := (S.2.1 42 (by decide)).2
theorem sk43 (S : mS B h) : mm_kd h (B + 43) = 15 := (S.2.1 43 (by decide)).1
theorem sn43 (S : mS B h) : mm_n h (B + 43) = 25 := (S.2.1 43 (by decide)).2
theorem sk44 (S : mS B h) : mm_kd h (B + 44) = 15 := (S.2.1 44 (by decide)).1
theorem sn44 (S : mS B h) : mm_n h (B + 44) = 6 := (S.2.1 44 (by decide)).2
theorem sk45 (S : mS B h) : mm_kd h (B + 45) = 14 := (S.2.1 45 (by decide)).1
theorem sn45 (S : mS B h) : mm_n h (B + 45) = 5 := (S.2.1 45 (by decide)).2
theorem sk46 (S : mS B h) : mm_kd h (B + 46) = 14 := (S.2.1 46 (by decide)).1
theorem sn46 (S : mS B h) : mm_n h (B + 46) = 5 := (S.2.1 46 (by decide)).2
theorem sk47 (S : mS B h) : mm_kd h (B + 47) = 4 := (S.2.1 47 (by decide)).1
theorem sk48 (S : mS B h) : mm_kd h (B + 48) = 14 := (S.2.1 48 (by decide)).1
theorem sn48 (S : mS B h) : mm_n h (B + 48) = 8 := (S.2.1 48 (by decide)).2
theorem sk49 (S : mS B h) : mm_kd h (B + 49) = 14 := (S.2.1 49 (by decide)).1
theorem sn49 (S : mS B h) : mm_n h (B + 49) = 8 := (S.2.1 49 (by decide)).2
theorem sk50 (S : mS B h) : mm_kd h (B + 50) = 14 := (S.2.1 50 (by decide)).1
theorem sn50 (S : mS B h) : mm_n h (B + 50) = 8 := (S.2.1 50 (by decide)).2
theorem sk51 (S : mS B h) : mm_kd h (B + 51) = 14 := (S.2.1 51 (by decide)).1
theorem sn51 (S : mS B h) : mm_n h (B + 51) = 256 := (S.2.1 51 (by decide)).2
theorem sk52 (S : mS B h) : mm_kd h (B + 52) = 2 := (S.2.1 52 (by decide)).1
theorem sk53 (S : mS B h) : mm_kd h (B + 53) = 14 := (S.2.1 53 (by decide)).1
theorem sn53 (S : mS B h) : mm_n h (B + 53) = 2 := (S.2.1 53 (by decide)).2
theorem sk54 (S : mS B h) : mm_kd h (B + 54) = 19 := (S.2.1 54 (by decide)).1
theorem sn54 (S : mS B h) : mm_n h (B + 54) = 2 := (S.2.1 54 (by decide)).2
theorem sk55 (S : mS B h) : mm_kd h (B + 55) = 14 := (S.2.1 55 (by decide)).1
theorem sn55 (S : mS B h) : mm_n h (B + 55) = 10 := (S.2.1 55 (by decide)).2
theorem sk56 (S : mS B h) : mm_kd h (B + 56) = 14 := (S.2.1 56 (by decide)).1
theorem sn56 (S : mS B h) : mm_n h (B + 56) = 10 := (S.2.1 56 (by decide)).2
theorem sk57 (S : mS B h) : mm_kd h (B + 57) = 19 := (S.2.1 57 (by decide)).1
theorem sn57 (S : mS B h) : mm_n h (B + 57) = 2 := (S.2.1 57 (by decide)).2
theorem sk58 (S : mS B h) : mm_kd h (B + 58) = 14 := (S.2.1 58 (by decide)).1
theorem sn58 (S : mS B h) : mm_n h (B + 58) = 10 := (S.2.1 58 (by decide)).2
theorem sk59 (S : mS B h) : mm_kd h (B + 59) = 14 := (S.2.1 59 (by decide)).1
theorem sn59 (S : mS B h) : mm_n h (B + 59) = 10 := (S.2.1 59 (by decide)).2
theorem sk60 (S : mS B h) : mm_kd h (B + 60) = 19 := (S.2.1 60 (by decide)).1
theorem sn60 (S : mS B h) : mm_n h (B + 60) = 2 := (S.2.1 60 (by decide)).2
theorem sk61 (S : mS B h) : mm_kd h (B + 61) = 14 := (S.2.1 61 (by decide)).1
theorem sn61 (S : mS B h) : mm_n h (B + 61) = 10 := (S.2.1 61 (by decide)).2
theorem sk62 (S : mS B h) : mm_kd h (B + 62) = 14 := (S.2.1 62 (by decide)).1
theorem sn62 (S : mS B h) : mm_n h (B + 62) = 10 := (S.2.1 62 (by decide)).2
theorem sk63 (S : mS B h) : mm_kd h (B + 63) = 14 := (S.2.1 63 (by decide)).1
theorem sn63 (S : mS B h) : mm_n h (B + 63) = 10 := (S.2.1 63 (by decide)).2
theorem sk64 (S : mS B h) : mm_kd h (B + 64) = 14 := (S.2.1 64 (by decide)).1
theorem sn64 (S : mS B h) : mm_n h (B + 64) = 100 := (S.2.1 64 (by decide)).2
theorem sk65 (S : mS B h) : mm_kd h (B + 65) = 14 := (S.2.1 65 (by decide)).1
theorem sn65 (S : mS B h) : mm_n h (B + 65) = 1 := (S.2.1 65 (by decide)).2
theorem sk66 (S : mS B h) : mm_kd h (B + 66) = 13 := (S.2.1 66 (by decide)).1
theorem sk67 (S : mS B h) : mm_kd h (B + 67) = 14 := (S.2.1 67 (by decide)).1
theorem sn67 (S : mS B h) : mm_n h (B + 67) = 40 := (S.2.1 67 (by decide)).2
theorem sk68 (S : mS B h) : mm_kd h (B + 68) = 14 := (S.2.1 68 (by decide)).1
theorem sn68 (S : mS B h) : mm_n h (B + 68) = 40 := (S.2.1 68 (by decide)).2
theorem sk69 (S : mS B h) : mm_kd h (B + 69) = 14 := (S.2.1 69 (by decide)).1
theorem sn69 (S : mS B h) : mm_n h (B + 69) = 40 := (S.2.1 69 (by decide)).2
theorem sk70 (S : mS B h) : mm_kd h (B + 70) = 14 := (S.2.1 70 (by decide)).1
theorem sn70 (S : mS B h) : mm_n h (B + 70) = 40 := (S.2.1 70 (by decide)).2
theorem sk71 (S : mS B h) : mm_kd h (B + 71) = 14 := (S.2.1 71 (by decide)).1
theorem sn71 (S : mS B h) : mm_n h (B + 71) = 40 := (S.2.1 71 (by decide)).2
theorem sk72 (S : mS B h) : mm_kd h (B + 72) = 14 := (S.2.1 72 (by decide)).1
theorem sn72 (S : mS B h) : mm_n h (B + 72) = 10 := (S.2.1 72 (by decide)).2
theorem sk73 (S : mS B h) : mm_kd h (B + 73) = 17 := (S.2.1 73 (by decide)).1
theorem sn73 (S : mS B h) : mm_n h (B + 73) = 40 := (S.2.1 73 (by decide)).2
theorem sk74 (S : mS B h) : mm_kd h (B + 74) = 14 := (S.2.1 74 (by decide)).1
theorem sn74 (S : mS B h) : mm_n h (B + 74) = 200 := (S.2.1 74 (by decide)).2
theorem sk75 (S : mS B h) : mm_kd h (B + 75) = 14 := (S.2.1 75 (by decide)).1
theorem sn75 (S : mS B h) : mm_n h (B + 75) = 200 := (S.2.1 75 (by decide)).2
theorem sk76 (S : mS B h) : mm_kd h (B + 76) = 14 := (S.2.1 76 (by decide)).1
theorem sn76 (S : mS B h) : mm_n h (B + 76) = 200 := (S.2.1 76 (by decide)).2
theorem sk77 (S : mS B h) : mm_kd h (B + 77) = 14 := (S.2.1 77 (by decide)).1
theorem sn77 (S : mS B h) : mm_n h (B + 77) = 200 := (S.2.1 77 (by decide)).2
theorem sk78 (S : mS B h) : mm_kd h (B + 78) = 14 := (S.2.1 78 (by decide)).1
theorem sn78 (S : mS B h) : mm_n h (B + 78) = 200 := (S.2.1 78 (by decide)).2
theorem sk79 (S : mS B h) : mm_kd h (B + 79) = 16 := (S.2.1 79 (by decide)).1
theorem sn79 (S : mS B h) : mm_n h (B + 79) = 400 := (S.2.1 79 (by decide)).2
theorem sk80 (S : mS B h) : mm_kd h (B + 80) = 14 := (S.2.1 80 (by decide)).1
theorem sn80 (S : mS B h) : mm_n h (B + 80) = 30 := (S.2.1 80 (by decide)).2
theorem sk81 (S : mS B h) : mm_kd h (B + 81) = 14 := (S.2.1 81 (by decide)).1
theorem sn81 (S : mS B h) : mm_n h (B + 81) = 30 := (S.2.1 81 (by decide)).2
theorem sk82 (S : mS B h) : mm_kd h (B + 82) = 14 := (S.2.1 82 (by decide)).1
theorem sn82 (S : mS B h) : mm_n h (B + 82) = 30 := (S.2.1 82 (by decide)).2
theorem sk83 (S : mS B h) : mm_kd h (B + 83) = 14 := (S.2.1 83 (by decide)).1
theorem sn83 (S : mS B h) : mm_n h (B + 83) = 30 := (S.2.1 83 (by decide)).2
theorem sk84 (S : mS B h) : mm_kd h (B + 84) = 14 := (S.2.1 84 (by decide)).1
theorem sn84 (S : mS B h) : mm_n h (B + 84) = 300 := (S.2.1 84 (by decide)).2
theorem sk85 (S : mS B h) : mm_kd h (B + 85) = 14 := (S.2.1 85 (by decide)).1
theorem sn85 (S : mS B h) : mm_n h (B + 85) = 300 := (S.2.1 85 (by decide)).2
theorem sk86 (S : mS B h) : mm_kd h (B + 86) = 14 := (S.2.1 86 (by decide)).1
theorem sn86 (S : mS B h) : mm_n h (B + 86) = 300 := (S.2.1 86 (by decide)).2
theorem sk87 (S : mS B h) : mm_kd h (B + 87) = 14 := (S.2.1 87 (by decide)).1
theorem sn87 (S : mS B h) : mm_n h (B + 87) = 12000 := (S.2.1 87 (by decide)).2
theorem sk88 (S : mS B h) : mm_kd h (B + 88) = 14 := (S.2.1 88 (by decide)).1
theorem sn88 (S : mS B h) : mm_n h (B + 88) = 12000 := (S.2.1 88 (by decide)).2
theorem sk89 (S : mS B h) : mm_kd h (B + 89) = 14 := (S.2.1 89 (by decide)).1
theorem sn89 (S : mS B h) : mm_n h (B + 89) = 400 := (S.2.1 89 (by decide)).2
theorem sk90 (S : mS B h) : mm_kd h (B + 90) = 15 := (S.2.1 90 (by decide)).1
theorem sn90 (S : mS B h) : mm_n h (B + 90) = 400 := (S.2.1 90 (by decide)).2
theorem sk91 (S : mS B h) : mm_kd h (B + 91) = 15 := (S.2.1 91 (by decide)).1
theorem sn91 (S : mS B h) : mm_n h (B + 91) = 14 := (S.2.1 91 (by decide)).2
theorem sk92 (S : mS B h) : mm_kd h (B + 92) = 14 := (S.2.1 92 (by decide)).1
theorem sn92 (S : mS B h) : mm_n h (B + 92) = 20 := (S.2.1 92 (by decide)).2
theorem sk93 (S : mS B h) : mm_kd h (B + 93) = 14 := (S.2.1 93 (by decide)).1
theorem sn93 (S : mS B h) : mm_n h (B + 93) = 20 := (S.2.1 93 (by decide)).2
theorem sk94 (S : mS B h) : mm_kd h (B + 94) = 14 := (S.2.1 94 (by decide)).1
theorem sn94 (S : mS B h) : mm_n h (B + 94) = 20 := (S.2.1 94 (by decide)).2
theorem sk95 (S : mS B h) : mm_kd h (B + 95) = 14 := (S.2.1 95 (by decide)).1
theorem sn95 (S : mS B h) : mm_n h (B + 95) = 20 := (S.2.1 95 (by decide)).2
theorem sk96 (S : mS B h) : mm_kd h (B + 96) = 14 := (S.2.1 96 (by decide)).1
theorem sn96 (S : mS B h) : mm_n h (B + 96) = 300 := (S.2.1 96 (by decide)).2
theorem sk97 (S : mS B h) : mm_kd h (B + 97) = 14 := (S.2.1 97 (by decide)).1
theorem sn97 (S : mS B h) : mm_n h (B + 97) = 300 := (S.2.1 97 (by decide)).2
theorem sk98 (S : mS B h) : mm_kd h (B + 98) = 14 := (S.2.1 98 (by decide)).1
theorem sn98 (S : mS B h) : mm_n h (B + 98) = 300 := (S.2.1 98 (by decide)).2
theorem sk99 (S : mS B h) : mm_kd h (B + 99) = 14 := (S.2.1 99 (by decide)).1
theorem sn99 (S : mS B h) : mm_n h (B + 99) = 300 := (S.2.1 99 (by decide)).2
theorem sk100 (S : mS B h) : mm_kd h (B + 100) = 14 := (S.2.1 100 (by decide)).1
theorem sn100 (S : mS B h) : mm_n h (B + 100) = 300 := (S.2.1 100 (by decide)).2
theorem sk101 (S : mS B h) : mm_kd h (B + 101) = 14 := (S.2.1 101 (by decide)).1
theorem sn101 (S : mS B h) : mm_n h (B + 101) = 300 := (S.2.1 101 (by decide)).2
theorem sk102 (S : mS B h) : mm_kd h (B + 102) = 14 := (S.2.1 102 (by decide)).1
theorem sn102 (S : mS B h) : mm_n h (B + 102) = 300 := (S.2.1 102 (by decide)).2
theorem sk103 (S : mS B h) : mm_kd h (B + 103) = 14 := (S.2.1 103 (by decide)).1
theorem sn103 (S : mS B h) : mm_n h (B + 103) = 300 := (S.2.1 103 (by decide)).2
theorem sk104 (S : mS B h) : mm_kd h (B + 104) = 14 := (S.2.1 104 (by decide)).1
theorem sn104 (S : mS B h) : mm_n h (B + 104) = 300 := (S.2.1 104 (by decide)).2
theorem sk105 (S : mS B h) : mm_kd h (B + 105) = 14 := (S.2.1 105 (by decide)).1
theorem sn105 (S : mS B h) : mm_n h (B + 105) = 300 := (S.2.1 105 (by decide)).2
theorem sk106 (S : mS B h) : mm_kd h (B + 106) = 14 := (S.2.1 106 (by decide)).1
theorem sn106 (S : mS B h) : mm_n h (B + 106) = 300 := (S.2.1 106 (by decide)).2
theorem sk107 (S : mS B h) : mm_kd h (B + 107) = 14 := (S.2.1 107 (by decide)).1
theorem sn107 (S : mS B h) : mm_n h (B + 107) = 900 := (S.2.1 107 (by decide)).2
theorem sk108 (S : mS B h) : mm_kd h (B + 108) = 14 := (S.2.1 108 (by decide)).1
theorem sn108 (S : mS B h) : mm_n h (B + 108) = 900 := (S.2.1 108 (by decide)).2
theorem sk109 (S : mS B h) : mm_kd h (B + 109) = 14 := (S.2.1 109 (by decide)).1
theorem sn109 (S : mS B h) : mm_n h (B + 109) = 900 := (S.2.1 109 (by decide)).2
theorem sk110 (S : mS B h) : mm_kd h (B + 110) = 14 := (S.2.1 110 (by decide)).1
theorem sn110 (S : mS B h) : mm_n h (B + 110) = 900 := (S.2.1 110 (by decide)).2
theorem sk111 (S : mS B h) : mm_kd h (B + 111) = 14 := (S.2.1 111 (by decide)).1
theorem sn111 (S : mS B h) : mm_n h (B + 111) = 100 := (S.2.1 111 (by decide)).2
theorem sk112 (S : mS B h) : mm_kd h (B + 112) = 14 := (S.2.1 112 (by decide)).1
theorem sn112 (S : mS B h) : mm_n h (B + 112) = 100 := (S.2.1 112 (by decide)).2
theorem sk113 (S : mS B h) : mm_kd h (B + 113) = 14 := (S.2.1 113 (by decide)).1
theorem sn113 (S : mS B h) : mm_n h (B + 113) = 100 := (S.2.1 113 (by decide)).2
theorem sk114 (S : mS B h) : mm_kd h (B + 114) = 14 := (S.2.1 114 (by decide)).1
theorem sn114 (S : mS B h) : mm_n h (B + 114) = 100 := (S.2.1 114 (by decide)).2
theorem sk115 (S : mS B h) : mm_kd h (B + 115) = 14 := (S.2.1 115 (by decide)).1
theorem sn115 (S : mS B h) : mm_n h (B + 115) = 100 := (S.2.1 115 (by decide)).2
theorem sk116 (S : mS B h) : mm_kd h (B + 116) = 14 := (S.2.1 116 (by decide)).1
theorem sn116 (S : mS B h) : mm_n h (B + 116) = 8 := (S.2.1 116 (by decide)).2
theorem sk117 (S : mS B h) : mm_kd h (B + 117) = 14 := (S.2.1 117 (by decide)).1
theorem sn117 (S : mS B h) : mm_n h (B + 117) = 20 := (S.2.1 117 (by decide)).2
theorem sk118 (S : mS B h) : mm_kd h (B + 118) = 14 := (S.2.1 118 (by decide)).1
theorem sn118 (S : mS B h) : mm_n h (B + 118) = 20 := (S.2.1 118 (by decide)).2
theorem sk119 (S : mS B h) : mm_kd h (B + 119) = 14 := (S.2.1 119 (by decide)).1
theorem sn119 (S : mS B h) : mm_n h (B + 119) = 20 := (S.2.1 119 (by decide)).2
theorem sk120 (S : mS B h) : mm_kd h (B + 120) = 14 := (S.2.1 120 (by decide)).1
theorem sn120 (S : mS B h) : mm_n h (B + 120) = 20 := (S.2.1 120 (by decide)).2
theorem sk121 (S : mS B h) : mm_kd h (B + 121) = 14 := (S.2.1 121 (by decide)).1
theorem sn121 (S : mS B h) : mm_n h (B + 121) = 200 := (S.2.1 121 (by decide)).2
theorem sk122 (S : mS B h) : mm_kd h (B + 122) = 14 := (S.2.1 122 (by decide)).1
theorem sn122 (S : mS B h) : mm_n h (B + 122) = 200 := (S.2.1 122 (by decide)).2
theorem sk123 (S : mS B h) : mm_kd h (B + 123) = 14 := (S.2.1 123 (by decide)).1
theorem sn123 (S : mS B h) : mm_n h (B + 123) = 200 := (S.2.1 123 (by decide)).2
theorem sk124 (S : mS B h) : mm_kd h (B + 124) = 14 := (S.2.1 124 (by decide)).1
theorem sn124 (S : mS B h) : mm_n h (B + 124) = 200 := (S.2.1 124 (by decide)).2
theorem sk125 (S : mS B h) : mm_kd h (B + 125) = 14 := (S.2.1 125 (by decide)).1
theorem sn125 (S : mS B h) : mm_n h (B + 125) = 200 := (S.2.1 125 (by decide)).2
theorem sk126 (S : mS B h) : mm_kd h (B + 126) = 17 := (S.2.1 126 (by decide)).1
theorem sn126 (S : mS B h) : mm_n h (B + 126) = 800 := (S.2.1 126 (by decide)).2
theorem sk127 (S : mS B h) : mm_kd h (B + 127) = 14 := (S.2.1 127 (by decide)).1
theorem sn127 (S : mS B h) : mm_n h (B + 127) = 5 := (S.2.1 127 (by decide)).2
theorem sk128 (S : mS B h) : mm_kd h (B + 128) = 14 := (S.2.1 128 (by decide)).1
theorem sn128 (S : mS B h) : mm_n h (B + 128) = 5 := (S.2.1 128 (by decide)).2
theorem sk129 (S : mS B h) : mm_kd h (B + 129) = 14 := (S.2.1 129 (by decide)).1
theorem sn129 (S : mS B h) : mm_n h (B + 129) = 4 := (S.2.1 129 (by decide)).2
theorem sk130 (S : mS B h) : mm_kd h (B + 130) = 14 := (S.2.1 130 (by decide)).1
theorem sn130 (S : mS B h) : mm_n h (B + 130) = 5 := (S.2.1 130 (by decide)).2
theorem sk131 (S : mS B h) : mm_kd h (B + 131) = 14 := (S.2.1 131 (by decide)).1
theorem sn131 (S : mS B h) : mm_n h (B + 131) = 5 := (S.2.1 131 (by decide)).2
theorem sk132 (S : mS B h) : mm_kd h (B + 132) = 17 := (S.2.1 132 (by decide)).1
theorem sn132 (S : mS B h) : mm_n h (B + 132) = 20 := (S.2.1 132 (by decide)).2
theorem sk133 (S : mS B h) : mm_kd h (B + 133) = 17 := (S.2.1 133 (by decide)).1
theorem sn133 (S : mS B h) : mm_n h (B + 133) = 300 := (S.2.1 133 (by decide)).2
theorem sk134 (S : mS B h) : mm_kd h (B + 134) = 15 := (S.2.1 134 (by decide)).1
theorem sn134 (S : mS B h) : mm_n h (B + 134) = 25 := (S.2.1 134 (by decide)).2
theorem sk135 (S : mS B h) : mm_kd h (B + 135) = 15 := (S.2.1 135 (by decide)).1
theorem sn135 (S : mS B h) : mm_n h (B + 135) = 25 := (S.2.1 135 (by decide)).2
theorem sk136 (S : mS B h) : mm_kd h (B + 136) = 15 := (S.2.1 136 (by decide)).1
theorem sn136 (S : mS B h) : mm_n h (B + 136) = 5 := (S.2.1 136 (by decide)).2
theorem sk137 (S : mS B h) : mm_kd h (B + 137) = 14 := (S.2.1 137 (by decide)).1
theorem sn137 (S : mS B h) : mm_n h (B + 137) = 8 := (S.2.1 137 (by decide)).2
theorem sk138 (S : mS B h) : mm_kd h (B + 138) = 14 := (S.2.1 138 (by decide)).1
theorem sn138 (S : mS B h) : mm_n h (B + 138) = 8 := (S.2.1 138 (by decide)).2
theorem sk139 (S : mS B h) : mm_kd h (B + 139) = 14 := (S.2.1 139 (by decide)).1
theorem sn139 (S : mS B h) : mm_n h (B + 139) = 8 := (S.2.1 139 (by decide)).2
theorem sk140 (S : mS B h) : mm_kd h (B + 140) = 14 := (S.2.1 140 (by decide)).1
theorem sn140 (S : mS B h) : mm_n h (B + 140) = 256 := (S.2.1 140 (by decide)).2
theorem sk141 (S : mS B h) : mm_kd h (B + 141) = 14 := (S.2.1 141 (by decide)).1
theorem sn141 (S : mS B h) : mm_n h (B + 141) = 2 := (S.2.1 141 (by decide)).2
theorem sk142 (S : mS B h) : mm_kd h (B + 142) = 14 := (S.2.1 142 (by decide)).1
theorem sn142 (S : mS B h) : mm_n h (B + 142) = 20 := (S.2.1 142 (by decide)).2
theorem sk143 (S : mS B h) : mm_kd h (B + 143) = 14 := (S.2.1 143 (by decide)).1
theorem sn143 (S : mS B h) : mm_n h (B + 143) = 20 := (S.2.1 143 (by decide)).2
theorem sk144 (S : mS B h) : mm_kd h (B + 144) = 14 := (S.2.1 144 (by decide)).1
theorem sn144 (S : mS B h) : mm_n h (B + 144) = 20 := (S.2.1 144 (by decide)).2
theorem sk145 (S : mS B h) : mm_kd h (B + 145) = 14 := (S.2.1 145 (by decide)).1
theorem sn145 (S : mS B h) : mm_n h (B + 145) = 10 := (S.2.1 145 (by decide)).2
theorem sk146 (S : mS B h) : mm_kd h (B + 146) = 15 := (S.2.1 146 (by decide)).1
theorem sn146 (S : mS B h) : mm_n h (B + 146) = 11264 := (S.2.1 146 (by decide)).2
theorem sr0_0 (S : mS B h) : mm_r h B 0 = some (B + 1) := S.2.2 0 (by decide)
theorem sr0_1 (S : mS B h) : mm_r h B 1 = some (B + 2) := S.2.2 1 (by decide)
theorem sr0_2 (S : mS B h) : mm_r h B 2 = some (B + 3) := S.2.2 2 (by decide)
theorem sr0_3 (S : mS B h) : mm_r h B 3 = some (B + 4) := S.2.2 3 (by decide)
theorem sr0_4 (S : mS B h) : mm_r h B 4 = some (B + 5) := S.2.2 4 (by decide)
theorem sr0_5 (S : mS B h) : mm_r h B 5 = some (B + 13) := S.2.2 5 (by decide)
theorem sr0_6 (S : mS B h) : mm_r h B 6 = some (B + 17) := S.2.2 6 (by decide)
theorem sr0_7 (S : mS B h) : mm_r h B 7 = some (B + 23) := S.2.2 7 (by decide)
theorem sr0_8 (S : mS B h) : mm_r h B 8 = some (B + 37) := S.2.2 8 (by decide)
theorem sr0_9 (S : mS B h) : mm_r h B 9 = some (B + 47) := S.2.2 9 (by decide)
theorem sr0_10 (S : mS B h) : mm_r h B 10 = some (B + 52) := S.2.2 10 (by decide)
theorem sr5_0 (S : mS B h) : mm_r h (B + 5) 0 = some (B + 6) := S.2.2 11 (by decide)
theorem sr5_2 (S : mS B h) : mm_r h (B + 5) 2 = some (B + 7) := S.2.2 12 (by decide)
theorem sr5_3 (S : mS B h) : mm_r h (B + 5) 3 = some (B + 8) := S.2.2 13 (by decide)
theorem sr5_4 (S : mS B h) : mm_r h (B + 5) 4 = some (B + 9) := S.2.2 14 (by decide)
theorem sr5_9 (S : mS B h) : mm_r h (B + 5) 9 = some (B + 10) := S.2.2 15 (by decide)
theorem sr5_11 (S : mS B h) : mm_r h (B + 5) 11 = some (B + 11) := S.2.2 16 (by decide)
theorem sr5_12 (S : mS B h) : mm_r h (B + 5) 12 = some (B + 12) := S.2.2 17 (by decide)
theorem sr13_0 (S : mS B h) : mm_r h (B + 13) 0 = some (B + 14) := S.2.2 18 (by decide)
theorem sr13_1 (S : mS B h) : mm_r h (B + 13) 1 = some (B + 15) := S.2.2 19 (by decide)
theorem sr13_2 (S : mS B h) : mm_r h (B + 13) 2 = some (B + 16) := S.2.2 20 (by decide)
theorem sr17_0 (S : mS B h) : mm_r h (B + 17) 0 = some (B + 18) := S.2.2 21 (by decide)
theorem sr17_1 (S : mS B h) : mm_r h (B + 17) 1 = some (B + 19) := S.2.2 22 (by decide)
theorem sr17_2 (S : mS B h) : mm_r h (B + 17) 2 = some (B + 20) := S.2.2 23 (by decide)
theorem sr17_3 (S : mS B h) : mm_r h (B + 17) 3 = some (B + 21) := S.2.2 24 (by decide)
theorem sr17_4 (S : mS B h) : mm_r h (B + 17) 4 = some (B + 22) := S.2.2 25 (by decide)
theorem sr23_0 (S : mS B h) : mm_r h (B + 23) 0 = some (B + 24) := S.2.2 26 (by decide)
theorem sr23_1 (S : mS B h) : mm_r h (B + 23) 1 = some (B + 25) := S.2.2 27 (by decide)
theorem sr23_2 (S : mS B h) : mm_r h (B + 23) 2 = some (B + 26) := S.2.2 28 (by decide)
theorem sr23_3 (S : mS B h) : mm_r h (B + 23) 3 = some (B + 27) := S.2.2 29 (by decide)
theorem sr23_5 (S : mS B h) : mm_r h (B + 23) 5 = some (B + 28) := S.2.2 30 (by decide)
theorem sr23_6 (S : mS B h) : mm_r h (B + 23) 6 = some (B + 29) := S.2.2 31 (by decide)
theorem sr23_7 (S : mS B h) : mm_r h (B + 23) 7 = some (B + 30) := S.2.2 32 (by decide)
theorem sr23_8 (S : mS B h) : mm_r h (B + 23) 8 = some (B + 31) := S.2.2 33 (by decide)
theorem sr23_9 (S : mS B h) : mm_r h (B + 23) 9 = some (B + 32) := S.2.2 34 (by decide)
theorem sr23_11 (S : mS B h) : mm_r h (B + 23) 11 = some (B + 33) := S.2.2 35 (by decide)
theorem sr23_12 (S : mS B h) : mm_r h (B + 23) 12 = some (B + 34) := S.2.2 36 (by decide)
theorem sr23_13 (S : mS B h) : mm_r h (B + 23) 13 = some (B + 35) := S.2.2 37 (by decide)
theorem sr23_14 (S : mS B h) : mm_r h (B + 23) 14 = some (B + 36) := S.2.2 38 (by decide)
theorem sr37_0 (S : mS B h) : mm_r h (B + 37) 0 = some (B + 38) := S.2.2 39 (by decide)
theorem sr37_1 (S : mS B h) : mm_r h (B + 37) 1 = some (B + 39) := S.2.2 40 (by decide)
theorem sr37_3 (S : mS B h) : mm_r h (B + 37) 3 = some (B + 40) := S.2.2 41 (by decide)
theorem sr37_4 (S : mS B h) : mm_r h (B + 37) 4 = some (B + 41) := S.2.2 42 (by decide)
theorem sr37_6 (S : mS B h) : mm_r h (B + 37) 6 = some (B + 42) := S.2.2 43 (by decide)
theorem sr37_7 (S : mS B h) : mm_r h (B + 37) 7 = some (B + 43) := S.2.2 44 (by decide)
theorem sr37_8 (S : mS B h) : mm_r h (B + 37) 8 = some (B + 44) := S.2.2 45 (by decide)
theorem sr37_9 (S : mS B h) : mm_r h (B + 37) 9 = some (B + 45) := S.2.2 46 (by decide)
theorem sr37_10 (S : mS B h) : mm_r h (B + 37) 10 = some (B + 46) := S.2.2 47 (by decide)
theorem sr47_0 (S : mS B h) : mm_r h (B + 47) 0 = some (B + 48) := S.2.2 48 (by decide)
theorem sr47_1 (S : mS B h) : mm_r h (B + 47) 1 = some (B + 49) := S.2.2 49 (by decide)
theorem sr47_2 (S : mS B h) : mm_r h (B + 47) 2 = some (B + 50) := S.2.2 50 (by decide)
theorem sr47_4 (S : mS B h) : mm_r h (B + 47) 4 = some (B + 51) := S.2.2 51 (by decide)
theorem sr52_0 (S : mS B h) : mm_r h (B + 52) 0 = some (B + 53) := S.2.2 52 (by decide)
theorem sr52_1 (S : mS B h) : mm_r h (B + 52) 1 = some (B + 54) := S.2.2 53 (by decide)
theorem sr52_2 (S : mS B h) : mm_r h (B + 52) 2 = some (B + 57) := S.2.2 54 (by decide)
theorem sr52_3 (S : mS B h) : mm_r h (B + 52) 3 = some (B + 60) := S.2.2 55 (by decide)
theorem sr52_4 (S : mS B h) : mm_r h (B + 52) 4 = some (B + 63) := S.2.2 56 (by decide)
theorem sr52_8 (S : mS B h) : mm_r h (B + 52) 8 = some (B + 64) := S.2.2 57 (by decide)
theorem sr54_0 (S : mS B h) : mm_r h (B + 54) 0 = some (B + 55) := S.2.2 58 (by decide)
theorem sr54_1 (S : mS B h) : mm_r h (B + 54) 1 = some (B + 56) := S.2.2 59 (by decide)
theorem sr57_0 (S : mS B h) : mm_r h (B + 57) 0 = some (B + 58) := S.2.2 60 (by decide)
theorem sr57_1 (S : mS B h) : mm_r h (B + 57) 1 = some (B + 59) := S.2.2 61 (by decide)
theorem sr60_0 (S : mS B h) : mm_r h (B + 60) 0 = some (B + 61) := S.2.2 62 (by decide)
theorem sr60_1 (S : mS B h) : mm_r h (B + 60) 1 = some (B + 62) := S.2.2 63 (by decide)
theorem sr66_3 (S : mS B h) : mm_r h (B + 66) 3 = some (B + 67) := S.2.2 64 (by decide)
theorem sr66_4 (S : mS B h) : mm_r h (B + 66) 4 = some (B + 68) := S.2.2 65 (by decide)
theorem sr66_5 (S : mS B h) : mm_r h (B + 66) 5 = some (B + 69) := S.2.2 66 (by decide)
theorem sr66_6 (S : mS B h) : mm_r h (B + 66) 6 = some (B + 70) := S.2.2 67 (by decide)
theorem sr66_7 (S : mS B h) : mm_r h (B + 66) 7 = some (B + 71) := S.2.2 68 (by decide)
theorem sr66_8 (S : mS B h) : mm_r h (B + 66) 8 = some (B + 72) := S.2.2 69 (by decide)
theorem sr66_9 (S : mS B h) : mm_r h (B + 66) 9 = some (B + 73) := S.2.2 70 (by decide)
theorem sr66_11 (S : mS B h) : mm_r h (B + 66) 11 = some (B + 74) := S.2.2 71 (by decide)
theorem sr66_12 (S : mS B h) : mm_r h (B + 66) 12 = some (B + 75) := S.2.2 72 (by decide)
theorem sr66_13 (S : mS B h) : mm_r h (B + 66) 13 = some (B + 76) := S.2.2 73 (by decide)
theorem sr66_14 (S : mS B h) : mm_r h (B + 66) 14 = some (B + 77) := S.2.2 74 (by decide)
theorem sr66_15 (S : mS B h) : mm_r h (B + 66) 15 = some (B + 78) := S.2.2 75 (by decide)
theorem sr66_16 (S : mS B h) : mm_r h (B + 66) 16 = some (B + 79) := S.2.2 76 (by decide)
theorem sr66_24 (S : mS B h) : mm_r h (B + 66) 24 = some (B + 80) := S.2.2 77 (by decide)
theorem sr66_25 (S : mS B h) : mm_r h (B + 66) 25 = some (B + 81) := S.2.2 78 (by decide)
theorem sr66_26 (S : mS B h) : mm_r h (B + 66) 26 = some (B + 82) := S.2.2 79 (by decide)
theorem sr66_27 (S : mS B h) : mm_r h (B + 66) 27 = some (B + 83) := S.2.2 80 (by decide)
theorem sr66_28 (S : mS B h) : mm_r h (B + 66) 28 = some (B + 84) := S.2.2 81 (by decide)
theorem sr66_29 (S : mS B h) : mm_r h (B + 66) 29 = some (B + 85) := S.2.2 82 (by decide)
theorem sr66_30 (S : mS B h) : mm_r h (B + 66) 30 = some (B + 86) := S.2.2 83 (by decide)
theorem sr66_31 (S : mS B h) : mm_r h (B + 66) 31 = some (B + 87) := S.2.2 84 (by decide)
theorem sr66_32 (S : mS B h) : mm_r h (B + 66) 32 = some (B + 88) := S.2.2 85 (by decide)
theorem sr66_35 (S : mS B h) : mm_r h (B + 66) 35 = some (B + 89) := S.2.2 86 (by decide)
theorem sr66_36 (S : mS B h) : mm_r h (B + 66) 36 = some (B + 90) := S.2.2 87 (by decide)
theorem sr66_37 (S : mS B h) : mm_r h (B + 66) 37 = some (B + 91) := S.2.2 88 (by decide)
theorem sr66_39 (S : mS B h) : mm_r h (B + 66) 39 = some (B + 92) := S.2.2 89 (by decide)
theorem sr66_40 (S : mS B h) : mm_r h (B + 66) 40 = some (B + 93) := S.2.2 90 (by decide)
theorem sr66_41 (S : mS B h) : mm_r h (B + 66) 41 = some (B + 94) := S.2.2 91 (by decide)
theorem sr66_42 (S : mS B h) : mm_r h (B + 66) 42 = some (B + 95) := S.2.2 92 (by decide)
theorem sr66_44 (S : mS B h) : mm_r h (B + 66) 44 = some (B + 96) := S.2.2 93 (by decide)
theorem sr66_45 (S : mS B h) : mm_r h (B + 66) 45 = some (B + 97) := S.2.2 94 (by decide)
theorem sr66_46 (S : mS B h) : mm_r h (B + 66) 46 = some (B + 98) := S.2.2 95 (by decide)
theorem sr66_47 (S : mS B h) : mm_r h (B + 66) 47 = some (B + 99) := S.2.2 96 (by decide)
theorem sr66_48 (S : mS B h) : mm_r h (B + 66) 48 = some (B + 100) := S.2.2 97 (by decide)
theorem sr66_49 (S : mS B h) : mm_r h (B + 66) 49 = some (B + 101) := S.2.2 98 (by decide)
theorem sr66_50 (S : mS B h) : mm_r h (B + 66) 50 = some (B + 102) := S.2.2 99 (by decide)
theorem sr66_51 (S : mS B h) : mm_r h (B + 66) 51 = some (B + 103) := S.2.2 100 (by decide)
theorem sr66_52 (S : mS B h) : mm_r h (B + 66) 52 = some (B + 104) := S.2.2 101 (by decide)
theorem sr66_53 (S : mS B h) : mm_r h (B + 66) 53 = some (B + 105) := S.2.2 102 (by decide)
theorem sr66_54 (S : mS B h) : mm_r h (B + 66) 54 = some (B + 106) := S.2.2 103 (by decide)
theorem sr66_55 (S : mS B h) : mm_r h (B + 66) 55 = some (B + 107) := S.2.2 104 (by decide)
theorem sr66_56 (S : mS B h) : mm_r h (B + 66) 56 = some (B + 108) := S.2.2 105 (by decide)
theorem sr66_57 (S : mS B h) : mm_r h (B + 66) 57 = some (B + 109) := S.2.2 106 (by decide)
theorem sr66_58 (S : mS B h) : mm_r h (B + 66) 58 = some (B + 110) := S.2.2 107 (by decide)
theorem sr66_62 (S : mS B h) : mm_r h (B + 66) 62 = some (B + 111) := S.2.2 108 (by decide)
theorem sr66_63 (S : mS B h) : mm_r h (B + 66) 63 = some (B + 112) := S.2.2 109 (by decide)
theorem sr66_64 (S : mS B h) : mm_r h (B + 66) 64 = some (B + 113) := S.2.2 110 (by decide)
theorem sr66_65 (S : mS B h) : mm_r h (B + 66) 65 = some (B + 114) := S.2.2 111 (by decide)
theorem sr66_66 (S : mS B h) : mm_r h (B + 66) 66 = some (B + 115) := S.2.2 112 (by decide)
theorem sr66_75 (S : mS B h) : mm_r h (B + 66) 75 = some (B + 116) := S.2.2 113 (by decide)
theorem sr66_78 (S : mS B h) : mm_r h (B + 66) 78 = some (B + 117) := S.2.2 114 (by decide)
theorem sr66_79 (S : mS B h) : mm_r h (B + 66) 79 = some (B + 118) := S.2.2 115 (by decide)
theorem sr66_80 (S : mS B h) : mm_r h (B + 66) 80 = some (B + 119) := S.2.2 116 (by decide)
theorem sr66_81 (S : mS B h) : mm_r h (B + 66) 81 = some (B + 120) := S.2.2 117 (by decide)
theorem sr66_82 (S : mS B h) : mm_r h (B + 66) 82 = some (B + 121) := S.2.2 118 (by decide)
theorem sr66_83 (S : mS B h) : mm_r h (B + 66) 83 = some (B + 122) := S.2.2 119 (by decide)
theorem sr66_84 (S : mS B h) : mm_r h (B + 66) 84 = some (B + 123) := S.2.2 120 (by decide)
theorem sr66_85 (S : mS B h) : mm_r h (B + 66) 85 = some (B + 124) := S.2.2 121 (by decide)
theorem sr66_86 (S : mS B h) : mm_r h (B + 66) 86 = some (B + 125) := S.2.2 122 (by decide)
theorem sr66_87 (S : mS B h) : mm_r h (B + 66) 87 = some (B + 126) := S.2.2 123 (by decide)
theorem sr66_92 (S : mS B h) : mm_r h (B + 66) 92 = some (B + 127) := S.2.2 124 (by decide)
theorem sr66_93 (S : mS B h) : mm_r h (B + 66) 93 = some (B + 128) := S.2.2 125 (by decide)
theorem sr66_94 (S : mS B h) : mm_r h (B + 66) 94 = some (B + 129) := S.2.2 126 (by decide)
theorem sr66_95 (S : mS B h) : mm_r h (B + 66) 95 = some (B + 130) := S.2.2 127 (by decide)
theorem sr66_96 (S : mS B h) : mm_r h (B + 66) 96 = some (B + 131) := S.2.2 128 (by decide)
theorem sr66_97 (S : mS B h) : mm_r h (B + 66) 97 = some (B + 132) := S.2.2 129 (by decide)
theorem sr66_98 (S : mS B h) : mm_r h (B + 66) 98 = some (B + 133) := S.2.2 130 (by decide)
theorem sr66_99 (S : mS B h) : mm_r h (B + 66) 99 = some (B + 134) := S.2.2 131 (by decide)
theorem sr66_100 (S : mS B h) : mm_r h (B + 66) 100 = some (B + 135) := S.2.2 132 (by decide)
theorem sr66_101 (S : mS B h) : mm_r h (B + 66) 101 = some (B + 136) := S.2.2 133 (by decide)
theorem sr66_104 (S : mS B h) : mm_r h (B + 66) 104 = some (B + 137) := S.2.2 134 (by decide)
theorem sr66_105 (S : mS B h) : mm_r h (B + 66) 105 = some (B + 138) := S.2.2 135 (by decide)
theorem sr66_106 (S : mS B h) : mm_r h (B + 66) 106 = some (B + 139) := S.2.2 136 (by decide)
theorem sr66_107 (S : mS B h) : mm_r h (B + 66) 107 = some (B + 140) := S.2.2 137 (by decide)
theorem sr66_109 (S : mS B h) : mm_r h (B + 66) 109 = some (B + 141) := S.2.2 138 (by decide)
theorem sr66_110 (S : mS B h) : mm_r h (B + 66) 110 = some (B + 142) := S.2.2 139 (by decide)
theorem sr66_111 (S : mS B h) : mm_r h (B + 66) 111 = some (B + 143) := S.2.2 140 (by decide)
theorem sr66_112 (S : mS B h) : mm_r h (B + 66) 112 = some (B + 144) := S.2.2 141 (by decide)
theorem sr66_113 (S : mS B h) : mm_r h (B + 66) 113 = some (B + 145) := S.2.2 142 (by decide)
theorem sr66_116 (S : mS B h) : mm_r h (B + 66) 116 = some (B + 146) := S.2.2 143 (by decide)
end SS
section SB
variable {B : Nat} {h : mm_H}
theorem sb_xbase (S : mS B h) : mm_kd h B = 12 ∧ mm_kd h (B + 1) = 0 ∧ mm_kd h (B + 2) = 0 ∧ mm_kd h (B + 3) = 0 ∧ mm_kd h (B + 4) = 14 ∧ mm_n h (B + 4) = 10 ∧ mm_r h B 0 = some (B + 1) ∧ mm_r h B 1 = some (B + 2) ∧ mm_r h B 2 = some (B + 3) ∧ mm_r h B 3 = some (B + 4) := ⟨sk0 S, sk1 S, sk2 S, sk3 S, sk4 S, sn4 S, sr0_0 S, sr0_1 S, sr0_2 S, sr0_3 S⟩
theorem sb_xreader (S : mS B h) : mm_kd h B = 12 ∧ mm_kd h (B + 5) = 6 ∧ mm_kd h (B + 6) = 16 ∧ mm_n h (B + 6) = 400 ∧ mm_kd h (B + 7) = 14 ∧ mm_n h (B + 7) = 401 ∧ mm_kd h (B + 8) = 14 ∧ mm_n h (B + 8) = 401 ∧ mm_kd h (B + 9) = 14 ∧ mm_n h (B + 9) = 401 ∧ mm_kd h (B + 10) = 14 ∧ mm_n h (B + 10) = 400 ∧ mm_kd h (B + 11) = 14 ∧ mm_n h (B + 11) = 10 ∧ mm_kd h (B + 12) = 14 ∧ mm_n h (B + 12) = 11 ∧ mm_r h B 4 = some (B + 5) ∧ mm_r h (B + 5) 0 = some (B + 6) ∧ mm_r h (B + 5) 2 = some (B + 7) ∧ mm_r h (B + 5) 3 = some (B + 8) ∧ mm_r h (B + 5) 4 = some (B + 9) ∧ mm_r h (B + 5) 9 = some (B + 10) ∧ mm_r h (B + 5) 11 = some (B + 11) ∧ mm_r h (B + 5) 12 = some (B + 12) := ⟨sk0 S, sk5 S, sk6 S, sn6 S, sk7 S, sn7 S, sk8 S, sn8 S, sk9 S, sn9 S, sk10 S, sn10 S, sk11 S, sn11 S, sk12 S, sn12 S, sr0_4 S, sr5_0 S, sr5_2 S, sr5_3 S, sr5_4 S, sr5_9 S, sr5_11 S, sr5_12 S⟩
theorem sb_xcourt (S : mS B h) : mm_kd h B = 12 ∧ mm_kd h (B + 13) = 3 ∧ mm_kd h (B + 14) = 0 ∧ mm_kd h (B + 15) = 15 ∧ mm_n h (B + 15) = 14 ∧ mm_kd h (B + 16) = 15 ∧ mm_n h (B + 16) = 80 ∧ mm_r h B 5 = some (B + 13) ∧ mm_r h (B + 13) 0 = some (B + 14) ∧ mm_r h (B + 13) 1 = some (B + 15) ∧ mm_r h (B + 13) 2 = some (B + 16) := ⟨sk0 S, sk13 S, sk14 S, sk15 S, sn15 S, sk16 S, sn16 S, sr0_5 S, sr13_0 S, sr13_1 S, sr13_2 S⟩
theorem sb_xmeas (S : mS B h) : mm_kd h B = 12 ∧ mm_kd h (B + 17) = 9 ∧ mm_kd h (B + 18) = 14 ∧ mm_n h (B + 18) = 100 ∧ mm_kd h (B + 19) = 14 ∧ mm_n h (B + 19) = 100 ∧ mm_kd h (B + 20) = 14 ∧ mm_n h (B + 20) = 100 ∧ mm_kd h (B + 21) = 14 ∧ mm_n h (B + 21) = 100 ∧ mm_kd h (B + 22) = 14 ∧ mm_n h (B + 22) = 100 ∧ mm_r h B 6 = some (B + 17) ∧ mm_r h (B + 17) 0 = some (B + 18) ∧ mm_r h (B + 17) 1 = some (B + 19) ∧ mm_r h (B + 17) 2 = some (B + 20) ∧ mm_r h (B + 17) 3 = some (B + 21) ∧ mm_r h (B + 17) 4 = some (B + 22) := ⟨sk0 S, sk17 S, sk18 S, sn18 S, sk19 S, sn19 S, sk20 S, sn20 S, sk21 S, sn21 S, sk22 S, sn22 S, sr0_6 S, sr17_0 S, sr17_1 S, sr17_2 S, sr17_3 S, sr17_4 S⟩
theorem sb_xsea (S : mS B h) : mm_kd h B = 12 ∧ mm_kd h (B + 23) = 11 ∧ mm_kd h (B + 24) = 14 ∧ mm_n h (B + 24) = 20 ∧ mm_kd h (B + 25) = 14 ∧ mm_n h (B + 25) = 20 ∧ mm_kd h (B + 26) = 14 ∧ mm_n h (B + 26) = 20 ∧ mm_kd h (B + 27) = 14 ∧ mm_n h (B + 27) = 20 ∧ mm_kd h (B + 28) = 14 ∧ mm_n h (B + 28) = 200 ∧ mm_kd h (B + 29) = 14 ∧ mm_n h (B + 29) = 200 ∧ mm_kd h (B + 30) = 14 ∧ mm_n h (B + 30) = 200 ∧ mm_kd h (B + 31) = 14 ∧ mm_n h (B + 31) = 200 ∧ mm_kd h (B + 32) = 14 ∧ mm_n h (B + 32) = 200 ∧ mm_kd h (B + 33) = 14 ∧ mm_n h (B + 33) = 20 ∧ mm_kd h (B + 34) = 14 ∧ mm_n h (B + 34) = 20 ∧ mm_kd h (B + 35) = 14 ∧ mm_n h (B + 35) = 20 ∧ mm_kd h (B + 36) = 14 ∧ mm_n h (B + 36) = 20 ∧ mm_r h B 7 = some (B + 23) ∧ mm_r h (B + 23) 0 = some (B + 24) ∧ mm_r h (B + 23) 1 = some (B + 25) ∧ mm_r h (B + 23) 2 = some (B + 26) ∧ mm_r h (B + 23) 3 = some (B + 27) ∧ mm_r h (B + 23) 5 = some (B + 28) ∧ mm_r h (B + 23) 6 = some (B + 29) ∧ mm_r h (B + 23) 7 = some (B + 30) ∧ mm_r h (B + 23) 8 = some (B + 31) ∧ mm_r h (B + 23) 9 = some (B + 32) ∧ mm_r h (B + 23) 11 = some (B + 33) ∧ mm_r h (B + 23) 12 = some (B + 34) ∧ mm_r h (B + 23) 13 = some (B + 35) ∧ mm_r h (B + 23) 14 = some (B + 36) := ⟨sk0 S, sk23 S, sk24 S, sn24 S, sk25 S, sn25 S, sk26 S, sn26 S, sk27 S, sn27 S, sk28 S, sn28 S, sk29 S, sn29 S, sk30 S, sn30 S, sk31 S, sn31 S, sk32 S, sn32 S, sk33 S, sn33 S, sk34 S, sn34 S, sk35 S, sn35 S, sk36 S, sn36 S, sr0_7 S, sr23_0 S, sr23_1 S, sr23_2 S, sr23_3 S, sr23_5 S, sr23_6 S, sr23_7 S, sr23_8 S, sr23_9 S, sr23_11 S, sr23_12 S, sr23_13 S, sr23_14 S⟩
theorem sb_xplan (S : mS B h) : mm_kd h B = 12 ∧ mm_kd h (B + 37) = 10 ∧ mm_kd h (B + 38) = 14 ∧ mm_n h (B + 38) = 5 ∧ mm_kd h (B + 39) = 14 ∧ mm_n h (B + 39) = 5 ∧ mm_kd h (B + 40) = 14 ∧ mm_n h (B + 40) = 4 ∧ mm_kd h (B + 41) = 14 ∧ mm_n h (B + 41) = 4 ∧ mm_kd h (B + 42) = 15 ∧ mm_n h (B + 42) = 25 ∧ mm_kd h (B + 43) = 15 ∧ mm_n h (B + 43) = 25 ∧ mm_kd h (B + 44) = 15 ∧ mm_n h (B + 44) = 6 ∧ mm_kd h (B + 45) = 14 ∧ mm_n h (B + 45) = 5 ∧ mm_kd h (B + 46) = 14 ∧ mm_n h (B + 46) = 5 ∧ mm_r h B 8 = some (B + 37) ∧ mm_r h (B + 37) 0 = some (B + 38) ∧ mm_r h (B + 37) 1 = some (B + 39) ∧ mm_r h (B + 37) 3 = some (B + 40) ∧ mm_r h (B + 37) 4 = some (B + 41) ∧ mm_r h (B + 37) 6 = some (B + 42) ∧ mm_r h (B + 37) 7 = some (B + 43) ∧ mm_r h (B + 37) 8 = some (B + 44) ∧ mm_r h (B + 37) 9 = some (B + 45) ∧ mm_r h (B + 37) 10 = some (B + 46) := ⟨sk0 S, sk37 S, sk38 S, sn38 S, sk39 S, sn39 S, sk40 S, sn40 S, sk41 S, sn41 S, sk42 S, sn42 S, sk43 S, sn43 S, sk44 S, sn44 S, sk45 S, sn45 S, sk46 S, sn46 S, sr0_8 S, sr37_0 S, sr37_1 S, sr37_3 S, sr37_4 S, sr37_6 S, sr37_7 S, sr37_8 S, sr37_9 S, sr37_10 S⟩
theorem sb_xhands (S : mS B h) : mm_kd h B = 12 ∧ mm_kd h (B + 47) = 4 ∧ mm_kd h (B + 48) = 14 ∧ mm_n h (B + 48) = 8 ∧ mm_kd h (B + 49) = 14 ∧ mm_n h (B + 49) = 8 ∧ mm_kd h (B + 50) = 14 ∧ mm_n h (B + 50) = 8 ∧ mm_kd h (B + 51) = 14 ∧ mm_n h (B + 51) = 256 ∧ mm_r h B 9 = some (B + 47) ∧ mm_r h (B + 47) 0 = some (B + 48) ∧ mm_r h (B + 47) 1 = some (B + 49) ∧ mm_r h (B + 47) 2 = some (B + 50) ∧ mm_r h (B + 47) 4 = some (B + 51) := ⟨sk0 S, sk47 S, sk48 S, sn48 S, sk49 S, sn49 S, sk50 S, sn50 S, sk51 S, sn51 S, sr0_9 S, sr47_0 S, sr47_1 S, sr47_2 S, sr47_4 S⟩
theorem sb_xbooks (S : mS B h) : mm_kd h B = 12 ∧ mm_kd h (B + 52) = 2 ∧ mm_kd h (B + 53) = 14 ∧ mm_n h (B + 53) = 2 ∧ mm_kd h (B + 54) = 19 ∧ mm_n h (B + 54) = 2 ∧ mm_kd h (B + 55) = 14 ∧ mm_n h (B + 55) = 10 ∧ mm_kd h (B + 56) = 14 ∧ mm_n h (B + 56) = 10 ∧ mm_kd h (B + 57) = 19 ∧ mm_n h (B + 57) = 2 ∧ mm_kd h (B + 58) = 14 ∧ mm_n h (B + 58) = 10 ∧ mm_kd h (B + 59) = 14 ∧ mm_n h (B + 59) = 10 ∧ mm_kd h (B + 60) = 19 ∧ mm_n h (B + 60) = 2 ∧ mm_kd h (B + 61) = 14 ∧ mm_n h (B + 61) = 10 ∧ mm_kd h (B + 62) = 14 ∧ mm_n h (B + 62) = 10 ∧ mm_kd h (B + 63) = 14 ∧ mm_n h (B + 63) = 10 ∧ mm_kd h (B + 64) = 14 ∧ mm_n h (B + 64) = 100 ∧ mm_r h B 10 = some (B + 52) ∧ mm_r h (B + 52) 0 = some (B + 53) ∧ mm_r h (B + 52) 1 = some (B + 54) ∧ mm_r h (B + 52) 2 = some (B + 57) ∧ mm_r h (B + 52) 3 = some (B + 60) ∧ mm_r h (B + 52) 4 = some (B + 63) ∧ mm_r h (B + 52) 8 = some (B + 64) ∧ mm_r h (B + 54) 0 = some (B + 55) ∧ mm_r h (B + 54) 1 = some (B + 56) ∧ mm_r h (B + 57) 0 = some (B + 58) ∧ mm_r h (B + 57) 1 = some (B + 59) ∧ mm_r h (B + 60) 0 = some (B + 61) ∧ mm_r h (B + 60) 1 = some (B + 62) := ⟨sk0 S, sk52 S, sk53 S, sn53 S, sk54 S, sn54 S, sk55 S, sn55 S, sk56 S, sn56 S, sk57 S, sn57 S, sk58 S, sn58 S, sk59 S, sn59 S, sk60 S, sn60 S, sk61 S, sn61 S, sk62 S, sn62 S, sk63 S, sn63 S, sk64 S, sn64 S, sr0_10 S, sr52_0 S, sr52_1 S, sr52_2 S, sr52_3 S, sr52_4 S, sr52_8 S, sr54_0 S, sr54_1 S, sr57_0 S, sr57_1 S, sr60_0 S, sr60_1 S⟩
theorem sb_ymen (S : mS B h) : mm_kd h (B + 66) = 13 ∧ mm_kd h (B + 67) = 14 ∧ mm_n h (B + 67) = 40 ∧ mm_kd h (B + 68) = 14 ∧ mm_n h (B + 68) = 40 ∧ mm_kd h (B + 69) = 14 ∧ mm_n h (B + 69) = 40 ∧ mm_kd h (B + 70) = 14 ∧ mm_n h (B + 70) = 40 ∧ mm_kd h (B + 71) = 14 ∧ mm_n h (B + 71) = 40 ∧ mm_kd h (B + 72) = 14 ∧ mm_n h (B + 72) = 10 ∧ mm_kd h (B + 73) = 17 ∧ mm_n h (B + 73) = 40 ∧ mm_r h (B + 66) 3 = some (B + 67) ∧ mm_r h (B + 66) 4 = some (B + 68) ∧ mm_r h (B + 66) 5 = some (B + 69) ∧ mm_r h (B + 66) 6 = some (B + 70) ∧ mm_r h (B + 66) 7 = some (B + 71) ∧ mm_r h (B + 66) 8 = some (B + 72) ∧ mm_r h (B + 66) 9 = some (B + 73) := ⟨sk66 S, sk67 S, sn67 S, sk68 S, sn68 S, sk69 S, sn69 S, sk70 S, sn70 S, sk71 S, sn71 S, sk72 S, sn72 S, sk73 S, sn73 S, sr66_3 S, sr66_4 S, sr66_5 S, sr66_6 S, sr66_7 S, sr66_8 S, sr66_9 S⟩
theorem sb_ylots (S : mS B h) : mm_kd h (B + 66) = 13 ∧ mm_kd h (B + 74) = 14 ∧ mm_n h (B + 74) = 200 ∧ mm_kd h (B + 75) = 14 ∧ mm_n h (B + 75) = 200 ∧ mm_kd h (B + 76) = 14 ∧ mm_n h (B + 76) = 200 ∧ mm_kd h (B + 77) = 14 ∧ mm_n h (B + 77) = 200 ∧ mm_kd h (B + 78) = 14 ∧ mm_n h (B + 78) = 200 ∧ mm_r h (B + 66) 11 = some (B + 74) ∧ mm_r h (B + 66) 12 = some (B + 75) ∧ mm_r h (B + 66) 13 = some (B + 76) ∧ mm_r h (B + 66) 14 = some (B + 77) ∧ mm_r h (B + 66) 15 = some (B + 78) := ⟨sk66 S, sk74 S, sn74 S, sk75 S, sn75 S, sk76 S, sn76 S, sk77 S, sn77 S, sk78 S, sn78 S, sr66_11 S, sr66_12 S, sr66_13 S, sr66_14 S, sr66_15 S⟩
theorem sb_ylaw (S : mS B h) : mm_kd h (B + 66) = 13 ∧ mm_kd h (B + 79) = 16 ∧ mm_n h (B + 79) = 400 ∧ mm_kd h (B + 80) = 14 ∧ mm_n h (B + 80) = 30 ∧ mm_kd h (B + 81) = 14 ∧ mm_n h (B + 81) = 30 ∧ mm_kd h (B + 82) = 14 ∧ mm_n h (B + 82) = 30 ∧ mm_kd h (B + 83) = 14 ∧ mm_n h (B + 83) = 30 ∧ mm_kd h (B + 84) = 14 ∧ mm_n h (B + 84) = 300 ∧ mm_kd h (B + 85) = 14 ∧ mm_n h (B + 85) = 300 ∧ mm_kd h (B + 86) = 14 ∧ mm_n h (B + 86) = 300 ∧ mm_kd h (B + 87) = 14 ∧ mm_n h (B + 87) = 12000 ∧ mm_kd h (B + 88) = 14 ∧ mm_n h (B + 88) = 12000 ∧ mm_kd h (B + 89) = 14 ∧ mm_n h (B + 89) = 400 ∧ mm_kd h (B + 90) = 15 ∧ mm_n h (B + 90) = 400 ∧ mm_kd h (B + 91) = 15 ∧ mm_n h (B + 91) = 14 ∧ mm_r h (B + 66) 16 = some (B + 79) ∧ mm_r h (B + 66) 24 = some (B + 80) ∧ mm_r h (B + 66) 25 = some (B + 81) ∧ mm_r h (B + 66) 26 = some (B + 82) ∧ mm_r h (B + 66) 27 = some (B + 83) ∧ mm_r h (B + 66) 28 = some (B + 84) ∧ mm_r h (B + 66) 29 = some (B + 85) ∧ mm_r h (B + 66) 30 = some (B + 86) ∧ mm_r h (B + 66) 31 = some (B + 87) ∧ mm_r h (B + 66) 32 = some (B + 88) ∧ mm_r h (B + 66) 35 = some (B + 89) ∧ mm_r h (B + 66) 36 = some (B + 90) ∧ mm_r h (B + 66) 37 = some (B + 91) := ⟨sk66 S, sk79 S, sn79 S, sk80 S, sn80 S, sk81 S, sn81 S, sk82 S, sn82 S, sk83 S, sn83 S, sk84 S, sn84 S, sk85 S, sn85 S, sk86 S, sn86 S, sk87 S, sn87 S, sk88 S, sn88 S, sk89 S, sn89 S, sk90 S, sn90 S, sk91 S, sn91 S, sr66_16 S, sr66_24 S, sr66_25 S, sr66_26 S, sr66_27 S, sr66_28 S, sr66_29 S, sr66_30 S, sr66_31 S, sr66_32 S, sr66_35 S, sr66_36 S, sr66_37 S⟩
theorem sb_yports (S : mS B h) : mm_kd h (B + 66) = 13 ∧ mm_kd h (B + 92) = 14 ∧ mm_n h (B + 92) = 20 ∧ mm_kd h (B + 93) = 14 ∧ mm_n h (B + 93) = 20 ∧ mm_kd h (B + 94) = 14 ∧ mm_n h (B + 94) = 20 ∧ mm_kd h (B + 95) = 14 ∧ mm_n h (B + 95) = 20 ∧ mm_r h (B + 66) 39 = some (B + 92) ∧ mm_r h (B + 66) 40 = some (B + 93) ∧ mm_r h (B + 66) 41 = some (B + 94) ∧ mm_r h (B + 66) 42 = some (B + 95) := ⟨sk66 S, sk92 S, sn92 S, sk93 S, sn93 S, sk94 S, sn94 S, sk95 S, sn95 S, sr66_39 S, sr66_40 S, sr66_41 S, sr66_42 S⟩
theorem sb_ybarg (S : mS B h) : mm_kd h (B + 66) = 13 ∧ mm_kd h (B + 96) = 14 ∧ mm_n h (B + 96) = 300 ∧ mm_kd h (B + 97) = 14 ∧ mm_n h (B + 97) = 300 ∧ mm_kd h (B + 98) = 14 ∧ mm_n h (B + 98) = 300 ∧ mm_kd h (B + 99) = 14 ∧ mm_n h (B + 99) = 300 ∧ mm_kd h (B + 100) = 14 ∧ mm_n h (B + 100) = 300 ∧ mm_kd h (B + 101) = 14 ∧ mm_n h (B + 101) = 300 ∧ mm_kd h (B + 102) = 14 ∧ mm_n h (B + 102) = 300 ∧ mm_kd h (B + 103) = 14 ∧ mm_n h (B + 103) = 300 ∧ mm_kd h (B + 104) = 14 ∧ mm_n h (B + 104) = 300 ∧ mm_kd h (B + 105) = 14 ∧ mm_n h (B + 105) = 300 ∧ mm_kd h (B + 106) = 14 ∧ mm_n h (B + 106) = 300 ∧ mm_kd h (B + 107) = 14 ∧ mm_n h (B + 107) = 900 ∧ mm_kd h (B + 108) = 14 ∧ mm_n h (B + 108) = 900 ∧ mm_kd h (B + 109) = 14 ∧ mm_n h (B + 109) = 900 ∧ mm_kd h (B + 110) = 14 ∧ mm_n h (B + 110) = 900 ∧ mm_r h (B + 66) 44 = some (B + 96) ∧ mm_r h (B + 66) 45 = some (B + 97) ∧ mm_r h (B + 66) 46 = some (B + 98) ∧ mm_r h (B + 66) 47 = some (B + 99) ∧ mm_r h (B + 66) 48 = some (B + 100) ∧ mm_r h (B + 66) 49 = some (B + 101) ∧ mm_r h (B + 66) 50 = some (B + 102) ∧ mm_r h (B + 66) 51 = some (B + 103) ∧ mm_r h (B + 66) 52 = some (B + 104) ∧ mm_r h (B + 66) 53 = some (B + 105) ∧ mm_r h (B + 66) 54 = some (B + 106) ∧ mm_r h (B + 66) 55 = some (B + 107) ∧ mm_r h (B + 66) 56 = some (B + 108) ∧ mm_r h (B + 66) 57 = some (B + 109) ∧ mm_r h (B + 66) 58 = some (B + 110) := ⟨sk66 S, sk96 S, sn96 S, sk97 S, sn97 S, sk98 S, sn98 S, sk99 S, sn99 S, sk100 S, sn100 S, sk101 S, sn101 S, sk102 S, sn102 S, sk103 S, sn103 S, sk104 S, sn104 S, sk105 S, sn105 S, sk106 S, sn106 S, sk107 S, sn107 S, sk108 S, sn108 S, sk109 S, sn109 S, sk110 S, sn110 S, sr66_44 S, sr66_45 S, sr66_46 S, sr66_47 S, sr66_48 S, sr66_49 S, sr66_50 S, sr66_51 S, sr66_52 S, sr66_53 S, sr66_54 S, sr66_55 S, sr66_56 S, sr66_57 S, sr66_58 S⟩
theorem sb_yweigh (S : mS B h) : mm_kd h (B + 66) = 13 ∧ mm_kd h (B + 111) = 14 ∧ mm_n h (B + 111) = 100 ∧ mm_kd h (B + 112) = 14 ∧ mm_n h (B + 112) = 100 ∧ mm_kd h (B + 113) = 14 ∧ mm_n h (B + 113) = 100 ∧ mm_kd h (B + 114) = 14 ∧ mm_n h (B + 114) = 100 ∧ mm_kd h (B + 115) = 14 ∧ mm_n h (B + 115) = 100 ∧ mm_r h (B + 66) 62 = some (B + 111) ∧ mm_r h (B + 66) 63 = some (B + 112) ∧ mm_r h (B + 66) 64 = some (B + 113) ∧ mm_r h (B + 66) 65 = some (B + 114) ∧ mm_r h (B + 66) 66 = some (B + 115) := ⟨sk66 S, sk111 S, sn111 S, sk112 S, sn112 S, sk113 S, sn113 S, sk114 S, sn114 S, sk115 S, sn115 S, sr66_62 S, sr66_63 S, sr66_64 S, sr66_65 S, sr66_66 S⟩
theorem sb_yorder (S : mS B h) : mm_kd h (B + 66) = 13 ∧ mm_kd h (B + 116) = 14 ∧ mm_n h (B + 116) = 8 ∧ mm_r h (B + 66) 75 = some (B + 116) := ⟨sk66 S, sk116 S, sn116 S, sr66_75 S⟩
theorem sb_yships (S : mS B h) : mm_kd h (B + 66) = 13 ∧ mm_kd h (B + 117) = 14 ∧ mm_n h (B + 117) = 20 ∧ mm_kd h (B + 118) = 14 ∧ mm_n h (B + 118) = 20 ∧ mm_kd h (B + 119) = 14 ∧ mm_n h (B + 119) = 20 ∧ mm_kd h (B + 120) = 14 ∧ mm_n h (B + 120) = 20 ∧ mm_kd h (B + 121) = 14 ∧ mm_n h (B + 121) = 200 ∧ mm_kd h (B + 122) = 14 ∧ mm_n h (B + 122) = 200 ∧ mm_kd h (B + 123) = 14 ∧ mm_n h (B + 123) = 200 ∧ mm_kd h (B + 124) = 14 ∧ mm_n h (B + 124) = 200 ∧ mm_kd h (B + 125) = 14 ∧ mm_n h (B + 125) = 200 ∧ mm_kd h (B + 126) = 17 ∧ mm_n h (B + 126) = 800 ∧ mm_r h (B + 66) 78 = some (B + 117) ∧ mm_r h (B + 66) 79 = some (B + 118) ∧ mm_r h (B + 66) 80 = some (B + 119) ∧ mm_r h (B + 66) 81 = some (B + 120) ∧ mm_r h (B + 66) 82 = some (B + 121) ∧ mm_r h (B + 66) 83 = some (B + 122) ∧ mm_r h (B + 66) 84 = some (B + 123) ∧ mm_r h (B + 66) 85 = some (B + 124) ∧ mm_r h (B + 66) 86 = some (B + 125) ∧ mm_r h (B + 66) 87 = some (B + 126) := ⟨sk66 S, sk117 S, sn117 S, sk118 S, sn118 S, sk119 S, sn119 S, sk120 S, sn120 S, sk121 S, sn121 S, sk122 S, sn122 S, sk123 S, sn123 S, sk124 S, sn124 S, sk125 S, sn125 S, sk126 S, sn126 S, sr66_78 S, sr66_79 S, sr66_80 S, sr66_81 S, sr66_82 S, sr66_83 S, sr66_84 S, sr66_85 S, sr66_86 S, sr66_87 S⟩
theorem sb_yplan (S : mS B h) : mm_kd h (B + 66) = 13 ∧ mm_kd h (B + 127) = 14 ∧ mm_n h (B + 127) = 5 ∧ mm_kd h (B + 128) = 14 ∧ mm_n h (B + 128) = 5 ∧ mm_kd h (B + 129) = 14 ∧ mm_n h (B + 129) = 4 ∧ mm_kd h (B + 130) = 14 ∧ mm_n h (B + 130) = 5 ∧ mm_kd h (B + 131) = 14 ∧ mm_n h (B + 131) = 5 ∧ mm_kd h (B + 132) = 17 ∧ mm_n h (B + 132) = 20 ∧ mm_kd h (B + 133) = 17 ∧ mm_n h (B + 133) = 300 ∧ mm_kd h (B + 134) = 15 ∧ mm_n h (B + 134) = 25 ∧ mm_kd h (B + 135) = 15 ∧ mm_n h (B + 135) = 25 ∧ mm_kd h (B + 136) = 15 ∧ mm_n h (B + 136) = 5 ∧ mm_r h (B + 66) 92 = some (B + 127) ∧ mm_r h (B + 66) 93 = some (B + 128) ∧ mm_r h (B + 66) 94 = some (B + 129) ∧ mm_r h (B + 66) 95 = some (B + 130) ∧ mm_r h (B + 66) 96 = some (B + 131) ∧ mm_r h (B + 66) 97 = some (B + 132) ∧ mm_r h (B + 66) 98 = some (B + 133) ∧ mm_r h (B + 66) 99 = some (B + 134) ∧ mm_r h (B + 66) 100 = some (B + 135) ∧ mm_r h (B + 66) 101 = some (B + 136) := ⟨sk66 S, sk127 S, sn127 S, sk128 S, sn128 S, sk129 S, sn129 S, sk130 S, sn130 S, sk131 S, sn131 S, sk132 S, sn132 S, sk133 S, sn133 S, sk134 S, sn134 S, sk135 S, sn135 S, sk136 S, sn136 S, sr66_92 S, sr66_93 S, sr66_94 S, sr66_95 S, sr66_96 S, sr66_97 S, sr66_98 S, sr66_99 S, sr66_100 S, sr66_101 S⟩
theorem sb_yhands (S : mS B h) : mm_kd h (B + 66) = 13 ∧ mm_kd h (B + 137) = 14 ∧ mm_n h (B + 137) = 8 ∧ mm_kd h (B + 138) = 14 ∧ mm_n h (B + 138) = 8 ∧ mm_kd h (B + 139) = 14 ∧ mm_n h (B + 139) = 8 ∧ mm_kd h (B + 140) = 14 ∧ mm_n h (B + 140) = 256 ∧ mm_r h (B + 66) 104 = some (B + 137) ∧ mm_r h (B + 66) 105 = some (B + 138) ∧ mm_r h (B + 66) 106 = some (B + 139) ∧ mm_r h (B + 66) 107 = some (B + 140) := ⟨sk66 S, sk137 S, sn137 S, sk138 S, sn138 S, sk139 S, sn139 S, sk140 S, sn140 S, sr66_104 S, sr66_105 S, sr66_106 S, sr66_107 S⟩
theorem sb_ybooks (S : mS B h) : mm_kd h (B + 66) = 13 ∧ mm_kd h (B + 141) = 14 ∧ mm_n h (B + 141) = 2 ∧ mm_kd h (B + 142) = 14 ∧ mm_n h (B + 142) = 20 ∧ mm_kd h (B + 143) = 14 ∧ mm_n h (B + 143) = 20 ∧ mm_kd h (B + 144) = 14 ∧ mm_n h (B + 144) = 20 ∧ mm_kd h (B + 145) = 14 ∧ mm_n h (B + 145) = 10 ∧ mm_kd h (B + 146) = 15 ∧ mm_n h (B + 146) = 11264 ∧ mm_r h (B + 66) 109 = some (B + 141) ∧ mm_r h (B + 66) 110 = some (B + 142) ∧ mm_r h (B + 66) 111 = some (B + 143) ∧ mm_r h (B + 66) 112 = some (B + 144) ∧ mm_r h (B + 66) 113 = some (B + 145) ∧ mm_r h (B + 66) 116 = some (B + 146) := ⟨sk66 S, sk141 S, sn141 S, sk142 S, sn142 S, sk143 S, sn143 S, sk144 S, sn144 S, sk145 S, sn145 S, sk146 S, sn146 S, sr66_109 S, sr66_110 S, sr66_111 S, sr66_112 S, sr66_113 S, sr66_116 S⟩
end SB
