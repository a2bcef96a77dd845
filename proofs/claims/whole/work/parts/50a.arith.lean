/-! steps by explicit equations (never by computation: the kernel would run the loops) -/
theorem jp_e {α β : Type} (k : α) (f : α → Option β) : jp k f = f k := Eq.trans (Eq.refl _) (Eq.refl _)
theorem bnd_e {α β : Type} (e : α) (k : α → Option β) : bnd e k = k e := Eq.trans (Eq.refl _) (Eq.refl _)
theorem cal1_e {A1 β : Type} (a1 : A1) (k : A1 → Option β) : cal1 (some a1) k = k a1 := Eq.trans (Eq.refl _) (Eq.refl _)
theorem cal2_e {A1 A2 β : Type} (a1 : A1) (a2 : A2) (k : A1 → A2 → Option β) : cal2 (some (a1, a2)) k = k a1 a2 := Eq.trans (Eq.refl _) (Eq.refl _)
theorem cal3_e {A1 A2 A3 β : Type} (a1 : A1) (a2 : A2) (a3 : A3) (k : A1 → A2 → A3 → Option β) : cal3 (some (a1, a2, a3)) k = k a1 a2 a3 := Eq.trans (Eq.refl _) (Eq.refl _)
theorem cal4_e {A1 A2 A3 A4 β : Type} (a1 : A1) (a2 : A2) (a3 : A3) (a4 : A4) (k : A1 → A2 → A3 → A4 → Option β) : cal4 (some (a1, a2, a3, a4)) k = k a1 a2 a3 a4 := Eq.trans (Eq.refl _) (Eq.refl _)
theorem cal5_e {A1 A2 A3 A4 A5 β : Type} (a1 : A1) (a2 : A2) (a3 : A3) (a4 : A4) (a5 : A5) (k : A1 → A2 → A3 → A4 → A5 → Option β) : cal5 (some (a1, a2, a3, a4, a5)) k = k a1 a2 a3 a4 a5 := Eq.trans (Eq.refl _) (Eq.refl _)
theorem cal6_e {A1 A2 A3 A4 A5 A6 β : Type} (a1 : A1) (a2 : A2) (a3 : A3) (a4 : A4) (a5 : A5) (a6 : A6) (k : A1 → A2 → A3 → A4 → A5 → A6 → Option β) : cal6 (some (a1, a2, a3, a4, a5, a6)) k = k a1 a2 a3 a4 a5 a6 := Eq.trans (Eq.refl _) (Eq.refl _)
theorem cal7_e {A1 A2 A3 A4 A5 A6 A7 β : Type} (a1 : A1) (a2 : A2) (a3 : A3) (a4 : A4) (a5 : A5) (a6 : A6) (a7 : A7) (k : A1 → A2 → A3 → A4 → A5 → A6 → A7 → Option β) : cal7 (some (a1, a2, a3, a4, a5, a6, a7)) k = k a1 a2 a3 a4 a5 a6 a7 := Eq.trans (Eq.refl _) (Eq.refl _)
theorem cal8_e {A1 A2 A3 A4 A5 A6 A7 A8 β : Type} (a1 : A1) (a2 : A2) (a3 : A3) (a4 : A4) (a5 : A5) (a6 : A6) (a7 : A7) (a8 : A8) (k : A1 → A2 → A3 → A4 → A5 → A6 → A7 → A8 → Option β) : cal8 (some (a1, a2, a3, a4, a5, a6, a7, a8)) k = k a1 a2 a3 a4 a5 a6 a7 a8 := Eq.trans (Eq.refl _) (Eq.refl _)
theorem cal9_e {A1 A2 A3 A4 A5 A6 A7 A8 A9 β : Type} (a1 : A1) (a2 : A2) (a3 : A3) (a4 : A4) (a5 : A5) (a6 : A6) (a7 : A7) (a8 : A8) (a9 : A9) (k : A1 → A2 → A3 → A4 → A5 → A6 → A7 → A8 → A9 → Option β) : cal9 (some (a1, a2, a3, a4, a5, a6, a7, a8, a9)) k = k a1 a2 a3 a4 a5 a6 a7 a8 a9 := Eq.trans (Eq.refl _) (Eq.refl _)
theorem cal10_e {A1 A2 A3 A4 A5 A6 A7 A8 A9 A10 β : Type} (a1 : A1) (a2 : A2) (a3 : A3) (a4 : A4) (a5 : A5) (a6 : A6) (a7 : A7) (a8 : A8) (a9 : A9) (a10 : A10) (k : A1 → A2 → A3 → A4 → A5 → A6 → A7 → A8 → A9 → A10 → Option β) : cal10 (some (a1, a2, a3, a4, a5, a6, a7, a8, a9, a10)) k = k a1 a2 a3 a4 a5 a6 a7 a8 a9 a10 := Eq.trans (Eq.refl _) (Eq.refl _)
theorem cal11_e {A1 A2 A3 A4 A5 A6 A7 A8 A9 A10 A11 β : Type} (a1 : A1) (a2 : A2) (a3 : A3) (a4 : A4) (a5 : A5) (a6 : A6) (a7 : A7) (a8 : A8) (a9 : A9) (a10 : A10) (a11 : A11) (k : A1 → A2 → A3 → A4 → A5 → A6 → A7 → A8 → A9 → A10 → A11 → Option β) : cal11 (some (a1, a2, a3, a4, a5, a6, a7, a8, a9, a10, a11)) k = k a1 a2 a3 a4 a5 a6 a7 a8 a9 a10 a11 := Eq.trans (Eq.refl _) (Eq.refl _)
theorem cal12_e {A1 A2 A3 A4 A5 A6 A7 A8 A9 A10 A11 A12 β : Type} (a1 : A1) (a2 : A2) (a3 : A3) (a4 : A4) (a5 : A5) (a6 : A6) (a7 : A7) (a8 : A8) (a9 : A9) (a10 : A10) (a11 : A11) (a12 : A12) (k : A1 → A2 → A3 → A4 → A5 → A6 → A7 → A8 → A9 → A10 → A11 → A12 → Option β) : cal12 (some (a1, a2, a3, a4, a5, a6, a7, a8, a9, a10, a11, a12)) k = k a1 a2 a3 a4 a5 a6 a7 a8 a9 a10 a11 a12 := Eq.trans (Eq.refl _) (Eq.refl _)
theorem cal13_e {A1 A2 A3 A4 A5 A6 A7 A8 A9 A10 A11 A12 A13 β : Type} (a1 : A1) (a2 : A2) (a3 : A3) (a4 : A4) (a5 : A5) (a6 : A6) (a7 : A7) (a8 : A8) (a9 : A9) (a10 : A10) (a11 : A11) (a12 : A12) (a13 : A13) (k : A1 → A2 → A3 → A4 → A5 → A6 → A7 → A8 → A9 → A10 → A11 → A12 → A13 → Option β) : cal13 (some (a1, a2, a3, a4, a5, a6, a7, a8, a9, a10, a11, a12, a13)) k = k a1 a2 a3 a4 a5 a6 a7 a8 a9 a10 a11 a12 a13 := Eq.trans (Eq.refl _) (Eq.refl _)
theorem cal14_e {A1 A2 A3 A4 A5 A6 A7 A8 A9 A10 A11 A12 A13 A14 β : Type} (a1 : A1) (a2 : A2) (a3 : A3) (a4 : A4) (a5 : A5) (a6 : A6) (a7 : A7) (a8 : A8) (a9 : A9) (a10 : A10) (a11 : A11) (a12 : A12) (a13 : A13) (a14 : A14) (k : A1 → A2 → A3 → A4 → A5 → A6 → A7 → A8 → A9 → A10 → A11 → A12 → A13 → A14 → Option β) : cal14 (some (a1, a2, a3, a4, a5, a6, a7, a8, a9, a10, a11, a12, a13, a14)) k = k a1 a2 a3 a4 a5 a6 a7 a8 a9 a10 a11 a12 a13 a14 := Eq.trans (Eq.refl _) (Eq.refl _)
theorem cal15_e {A1 A2 A3 A4 A5 A6 A7 A8 A9 A10 A11 A12 A13 A14 A15 β : Type} (a1 : A1) (a2 : A2) (a3 : A3) (a4 : A4) (a5 : A5) (a6 : A6) (a7 : A7) (a8 : A8) (a9 : A9) (a10 : A10) (a11 : A11) (a12 : A12) (a13 : A13) (a14 : A14) (a15 : A15) (k : A1 → A2 → A3 → A4 → A5 → A6 → A7 → A8 → A9 → A10 → A11 → A12 → A13 → A14 → A15 → Option β) : cal15 (some (a1, a2, a3, a4, a5, a6, a7, a8, a9, a10, a11, a12, a13, a14, a15)) k = k a1 a2 a3 a4 a5 a6 a7 a8 a9 a10 a11 a12 a13 a14 a15 := Eq.trans (Eq.refl _) (Eq.refl _)
theorem cal16_e {A1 A2 A3 A4 A5 A6 A7 A8 A9 A10 A11 A12 A13 A14 A15 A16 β : Type} (a1 : A1) (a2 : A2) (a3 : A3) (a4 : A4) (a5 : A5) (a6 : A6) (a7 : A7) (a8 : A8) (a9 : A9) (a10 : A10) (a11 : A11) (a12 : A12) (a13 : A13) (a14 : A14) (a15 : A15) (a16 : A16) (k : A1 → A2 → A3 → A4 → A5 → A6 → A7 → A8 → A9 → A10 → A11 → A12 → A13 → A14 → A15 → A16 → Option β) : cal16 (some (a1, a2, a3, a4, a5, a6, a7, a8, a9, a10, a11, a12, a13, a14, a15, a16)) k = k a1 a2 a3 a4 a5 a6 a7 a8 a9 a10 a11 a12 a13 a14 a15 a16 := Eq.trans (Eq.refl _) (Eq.refl _)
theorem cal17_e {A1 A2 A3 A4 A5 A6 A7 A8 A9 A10 A11 A12 A13 A14 A15 A16 A17 β : Type} (a1 : A1) (a2 : A2) (a3 : A3) (a4 : A4) (a5 : A5) (a6 : A6) (a7 : A7) (a8 : A8) (a9 : A9) (a10 : A10) (a11 : A11) (a12 : A12) (a13 : A13) (a14 : A14) (a15 : A15) (a16 : A16) (a17 : A17) (k : A1 → A2 → A3 → A4 → A5 → A6 → A7 → A8 → A9 → A10 → A11 → A12 → A13 → A14 → A15 → A16 → A17 → Option β) : cal17 (some (a1, a2, a3, a4, a5, a6, a7, a8, a9, a10, a11, a12, a13, a14, a15, a16, a17)) k = k a1 a2 a3 a4 a5 a6 a7 a8 a9 a10 a11 a12 a13 a14 a15 a16 a17 := Eq.trans (Eq.refl _) (Eq.refl _)
theorem cal18_e {A1 A2 A3 A4 A5 A6 A7 A8 A9 A10 A11 A12 A13 A14 A15 A16 A17 A18 β : Type} (a1 : A1) (a2 : A2) (a3 : A3) (a4 : A4) (a5 : A5) (a6 : A6) (a7 : A7) (a8 : A8) (a9 : A9) (a10 : A10) (a11 : A11) (a12 : A12) (a13 : A13) (a14 : A14) (a15 : A15) (a16 : A16) (a17 : A17) (a18 : A18) (k : A1 → A2 → A3 → A4 → A5 → A6 → A7 → A8 → A9 → A10 → A11 → A12 → A13 → A14 → A15 → A16 → A17 → A18 → Option β) : cal18 (some (a1, a2, a3, a4, a5, a6, a7, a8, a9, a10, a11, a12, a13, a14, a15, a16, a17, a18)) k = k a1 a2 a3 a4 a5 a6 a7 a8 a9 a10 a11 a12 a13 a14 a15 a16 a17 a18 := Eq.trans (Eq.refl _) (Eq.refl _)
theorem cal19_e {A1 A2 A3 A4 A5 A6 A7 A8 A9 A10 A11 A12 A13 A14 A15 A16 A17 A18 A19 β : Type} (a1 : A1) (a2 : A2) (a3 : A3) (a4 : A4) (a5 : A5) (a6 : A6) (a7 : A7) (a8 : A8) (a9 : A9) (a10 : A10) (a11 : A11) (a12 : A12) (a13 : A13) (a14 : A14) (a15 : A15) (a16 : A16) (a17 : A17) (a18 : A18) (a19 : A19) (k : A1 → A2 → A3 → A4 → A5 → A6 → A7 → A8 → A9 → A10 → A11 → A12 → A13 → A14 → A15 → A16 → A17 → A18 → A19 → Option β) : cal19 (some (a1, a2, a3, a4, a5, a6, a7, a8, a9, a10, a11, a12, a13, a14, a15, a16, a17, a18, a19)) k = k a1 a2 a3 a4 a5 a6 a7 a8 a9 a10 a11 a12 a13 a14 a15 a16 a17 a18 a19 := Eq.trans (Eq.refl _) (Eq.refl _)
theorem cal20_e {A1 A2 A3 A4 A5 A6 A7 A8 A9 A10 A11 A12 A13 A14 A15 A16 A17 A18 A19 A20 β : Type} (a1 : A1) (a2 : A2) (a3 : A3) (a4 : A4) (a5 : A5) (a6 : A6) (a7 : A7) (a8 : A8) (a9 : A9) (a10 : A10) (a11 : A11) (a12 : A12) (a13 : A13) (a14 : A14) (a15 : A15) (a16 : A16) (a17 : A17) (a18 : A18) (a19 : A19) (a20 : A20) (k : A1 → A2 → A3 → A4 → A5 → A6 → A7 → A8 → A9 → A10 → A11 → A12 → A13 → A14 → A15 → A16 → A17 → A18 → A19 → A20 → Option β) : cal20 (some (a1, a2, a3, a4, a5, a6, a7, a8, a9, a10, a11, a12, a13, a14, a15, a16, a17, a18, a19, a20)) k = k a1 a2 a3 a4 a5 a6 a7 a8 a9 a10 a11 a12 a13 a14 a15 a16 a17 a18 a19 a20 := Eq.trans (Eq.refl _) (Eq.refl _)
theorem cal21_e {A1 A2 A3 A4 A5 A6 A7 A8 A9 A10 A11 A12 A13 A14 A15 A16 A17 A18 A19 A20 A21 β : Type} (a1 : A1) (a2 : A2) (a3 : A3) (a4 : A4) (a5 : A5) (a6 : A6) (a7 : A7) (a8 : A8) (a9 : A9) (a10 : A10) (a11 : A11) (a12 : A12) (a13 : A13) (a14 : A14) (a15 : A15) (a16 : A16) (a17 : A17) (a18 : A18) (a19 : A19) (a20 : A20) (a21 : A21) (k : A1 → A2 → A3 → A4 → A5 → A6 → A7 → A8 → A9 → A10 → A11 → A12 → A13 → A14 → A15 → A16 → A17 → A18 → A19 → A20 → A21 → Option β) : cal21 (some (a1, a2, a3, a4, a5, a6, a7, a8, a9, a10, a11, a12, a13, a14, a15, a16, a17, a18, a19, a20, a21)) k = k a1 a2 a3 a4 a5 a6 a7 a8 a9 a10 a11 a12 a13 a14 a15 a16 a17 a18 a19 a20 a21 := Eq.trans (Eq.refl _) (Eq.refl _)
theorem cal22_e {A1 A2 A3 A4 A5 A6 A7 A8 A9 A10 A11 A12 A13 A14 A15 A16 A17 A18 A19 A20 A21 A22 β : Type} (a1 : A1) (a2 : A2) (a3 : A3) (a4 : A4) (a5 : A5) (a6 : A6) (a7 : A7) (a8 : A8) (a9 : A9) (a10 : A10) (a11 : A11) (a12 : A12) (a13 : A13) (a14 : A14) (a15 : A15) (a16 : A16) (a17 : A17) (a18 : A18) (a19 : A19) (a20 : A20) (a21 : A21) (a22 : A22) (k : A1 → A2 → A3 → A4 → A5 → A6 → A7 → A8 → A9 → A10 → A11 → A12 → A13 → A14 → A15 → A16 → A17 → A18 → A19 → A20 → A21 → A22 → Option β) : cal22 (some (a1, a2, a3, a4, a5, a6, a7, a8, a9, a10, a11, a12, a13, a14, a15, a16, a17, a18, a19, a20, a21, a22)) k = k a1 a2 a3 a4 a5 a6 a7 a8 a9 a10 a11 a12 a13 a14 a15 a16 a17 a18 a19 a20 a21 a22 := Eq.trans (Eq.refl _) (Eq.refl _)
theorem cal23_e {A1 A2 A3 A4 A5 A6 A7 A8 A9 A10 A11 A12 A13 A14 A15 A16 A17 A18 A19 A20 A21 A22 A23 β : Type} (a1 : A1) (a2 : A2) (a3 : A3) (a4 : A4) (a5 : A5) (a6 : A6) (a7 : A7) (a8 : A8) (a9 : A9) (a10 : A10) (a11 : A11) (a12 : A12) (a13 : A13) (a14 : A14) (a15 : A15) (a16 : A16) (a17 : A17) (a18 : A18) (a19 : A19) (a20 : A20) (a21 : A21) (a22 : A22) (a23 : A23) (k : A1 → A2 → A3 → A4 → A5 → A6 → A7 → A8 → A9 → A10 → A11 → A12 → A13 → A14 → A15 → A16 → A17 → A18 → A19 → A20 → A21 → A22 → A23 → Option β) : cal23 (some (a1, a2, a3, a4, a5, a6, a7, a8, a9, a10, a11, a12, a13, a14, a15, a16, a17, a18, a19, a20, a21, a22, a23)) k = k a1 a2 a3 a4 a5 a6 a7 a8 a9 a10 a11 a12 a13 a14 a15 a16 a17 a18 a19 a20 a21 a22 a23 := Eq.trans (Eq.refl _) (Eq.refl _)
theorem cal24_e {A1 A2 A3 A4 A5 A6 A7 A8 A9 A10 A11 A12 A13 A14 A15 A16 A17 A18 A19 A20 A21 A22 A23 A24 β : Type} (a1 : A1) (a2 : A2) (a3 : A3) (a4 : A4) (a5 : A5) (a6 : A6) (a7 : A7) (a8 : A8) (a9 : A9) (a10 : A10) (a11 : A11) (a12 : A12) (a13 : A13) (a14 : A14) (a15 : A15) (a16 : A16) (a17 : A17) (a18 : A18) (a19 : A19) (a20 : A20) (a21 : A21) (a22 : A22) (a23 : A23) (a24 : A24) (k : A1 → A2 → A3 → A4 → A5 → A6 → A7 → A8 → A9 → A10 → A11 → A12 → A13 → A14 → A15 → A16 → A17 → A18 → A19 → A20 → A21 → A22 → A23 → A24 → Option β) : cal24 (some (a1, a2, a3, a4, a5, a6, a7, a8, a9, a10, a11, a12, a13, a14, a15, a16, a17, a18, a19, a20, a21, a22, a23, a24)) k = k a1 a2 a3 a4 a5 a6 a7 a8 a9 a10 a11 a12 a13 a14 a15 a16 a17 a18 a19 a20 a21 a22 a23 a24 := Eq.trans (Eq.refl _) (Eq.refl _)
theorem cal25_e {A1 A2 A3 A4 A5 A6 A7 A8 A9 A10 A11 A12 A13 A14 A15 A16 A17 A18 A19 A20 A21 A22 A23 A24 A25 β : Type} (a1 : A1) (a2 : A2) (a3 : A3) (a4 : A4) (a5 : A5) (a6 : A6) (a7 : A7) (a8 : A8) (a9 : A9) (a10 : A10) (a11 : A11) (a12 : A12) (a13 : A13) (a14 : A14) (a15 : A15) (a16 : A16) (a17 : A17) (a18 : A18) (a19 : A19) (a20 : A20) (a21 : A21) (a22 : A22) (a23 : A23) (a24 : A24) (a25 : A25) (k : A1 → A2 → A3 → A4 → A5 → A6 → A7 → A8 → A9 → A10 → A11 → A12 → A13 → A14 → A15 → A16 → A17 → A18 → A19 → A20 → A21 → A22 → A23 → A24 → A25 → Option β) : cal25 (some (a1, a2, a3, a4, a5, a6, a7, a8, a9, a10, a11, a12, a13, a14, a15, a16, a17, a18, a19, a20, a21, a22, a23, a24, a25)) k = k a1 a2 a3 a4 a5 a6 a7 a8 a9 a10 a11 a12 a13 a14 a15 a16 a17 a18 a19 a20 a21 a22 a23 a24 a25 := Eq.trans (Eq.refl _) (Eq.refl _)
theorem cal26_e {A1 A2 A3 A4 A5 A6 A7 A8 A9 A10 A11 A12 A13 A14 A15 A16 A17 A18 A19 A20 A21 A22 A23 A24 A25 A26 β : Type} (a1 : A1) (a2 : A2) (a3 : A3) (a4 : A4) (a5 : A5) (a6 : A6) (a7 : A7) (a8 : A8) (a9 : A9) (a10 : A10) (a11 : A11) (a12 : A12) (a13 : A13) (a14 : A14) (a15 : A15) (a16 : A16) (a17 : A17) (a18 : A18) (a19 : A19) (a20 : A20) (a21 : A21) (a22 : A22) (a23 : A23) (a24 : A24) (a25 : A25) (a26 : A26) (k : A1 → A2 → A3 → A4 → A5 → A6 → A7 → A8 → A9 → A10 → A11 → A12 → A13 → A14 → A15 → A16 → A17 → A18 → A19 → A20 → A21 → A22 → A23 → A24 → A25 → A26 → Option β) : cal26 (some (a1, a2, a3, a4, a5, a6, a7, a8, a9, a10, a11, a12, a13, a14, a15, a16, a17, a18, a19, a20, a21, a22, a23, a24, a25, a26)) k = k a1 a2 a3 a4 a5 a6 a7 a8 a9 a10 a11 a12 a13 a14 a15 a16 a17 a18 a19 a20 a21 a22 a23 a24 a25 a26 := Eq.trans (Eq.refl _) (Eq.refl _)
theorem cal27_e {A1 A2 A3 A4 A5 A6 A7 A8 A9 A10 A11 A12 A13 A14 A15 A16 A17 A18 A19 A20 A21 A22 A23 A24 A25 A26 A27 β : Type} (a1 : A1) (a2 : A2) (a3 : A3) (a4 : A4) (a5 : A5) (a6 : A6) (a7 : A7) (a8 : A8) (a9 : A9) (a10 : A10) (a11 : A11) (a12 : A12) (a13 : A13) (a14 : A14) (a15 : A15) (a16 : A16) (a17 : A17) (a18 : A18) (a19 : A19) (a20 : A20) (a21 : A21) (a22 : A22) (a23 : A23) (a24 : A24) (a25 : A25) (a26 : A26) (a27 : A27) (k : A1 → A2 → A3 → A4 → A5 → A6 → A7 → A8 → A9 → A10 → A11 → A12 → A13 → A14 → A15 → A16 → A17 → A18 → A19 → A20 → A21 → A22 → A23 → A24 → A25 → A26 → A27 → Option β) : cal27 (some (a1, a2, a3, a4, a5, a6, a7, a8, a9, a10, a11, a12, a13, a14, a15, a16, a17, a18, a19, a20, a21, a22, a23, a24, a25, a26, a27)) k = k a1 a2 a3 a4 a5 a6 a7 a8 a9 a10 a11 a12 a13 a14 a15 a16 a17 a18 a19 a20 a21 a22 a23 a24 a25 a26 a27 := Eq.trans (Eq.refl _) (Eq.refl _)
theorem cal28_e {A1 A2 A3 A4 A5 A6 A7 A8 A9 A10 A11 A12 A13 A14 A15 A16 A17 A18 A19 A20 A21 A22 A23 A24 A25 A26 A27 A28 β : Type} (a1 : A1) (a2 : A2) (a3 : A3) (a4 : A4) (a5 : A5) (a6 : A6) (a7 : A7) (a8 : A8) (a9 : A9) (a10 : A10) (a11 : A11) (a12 : A12) (a13 : A13) (a14 : A14) (a15 : A15) (a16 : A16) (a17 : A17) (a18 : A18) (a19 : A19) (a20 : A20) (a21 : A21) (a22 : A22) (a23 : A23) (a24 : A24) (a25 : A25) (a26 : A26) (a27 : A27) (a28 : A28) (k : A1 → A2 → A3 → A4 → A5 → A6 → A7 → A8 → A9 → A10 → A11 → A12 → A13 → A14 → A15 → A16 → A17 → A18 → A19 → A20 → A21 → A22 → A23 → A24 → A25 → A26 → A27 → A28 → Option β) : cal28 (some (a1, a2, a3, a4, a5, a6, a7, a8, a9, a10, a11, a12, a13, a14, a15, a16, a17, a18, a19, a20, a21, a22, a23, a24, a25, a26, a27, a28)) k = k a1 a2 a3 a4 a5 a6 a7 a8 a9 a10 a11 a12 a13 a14 a15 a16 a17 a18 a19 a20 a21 a22 a23 a24 a25 a26 a27 a28 := Eq.trans (Eq.refl _) (Eq.refl _)
theorem cal29_e {A1 A2 A3 A4 A5 A6 A7 A8 A9 A10 A11 A12 A13 A14 A15 A16 A17 A18 A19 A20 A21 A22 A23 A24 A25 A26 A27 A28 A29 β : Type} (a1 : A1) (a2 : A2) (a3 : A3) (a4 : A4) (a5 : A5) (a6 : A6) (a7 : A7) (a8 : A8) (a9 : A9) (a10 : A10) (a11 : A11) (a12 : A12) (a13 : A13) (a14 : A14) (a15 : A15) (a16 : A16) (a17 : A17) (a18 : A18) (a19 : A19) (a20 : A20) (a21 : A21) (a22 : A22) (a23 : A23) (a24 : A24) (a25 : A25) (a26 : A26) (a27 : A27) (a28 : A28) (a29 : A29) (k : A1 → A2 → A3 → A4 → A5 → A6 → A7 → A8 → A9 → A10 → A11 → A12 → A13 → A14 → A15 → A16 → A17 → A18 → A19 → A20 → A21 → A22 → A23 → A24 → A25 → A26 → A27 → A28 → A29 → Option β) : cal29 (some (a1, a2, a3, a4, a5, a6, a7, a8, a9, a10, a11, a12, a13, a14, a15, a16, a17, a18, a19, a20, a21, a22, a23, a24, a25, a26, a27, a28, a29)) k = k a1 a2 a3 a4 a5 a6 a7 a8 a9 a10 a11 a12 a13 a14 a15 a16 a17 a18 a19 a20 a21 a22 a23 a24 a25 a26 a27 a28 a29 := Eq.trans (Eq.refl _) (Eq.refl _)
theorem cal30_e {A1 A2 A3 A4 A5 A6 A7 A8 A9 A10 A11 A12 A13 A14 A15 A16 A17 A18 A19 A20 A21 A22 A23 A24 A25 A26 A27 A28 A29 A30 β : Type} (a1 : A1) (a2 : A2) (a3 : A3) (a4 : A4) (a5 : A5) (a6 : A6) (a7 : A7) (a8 : A8) (a9 : A9) (a10 : A10) (a11 : A11) (a12 : A12) (a13 : A13) (a14 : A14) (a15 : A15) (a16 : A16) (a17 : A17) (a18 : A18) (a19 : A19) (a20 : A20) (a21 : A21) (a22 : A22) (a23 : A23) (a24 : A24) (a25 : A25) (a26 : A26) (a27 : A27) (a28 : A28) (a29 : A29) (a30 : A30) (k : A1 → A2 → A3 → A4 → A5 → A6 → A7 → A8 → A9 → A10 → A11 → A12 → A13 → A14 → A15 → A16 → A17 → A18 → A19 → A20 → A21 → A22 → A23 → A24 → A25 → A26 → A27 → A28 → A29 → A30 → Option β) : cal30 (some (a1, a2, a3, a4, a5, a6, a7, a8, a9, a10, a11, a12, a13, a14, a15, a16, a17, a18, a19, a20, a21, a22, a23, a24, a25, a26, a27, a28, a29, a30)) k = k a1 a2 a3 a4 a5 a6 a7 a8 a9 a10 a11 a12 a13 a14 a15 a16 a17 a18 a19 a20 a21 a22 a23 a24 a25 a26 a27 a28 a29 a30 := Eq.trans (Eq.refl _) (Eq.refl _)
/-! numbers: an int is nI n (n natural) or mI n (one less) -/
def mI (c : Nat) : Int32 := nI c - 1
theorem l0 : (0 : Int32) = nI 0 := rfl
theorem l1 : (1 : Int32) = nI 1 := rfl
theorem l2 : (2 : Int32) = nI 2 := rfl
theorem l3 : (3 : Int32) = nI 3 := rfl
theorem l4 : (4 : Int32) = nI 4 := rfl
theorem l5 : (5 : Int32) = nI 5 := rfl
theorem l6 : (6 : Int32) = nI 6 := rfl
theorem l7 : (7 : Int32) = nI 7 := rfl
theorem l8 : (8 : Int32) = nI 8 := rfl
theorem l11 : (11 : Int32) = nI 11 := rfl
theorem l14 : (14 : Int32) = nI 14 := rfl
theorem l15 : (15 : Int32) = nI 15 := rfl
theorem l16 : (16 : Int32) = nI 16 := rfl
theorem l19 : (19 : Int32) = nI 19 := rfl
theorem l32 : (32 : Int32) = nI 32 := rfl
theorem l64 : (64 : Int32) = nI 64 := rfl
theorem l240 : (240 : Int32) = nI 240 := rfl
theorem l255 : (255 : Int32) = nI 255 := rfl
theorem lm1 : (-1 : Int32) = mI 0 := rfl
theorem n_le {a b : Nat} (ha : a < 2147483648) (hb : b < 2147483648) : (nI a ≤ nI b) = (a ≤ b) := propext (nI_leI ha hb)
theorem n_lt {a b : Nat} (ha : a < 2147483648) (hb : b < 2147483648) : (nI a < nI b) = (a < b) := propext (nI_ltI ha hb)
theorem n_eq {a b : Nat} (ha : a < 2147483648) (hb : b < 2147483648) : (nI a = nI b) = (a = b) := propext (nI_eq ha hb)
theorem n_add (a b : Nat) : nI a + nI b = nI (a + b) := nI_add a b
theorem n_sub {a b : Nat} (h : b ≤ a) : nI a - nI b = nI (a - b) := pk_sub h
theorem n_mul (a b : Nat) : nI a * nI b = nI (a * b) := pk_mul a b
theorem n_cl {a : Nat} (h : a < 2147483648) : (nI a).toNatClampNeg = a := nI_clamp h
theorem n_of {x : Int32} (h : ¬ x < 0) : ∃ j : Nat, j < 2147483648 ∧ x = nI j := nI_of h
theorem m_toInt {c : Nat} (h : c < 2147483648) : (mI c).toInt = (c : Int) - 1 := by
  have h1 : (mI c).toInt = ((nI c).toInt - (1 : Int32).toInt).bmod (2 ^ 32) := Int32.toInt_sub _ _
  rw [h1, nI_toInt h, show (1 : Int32).toInt = 1 from rfl]
  exact Int.bmod_eq_of_le (by omega) (by omega)
theorem m_succ (c : Nat) : mI c + 1 = nI c := by
  show nI c - 1 + 1 = nI c
  rw [Int32.sub_eq_add_neg, Int32.add_assoc, Int32.add_left_neg, Int32.add_zero]
theorem m_pred (c : Nat) : nI (c + 1) - 1 = nI c := nI_pred c
theorem m_of (c : Nat) : mI (c + 1) = nI c := nI_pred c
theorem m_add (c k : Nat) : mI c + nI (k + 1) = nI (c + k) := by
  rw [← nI_1 k, Int32.add_comm (nI k) 1, ← Int32.add_assoc, m_succ, nI_add]
theorem m_sub (q c : Nat) : nI q - mI c - 1 = nI q - nI c := by
  show nI q - (nI c - 1) - 1 = nI q - nI c
  generalize nI q = a
  generalize nI c = b
  grind
theorem m_mm (q c : Nat) : mI q - mI c = nI q - nI c := by
  show nI q - 1 - (nI c - 1) = nI q - nI c
  generalize nI q = a
  generalize nI c = b
  grind
theorem nm_le {q c : Nat} (hq : q < 2147483648) (hc : c < 2147483648) : (nI q ≤ mI c) = (q < c) := by
  rw [Int32.le_iff_toInt_le, nI_toInt hq, m_toInt hc]; apply propext; omega
theorem nm_lt {q c : Nat} (hq : q < 2147483648) (hc : c < 2147483648) : (nI q < mI c) = (q + 1 < c) := by
  rw [Int32.lt_iff_toInt_lt, nI_toInt hq, m_toInt hc]; apply propext; omega
theorem mn_le {q c : Nat} (hq : q < 2147483648) (hc : c < 2147483648) : (mI c ≤ nI q) = (c ≤ q + 1) := by
  rw [Int32.le_iff_toInt_le, nI_toInt hq, m_toInt hc]; apply propext; omega
theorem mn_lt {q c : Nat} (hq : q < 2147483648) (hc : c < 2147483648) : (mI c < nI q) = (c < q + 1) := by
  rw [Int32.lt_iff_toInt_lt, nI_toInt hq, m_toInt hc]; apply propext; omega
theorem mm_le {q c : Nat} (hq : q < 2147483648) (hc : c < 2147483648) : (mI q ≤ mI c) = (q ≤ c) := by
  rw [Int32.le_iff_toInt_le, m_toInt hq, m_toInt hc]; apply propext; omega
theorem mm_lt {q c : Nat} (hq : q < 2147483648) (hc : c < 2147483648) : (mI q < mI c) = (q < c) := by
  rw [Int32.lt_iff_toInt_lt, m_toInt hq, m_toInt hc]; apply propext; omega
theorem mn_eq {q c : Nat} (hq : q < 2147483648) (hc : c < 2147483648) : (mI c = nI q) = (c = q + 1) := by
  rw [← Int32.toInt_inj, nI_toInt hq, m_toInt hc]; apply propext; omega
theorem mm_eq {q c : Nat} (hq : q < 2147483648) (hc : c < 2147483648) : (mI q = mI c) = (q = c) := by
  rw [← Int32.toInt_inj, m_toInt hq, m_toInt hc]; apply propext; omega
/-! reads and writes at a known place -/
theorem rdI_n {β : Type} {f : Nat → Int32} {n i : Nat} {k : Int32 → Option β} (h : i < n) (hn : n < 2147483648) : rdI f n (nI i) k = k (f i) := by
  unfold rdI
  rw [nI_toInt (by omega), if_pos (by omega), nI_clamp (by omega)]
theorem rdJ_n {β : Type} {f : Nat → Int64} {n i : Nat} {k : Int64 → Option β} (h : i < n) (hn : n < 2147483648) : rdJ f n (nI i) k = k (f i) := by
  unfold rdJ
  rw [nI_toInt (by omega), if_pos (by omega), nI_clamp (by omega)]
theorem wrI_n {β : Type} {f : Nat → Int32} {n i : Nat} {x : Int32} {k : (Nat → Int32) → Option β} (h : i < n) (hn : n < 2147483648) : wrI f n (nI i) x k = k (upd f i x) := by
  unfold wrI
  rw [nI_toInt (by omega), if_pos (by omega), nI_clamp (by omega)]
theorem wrJ_n {β : Type} {f : Nat → Int64} {n i : Nat} {x : Int64} {k : (Nat → Int64) → Option β} (h : i < n) (hn : n < 2147483648) : wrJ f n (nI i) x k = k (vp_updL f i x) := by
  unfold wrJ
  rw [nI_toInt (by omega), if_pos (by omega), nI_clamp (by omega)]
theorem wrZ_n {β : Type} {f : Nat → Int32} {n i : Nat} {x : Int32} {k : (Nat → Int32) → Option β} (h : i < n) (hn : n < 2147483648) (hx : x = 0 ∨ x = 1) : wrZ f n (nI i) x k = k (upd f i x) := by
  unfold wrZ
  rw [nI_toInt (by omega), if_pos (by omega), nI_clamp (by omega)]
  rcases hx with rfl | rfl <;> rfl
theorem zok_0 {β : Type} {k : Option β} : zok 0 k = k := rfl
theorem zok_1 {β : Type} {k : Option β} : zok 1 k = k := rfl
theorem zok_b {β : Type} {v : Int32} {k : Option β} (h : v = 0 ∨ v = 1) : zok v k = k := by rcases h with rfl | rfl <;> rfl
theorem upd_s (f : Nat → Int32) (i : Nat) (x : Int32) : upd f i x i = x := if_pos rfl
theorem upd_o (f : Nat → Int32) {i j : Nat} (x : Int32) (h : j ≠ i) : upd f i x j = f j := if_neg h
theorem updL_s (f : Nat → Int64) (i : Nat) (x : Int64) : vp_updL f i x i = x := if_pos rfl
theorem updL_o (f : Nat → Int64) {i j : Nat} (x : Int64) (h : j ≠ i) : vp_updL f i x j = f j := if_neg h
/-- a part of an array, out of another -/
def cpf {α : Type} (w k : Nat → α) (i n : Nat) : Nat → α := fun j => if i ≤ j ∧ j < n then k j else w j
theorem cpf_n {α : Type} (w k : Nat → α) (n : Nat) : cpf w k n n = w := by funext j; unfold cpf; rw [if_neg (by omega)]
theorem cpf_s (w k : Nat → Int32) {i n : Nat} (h : i < n) : cpf (upd w i (k i)) k (i + 1) n = cpf w k i n := by
  funext j; unfold cpf upd
  by_cases h1 : j = i
  · subst h1; simp [h]
  · by_cases h2 : i + 1 ≤ j ∧ j < n
    · rw [if_pos h2, if_pos (by omega)]
    · rw [if_neg h2, if_neg h1, if_neg (by omega)]
theorem cpf_sL (w k : Nat → Int64) {i n : Nat} (h : i < n) : cpf (vp_updL w i (k i)) k (i + 1) n = cpf w k i n := by
  funext j; unfold cpf vp_updL
  by_cases h1 : j = i
  · subst h1; simp [h]
  · by_cases h2 : i + 1 ≤ j ∧ j < n
    · rw [if_pos h2, if_pos (by omega)]
    · rw [if_neg h2, if_neg h1, if_neg (by omega)]
theorem cpf_at {α : Type} (w k : Nat → α) {i n j : Nat} (h : i ≤ j) (h2 : j < n) : cpf w k i n j = k j := by unfold cpf; rw [if_pos ⟨h, h2⟩]
theorem isId_n {i : Nat} (h : i < 16) : fX5_isId (nI i) = some 1 := by
  simp only [fX5_isId, jp]
  rw [if_neg (by rw [l0, n_lt (by omega) (by omega)]; omega), if_neg (by rw [l16, n_le (by omega) (by omega)]; omega)]; rfl
theorem isId_no {x : Int32} (h : ¬ (0 ≤ x ∧ x < 16)) : fX5_isId x = some 0 := by
  simp only [fX5_isId, jp]
  by_cases h1 : x < 0
  · rw [if_pos h1]; rfl
  · rw [if_neg h1, if_pos (by grind)]; rfl
theorem in_yes {v a b : Int32} (h1 : a ≤ v) (h2 : v ≤ b) : fX6_in v a b = some 1 := by
  simp only [fX6_in, jp]
  rw [if_neg (by grind), if_neg (by grind)]; rfl
theorem in_no {v a b : Int32} (h : ¬ (a ≤ v ∧ v ≤ b)) : fX6_in v a b = some 0 := by
  simp only [fX6_in, jp]
  by_cases h1 : v < a
  · rw [if_pos h1]; rfl
  · rw [if_neg h1, if_pos (by grind)]; rfl
theorem id_of {x : Int32} (h : 0 ≤ x ∧ x < 16) : ∃ i : Nat, i < 16 ∧ x = nI i := by
  obtain ⟨j, hj, rfl⟩ := n_of (x := x) (by grind)
  refine ⟨j, ?_, rfl⟩
  have := h.2
  rw [l16, n_lt (by omega) (by omega)] at this
  exact this
theorem jp_ite {c : Prop} [Decidable c] {α β : Type} (k : α → Option β) (a b : α) : jp k (fun J => if c then J a else J b) = k (if c then a else b) := by
  unfold jp; split <;> rfl
theorem jp_ite2 {c d : Prop} [Decidable c] [Decidable d] {α β : Type} (k : α → Option β) (a b e : α) : jp k (fun J => if c then J a else if d then J b else J e) = k (if c then a else if d then b else e) := by
  unfold jp; split
  · rfl
  · split <;> rfl
