/-! PURE: loops over Int32 counters as loops over Nat -/
theorem z_1 (j : Nat) : nI j + (1 : Int32) = nI (j + 1) := nI_1 j
theorem z_cl {j : Nat} (h : j < 2 ^ 31) : (nI j).toNatClampNeg = j := nI_clamp h
theorem z_bd {β : Type} {j n : Nat} {a : Option β} (h : j < n) (hn : n < 2 ^ 31) : (if nI j < 0 ∨ n ≤ (nI j).toNatClampNeg then none else a) = a := if_neg (nI_in h hn)
theorem z_le {β : Type} {a b : Nat} {x y : Option β} (h : a ≤ b) (hb : b < 2 ^ 31) : (if nI a ≤ nI b then x else y) = x := if_pos (nI_le h hb)
theorem z_gt {β : Type} {a b : Nat} {x y : Option β} (h : b < a) (hb : a < 2 ^ 31) : (if nI a ≤ nI b then x else y) = y := if_neg (nI_ge h hb)
theorem z_0 : (0 : Int32) = nI 0 := nI_0.symm
theorem bd0_e {β : Type} {f : Option β} : bd0 (some ()) f = f := rfl
theorem bd1_e {α β : Type} {a : α} {f : α → Option β} : bd1 (some a) f = f a := rfl
theorem bd2_e {α1 α2 β : Type} {a1 : α1} {a2 : α2} {f : α1 → α2 → Option β} : bd2 (some (a1, a2)) f = f a1 a2 := rfl
theorem bd3_e {α1 α2 α3 β : Type} {a1 : α1} {a2 : α2} {a3 : α3} {f : α1 → α2 → α3 → Option β} : bd3 (some (a1, a2, a3)) f = f a1 a2 a3 := rfl
theorem bd4_e {α1 α2 α3 α4 β : Type} {a1 : α1} {a2 : α2} {a3 : α3} {a4 : α4} {f : α1 → α2 → α3 → α4 → Option β} : bd4 (some (a1, a2, a3, a4)) f = f a1 a2 a3 a4 := rfl
theorem bd5_e {α1 α2 α3 α4 α5 β : Type} {a1 : α1} {a2 : α2} {a3 : α3} {a4 : α4} {a5 : α5} {f : α1 → α2 → α3 → α4 → α5 → Option β} : bd5 (some (a1, a2, a3, a4, a5)) f = f a1 a2 a3 a4 a5 := rfl
theorem bd6_e {α1 α2 α3 α4 α5 α6 β : Type} {a1 : α1} {a2 : α2} {a3 : α3} {a4 : α4} {a5 : α5} {a6 : α6} {f : α1 → α2 → α3 → α4 → α5 → α6 → Option β} : bd6 (some (a1, a2, a3, a4, a5, a6)) f = f a1 a2 a3 a4 a5 a6 := rfl
theorem bd7_e {α1 α2 α3 α4 α5 α6 α7 β : Type} {a1 : α1} {a2 : α2} {a3 : α3} {a4 : α4} {a5 : α5} {a6 : α6} {a7 : α7} {f : α1 → α2 → α3 → α4 → α5 → α6 → α7 → Option β} : bd7 (some (a1, a2, a3, a4, a5, a6, a7)) f = f a1 a2 a3 a4 a5 a6 a7 := rfl
theorem bd8_e {α1 α2 α3 α4 α5 α6 α7 α8 β : Type} {a1 : α1} {a2 : α2} {a3 : α3} {a4 : α4} {a5 : α5} {a6 : α6} {a7 : α7} {a8 : α8} {f : α1 → α2 → α3 → α4 → α5 → α6 → α7 → α8 → Option β} : bd8 (some (a1, a2, a3, a4, a5, a6, a7, a8)) f = f a1 a2 a3 a4 a5 a6 a7 a8 := rfl
theorem bd9_e {α1 α2 α3 α4 α5 α6 α7 α8 α9 β : Type} {a1 : α1} {a2 : α2} {a3 : α3} {a4 : α4} {a5 : α5} {a6 : α6} {a7 : α7} {a8 : α8} {a9 : α9} {f : α1 → α2 → α3 → α4 → α5 → α6 → α7 → α8 → α9 → Option β} : bd9 (some (a1, a2, a3, a4, a5, a6, a7, a8, a9)) f = f a1 a2 a3 a4 a5 a6 a7 a8 a9 := rfl
theorem bd10_e {α1 α2 α3 α4 α5 α6 α7 α8 α9 α10 β : Type} {a1 : α1} {a2 : α2} {a3 : α3} {a4 : α4} {a5 : α5} {a6 : α6} {a7 : α7} {a8 : α8} {a9 : α9} {a10 : α10} {f : α1 → α2 → α3 → α4 → α5 → α6 → α7 → α8 → α9 → α10 → Option β} : bd10 (some (a1, a2, a3, a4, a5, a6, a7, a8, a9, a10)) f = f a1 a2 a3 a4 a5 a6 a7 a8 a9 a10 := rfl
theorem bd11_e {α1 α2 α3 α4 α5 α6 α7 α8 α9 α10 α11 β : Type} {a1 : α1} {a2 : α2} {a3 : α3} {a4 : α4} {a5 : α5} {a6 : α6} {a7 : α7} {a8 : α8} {a9 : α9} {a10 : α10} {a11 : α11} {f : α1 → α2 → α3 → α4 → α5 → α6 → α7 → α8 → α9 → α10 → α11 → Option β} : bd11 (some (a1, a2, a3, a4, a5, a6, a7, a8, a9, a10, a11)) f = f a1 a2 a3 a4 a5 a6 a7 a8 a9 a10 a11 := rfl
theorem bd12_e {α1 α2 α3 α4 α5 α6 α7 α8 α9 α10 α11 α12 β : Type} {a1 : α1} {a2 : α2} {a3 : α3} {a4 : α4} {a5 : α5} {a6 : α6} {a7 : α7} {a8 : α8} {a9 : α9} {a10 : α10} {a11 : α11} {a12 : α12} {f : α1 → α2 → α3 → α4 → α5 → α6 → α7 → α8 → α9 → α10 → α11 → α12 → Option β} : bd12 (some (a1, a2, a3, a4, a5, a6, a7, a8, a9, a10, a11, a12)) f = f a1 a2 a3 a4 a5 a6 a7 a8 a9 a10 a11 a12 := rfl
theorem bd13_e {α1 α2 α3 α4 α5 α6 α7 α8 α9 α10 α11 α12 α13 β : Type} {a1 : α1} {a2 : α2} {a3 : α3} {a4 : α4} {a5 : α5} {a6 : α6} {a7 : α7} {a8 : α8} {a9 : α9} {a10 : α10} {a11 : α11} {a12 : α12} {a13 : α13} {f : α1 → α2 → α3 → α4 → α5 → α6 → α7 → α8 → α9 → α10 → α11 → α12 → α13 → Option β} : bd13 (some (a1, a2, a3, a4, a5, a6, a7, a8, a9, a10, a11, a12, a13)) f = f a1 a2 a3 a4 a5 a6 a7 a8 a9 a10 a11 a12 a13 := rfl
theorem bd14_e {α1 α2 α3 α4 α5 α6 α7 α8 α9 α10 α11 α12 α13 α14 β : Type} {a1 : α1} {a2 : α2} {a3 : α3} {a4 : α4} {a5 : α5} {a6 : α6} {a7 : α7} {a8 : α8} {a9 : α9} {a10 : α10} {a11 : α11} {a12 : α12} {a13 : α13} {a14 : α14} {f : α1 → α2 → α3 → α4 → α5 → α6 → α7 → α8 → α9 → α10 → α11 → α12 → α13 → α14 → Option β} : bd14 (some (a1, a2, a3, a4, a5, a6, a7, a8, a9, a10, a11, a12, a13, a14)) f = f a1 a2 a3 a4 a5 a6 a7 a8 a9 a10 a11 a12 a13 a14 := rfl
theorem bd15_e {α1 α2 α3 α4 α5 α6 α7 α8 α9 α10 α11 α12 α13 α14 α15 β : Type} {a1 : α1} {a2 : α2} {a3 : α3} {a4 : α4} {a5 : α5} {a6 : α6} {a7 : α7} {a8 : α8} {a9 : α9} {a10 : α10} {a11 : α11} {a12 : α12} {a13 : α13} {a14 : α14} {a15 : α15} {f : α1 → α2 → α3 → α4 → α5 → α6 → α7 → α8 → α9 → α10 → α11 → α12 → α13 → α14 → α15 → Option β} : bd15 (some (a1, a2, a3, a4, a5, a6, a7, a8, a9, a10, a11, a12, a13, a14, a15)) f = f a1 a2 a3 a4 a5 a6 a7 a8 a9 a10 a11 a12 a13 a14 a15 := rfl
theorem bd16_e {α1 α2 α3 α4 α5 α6 α7 α8 α9 α10 α11 α12 α13 α14 α15 α16 β : Type} {a1 : α1} {a2 : α2} {a3 : α3} {a4 : α4} {a5 : α5} {a6 : α6} {a7 : α7} {a8 : α8} {a9 : α9} {a10 : α10} {a11 : α11} {a12 : α12} {a13 : α13} {a14 : α14} {a15 : α15} {a16 : α16} {f : α1 → α2 → α3 → α4 → α5 → α6 → α7 → α8 → α9 → α10 → α11 → α12 → α13 → α14 → α15 → α16 → Option β} : bd16 (some (a1, a2, a3, a4, a5, a6, a7, a8, a9, a10, a11, a12, a13, a14, a15, a16)) f = f a1 a2 a3 a4 a5 a6 a7 a8 a9 a10 a11 a12 a13 a14 a15 a16 := rfl
theorem bd17_e {α1 α2 α3 α4 α5 α6 α7 α8 α9 α10 α11 α12 α13 α14 α15 α16 α17 β : Type} {a1 : α1} {a2 : α2} {a3 : α3} {a4 : α4} {a5 : α5} {a6 : α6} {a7 : α7} {a8 : α8} {a9 : α9} {a10 : α10} {a11 : α11} {a12 : α12} {a13 : α13} {a14 : α14} {a15 : α15} {a16 : α16} {a17 : α17} {f : α1 → α2 → α3 → α4 → α5 → α6 → α7 → α8 → α9 → α10 → α11 → α12 → α13 → α14 → α15 → α16 → α17 → Option β} : bd17 (some (a1, a2, a3, a4, a5, a6, a7, a8, a9, a10, a11, a12, a13, a14, a15, a16, a17)) f = f a1 a2 a3 a4 a5 a6 a7 a8 a9 a10 a11 a12 a13 a14 a15 a16 a17 := rfl
theorem bd18_e {α1 α2 α3 α4 α5 α6 α7 α8 α9 α10 α11 α12 α13 α14 α15 α16 α17 α18 β : Type} {a1 : α1} {a2 : α2} {a3 : α3} {a4 : α4} {a5 : α5} {a6 : α6} {a7 : α7} {a8 : α8} {a9 : α9} {a10 : α10} {a11 : α11} {a12 : α12} {a13 : α13} {a14 : α14} {a15 : α15} {a16 : α16} {a17 : α17} {a18 : α18} {f : α1 → α2 → α3 → α4 → α5 → α6 → α7 → α8 → α9 → α10 → α11 → α12 → α13 → α14 → α15 → α16 → α17 → α18 → Option β} : bd18 (some (a1, a2, a3, a4, a5, a6, a7, a8, a9, a10, a11, a12, a13, a14, a15, a16, a17, a18)) f = f a1 a2 a3 a4 a5 a6 a7 a8 a9 a10 a11 a12 a13 a14 a15 a16 a17 a18 := rfl
theorem bd19_e {α1 α2 α3 α4 α5 α6 α7 α8 α9 α10 α11 α12 α13 α14 α15 α16 α17 α18 α19 β : Type} {a1 : α1} {a2 : α2} {a3 : α3} {a4 : α4} {a5 : α5} {a6 : α6} {a7 : α7} {a8 : α8} {a9 : α9} {a10 : α10} {a11 : α11} {a12 : α12} {a13 : α13} {a14 : α14} {a15 : α15} {a16 : α16} {a17 : α17} {a18 : α18} {a19 : α19} {f : α1 → α2 → α3 → α4 → α5 → α6 → α7 → α8 → α9 → α10 → α11 → α12 → α13 → α14 → α15 → α16 → α17 → α18 → α19 → Option β} : bd19 (some (a1, a2, a3, a4, a5, a6, a7, a8, a9, a10, a11, a12, a13, a14, a15, a16, a17, a18, a19)) f = f a1 a2 a3 a4 a5 a6 a7 a8 a9 a10 a11 a12 a13 a14 a15 a16 a17 a18 a19 := rfl
theorem bd20_e {α1 α2 α3 α4 α5 α6 α7 α8 α9 α10 α11 α12 α13 α14 α15 α16 α17 α18 α19 α20 β : Type} {a1 : α1} {a2 : α2} {a3 : α3} {a4 : α4} {a5 : α5} {a6 : α6} {a7 : α7} {a8 : α8} {a9 : α9} {a10 : α10} {a11 : α11} {a12 : α12} {a13 : α13} {a14 : α14} {a15 : α15} {a16 : α16} {a17 : α17} {a18 : α18} {a19 : α19} {a20 : α20} {f : α1 → α2 → α3 → α4 → α5 → α6 → α7 → α8 → α9 → α10 → α11 → α12 → α13 → α14 → α15 → α16 → α17 → α18 → α19 → α20 → Option β} : bd20 (some (a1, a2, a3, a4, a5, a6, a7, a8, a9, a10, a11, a12, a13, a14, a15, a16, a17, a18, a19, a20)) f = f a1 a2 a3 a4 a5 a6 a7 a8 a9 a10 a11 a12 a13 a14 a15 a16 a17 a18 a19 a20 := rfl
theorem bd21_e {α1 α2 α3 α4 α5 α6 α7 α8 α9 α10 α11 α12 α13 α14 α15 α16 α17 α18 α19 α20 α21 β : Type} {a1 : α1} {a2 : α2} {a3 : α3} {a4 : α4} {a5 : α5} {a6 : α6} {a7 : α7} {a8 : α8} {a9 : α9} {a10 : α10} {a11 : α11} {a12 : α12} {a13 : α13} {a14 : α14} {a15 : α15} {a16 : α16} {a17 : α17} {a18 : α18} {a19 : α19} {a20 : α20} {a21 : α21} {f : α1 → α2 → α3 → α4 → α5 → α6 → α7 → α8 → α9 → α10 → α11 → α12 → α13 → α14 → α15 → α16 → α17 → α18 → α19 → α20 → α21 → Option β} : bd21 (some (a1, a2, a3, a4, a5, a6, a7, a8, a9, a10, a11, a12, a13, a14, a15, a16, a17, a18, a19, a20, a21)) f = f a1 a2 a3 a4 a5 a6 a7 a8 a9 a10 a11 a12 a13 a14 a15 a16 a17 a18 a19 a20 a21 := rfl
theorem bd22_e {α1 α2 α3 α4 α5 α6 α7 α8 α9 α10 α11 α12 α13 α14 α15 α16 α17 α18 α19 α20 α21 α22 β : Type} {a1 : α1} {a2 : α2} {a3 : α3} {a4 : α4} {a5 : α5} {a6 : α6} {a7 : α7} {a8 : α8} {a9 : α9} {a10 : α10} {a11 : α11} {a12 : α12} {a13 : α13} {a14 : α14} {a15 : α15} {a16 : α16} {a17 : α17} {a18 : α18} {a19 : α19} {a20 : α20} {a21 : α21} {a22 : α22} {f : α1 → α2 → α3 → α4 → α5 → α6 → α7 → α8 → α9 → α10 → α11 → α12 → α13 → α14 → α15 → α16 → α17 → α18 → α19 → α20 → α21 → α22 → Option β} : bd22 (some (a1, a2, a3, a4, a5, a6, a7, a8, a9, a10, a11, a12, a13, a14, a15, a16, a17, a18, a19, a20, a21, a22)) f = f a1 a2 a3 a4 a5 a6 a7 a8 a9 a10 a11 a12 a13 a14 a15 a16 a17 a18 a19 a20 a21 a22 := rfl
theorem bd23_e {α1 α2 α3 α4 α5 α6 α7 α8 α9 α10 α11 α12 α13 α14 α15 α16 α17 α18 α19 α20 α21 α22 α23 β : Type} {a1 : α1} {a2 : α2} {a3 : α3} {a4 : α4} {a5 : α5} {a6 : α6} {a7 : α7} {a8 : α8} {a9 : α9} {a10 : α10} {a11 : α11} {a12 : α12} {a13 : α13} {a14 : α14} {a15 : α15} {a16 : α16} {a17 : α17} {a18 : α18} {a19 : α19} {a20 : α20} {a21 : α21} {a22 : α22} {a23 : α23} {f : α1 → α2 → α3 → α4 → α5 → α6 → α7 → α8 → α9 → α10 → α11 → α12 → α13 → α14 → α15 → α16 → α17 → α18 → α19 → α20 → α21 → α22 → α23 → Option β} : bd23 (some (a1, a2, a3, a4, a5, a6, a7, a8, a9, a10, a11, a12, a13, a14, a15, a16, a17, a18, a19, a20, a21, a22, a23)) f = f a1 a2 a3 a4 a5 a6 a7 a8 a9 a10 a11 a12 a13 a14 a15 a16 a17 a18 a19 a20 a21 a22 a23 := rfl
theorem bd24_e {α1 α2 α3 α4 α5 α6 α7 α8 α9 α10 α11 α12 α13 α14 α15 α16 α17 α18 α19 α20 α21 α22 α23 α24 β : Type} {a1 : α1} {a2 : α2} {a3 : α3} {a4 : α4} {a5 : α5} {a6 : α6} {a7 : α7} {a8 : α8} {a9 : α9} {a10 : α10} {a11 : α11} {a12 : α12} {a13 : α13} {a14 : α14} {a15 : α15} {a16 : α16} {a17 : α17} {a18 : α18} {a19 : α19} {a20 : α20} {a21 : α21} {a22 : α22} {a23 : α23} {a24 : α24} {f : α1 → α2 → α3 → α4 → α5 → α6 → α7 → α8 → α9 → α10 → α11 → α12 → α13 → α14 → α15 → α16 → α17 → α18 → α19 → α20 → α21 → α22 → α23 → α24 → Option β} : bd24 (some (a1, a2, a3, a4, a5, a6, a7, a8, a9, a10, a11, a12, a13, a14, a15, a16, a17, a18, a19, a20, a21, a22, a23, a24)) f = f a1 a2 a3 a4 a5 a6 a7 a8 a9 a10 a11 a12 a13 a14 a15 a16 a17 a18 a19 a20 a21 a22 a23 a24 := rfl
theorem bd25_e {α1 α2 α3 α4 α5 α6 α7 α8 α9 α10 α11 α12 α13 α14 α15 α16 α17 α18 α19 α20 α21 α22 α23 α24 α25 β : Type} {a1 : α1} {a2 : α2} {a3 : α3} {a4 : α4} {a5 : α5} {a6 : α6} {a7 : α7} {a8 : α8} {a9 : α9} {a10 : α10} {a11 : α11} {a12 : α12} {a13 : α13} {a14 : α14} {a15 : α15} {a16 : α16} {a17 : α17} {a18 : α18} {a19 : α19} {a20 : α20} {a21 : α21} {a22 : α22} {a23 : α23} {a24 : α24} {a25 : α25} {f : α1 → α2 → α3 → α4 → α5 → α6 → α7 → α8 → α9 → α10 → α11 → α12 → α13 → α14 → α15 → α16 → α17 → α18 → α19 → α20 → α21 → α22 → α23 → α24 → α25 → Option β} : bd25 (some (a1, a2, a3, a4, a5, a6, a7, a8, a9, a10, a11, a12, a13, a14, a15, a16, a17, a18, a19, a20, a21, a22, a23, a24, a25)) f = f a1 a2 a3 a4 a5 a6 a7 a8 a9 a10 a11 a12 a13 a14 a15 a16 a17 a18 a19 a20 a21 a22 a23 a24 a25 := rfl
theorem bd26_e {α1 α2 α3 α4 α5 α6 α7 α8 α9 α10 α11 α12 α13 α14 α15 α16 α17 α18 α19 α20 α21 α22 α23 α24 α25 α26 β : Type} {a1 : α1} {a2 : α2} {a3 : α3} {a4 : α4} {a5 : α5} {a6 : α6} {a7 : α7} {a8 : α8} {a9 : α9} {a10 : α10} {a11 : α11} {a12 : α12} {a13 : α13} {a14 : α14} {a15 : α15} {a16 : α16} {a17 : α17} {a18 : α18} {a19 : α19} {a20 : α20} {a21 : α21} {a22 : α22} {a23 : α23} {a24 : α24} {a25 : α25} {a26 : α26} {f : α1 → α2 → α3 → α4 → α5 → α6 → α7 → α8 → α9 → α10 → α11 → α12 → α13 → α14 → α15 → α16 → α17 → α18 → α19 → α20 → α21 → α22 → α23 → α24 → α25 → α26 → Option β} : bd26 (some (a1, a2, a3, a4, a5, a6, a7, a8, a9, a10, a11, a12, a13, a14, a15, a16, a17, a18, a19, a20, a21, a22, a23, a24, a25, a26)) f = f a1 a2 a3 a4 a5 a6 a7 a8 a9 a10 a11 a12 a13 a14 a15 a16 a17 a18 a19 a20 a21 a22 a23 a24 a25 a26 := rfl
theorem bd27_e {α1 α2 α3 α4 α5 α6 α7 α8 α9 α10 α11 α12 α13 α14 α15 α16 α17 α18 α19 α20 α21 α22 α23 α24 α25 α26 α27 β : Type} {a1 : α1} {a2 : α2} {a3 : α3} {a4 : α4} {a5 : α5} {a6 : α6} {a7 : α7} {a8 : α8} {a9 : α9} {a10 : α10} {a11 : α11} {a12 : α12} {a13 : α13} {a14 : α14} {a15 : α15} {a16 : α16} {a17 : α17} {a18 : α18} {a19 : α19} {a20 : α20} {a21 : α21} {a22 : α22} {a23 : α23} {a24 : α24} {a25 : α25} {a26 : α26} {a27 : α27} {f : α1 → α2 → α3 → α4 → α5 → α6 → α7 → α8 → α9 → α10 → α11 → α12 → α13 → α14 → α15 → α16 → α17 → α18 → α19 → α20 → α21 → α22 → α23 → α24 → α25 → α26 → α27 → Option β} : bd27 (some (a1, a2, a3, a4, a5, a6, a7, a8, a9, a10, a11, a12, a13, a14, a15, a16, a17, a18, a19, a20, a21, a22, a23, a24, a25, a26, a27)) f = f a1 a2 a3 a4 a5 a6 a7 a8 a9 a10 a11 a12 a13 a14 a15 a16 a17 a18 a19 a20 a21 a22 a23 a24 a25 a26 a27 := rfl
/-- Arrays.fill -/
theorem fill_L {F n : Nat} {x : Int32} (hn : n < 2 ^ 31) : ∀ (k j : Nat) (v : Nat → Int32), j ≤ n → n < j + k → pm_J7_fill_53178_L5 F n x k (nI j) v = some (fun i => if j ≤ i ∧ i < n then x else v i) := by
  intro k
  induction k with
  | zero => intro j v h1 h2; omega
  | succ k ih =>
    intro j v h1 h2
    rw [pm_J7_fill_53178_L5]
    by_cases h : j < n
    · rw [z_gt h hn, z_bd h hn, z_1, ih (j + 1) _ h (by omega), z_cl (by omega)]
      congr 1
      funext i
      by_cases hi : i = j
      · subst hi
        rw [if_neg (by omega), if_pos ⟨Nat.le_refl _, h⟩]
        exact if_pos rfl
      · by_cases h3 : j + 1 ≤ i ∧ i < n
        · rw [if_pos h3, if_pos ⟨by omega, h3.2⟩]
        · rw [if_neg h3, if_neg (by omega)]
          exact if_neg hi
    · have : j = n := by omega
      subst this
      rw [z_le (Nat.le_refl _) hn]
      congr 1
      funext i
      rw [if_neg (by omega)]
theorem fill_ok {F n : Nat} {x : Int32} {v : Nat → Int32} (hn : n < F) (hn2 : n < 2 ^ 31) : pm_J7_fill_53178 F n v x = some (fun i => if i < n then x else v i) := by
  rw [pm_J7_fill_53178, z_0, fill_L hn2 F 0 v (Nat.zero_le _) (by omega)]
  show some _ = some _
  congr 1
  funext i
  simp
theorem clear_ok {F n : Nat} {v : Nat → Int32} (hn : n < F) (hn2 : n < 2 ^ 31) : pm_X0_clearMarks F n v = some (fun i => if i < n then 0 else v i) := by
  rw [pm_X0_clearMarks, fill_ok hn hn2]
  rfl
/-- how many places below n have p -/
def cnt (p : Nat → Bool) : Nat → Nat
  | 0 => 0
  | n + 1 => cnt p n + (if p n then 1 else 0)
theorem cnt_le (p : Nat → Bool) : ∀ n, cnt p n ≤ n := by
  intro n
  induction n with
  | zero => exact Nat.le_refl _
  | succ n ih => rw [cnt]; split <;> omega
theorem cnt_congr {p q : Nat → Bool} : ∀ n, (∀ j, j < n → p j = q j) → cnt p n = cnt q n := by
  intro n
  induction n with
  | zero => intro _; rfl
  | succ n ih => intro h; rw [cnt, cnt, ih (fun j hj => h j (by omega)), h n (by omega)]
theorem cnt_upd {p q : Nat → Bool} {n c : Nat} (hc : c < n) (hp : p c = false) (hq : q c = true) (h : ∀ j, j < n → j ≠ c → q j = p j) : cnt q n = cnt p n + 1 := by
  induction n with
  | zero => omega
  | succ n ih =>
    rw [cnt, cnt]
    by_cases e : c = n
    · subst e
      rw [cnt_congr c (fun j hj => h j (by omega) (by omega)), hp, hq]
      simp
    · rw [ih (by omega) (fun j hj => h j (by omega)), h n (by omega) (by omega)]
      omega
theorem cnt_pos {p : Nat → Bool} {n c : Nat} (hc : c < n) (hp : p c = true) : 0 < cnt p n := by
  induction n with
  | zero => omega
  | succ n ih =>
    rw [cnt]
    by_cases e : c = n
    · subst e; rw [hp]; simp
    · have := ih (by omega); omega
theorem cnt_zero {p : Nat → Bool} {n : Nat} (h : cnt p n = 0) : ∀ c, c < n → p c = false := by
  intro c hc
  cases hp : p c with
  | false => rfl
  | true => have := cnt_pos hc hp; omega
def em (st : Nat → Int32) (j : Nat) : Bool := decide (st j = 0)
theorem countEmpty_L {F n : Nat} {st : Nat → Int32} (hn : n < 2 ^ 31) : ∀ (k j : Nat), j ≤ n → n < j + k → pm_X0_countEmpty_L13 F n st k (nI (cnt (em st) j)) (nI j) = some (nI (cnt (em st) n)) := by
  intro k
  induction k with
  | zero => intro j h1 h2; omega
  | succ k ih =>
    intro j h1 h2
    rw [pm_X0_countEmpty_L13]
    by_cases h : j < n
    · rw [z_gt h hn, z_bd h hn, z_cl (by omega)]
      have e1 := ih (j + 1) h (by omega)
      rw [cnt] at e1
      by_cases c : st j = 0
      · have : em st j = true := decide_eq_true c
        rw [this, if_pos rfl] at e1
        rw [if_pos c, z_1, z_1]
        exact e1
      · have : em st j = false := decide_eq_false c
        rw [this] at e1
        rw [if_neg c, z_1]
        exact e1
    · have : j = n := by omega
      subst this
      rw [z_le (Nat.le_refl _) hn]
theorem countEmpty_ok {F n : Nat} {st : Nat → Int32} (hF : n < F) (hn : n < 2 ^ 31) : pm_X0_countEmpty F n st = some (nI (cnt (em st) n)) := by
  rw [pm_X0_countEmpty]
  have := countEmpty_L (F := F) (st := st) hn F 0 (Nat.zero_le _) (by omega)
  rw [show nI (cnt (em st) 0) = (0 : Int32) from nI_0, show nI 0 = (0 : Int32) from nI_0] at this
  rw [this]
  rfl
theorem z_a0 (x : Int32) : x + (0 : Int32) = x := by
  first | exact Int32.add_zero x | simp
theorem empty_L {F n nb : Nat} {st : Nat → Int32} (hb : n ≤ nb) (hn : nb < 2 ^ 31) : ∀ (k j : Nat), j ≤ n → n < j + k → pm_X7_empty_L4 F (nI n) nb st k (nI (cnt (em st) j)) (nI j) = some (nI (cnt (em st) n)) := by
  intro k
  induction k with
  | zero => intro j h1 h2; omega
  | succ k ih =>
    intro j h1 h2
    rw [pm_X7_empty_L4]
    by_cases h : j < n
    · rw [z_gt h (by omega), z_bd (show j < nb by omega) hn, z_cl (by omega)]
      have e1 := ih (j + 1) h (by omega)
      rw [cnt] at e1
      by_cases c : st j = 0
      · have : em st j = true := decide_eq_true c
        rw [this, if_pos rfl] at e1
        rw [if_pos c, z_1, z_1]
        exact e1
      · have : em st j = false := decide_eq_false c
        rw [this] at e1
        rw [if_neg c, z_1, z_a0]
        exact e1
    · have : j = n := by omega
      subst this
      rw [z_le (Nat.le_refl _) (by omega)]
theorem empty_ok {F n nb : Nat} {st : Nat → Int32} (hb : n ≤ nb) (hF : n < F) (hn : nb < 2 ^ 31) : pm_X7_empty F (nI n) nb st = some (nI (cnt (em st) n)) := by
  rw [pm_X7_empty]
  have := empty_L (F := F) (st := st) hb hn F 0 (Nat.zero_le _) (by omega)
  rw [show nI (cnt (em st) 0) = (0 : Int32) from nI_0, show nI 0 = (0 : Int32) from nI_0] at this
  rw [this]
  rfl
/-- forget -/
theorem forget_L {F n : Nat} (h121 : 121 ≤ n) (hn : n < 2 ^ 31) : ∀ (k j : Nat) (v : Nat → Int32), j ≤ 121 → 121 < j + k → pm_X7_forget_L2 F n k (nI j) v = some (fun i => if j ≤ i ∧ i < 121 then 0 else v i) := by
  intro k
  induction k with
  | zero => intro j v h1 h2; omega
  | succ k ih =>
    intro j v h1 h2
    rw [pm_X7_forget_L2, show (121 : Int32) = nI 121 from by decide]
    by_cases h : j < 121
    · rw [z_gt h (by omega), z_bd (show j < n by omega) hn, z_1, ih (j + 1) _ h (by omega), z_cl (by omega), show vp_nar .boolean (0 : Int32) = 0 from rfl]
      congr 1
      funext i
      by_cases hi : i = j
      · subst hi
        rw [if_neg (by omega), if_pos ⟨Nat.le_refl _, h⟩]
        exact if_pos rfl
      · by_cases h3 : j + 1 ≤ i ∧ i < 121
        · rw [if_pos h3, if_pos ⟨by omega, h3.2⟩]
        · rw [if_neg h3, if_neg (by omega)]
          exact if_neg hi
    · have : j = 121 := by omega
      subst this
      rw [z_le (Nat.le_refl _) (by omega)]
      congr 1
      funext i
      rw [if_neg (by omega)]
theorem forget_ok {F n : Nat} {v : Nat → Int32} (h121 : 121 ≤ n) (hF : 121 < F) (hn : n < 2 ^ 31) : pm_X7_forget F n v = some (0, fun i => if i < 121 then 0 else v i) := by
  rw [pm_X7_forget]
  have := forget_L (F := F) h121 hn F 0 v (Nat.zero_le _) (by omega)
  rw [show nI 0 = (0 : Int32) from nI_0] at this
  rw [this]
  show some _ = some _
  congr 2
  funext i
  simp
