theorem arr_start {args : Array Value} {s : State} {ty : FieldType} (hno : ∀ C, ty ≠ .object C) (h : (Cond.arrayClass ty).before args s = true) : ∃ cA : ClassId, ArrOfT s cA ty ∧ va_RA s cA ty ∧ s.vm.findClass ("[" ++ ty.toString) = some cA := by
  obtain ⟨cA, kA, comp, h1, h2, h3⟩ := Cond.arrayClass_spec h
  refine ⟨cA, fun n z => ⟨fun k h => (by cases h), kA, h2, comp, h3⟩, ?_, h1⟩
  cases ty with
  | object C => exact absurd rfl (hno C)
  | _ => exact h1
set_option maxRecDepth 100000 in
theorem sa_start {args : Array Value} {s : State} (hts : ∀ w ∈ lw_tbl, w.before args s = true) (hgv : (Jvm.Cond.and given_1 narrow_1).before args s = true) : ∃ tX tY, SA tX tY (fun q : Nat => s.heap.size ≤ q) s s.heap := by
  have hs := flat_of_before _ hgv
  have hA : ∀ a : Nat, a < s.heap.size → ¬ (fun q : Nat => s.heap.size ≤ q) a := fun a h z => absurd z (Nat.not_le.mpr h)
  obtain ⟨tX, hvX, hTX⟩ := va_Tof (tm := (Jvm.Term.static "HexTable$Board" "AROUND_X" "[I")) (ty := .int) (N := 6) (f := fun j => .int (sAX j)) (A := fun q : Nat => s.heap.size ≤ q) (by decide) (hs (Jvm.Cond.arrayOf (Jvm.Term.static "HexTable$Board" "AROUND_X" "[I") .int) (by decide +kernel)) (va_eqt (z := 6) (hs (Jvm.Cond.eq (Jvm.Term.length (Jvm.Term.static "HexTable$Board" "AROUND_X" "[I")) (Jvm.Term.int (6 : Int32))) (by decide +kernel))) (fun j hj => by
    match j, hj with
    | 0, _ => exact va_eqt (z := (-1)) (hs (Jvm.Cond.eq (Jvm.Term.elem (Jvm.Term.static "HexTable$Board" "AROUND_X" "[I") (Jvm.Term.int (0 : Int32))) (Jvm.Term.int (-1 : Int32))) (by decide +kernel))
    | 1, _ => exact va_eqt (z := (1)) (hs (Jvm.Cond.eq (Jvm.Term.elem (Jvm.Term.static "HexTable$Board" "AROUND_X" "[I") (Jvm.Term.int (1 : Int32))) (Jvm.Term.int (1 : Int32))) (by decide +kernel))
    | 2, _ => exact va_eqt (z := (0)) (hs (Jvm.Cond.eq (Jvm.Term.elem (Jvm.Term.static "HexTable$Board" "AROUND_X" "[I") (Jvm.Term.int (2 : Int32))) (Jvm.Term.int (0 : Int32))) (by decide +kernel))
    | 3, _ => exact va_eqt (z := (0)) (hs (Jvm.Cond.eq (Jvm.Term.elem (Jvm.Term.static "HexTable$Board" "AROUND_X" "[I") (Jvm.Term.int (3 : Int32))) (Jvm.Term.int (0 : Int32))) (by decide +kernel))
    | 4, _ => exact va_eqt (z := (1)) (hs (Jvm.Cond.eq (Jvm.Term.elem (Jvm.Term.static "HexTable$Board" "AROUND_X" "[I") (Jvm.Term.int (4 : Int32))) (Jvm.Term.int (1 : Int32))) (by decide +kernel))
    | 5, _ => exact va_eqt (z := (-1)) (hs (Jvm.Cond.eq (Jvm.Term.elem (Jvm.Term.static "HexTable$Board" "AROUND_X" "[I") (Jvm.Term.int (5 : Int32))) (Jvm.Term.int (-1 : Int32))) (by decide +kernel))
    | n + 6, hj => exact absurd hj (by omega)) hA
  have hZX := va_Zref (C := "HexTable$Board") (n := "AROUND_X") (d := "[I") (A := fun q : Nat => s.heap.size ≤ q) (hts _ (in_1 (List.mem_of_getElem? (i := 36) (by decide +kernel)))) (hts _ (gt_lw wd_1_3)) hvX hA
  obtain ⟨tY, hvY, hTY⟩ := va_Tof (tm := (Jvm.Term.static "HexTable$Board" "AROUND_Y" "[I")) (ty := .int) (N := 6) (f := fun j => .int (sAY j)) (A := fun q : Nat => s.heap.size ≤ q) (by decide) (hs (Jvm.Cond.arrayOf (Jvm.Term.static "HexTable$Board" "AROUND_Y" "[I") .int) (by decide +kernel)) (va_eqt (z := 6) (hs (Jvm.Cond.eq (Jvm.Term.length (Jvm.Term.static "HexTable$Board" "AROUND_Y" "[I")) (Jvm.Term.int (6 : Int32))) (by decide +kernel))) (fun j hj => by
    match j, hj with
    | 0, _ => exact va_eqt (z := (0)) (hs (Jvm.Cond.eq (Jvm.Term.elem (Jvm.Term.static "HexTable$Board" "AROUND_Y" "[I") (Jvm.Term.int (0 : Int32))) (Jvm.Term.int (0 : Int32))) (by decide +kernel))
    | 1, _ => exact va_eqt (z := (0)) (hs (Jvm.Cond.eq (Jvm.Term.elem (Jvm.Term.static "HexTable$Board" "AROUND_Y" "[I") (Jvm.Term.int (1 : Int32))) (Jvm.Term.int (0 : Int32))) (by decide +kernel))
    | 2, _ => exact va_eqt (z := (-1)) (hs (Jvm.Cond.eq (Jvm.Term.elem (Jvm.Term.static "HexTable$Board" "AROUND_Y" "[I") (Jvm.Term.int (2 : Int32))) (Jvm.Term.int (-1 : Int32))) (by decide +kernel))
    | 3, _ => exact va_eqt (z := (1)) (hs (Jvm.Cond.eq (Jvm.Term.elem (Jvm.Term.static "HexTable$Board" "AROUND_Y" "[I") (Jvm.Term.int (3 : Int32))) (Jvm.Term.int (1 : Int32))) (by decide +kernel))
    | 4, _ => exact va_eqt (z := (-1)) (hs (Jvm.Cond.eq (Jvm.Term.elem (Jvm.Term.static "HexTable$Board" "AROUND_Y" "[I") (Jvm.Term.int (4 : Int32))) (Jvm.Term.int (-1 : Int32))) (by decide +kernel))
    | 5, _ => exact va_eqt (z := (1)) (hs (Jvm.Cond.eq (Jvm.Term.elem (Jvm.Term.static "HexTable$Board" "AROUND_Y" "[I") (Jvm.Term.int (5 : Int32))) (Jvm.Term.int (1 : Int32))) (by decide +kernel))
    | n + 6, hj => exact absurd hj (by omega)) hA
  have hZY := va_Zref (C := "HexTable$Board") (n := "AROUND_Y") (d := "[I") (A := fun q : Nat => s.heap.size ≤ q) (hts _ (in_1 (List.mem_of_getElem? (i := 38) (by decide +kernel)))) (hts _ (gt_lw wd_1_3)) hvY hA
  exact ⟨tX, tY, hZX, hTX, hZY, hTY⟩
set_option maxRecDepth 100000 in
theorem kk_start {args : Array Value} {s : State} (hts : ∀ w ∈ lw_tbl, w.before args s = true) : ∃ (D : va_G) (cI cB cZ : ClassId), KK D cI cB cZ s := by
  have hg : ∀ w ∈ gt, w.before args s = true := fun w h => hts w (gt_lw h)
  obtain ⟨c0, i0, h0⟩ := u_known (C := "HexTable$Board") (T := TX0) (N := 6) (n := 6) hg inX0 (hg _ wd_1_27)
  obtain ⟨c1, i1, h1⟩ := u_known (C := "HexTable$Checker") (T := TX1) (N := 6) (n := 6) hg inX1 (hg _ wd_1_186)
  obtain ⟨c2, i2, h2⟩ := u_known (C := "HexTable$Entries") (T := TX2) (N := 3) (n := 3) hg inX2 (hg _ wd_1_142)
  obtain ⟨c3, i3, h3⟩ := u_known (C := "HexTable$Nodes") (T := TX3) (N := 7) (n := 7) hg inX3 (hg _ wd_1_106)
  obtain ⟨c4, i4, h4⟩ := u_known (C := "HexTable$Seeker") (T := TX4) (N := 5) (n := 5) hg inX4 (hg _ wd_1_100)
  obtain ⟨c5, i5, h5⟩ := u_known (C := "HexTable$Walker") (T := TX5) (N := 8) (n := 8) hg inX5 (hg _ wd_1_66)
  obtain ⟨c6, i6, h6⟩ := u_known (C := "HexTable") (T := TX6) (N := 9) (n := 9) hg inX6 (hg _ wd_1_13)
  obtain ⟨c7, i7, h7⟩ := u_known (C := "HexTableModel") (T := TX7) (N := 38) (n := 38) hg inX7 (hg _ wd_3_68)
  obtain ⟨cI, a1, a2, a3⟩ := arr_start (ty := .int) (fun C h => by cases h) (hg _ wd_1_64)
  obtain ⟨cB, b1, b2, b3⟩ := arr_start (ty := .byte) (fun C h => by cases h) (hg _ wd_3_188)
  obtain ⟨cZ, z1, z2, z3⟩ := arr_start (ty := .boolean) (fun C h => by cases h) (hg _ wd_3_189)
  refine ⟨(fun k => match k with | 0 => c0 | 1 => c1 | 2 => c2 | 3 => c3 | 4 => c4 | 5 => c5 | 6 => c6 | _ => c7, fun k => match k with | 0 => i0 | 1 => i1 | 2 => i2 | 3 => i3 | 4 => i4 | 5 => i5 | 6 => i6 | _ => i7), cI, cB, cZ, ⟨?_, ?_⟩, ⟨a3, b3, z3⟩, fun w hw => va_Nw.of (nest_tab (List.all_eq_true.mp nw_nest w hw)) (hts w (nw_lw w hw))⟩
  · intro k q hq
    match k, hq with
    | 0, hq => cases hq; exact h0
    | 1, hq => cases hq; exact h1
    | 2, hq => cases hq; exact h2
    | 3, hq => cases hq; exact h3
    | 4, hq => cases hq; exact h4
    | 5, hq => cases hq; exact h5
    | 6, hq => cases hq; exact h6
    | 7, hq => cases hq; exact h7
    | k + 8, hq => simp [vwCl] at hq
  · intro k q hq
    match k, hq with
    | 0, hq => cases hq; exact ⟨a1, a2⟩
    | 1, hq => cases hq; exact ⟨b1, b2⟩
    | 2, hq => cases hq; exact ⟨z1, z2⟩
    | k + 3, hq => simp at hq
