def pm_X0_init_L99 (F : Nat) (x1 : Int32) (x3_14 : Int32) (x4_20 : Int32) : Nat → Int32 → (Nat → Int32) → Option ((Nat → Int32))
  | 0, _, _ => none
  | k + 1, x6_28, v_near_29 =>
    if (6 : Int32) ≤ x6_28 then
    some v_near_29
    else
    if x6_28 < 0 ∨ 6 ≤ x6_28.toNatClampNeg then none else
    bd1 (pm_X0_numberIn F x1 (x4_20 + (sAX x6_28.toNatClampNeg)) (x3_14 + (sAY x6_28.toNatClampNeg))) fun r_31 =>
    if (((6 : Int32) * ((x1 * x3_14) + x4_20)) + x6_28) < 0 ∨ (((x1 * x1) * (6 : Int32)).toNatClampNeg) ≤ (((6 : Int32) * ((x1 * x3_14) + x4_20)) + x6_28).toNatClampNeg then none else
    pm_X0_init_L99 F x1 x3_14 x4_20 k (x6_28 + (1 : Int32)) (upd v_near_29 (((6 : Int32) * ((x1 * x3_14) + x4_20)) + x6_28).toNatClampNeg r_31)
def pm_X0_init_L61 (F : Nat) (x1 : Int32) (x3_14 : Int32) : Nat → Int32 → (Nat → Int32) → (Nat → Int32) → Option ((Nat → Int32) × (Nat → Int32))
  | 0, _, _, _ => none
  | k + 1, x4_20, v_near_21, v_edges_22 =>
    if x1 ≤ x4_20 then
    some (v_near_21, v_edges_22)
    else
    bd1 (pm_X0_edgeMarks F x3_14 x1) fun r_23 =>
    bd1 (pm_X0_edgeMarks F x4_20 x1) fun r_24 =>
    if ((x1 * x3_14) + x4_20) < 0 ∨ ((x1 * x1).toNatClampNeg) ≤ ((x1 * x3_14) + x4_20).toNatClampNeg then none else
    bd1 (
    pm_X0_init_L99 F x1 x3_14 x4_20 F (0 : Int32) v_near_21) fun v_near_26 =>
    pm_X0_init_L61 F x1 x3_14 k (x4_20 + (1 : Int32)) v_near_26 (upd v_edges_22 ((x1 * x3_14) + x4_20).toNatClampNeg (r_23 ||| (r_24 <<< ((2 : Int32) &&& 31))))
def pm_X0_init_L53 (F : Nat) (x1 : Int32) : Nat → Int32 → (Nat → Int32) → (Nat → Int32) → Option ((Nat → Int32) × (Nat → Int32))
  | 0, _, _, _ => none
  | k + 1, x3_14, v_near_15, v_edges_16 =>
    if x1 ≤ x3_14 then
    some (v_near_15, v_edges_16)
    else
    bd2 (
    pm_X0_init_L61 F x1 x3_14 F (0 : Int32) v_near_15 v_edges_16) fun v_near_17 v_edges_18 =>
    pm_X0_init_L53 F x1 k (x3_14 + (1 : Int32)) v_near_17 v_edges_18
def pm_X0_init (F : Nat) (g : Nat) (x1 : Int32) : Option (Int32 × Nat × (Nat → Int32) × Nat × (Nat → Int32) × Nat × (Nat → Int32) × Nat × (Nat → Int32) × Nat × (Nat → Int32) × Nat) :=
  if (x1 * x1) < 0 ∨ 100000 < (x1 * x1).toNatClampNeg then none else
  bd1 (gs g ((x1 * x1).toNatClampNeg)) fun g_2 =>
  if ((x1 * x1) * (6 : Int32)) < 0 ∨ 100000 < ((x1 * x1) * (6 : Int32)).toNatClampNeg then none else
  bd1 (gs g_2 (((x1 * x1) * (6 : Int32)).toNatClampNeg)) fun g_4 =>
  if (x1 * x1) < 0 ∨ 100000 < (x1 * x1).toNatClampNeg then none else
  bd1 (gs g_4 ((x1 * x1).toNatClampNeg)) fun g_6 =>
  if (x1 * x1) < 0 ∨ 100000 < (x1 * x1).toNatClampNeg then none else
  bd1 (gs g_6 ((x1 * x1).toNatClampNeg)) fun g_8 =>
  if (x1 * x1) < 0 ∨ 100000 < (x1 * x1).toNatClampNeg then none else
  bd1 (gs g_8 ((x1 * x1).toNatClampNeg)) fun g_10 =>
  bd2 (
  pm_X0_init_L53 F x1 F (0 : Int32) (fun _ => 0) (fun _ => 0)) fun v_near_11 v_edges_12 =>
  some (x1, (x1 * x1).toNatClampNeg, (fun _ => 0), ((x1 * x1) * (6 : Int32)).toNatClampNeg, v_near_11, (x1 * x1).toNatClampNeg, v_edges_12, (x1 * x1).toNatClampNeg, (fun _ => 0), (x1 * x1).toNatClampNeg, (fun _ => 0), g_10)
theorem mono_X0_init {F : Nat} {g : Nat} {x1 : Int32} {w0 : Int32} {w1 : Nat} {w2 : Nat → Int32} {w3 : Nat} {w4 : Nat → Int32} {w5 : Nat} {w6 : Nat → Int32} {w7 : Nat} {w8 : Nat → Int32} {w9 : Nat} {w10 : Nat → Int32} {wg : Nat} (h : pm_X0_init F g x1 = some (w0, w1, w2, w3, w4, w5, w6, w7, w8, w9, w10, wg)) : wg ≤ g := by
  rw [pm_X0_init] at h
  have hle : g ≤ g := Nat.le_refl _
  obtain ⟨hz, h⟩ := pm_nc h
  obtain ⟨z1, z2⟩ := nb_ok hz
  obtain ⟨g_34, hgs, h⟩ := bd1_s h
  have hle := Nat.le_trans (gs_le hgs) hle
  obtain ⟨hz, h⟩ := pm_nc h
  obtain ⟨z1, z2⟩ := nb_ok hz
  obtain ⟨g_36, hgs, h⟩ := bd1_s h
  have hle := Nat.le_trans (gs_le hgs) hle
  obtain ⟨hz, h⟩ := pm_nc h
  obtain ⟨z1, z2⟩ := nb_ok hz
  obtain ⟨g_38, hgs, h⟩ := bd1_s h
  have hle := Nat.le_trans (gs_le hgs) hle
  obtain ⟨hz, h⟩ := pm_nc h
  obtain ⟨z1, z2⟩ := nb_ok hz
  obtain ⟨g_40, hgs, h⟩ := bd1_s h
  have hle := Nat.le_trans (gs_le hgs) hle
  obtain ⟨hz, h⟩ := pm_nc h
  obtain ⟨z1, z2⟩ := nb_ok hz
  obtain ⟨g_42, hgs, h⟩ := bd1_s h
  have hle := Nat.le_trans (gs_le hgs) hle
  obtain ⟨v_near_43, v_edges_44, hw, h⟩ := bd2_s h
  exact le_last ((Prod.mk.inj ((Prod.mk.inj ((Prod.mk.inj ((Prod.mk.inj ((Prod.mk.inj ((Prod.mk.inj ((Prod.mk.inj ((Prod.mk.inj ((Prod.mk.inj ((Prod.mk.inj ((Prod.mk.inj (Option.some.inj h)).2)).2)).2)).2)).2)).2)).2)).2)).2)).2)).2) hle
def pm_X1_init (F : Nat) (g : Nat) : Option (Int32 × Int32 × Nat × (Nat → Int32) × Nat × (Nat → Int32) × Nat) :=
  bd1 (gs g ((17 : Int32).toNatClampNeg)) fun g_2 =>
  bd1 (gs g_2 ((16 : Int32).toNatClampNeg)) fun g_4 =>
  some ((1 : Int32), (1 : Int32), (17 : Int32).toNatClampNeg, (fun _ => 0), (16 : Int32).toNatClampNeg, (fun _ => 0), g_4)
theorem mono_X1_init {F : Nat} {g : Nat} {w0 : Int32} {w1 : Int32} {w2 : Nat} {w3 : Nat → Int32} {w4 : Nat} {w5 : Nat → Int32} {wg : Nat} (h : pm_X1_init F g = some (w0, w1, w2, w3, w4, w5, wg)) : wg ≤ g := by
  rw [pm_X1_init] at h
  have hle : g ≤ g := Nat.le_refl _
  obtain ⟨g_6, hgs, h⟩ := bd1_s h
  have hle := Nat.le_trans (gs_le hgs) hle
  obtain ⟨g_8, hgs, h⟩ := bd1_s h
  have hle := Nat.le_trans (gs_le hgs) hle
  exact le_last ((Prod.mk.inj ((Prod.mk.inj ((Prod.mk.inj ((Prod.mk.inj ((Prod.mk.inj ((Prod.mk.inj (Option.some.inj h)).2)).2)).2)).2)).2)).2) hle
def pm_X1_linkEntries_L63 (F : Nat) (n_tree_ahead : Nat) (v_tree_ahead : Nat → Int32) (n_behind_3 : Nat) (n_nextOne_5 : Nat) : Nat → Int32 → (Nat → Int32) → (Nat → Int32) → Option ((Nat → Int32) × (Nat → Int32))
  | 0, _, _, _ => none
  | k + 1, x1_13, v_behind_14, v_nextOne_15 =>
    if x1_13 < 0 then
    some (v_behind_14, v_nextOne_15)
    else
    if x1_13 < 0 ∨ n_tree_ahead ≤ x1_13.toNatClampNeg then none else
    if ((v_tree_ahead x1_13.toNatClampNeg) + (1 : Int32)) < 0 ∨ n_behind_3 ≤ ((v_tree_ahead x1_13.toNatClampNeg) + (1 : Int32)).toNatClampNeg then none else
    if x1_13 < 0 ∨ n_nextOne_5 ≤ x1_13.toNatClampNeg then none else
    pm_X1_linkEntries_L63 F n_tree_ahead v_tree_ahead n_behind_3 n_nextOne_5 k (x1_13 + (-1 : Int32)) (upd v_behind_14 ((v_tree_ahead x1_13.toNatClampNeg) + (1 : Int32)).toNatClampNeg x1_13) (upd v_nextOne_15 x1_13.toNatClampNeg (v_behind_14 ((v_tree_ahead x1_13.toNatClampNeg) + (1 : Int32)).toNatClampNeg))
def pm_X1_linkEntries (F : Nat) (g : Nat) (v_tree_count : Int32) (n_tree_ahead : Nat) (v_tree_ahead : Nat → Int32) (n_behind : Nat) (v_behind : Nat → Int32) (n_nextOne : Nat) (v_nextOne : Nat → Int32) : Option (Nat × (Nat → Int32) × Nat × (Nat → Int32) × Nat) :=
  bd5 (
  if v_tree_count ≤ (nI n_nextOne) then
  some (n_behind, v_behind, n_nextOne, v_nextOne, g)
  else
  if (nI n_tree_ahead) < 0 ∨ 100000 < (nI n_tree_ahead).toNatClampNeg then none else
  bd1 (gs g ((nI n_tree_ahead).toNatClampNeg)) fun g_20 =>
  if ((nI n_tree_ahead) + (1 : Int32)) < 0 ∨ 100000 < ((nI n_tree_ahead) + (1 : Int32)).toNatClampNeg then none else
  bd1 (gs g_20 (((nI n_tree_ahead) + (1 : Int32)).toNatClampNeg)) fun g_22 =>
  some (((nI n_tree_ahead) + (1 : Int32)).toNatClampNeg, (fun _ => 0), (nI n_tree_ahead).toNatClampNeg, (fun _ => 0), g_22)) fun n_behind_3 v_behind_4 n_nextOne_5 v_nextOne_6 g_7 =>
  bd1 (pm_J7_fill_53178 F n_behind_3 v_behind_4 (-1 : Int32)) fun v_p0_9 =>
  bd2 (
  pm_X1_linkEntries_L63 F n_tree_ahead v_tree_ahead n_behind_3 n_nextOne_5 F (v_tree_count - (1 : Int32)) v_p0_9 v_nextOne_6) fun v_behind_10 v_nextOne_11 =>
  some (n_behind_3, v_behind_10, n_nextOne_5, v_nextOne_11, g_7)
theorem mono_X1_linkEntries {F : Nat} {g : Nat} {v_tree_count : Int32} {n_tree_ahead : Nat} {v_tree_ahead : Nat → Int32} {n_behind : Nat} {v_behind : Nat → Int32} {n_nextOne : Nat} {v_nextOne : Nat → Int32} {w0 : Nat} {w1 : Nat → Int32} {w2 : Nat} {w3 : Nat → Int32} {wg : Nat} (h : pm_X1_linkEntries F g v_tree_count n_tree_ahead v_tree_ahead n_behind v_behind n_nextOne v_nextOne = some (w0, w1, w2, w3, wg)) : wg ≤ g := by
  rw [pm_X1_linkEntries] at h
  have hle : g ≤ g := Nat.le_refl _
  obtain ⟨n_behind_25, v_behind_26, n_nextOne_27, v_nextOne_28, g_29, hw, h⟩ := bd5_s h
  have mo : g_29 ≤ g := by
    clear h
    have h := hw
    have hle : g ≤ g := Nat.le_refl _
    by_cases cb : v_tree_count ≤ (nI n_nextOne)
    · replace h := pm_pos cb h
      exact le_last ((Prod.mk.inj ((Prod.mk.inj ((Prod.mk.inj ((Prod.mk.inj (Option.some.inj h)).2)).2)).2)).2) hle
    · replace h := pm_neg cb h
      obtain ⟨hz, h⟩ := pm_nc h
      obtain ⟨z1, z2⟩ := nb_ok hz
      obtain ⟨g_42, hgs, h⟩ := bd1_s h
      have hle := Nat.le_trans (gs_le hgs) hle
      obtain ⟨hz, h⟩ := pm_nc h
      obtain ⟨z1, z2⟩ := nb_ok hz
      obtain ⟨g_44, hgs, h⟩ := bd1_s h
      have hle := Nat.le_trans (gs_le hgs) hle
      exact le_last ((Prod.mk.inj ((Prod.mk.inj ((Prod.mk.inj ((Prod.mk.inj (Option.some.inj h)).2)).2)).2)).2) hle
  have hle := Nat.le_trans mo hle
  obtain ⟨v_p0_31, hc, h⟩ := bd1_s h
  obtain ⟨v_behind_32, v_nextOne_33, hw, h⟩ := bd2_s h
  exact le_last ((Prod.mk.inj ((Prod.mk.inj ((Prod.mk.inj ((Prod.mk.inj (Option.some.inj h)).2)).2)).2)).2) hle
def pm_X1_judge_L34 (F : Nat) (n_bench_stones : Nat) (n_bench_near : Nat) (v_bench_near : Nat → Int32) (n_bench_edges : Nat) (v_bench_edges : Nat → Int32) (n_bench_marks : Nat) (n_bench_stack : Nat) (n_tree_ahead : Nat) (v_tree_ahead : Nat → Int32) (n_tree_cells : Nat) (v_tree_cells : Nat → Int32) (x1 : Int32) (n_behind_1 : Nat) (v_behind_2 : Nat → Int32) (n_nextOne_3 : Nat) (v_nextOne_4 : Nat → Int32) : Nat → Int32 → Int32 → Int32 → Int32 → Int32 → (Nat → Int32) → (Nat → Int32) → (Nat → Int32) → Option (Int32 × Int32 × Int32 × (Nat → Int32) × (Nat → Int32) × (Nat → Int32))
  | 0, _, _, _, _, _, _, _, _ => none
  | k + 1, x3_18, x4_19, x5_20, x6_21, v_mover_22, v_bench_stones_23, v_bench_marks_24, v_bench_stack_25 =>
    if (8000 : Int32) ≤ x6_21 then
    some (x3_18, x4_19, v_mover_22, v_bench_stones_23, v_bench_marks_24, v_bench_stack_25)
    else
    if x4_19 = 0 then
    if x5_20 = (-1 : Int32) then
    some (x3_18, x4_19, v_mover_22, v_bench_stones_23, v_bench_marks_24, v_bench_stack_25)
    else
    bd5 (pm_X1_wrongAt F x1 v_mover_22 n_bench_stones v_bench_stones_23 n_bench_near v_bench_near n_bench_edges v_bench_edges n_bench_marks v_bench_marks_24 n_bench_stack v_bench_stack_25 n_tree_cells v_tree_cells n_behind_1 v_behind_2 n_nextOne_3 v_nextOne_4 x5_20) fun r_26 v_mover_27 v_bench_stones_28 v_bench_marks_29 v_bench_stack_30 =>
    if r_26 = 0 then
    if (x5_20 + (1 : Int32)) < 0 ∨ n_behind_1 ≤ (x5_20 + (1 : Int32)).toNatClampNeg then none else
    if (v_behind_2 (x5_20 + (1 : Int32)).toNatClampNeg) = (-1 : Int32) then
    bd3 (pm_X1_climbToNext F v_mover_27 n_bench_stones v_bench_stones_28 n_tree_ahead v_tree_ahead n_tree_cells v_tree_cells n_nextOne_3 v_nextOne_4 x5_20) fun r_32 v_mover_33 v_bench_stones_34 =>
    pm_X1_judge_L34 F n_bench_stones n_bench_near v_bench_near n_bench_edges v_bench_edges n_bench_marks n_bench_stack n_tree_ahead v_tree_ahead n_tree_cells v_tree_cells x1 n_behind_1 v_behind_2 n_nextOne_3 v_nextOne_4 k x5_20 r_26 r_32 (x6_21 + (1 : Int32)) v_mover_33 v_bench_stones_34 v_bench_marks_29 v_bench_stack_30
    else
    pm_X1_judge_L34 F n_bench_stones n_bench_near v_bench_near n_bench_edges v_bench_edges n_bench_marks n_bench_stack n_tree_ahead v_tree_ahead n_tree_cells v_tree_cells x1 n_behind_1 v_behind_2 n_nextOne_3 v_nextOne_4 k x5_20 r_26 (v_behind_2 (x5_20 + (1 : Int32)).toNatClampNeg) (x6_21 + (1 : Int32)) v_mover_27 v_bench_stones_28 v_bench_marks_29 v_bench_stack_30
    else
    pm_X1_judge_L34 F n_bench_stones n_bench_near v_bench_near n_bench_edges v_bench_edges n_bench_marks n_bench_stack n_tree_ahead v_tree_ahead n_tree_cells v_tree_cells x1 n_behind_1 v_behind_2 n_nextOne_3 v_nextOne_4 k x5_20 r_26 x5_20 (x6_21 + (1 : Int32)) v_mover_27 v_bench_stones_28 v_bench_marks_29 v_bench_stack_30
    else
    some (x3_18, x4_19, v_mover_22, v_bench_stones_23, v_bench_marks_24, v_bench_stack_25)
def pm_X1_judge (F : Nat) (g : Nat) (n_bench_stones : Nat) (v_bench_stones : Nat → Int32) (n_bench_near : Nat) (v_bench_near : Nat → Int32) (n_bench_edges : Nat) (v_bench_edges : Nat → Int32) (n_bench_marks : Nat) (v_bench_marks : Nat → Int32) (n_bench_stack : Nat) (v_bench_stack : Nat → Int32) (v_tree_count : Int32) (n_tree_ahead : Nat) (v_tree_ahead : Nat → Int32) (n_tree_cells : Nat) (v_tree_cells : Nat → Int32) (n_behind : Nat) (v_behind : Nat → Int32) (n_nextOne : Nat) (v_nextOne : Nat → Int32) (x1 : Int32) (x2 : Int32) : Option (Int32 × Int32 × Int32 × (Nat → Int32) × (Nat → Int32) × (Nat → Int32) × Nat × (Nat → Int32) × Nat × (Nat → Int32) × Nat) :=
  bd5 (pm_X1_linkEntries F g v_tree_count n_tree_ahead v_tree_ahead n_behind v_behind n_nextOne v_nextOne) fun n_behind_1 v_behind_2 n_nextOne_3 v_nextOne_4 g_5 =>
  bd2 (pm_X1_wrongBehind F x1 x2 n_bench_stones v_bench_stones n_bench_marks v_bench_marks n_tree_cells v_tree_cells n_behind_1 v_behind_2 n_nextOne_3 v_nextOne_4 (-1 : Int32)) fun r_8 v_bench_marks_9 =>
  if (0 : Int32) < 0 ∨ n_behind_1 ≤ (0 : Int32).toNatClampNeg then none else
  bd6 (
  pm_X1_judge_L34 F n_bench_stones n_bench_near v_bench_near n_bench_edges v_bench_edges n_bench_marks n_bench_stack n_tree_ahead v_tree_ahead n_tree_cells v_tree_cells x1 n_behind_1 v_behind_2 n_nextOne_3 v_nextOne_4 F (-1 : Int32) r_8 (v_behind_2 (0 : Int32).toNatClampNeg) (0 : Int32) x2 v_bench_stones v_bench_marks_9 v_bench_stack) fun x3_11 x4_12 v_mover_13 v_bench_stones_14 v_bench_marks_15 v_bench_stack_16 =>
  if x4_12 = 0 then
  some ((0 : Int32), x1, v_mover_13, v_bench_stones_14, v_bench_marks_15, v_bench_stack_16, n_behind_1, v_behind_2, n_nextOne_3, v_nextOne_4, g_5)
  else
  some (x4_12 + ((16 : Int32) * (x3_11 + (1 : Int32))), x1, v_mover_13, v_bench_stones_14, v_bench_marks_15, v_bench_stack_16, n_behind_1, v_behind_2, n_nextOne_3, v_nextOne_4, g_5)
theorem mono_X1_judge {F : Nat} {g : Nat} {n_bench_stones : Nat} {v_bench_stones : Nat → Int32} {n_bench_near : Nat} {v_bench_near : Nat → Int32} {n_bench_edges : Nat} {v_bench_edges : Nat → Int32} {n_bench_marks : Nat} {v_bench_marks : Nat → Int32} {n_bench_stack : Nat} {v_bench_stack : Nat → Int32} {v_tree_count : Int32} {n_tree_ahead : Nat} {v_tree_ahead : Nat → Int32} {n_tree_cells : Nat} {v_tree_cells : Nat → Int32} {n_behind : Nat} {v_behind : Nat → Int32} {n_nextOne : Nat} {v_nextOne : Nat → Int32} {x1 : Int32} {x2 : Int32} {r : Int32} {w0 : Int32} {w1 : Int32} {w2 : Nat → Int32} {w3 : Nat → Int32} {w4 : Nat → Int32} {w5 : Nat} {w6 : Nat → Int32} {w7 : Nat} {w8 : Nat → Int32} {wg : Nat} (h : pm_X1_judge F g n_bench_stones v_bench_stones n_bench_near v_bench_near n_bench_edges v_bench_edges n_bench_marks v_bench_marks n_bench_stack v_bench_stack v_tree_count n_tree_ahead v_tree_ahead n_tree_cells v_tree_cells n_behind v_behind n_nextOne v_nextOne x1 x2 = some (r, w0, w1, w2, w3, w4, w5, w6, w7, w8, wg)) : wg ≤ g := by
  rw [pm_X1_judge] at h
  have hle : g ≤ g := Nat.le_refl _
  obtain ⟨n_behind_35, v_behind_36, n_nextOne_37, v_nextOne_38, g_39, hc, h⟩ := bd5_s h
  have mo := mono_X1_linkEntries hc
  have hle := Nat.le_trans mo hle
  obtain ⟨r_42, v_bench_marks_43, hc, h⟩ := bd2_s h
  obtain ⟨b_44, h⟩ := pm_in h
  obtain ⟨x3_45, x4_46, v_mover_47, v_bench_stones_48, v_bench_marks_49, v_bench_stack_50, hw, h⟩ := bd6_s h
  by_cases cb : x4_46 = 0
  · replace h := pm_pos cb h
    exact le_last ((Prod.mk.inj ((Prod.mk.inj ((Prod.mk.inj ((Prod.mk.inj ((Prod.mk.inj ((Prod.mk.inj ((Prod.mk.inj ((Prod.mk.inj ((Prod.mk.inj ((Prod.mk.inj (Option.some.inj h)).2)).2)).2)).2)).2)).2)).2)).2)).2)).2) hle
  · replace h := pm_neg cb h
    exact le_last ((Prod.mk.inj ((Prod.mk.inj ((Prod.mk.inj ((Prod.mk.inj ((Prod.mk.inj ((Prod.mk.inj ((Prod.mk.inj ((Prod.mk.inj ((Prod.mk.inj ((Prod.mk.inj (Option.some.inj h)).2)).2)).2)).2)).2)).2)).2)).2)).2)).2) hle
def pm_X2_init (F : Nat) (g : Nat) : Option (Nat × (Nat → Int32) × Nat × (Nat → Int32) × Nat) :=
  bd1 (gs g ((16 : Int32).toNatClampNeg)) fun g_2 =>
  bd1 (gs g_2 ((16 : Int32).toNatClampNeg)) fun g_4 =>
  some ((16 : Int32).toNatClampNeg, (fun _ => 0), (16 : Int32).toNatClampNeg, (fun _ => 0), g_4)
theorem mono_X2_init {F : Nat} {g : Nat} {w0 : Nat} {w1 : Nat → Int32} {w2 : Nat} {w3 : Nat → Int32} {wg : Nat} (h : pm_X2_init F g = some (w0, w1, w2, w3, wg)) : wg ≤ g := by
  rw [pm_X2_init] at h
  have hle : g ≤ g := Nat.le_refl _
  obtain ⟨g_6, hgs, h⟩ := bd1_s h
  have hle := Nat.le_trans (gs_le hgs) hle
  obtain ⟨g_8, hgs, h⟩ := bd1_s h
  have hle := Nat.le_trans (gs_le hgs) hle
  exact le_last ((Prod.mk.inj ((Prod.mk.inj ((Prod.mk.inj ((Prod.mk.inj (Option.some.inj h)).2)).2)).2)).2) hle
def pm_J7_copyOf_59c91 (F : Nat) (g : Nat) (n_p0 : Nat) (v_p0 : Nat → Int32) (x1 : Int32) : Option (Nat × (Nat → Int32) × Nat) :=
  if x1 = (nI n_p0) then none else
  if x1 < 0 ∨ 100000 < x1.toNatClampNeg then none else
  bd1 (gs g x1.toNatClampNeg) fun g_2 =>
  if (0 : Int32) < 0 ∨ (0 : Int32) < 0 ∨ (if x1 < (nI n_p0) then x1 else (nI n_p0)) < 0 ∨ n_p0 < (0 : Int32).toNatClampNeg + (if x1 < (nI n_p0) then x1 else (nI n_p0)).toNatClampNeg ∨ x1.toNatClampNeg < (0 : Int32).toNatClampNeg + (if x1 < (nI n_p0) then x1 else (nI n_p0)).toNatClampNeg then none else
  some (x1.toNatClampNeg, va_cpy v_p0 (fun _ => 0) (0 : Int32).toNatClampNeg (0 : Int32).toNatClampNeg (if x1 < (nI n_p0) then x1 else (nI n_p0)).toNatClampNeg, g_2)
theorem mono_J7_copyOf_59c91 {F : Nat} {g : Nat} {n_p0 : Nat} {v_p0 : Nat → Int32} {x1 : Int32} {w0 : Nat} {w1 : Nat → Int32} {wg : Nat} (h : pm_J7_copyOf_59c91 F g n_p0 v_p0 x1 = some (w0, w1, wg)) : wg ≤ g := by
  rw [pm_J7_copyOf_59c91] at h
  have hle : g ≤ g := Nat.le_refl _
  obtain ⟨cb, h⟩ := pm_nc h
  obtain ⟨hz, h⟩ := pm_nc h
  obtain ⟨z1, z2⟩ := nb_ok hz
  obtain ⟨g_4, hgs, h⟩ := bd1_s h
  have hle := Nat.le_trans (gs_le hgs) hle
  obtain ⟨hz, h⟩ := pm_nc h
  exact le_last ((Prod.mk.inj ((Prod.mk.inj (Option.some.inj h)).2)).2) hle
def pm_X2_add (F : Nat) (g : Nat) (v_count : Int32) (n_ahead : Nat) (v_ahead : Nat → Int32) (n_cells : Nat) (v_cells : Nat → Int32) (x1 : Int32) (x2 : Int32) : Option (Int32 × Int32 × Nat × (Nat → Int32) × Nat × (Nat → Int32) × Nat) :=
  if v_count < (8000 : Int32) then
  bd5 (
  if v_count < (nI n_ahead) then
  some (n_ahead, v_ahead, n_cells, v_cells, g)
  else
  bd1 (pm_X6_roomierLength F (nI n_ahead)) fun r_11 =>
  bd3 (pm_J7_copyOf_59c91 F g n_ahead v_ahead r_11) fun n_ret_12 v_ret_13 g_14 =>
  bd3 (pm_J7_copyOf_59c91 F g_14 n_cells v_cells r_11) fun n_ret_16 v_ret_17 g_18 =>
  some (n_ret_12, v_ret_13, n_ret_16, v_ret_17, g_18)) fun n_ahead_3 v_ahead_4 n_cells_5 v_cells_6 g_7 =>
  if v_count < 0 ∨ n_ahead_3 ≤ v_count.toNatClampNeg then none else
  if v_count < 0 ∨ n_cells_5 ≤ v_count.toNatClampNeg then none else
  some ((v_count + (1 : Int32)) - (1 : Int32), v_count + (1 : Int32), n_ahead_3, upd v_ahead_4 v_count.toNatClampNeg x1, n_cells_5, upd v_cells_6 v_count.toNatClampNeg x2, g_7)
  else
  some ((-1 : Int32), v_count, n_ahead, v_ahead, n_cells, v_cells, g)
theorem mono_X2_add {F : Nat} {g : Nat} {v_count : Int32} {n_ahead : Nat} {v_ahead : Nat → Int32} {n_cells : Nat} {v_cells : Nat → Int32} {x1 : Int32} {x2 : Int32} {r : Int32} {w0 : Int32} {w1 : Nat} {w2 : Nat → Int32} {w3 : Nat} {w4 : Nat → Int32} {wg : Nat} (h : pm_X2_add F g v_count n_ahead v_ahead n_cells v_cells x1 x2 = some (r, w0, w1, w2, w3, w4, wg)) : wg ≤ g := by
  rw [pm_X2_add] at h
  have hle : g ≤ g := Nat.le_refl _
  by_cases cb : v_count < (8000 : Int32)
  · replace h := pm_pos cb h
    obtain ⟨n_ahead_22, v_ahead_23, n_cells_24, v_cells_25, g_26, hw, h⟩ := bd5_s h
    have mo : g_26 ≤ g := by
      clear h
      have h := hw
      have hle : g ≤ g := Nat.le_refl _
      by_cases cb : v_count < (nI n_ahead)
      · replace h := pm_pos cb h
        exact le_last ((Prod.mk.inj ((Prod.mk.inj ((Prod.mk.inj ((Prod.mk.inj (Option.some.inj h)).2)).2)).2)).2) hle
      · replace h := pm_neg cb h
        obtain ⟨r_30, hc, h⟩ := bd1_s h
        obtain ⟨n_ret_31, v_ret_32, g_33, hc, h⟩ := bd3_s h
        have mo := mono_J7_copyOf_59c91 hc
        have hle := Nat.le_trans mo hle
        obtain ⟨n_ret_35, v_ret_36, g_37, hc, h⟩ := bd3_s h
        have mo := mono_J7_copyOf_59c91 hc
        have hle := Nat.le_trans mo hle
        exact le_last ((Prod.mk.inj ((Prod.mk.inj ((Prod.mk.inj ((Prod.mk.inj (Option.some.inj h)).2)).2)).2)).2) hle
    have hle := Nat.le_trans mo hle
    obtain ⟨b_28, h⟩ := pm_in h
    obtain ⟨b_29, h⟩ := pm_in h
    exact le_last ((Prod.mk.inj ((Prod.mk.inj ((Prod.mk.inj ((Prod.mk.inj ((Prod.mk.inj ((Prod.mk.inj (Option.some.inj h)).2)).2)).2)).2)).2)).2) hle
  · replace h := pm_neg cb h
    exact le_last ((Prod.mk.inj ((Prod.mk.inj ((Prod.mk.inj ((Prod.mk.inj ((Prod.mk.inj ((Prod.mk.inj (Option.some.inj h)).2)).2)).2)).2)).2)).2) hle
def pm_X2_copyEntries_L7 (F : Nat) (v_p1_count : Int32) (n_p1_ahead : Nat) (v_p1_ahead : Nat → Int32) (n_p1_cells : Nat) (v_p1_cells : Nat → Int32) : Nat → Int32 → Int32 → Nat → (Nat → Int32) → Nat → (Nat → Int32) → Nat → Option (Int32 × Nat × (Nat → Int32) × Nat × (Nat → Int32) × Nat)
  | 0, _, _, _, _, _, _, _ => none
  | k + 1, x2_12, v_count_13, n_ahead_14, v_ahead_15, n_cells_16, v_cells_17, g_18 =>
    if v_p1_count ≤ x2_12 then
    some (v_count_13, n_ahead_14, v_ahead_15, n_cells_16, v_cells_17, g_18)
    else
    if x2_12 < 0 ∨ n_p1_ahead ≤ x2_12.toNatClampNeg then none else
    if x2_12 < 0 ∨ n_p1_cells ≤ x2_12.toNatClampNeg then none else
    bd7 (pm_X2_add F g_18 v_count_13 n_ahead_14 v_ahead_15 n_cells_16 v_cells_17 (v_p1_ahead x2_12.toNatClampNeg) (v_p1_cells x2_12.toNatClampNeg)) fun r_21 v_count_22 n_ahead_23 v_ahead_24 n_cells_25 v_cells_26 g_27 =>
    pm_X2_copyEntries_L7 F v_p1_count n_p1_ahead v_p1_ahead n_p1_cells v_p1_cells k (x2_12 + (1 : Int32)) v_count_22 n_ahead_23 v_ahead_24 n_cells_25 v_cells_26 g_27
def pm_X2_copyEntries (F : Nat) (g : Nat) (n_ahead : Nat) (v_ahead : Nat → Int32) (n_cells : Nat) (v_cells : Nat → Int32) (v_p1_count : Int32) (n_p1_ahead : Nat) (v_p1_ahead : Nat → Int32) (n_p1_cells : Nat) (v_p1_cells : Nat → Int32) : Option (Int32 × Nat × (Nat → Int32) × Nat × (Nat → Int32) × Nat) :=
  bd6 (
  pm_X2_copyEntries_L7 F v_p1_count n_p1_ahead v_p1_ahead n_p1_cells v_p1_cells F (0 : Int32) (0 : Int32) n_ahead v_ahead n_cells v_cells g) fun v_count_3 n_ahead_4 v_ahead_5 n_cells_6 v_cells_7 g_8 =>
  some (v_count_3, n_ahead_4, v_ahead_5, n_cells_6, v_cells_7, g_8)
theorem mono_X2_copyEntries_L7 {F : Nat} {v_p1_count : Int32} {n_p1_ahead : Nat} {v_p1_ahead : Nat → Int32} {n_p1_cells : Nat} {v_p1_cells : Nat → Int32} : ∀ {k : Nat} {x2_12 : Int32} {v_count_13 : Int32} {n_ahead_14 : Nat} {v_ahead_15 : Nat → Int32} {n_cells_16 : Nat} {v_cells_17 : Nat → Int32} {g_18 : Nat} {v_count_3 : Int32} {n_ahead_4 : Nat} {v_ahead_5 : Nat → Int32} {n_cells_6 : Nat} {v_cells_7 : Nat → Int32} {g_8 : Nat}, pm_X2_copyEntries_L7 F v_p1_count n_p1_ahead v_p1_ahead n_p1_cells v_p1_cells k x2_12 v_count_13 n_ahead_14 v_ahead_15 n_cells_16 v_cells_17 g_18 = some (v_count_3, n_ahead_4, v_ahead_5, n_cells_6, v_cells_7, g_8) → g_8 ≤ g_18 := by
  intro k
  induction k with
  | zero => intro x2_12 v_count_13 n_ahead_14 v_ahead_15 n_cells_16 v_cells_17 g_18 v_count_3 n_ahead_4 v_ahead_5 n_cells_6 v_cells_7 g_8 h; rw [pm_X2_copyEntries_L7] at h; cases h
  | succ k ih =>
    intro x2_12 v_count_13 n_ahead_14 v_ahead_15 n_cells_16 v_cells_17 g_18 v_count_3 n_ahead_4 v_ahead_5 n_cells_6 v_cells_7 g_8 h
    rw [pm_X2_copyEntries_L7] at h
    have hle : g_18 ≤ g_18 := Nat.le_refl _
    by_cases cb : v_p1_count ≤ x2_12
    · replace h := pm_pos cb h
      exact le_last ((Prod.mk.inj ((Prod.mk.inj ((Prod.mk.inj ((Prod.mk.inj ((Prod.mk.inj (Option.some.inj h)).2)).2)).2)).2)).2) hle
    · replace h := pm_neg cb h
      obtain ⟨b_19, h⟩ := pm_in h
      obtain ⟨b_20, h⟩ := pm_in h
      obtain ⟨r_21, v_count_22, n_ahead_23, v_ahead_24, n_cells_25, v_cells_26, g_27, hc, h⟩ := bd7_s h
      have mo := mono_X2_add hc
      have hle := Nat.le_trans mo hle
      exact Nat.le_trans (ih h) hle
theorem mono_X2_copyEntries {F : Nat} {g : Nat} {n_ahead : Nat} {v_ahead : Nat → Int32} {n_cells : Nat} {v_cells : Nat → Int32} {v_p1_count : Int32} {n_p1_ahead : Nat} {v_p1_ahead : Nat → Int32} {n_p1_cells : Nat} {v_p1_cells : Nat → Int32} {w0 : Int32} {w1 : Nat} {w2 : Nat → Int32} {w3 : Nat} {w4 : Nat → Int32} {wg : Nat} (h : pm_X2_copyEntries F g n_ahead v_ahead n_cells v_cells v_p1_count n_p1_ahead v_p1_ahead n_p1_cells v_p1_cells = some (w0, w1, w2, w3, w4, wg)) : wg ≤ g := by
  rw [pm_X2_copyEntries] at h
  have hle : g ≤ g := Nat.le_refl _
  obtain ⟨v_count_32, n_ahead_33, v_ahead_34, n_cells_35, v_cells_36, g_37, hw, h⟩ := bd6_s h
  have hle := Nat.le_trans (mono_X2_copyEntries_L7 hw) hle
  exact le_last ((Prod.mk.inj ((Prod.mk.inj ((Prod.mk.inj ((Prod.mk.inj ((Prod.mk.inj (Option.some.inj h)).2)).2)).2)).2)).2) hle
def pm_X3_init (F : Nat) (g : Nat) : Option (Nat × (Nat → Int32) × Nat × (Nat → Int32) × Nat × (Nat → Int32) × Nat × (Nat → Int32) × Nat × (Nat → Int32) × Nat × (Nat → Int32) × Nat) :=
  bd1 (gs g ((16 : Int32).toNatClampNeg)) fun g_2 =>
  bd1 (gs g_2 ((16 : Int32).toNatClampNeg)) fun g_4 =>
  bd1 (gs g_4 ((16 : Int32).toNatClampNeg)) fun g_6 =>
  bd1 (gs g_6 ((16 : Int32).toNatClampNeg)) fun g_8 =>
  bd1 (gs g_8 ((16 : Int32).toNatClampNeg)) fun g_10 =>
  bd1 (gs g_10 ((16 : Int32).toNatClampNeg)) fun g_12 =>
  some ((16 : Int32).toNatClampNeg, (fun _ => 0), (16 : Int32).toNatClampNeg, (fun _ => 0), (16 : Int32).toNatClampNeg, (fun _ => 0), (16 : Int32).toNatClampNeg, (fun _ => 0), (16 : Int32).toNatClampNeg, (fun _ => 0), (16 : Int32).toNatClampNeg, (fun _ => 0), g_12)
theorem mono_X3_init {F : Nat} {g : Nat} {w0 : Nat} {w1 : Nat → Int32} {w2 : Nat} {w3 : Nat → Int32} {w4 : Nat} {w5 : Nat → Int32} {w6 : Nat} {w7 : Nat → Int32} {w8 : Nat} {w9 : Nat → Int32} {w10 : Nat} {w11 : Nat → Int32} {wg : Nat} (h : pm_X3_init F g = some (w0, w1, w2, w3, w4, w5, w6, w7, w8, w9, w10, w11, wg)) : wg ≤ g := by
  rw [pm_X3_init] at h
  have hle : g ≤ g := Nat.le_refl _
  obtain ⟨g_14, hgs, h⟩ := bd1_s h
  have hle := Nat.le_trans (gs_le hgs) hle
  obtain ⟨g_16, hgs, h⟩ := bd1_s h
  have hle := Nat.le_trans (gs_le hgs) hle
  obtain ⟨g_18, hgs, h⟩ := bd1_s h
  have hle := Nat.le_trans (gs_le hgs) hle
  obtain ⟨g_20, hgs, h⟩ := bd1_s h
  have hle := Nat.le_trans (gs_le hgs) hle
  obtain ⟨g_22, hgs, h⟩ := bd1_s h
  have hle := Nat.le_trans (gs_le hgs) hle
  obtain ⟨g_24, hgs, h⟩ := bd1_s h
  have hle := Nat.le_trans (gs_le hgs) hle
  exact le_last ((Prod.mk.inj ((Prod.mk.inj ((Prod.mk.inj ((Prod.mk.inj ((Prod.mk.inj ((Prod.mk.inj ((Prod.mk.inj ((Prod.mk.inj ((Prod.mk.inj ((Prod.mk.inj ((Prod.mk.inj ((Prod.mk.inj (Option.some.inj h)).2)).2)).2)).2)).2)).2)).2)).2)).2)).2)).2)).2) hle
def pm_X3_lengthen (F : Nat) (g : Nat) (n_cells : Nat) (v_cells : Nat → Int32) (n_ahead : Nat) (v_ahead : Nat → Int32) (n_proof : Nat) (v_proof : Nat → Int32) (n_disproof : Nat) (v_disproof : Nat → Int32) (n_child : Nat) (v_child : Nat → Int32) (n_children : Nat) (v_children : Nat → Int32) : Option (Nat × (Nat → Int32) × Nat × (Nat → Int32) × Nat × (Nat → Int32) × Nat × (Nat → Int32) × Nat × (Nat → Int32) × Nat × (Nat → Int32) × Nat) :=
  bd1 (pm_X6_roomierLength F (nI n_cells)) fun r_1 =>
  bd3 (pm_J7_copyOf_59c91 F g n_cells v_cells r_1) fun n_ret_2 v_ret_3 g_4 =>
  bd3 (pm_J7_copyOf_59c91 F g_4 n_ahead v_ahead r_1) fun n_ret_6 v_ret_7 g_8 =>
  bd3 (pm_J7_copyOf_59c91 F g_8 n_proof v_proof r_1) fun n_ret_10 v_ret_11 g_12 =>
  bd3 (pm_J7_copyOf_59c91 F g_12 n_disproof v_disproof r_1) fun n_ret_14 v_ret_15 g_16 =>
  bd3 (pm_J7_copyOf_59c91 F g_16 n_child v_child r_1) fun n_ret_18 v_ret_19 g_20 =>
  bd3 (pm_J7_copyOf_59c91 F g_20 n_children v_children r_1) fun n_ret_22 v_ret_23 g_24 =>
  some (n_ret_2, v_ret_3, n_ret_6, v_ret_7, n_ret_10, v_ret_11, n_ret_14, v_ret_15, n_ret_18, v_ret_19, n_ret_22, v_ret_23, g_24)
theorem mono_X3_lengthen {F : Nat} {g : Nat} {n_cells : Nat} {v_cells : Nat → Int32} {n_ahead : Nat} {v_ahead : Nat → Int32} {n_proof : Nat} {v_proof : Nat → Int32} {n_disproof : Nat} {v_disproof : Nat → Int32} {n_child : Nat} {v_child : Nat → Int32} {n_children : Nat} {v_children : Nat → Int32} {w0 : Nat} {w1 : Nat → Int32} {w2 : Nat} {w3 : Nat → Int32} {w4 : Nat} {w5 : Nat → Int32} {w6 : Nat} {w7 : Nat → Int32} {w8 : Nat} {w9 : Nat → Int32} {w10 : Nat} {w11 : Nat → Int32} {wg : Nat} (h : pm_X3_lengthen F g n_cells v_cells n_ahead v_ahead n_proof v_proof n_disproof v_disproof n_child v_child n_children v_children = some (w0, w1, w2, w3, w4, w5, w6, w7, w8, w9, w10, w11, wg)) : wg ≤ g := by
  rw [pm_X3_lengthen] at h
  have hle : g ≤ g := Nat.le_refl _
  obtain ⟨r_26, hc, h⟩ := bd1_s h
  obtain ⟨n_ret_27, v_ret_28, g_29, hc, h⟩ := bd3_s h
  have mo := mono_J7_copyOf_59c91 hc
  have hle := Nat.le_trans mo hle
  obtain ⟨n_ret_31, v_ret_32, g_33, hc, h⟩ := bd3_s h
  have mo := mono_J7_copyOf_59c91 hc
  have hle := Nat.le_trans mo hle
  obtain ⟨n_ret_35, v_ret_36, g_37, hc, h⟩ := bd3_s h
  have mo := mono_J7_copyOf_59c91 hc
  have hle := Nat.le_trans mo hle
  obtain ⟨n_ret_39, v_ret_40, g_41, hc, h⟩ := bd3_s h
  have mo := mono_J7_copyOf_59c91 hc
  have hle := Nat.le_trans mo hle
  obtain ⟨n_ret_43, v_ret_44, g_45, hc, h⟩ := bd3_s h
  have mo := mono_J7_copyOf_59c91 hc
  have hle := Nat.le_trans mo hle
  obtain ⟨n_ret_47, v_ret_48, g_49, hc, h⟩ := bd3_s h
  have mo := mono_J7_copyOf_59c91 hc
  have hle := Nat.le_trans mo hle
  exact le_last ((Prod.mk.inj ((Prod.mk.inj ((Prod.mk.inj ((Prod.mk.inj ((Prod.mk.inj ((Prod.mk.inj ((Prod.mk.inj ((Prod.mk.inj ((Prod.mk.inj ((Prod.mk.inj ((Prod.mk.inj ((Prod.mk.inj (Option.some.inj h)).2)).2)).2)).2)).2)).2)).2)).2)).2)).2)).2)).2) hle
def pm_X3_add (F : Nat) (g : Nat) (v_count : Int32) (n_cells : Nat) (v_cells : Nat → Int32) (n_ahead : Nat) (v_ahead : Nat → Int32) (n_proof : Nat) (v_proof : Nat → Int32) (n_disproof : Nat) (v_disproof : Nat → Int32) (n_child : Nat) (v_child : Nat → Int32) (n_children : Nat) (v_children : Nat → Int32) (x1 : Int32) (x2 : Int32) : Option (Int32 × Int32 × Nat × (Nat → Int32) × Nat × (Nat → Int32) × Nat × (Nat → Int32) × Nat × (Nat → Int32) × Nat × (Nat → Int32) × Nat × (Nat → Int32) × Nat) :=
  if v_count < (8000 : Int32) then
  bd13 (
  if v_count < (nI n_cells) then
  some (n_cells, v_cells, n_ahead, v_ahead, n_proof, v_proof, n_disproof, v_disproof, n_child, v_child, n_children, v_children, g)
  else
  bd13 (pm_X3_lengthen F g n_cells v_cells n_ahead v_ahead n_proof v_proof n_disproof v_disproof n_child v_child n_children v_children) fun n_cells_27 v_cells_28 n_ahead_29 v_ahead_30 n_proof_31 v_proof_32 n_disproof_33 v_disproof_34 n_child_35 v_child_36 n_children_37 v_children_38 g_39 =>
  some (n_cells_27, v_cells_28, n_ahead_29, v_ahead_30, n_proof_31, v_proof_32, n_disproof_33, v_disproof_34, n_child_35, v_child_36, n_children_37, v_children_38, g_39)) fun n_cells_7 v_cells_8 n_ahead_9 v_ahead_10 n_proof_11 v_proof_12 n_disproof_13 v_disproof_14 n_child_15 v_child_16 n_children_17 v_children_18 g_19 =>
  if v_count < 0 ∨ n_cells_7 ≤ v_count.toNatClampNeg then none else
  if v_count < 0 ∨ n_ahead_9 ≤ v_count.toNatClampNeg then none else
  if v_count < 0 ∨ n_proof_11 ≤ v_count.toNatClampNeg then none else
  if v_count < 0 ∨ n_disproof_13 ≤ v_count.toNatClampNeg then none else
  if v_count < 0 ∨ n_child_15 ≤ v_count.toNatClampNeg then none else
  if v_count < 0 ∨ n_children_17 ≤ v_count.toNatClampNeg then none else
  some ((v_count + (1 : Int32)) - (1 : Int32), v_count + (1 : Int32), n_cells_7, upd v_cells_8 v_count.toNatClampNeg x2, n_ahead_9, upd v_ahead_10 v_count.toNatClampNeg x1, n_proof_11, upd v_proof_12 v_count.toNatClampNeg (1 : Int32), n_disproof_13, upd v_disproof_14 v_count.toNatClampNeg (1 : Int32), n_child_15, upd v_child_16 v_count.toNatClampNeg (-1 : Int32), n_children_17, upd v_children_18 v_count.toNatClampNeg (0 : Int32), g_19)
  else
  some ((-1 : Int32), v_count, n_cells, v_cells, n_ahead, v_ahead, n_proof, v_proof, n_disproof, v_disproof, n_child, v_child, n_children, v_children, g)
theorem mono_X3_add {F : Nat} {g : Nat} {v_count : Int32} {n_cells : Nat} {v_cells : Nat → Int32} {n_ahead : Nat} {v_ahead : Nat → Int32} {n_proof : Nat} {v_proof : Nat → Int32} {n_disproof : Nat} {v_disproof : Nat → Int32} {n_child : Nat} {v_child : Nat → Int32} {n_children : Nat} {v_children : Nat → Int32} {x1 : Int32} {x2 : Int32} {r : Int32} {w0 : Int32} {w1 : Nat} {w2 : Nat → Int32} {w3 : Nat} {w4 : Nat → Int32} {w5 : Nat} {w6 : Nat → Int32} {w7 : Nat} {w8 : Nat → Int32} {w9 : Nat} {w10 : Nat → Int32} {w11 : Nat} {w12 : Nat → Int32} {wg : Nat} (h : pm_X3_add F g v_count n_cells v_cells n_ahead v_ahead n_proof v_proof n_disproof v_disproof n_child v_child n_children v_children x1 x2 = some (r, w0, w1, w2, w3, w4, w5, w6, w7, w8, w9, w10, w11, w12, wg)) : wg ≤ g := by
  rw [pm_X3_add] at h
  have hle : g ≤ g := Nat.le_refl _
  by_cases cb : v_count < (8000 : Int32)
  · replace h := pm_pos cb h
    obtain ⟨n_cells_52, v_cells_53, n_ahead_54, v_ahead_55, n_proof_56, v_proof_57, n_disproof_58, v_disproof_59, n_child_60, v_child_61, n_children_62, v_children_63, g_64, hw, h⟩ := bd13_s h
    have mo : g_64 ≤ g := by
      clear h
      have h := hw
      have hle : g ≤ g := Nat.le_refl _
      by_cases cb : v_count < (nI n_cells)
      · replace h := pm_pos cb h
        exact le_last ((Prod.mk.inj ((Prod.mk.inj ((Prod.mk.inj ((Prod.mk.inj ((Prod.mk.inj ((Prod.mk.inj ((Prod.mk.inj ((Prod.mk.inj ((Prod.mk.inj ((Prod.mk.inj ((Prod.mk.inj ((Prod.mk.inj (Option.some.inj h)).2)).2)).2)).2)).2)).2)).2)).2)).2)).2)).2)).2) hle
      · replace h := pm_neg cb h
        obtain ⟨n_cells_72, v_cells_73, n_ahead_74, v_ahead_75, n_proof_76, v_proof_77, n_disproof_78, v_disproof_79, n_child_80, v_child_81, n_children_82, v_children_83, g_84, hc, h⟩ := bd13_s h
        have mo := mono_X3_lengthen hc
        have hle := Nat.le_trans mo hle
        exact le_last ((Prod.mk.inj ((Prod.mk.inj ((Prod.mk.inj ((Prod.mk.inj ((Prod.mk.inj ((Prod.mk.inj ((Prod.mk.inj ((Prod.mk.inj ((Prod.mk.inj ((Prod.mk.inj ((Prod.mk.inj ((Prod.mk.inj (Option.some.inj h)).2)).2)).2)).2)).2)).2)).2)).2)).2)).2)).2)).2) hle
    have hle := Nat.le_trans mo hle
    obtain ⟨b_66, h⟩ := pm_in h
    obtain ⟨b_67, h⟩ := pm_in h
    obtain ⟨b_68, h⟩ := pm_in h
    obtain ⟨b_69, h⟩ := pm_in h
    obtain ⟨b_70, h⟩ := pm_in h
    obtain ⟨b_71, h⟩ := pm_in h
    exact le_last ((Prod.mk.inj ((Prod.mk.inj ((Prod.mk.inj ((Prod.mk.inj ((Prod.mk.inj ((Prod.mk.inj ((Prod.mk.inj ((Prod.mk.inj ((Prod.mk.inj ((Prod.mk.inj ((Prod.mk.inj ((Prod.mk.inj ((Prod.mk.inj ((Prod.mk.inj (Option.some.inj h)).2)).2)).2)).2)).2)).2)).2)).2)).2)).2)).2)).2)).2)).2) hle
  · replace h := pm_neg cb h
    exact le_last ((Prod.mk.inj ((Prod.mk.inj ((Prod.mk.inj ((Prod.mk.inj ((Prod.mk.inj ((Prod.mk.inj ((Prod.mk.inj ((Prod.mk.inj ((Prod.mk.inj ((Prod.mk.inj ((Prod.mk.inj ((Prod.mk.inj ((Prod.mk.inj ((Prod.mk.inj (Option.some.inj h)).2)).2)).2)).2)).2)).2)).2)).2)).2)).2)).2)).2)).2)).2) hle
def pm_X4_init (F : Nat) (g : Nat) : Option (Int32 × Int32 × Int32 × Nat × (Nat → Int32) × Nat × (Nat → Int32) × Nat × (Nat → Int32) × Nat × (Nat → Int32) × Nat × (Nat → Int32) × Nat × (Nat → Int32) × Int32 × Nat × (Nat → Int32) × Nat × (Nat → Int32) × Nat) :=
  bd1 (gs g 7) fun g_2 =>
  bd13 (pm_X3_init F g_2) fun n_cells_3 v_cells_4 n_ahead_5 v_ahead_6 n_proof_7 v_proof_8 n_disproof_9 v_disproof_10 n_child_11 v_child_12 n_children_13 v_children_14 g_15 =>
  bd1 (gs g_15 3) fun g_23 =>
  bd5 (pm_X2_init F g_23) fun n_ahead_24 v_ahead_25 n_cells_26 v_cells_27 g_28 =>
  some ((1 : Int32), (1 : Int32), (0 : Int32), n_cells_3, v_cells_4, n_ahead_5, v_ahead_6, n_proof_7, v_proof_8, n_disproof_9, v_disproof_10, n_child_11, v_child_12, n_children_13, v_children_14, (0 : Int32), n_ahead_24, v_ahead_25, n_cells_26, v_cells_27, g_28)
theorem mono_X4_init {F : Nat} {g : Nat} {w0 : Int32} {w1 : Int32} {w2 : Int32} {w3 : Nat} {w4 : Nat → Int32} {w5 : Nat} {w6 : Nat → Int32} {w7 : Nat} {w8 : Nat → Int32} {w9 : Nat} {w10 : Nat → Int32} {w11 : Nat} {w12 : Nat → Int32} {w13 : Nat} {w14 : Nat → Int32} {w15 : Int32} {w16 : Nat} {w17 : Nat → Int32} {w18 : Nat} {w19 : Nat → Int32} {wg : Nat} (h : pm_X4_init F g = some (w0, w1, w2, w3, w4, w5, w6, w7, w8, w9, w10, w11, w12, w13, w14, w15, w16, w17, w18, w19, wg)) : wg ≤ g := by
  rw [pm_X4_init] at h
  have hle : g ≤ g := Nat.le_refl _
  obtain ⟨g_32, hgs, h⟩ := bd1_s h
  have hle := Nat.le_trans (gs_le hgs) hle
  obtain ⟨n_cells_33, v_cells_34, n_ahead_35, v_ahead_36, n_proof_37, v_proof_38, n_disproof_39, v_disproof_40, n_child_41, v_child_42, n_children_43, v_children_44, g_45, hc, h⟩ := bd13_s h
  have mo := mono_X3_init hc
  have hle := Nat.le_trans mo hle
  obtain ⟨g_53, hgs, h⟩ := bd1_s h
  have hle := Nat.le_trans (gs_le hgs) hle
  obtain ⟨n_ahead_54, v_ahead_55, n_cells_56, v_cells_57, g_58, hc, h⟩ := bd5_s h
  have mo := mono_X2_init hc
  have hle := Nat.le_trans mo hle
  exact le_last ((Prod.mk.inj ((Prod.mk.inj ((Prod.mk.inj ((Prod.mk.inj ((Prod.mk.inj ((Prod.mk.inj ((Prod.mk.inj ((Prod.mk.inj ((Prod.mk.inj ((Prod.mk.inj ((Prod.mk.inj ((Prod.mk.inj ((Prod.mk.inj ((Prod.mk.inj ((Prod.mk.inj ((Prod.mk.inj ((Prod.mk.inj ((Prod.mk.inj ((Prod.mk.inj ((Prod.mk.inj (Option.some.inj h)).2)).2)).2)).2)).2)).2)).2)).2)).2)).2)).2)).2)).2)).2)).2)).2)).2)).2)).2)).2) hle
def pm_X4_addChild (F : Nat) (g : Nat) (v_first : Int32) (v_mover : Int32) (n_bench_stones : Nat) (n_bench_near : Nat) (v_bench_near : Nat → Int32) (n_bench_edges : Nat) (v_bench_edges : Nat → Int32) (n_bench_marks : Nat) (v_bench_marks : Nat → Int32) (v_nodes_count : Int32) (n_nodes_cells : Nat) (v_nodes_cells : Nat → Int32) (n_nodes_ahead : Nat) (v_nodes_ahead : Nat → Int32) (n_nodes_proof : Nat) (v_nodes_proof : Nat → Int32) (n_nodes_disproof : Nat) (v_nodes_disproof : Nat → Int32) (n_nodes_child : Nat) (v_nodes_child : Nat → Int32) (n_nodes_children : Nat) (v_nodes_children : Nat → Int32) (x1 : Int32) (x2 : Int32) : Option (Int32 × Nat × (Nat → Int32) × Nat × (Nat → Int32) × Nat × (Nat → Int32) × Nat × (Nat → Int32) × Nat × (Nat → Int32) × Nat × (Nat → Int32) × Nat) :=
  bd15 (pm_X3_add F g v_nodes_count n_nodes_cells v_nodes_cells n_nodes_ahead v_nodes_ahead n_nodes_proof v_nodes_proof n_nodes_disproof v_nodes_disproof n_nodes_child v_nodes_child n_nodes_children v_nodes_children x1 x2) fun r_1 v_count_2 n_cells_3 v_cells_4 n_ahead_5 v_ahead_6 n_proof_7 v_proof_8 n_disproof_9 v_disproof_10 n_child_11 v_child_12 n_children_13 v_children_14 g_15 =>
  if r_1 = (-1 : Int32) then
  some (v_count_2, n_cells_3, v_cells_4, n_ahead_5, v_ahead_6, n_proof_7, v_proof_8, n_disproof_9, v_disproof_10, n_child_11, v_child_12, n_children_13, v_children_14, g_15)
  else
  bd1 (pm_X0_wouldWin F n_bench_stones n_bench_near v_bench_near n_bench_edges v_bench_edges n_bench_marks v_bench_marks v_mover x2) fun r_22 =>
  if r_22 = 0 then
  some (v_count_2, n_cells_3, v_cells_4, n_ahead_5, v_ahead_6, n_proof_7, v_proof_8, n_disproof_9, v_disproof_10, n_child_11, v_child_12, n_children_13, v_children_14, g_15)
  else
  bd1 (
  if v_mover = v_first then
  some (0 : Int32)
  else
  some (1000000000 : Int32)) fun s2_23 =>
  if r_1 < 0 ∨ n_proof_7 ≤ r_1.toNatClampNeg then none else
  if v_mover = v_first then
  if r_1 < 0 ∨ n_disproof_9 ≤ r_1.toNatClampNeg then none else
  some (v_count_2, n_cells_3, v_cells_4, n_ahead_5, v_ahead_6, n_proof_7, upd v_proof_8 r_1.toNatClampNeg s2_23, n_disproof_9, upd v_disproof_10 r_1.toNatClampNeg (1000000000 : Int32), n_child_11, v_child_12, n_children_13, v_children_14, g_15)
  else
  if r_1 < 0 ∨ n_disproof_9 ≤ r_1.toNatClampNeg then none else
  some (v_count_2, n_cells_3, v_cells_4, n_ahead_5, v_ahead_6, n_proof_7, upd v_proof_8 r_1.toNatClampNeg s2_23, n_disproof_9, upd v_disproof_10 r_1.toNatClampNeg (0 : Int32), n_child_11, v_child_12, n_children_13, v_children_14, g_15)
theorem mono_X4_addChild {F : Nat} {g : Nat} {v_first : Int32} {v_mover : Int32} {n_bench_stones : Nat} {n_bench_near : Nat} {v_bench_near : Nat → Int32} {n_bench_edges : Nat} {v_bench_edges : Nat → Int32} {n_bench_marks : Nat} {v_bench_marks : Nat → Int32} {v_nodes_count : Int32} {n_nodes_cells : Nat} {v_nodes_cells : Nat → Int32} {n_nodes_ahead : Nat} {v_nodes_ahead : Nat → Int32} {n_nodes_proof : Nat} {v_nodes_proof : Nat → Int32} {n_nodes_disproof : Nat} {v_nodes_disproof : Nat → Int32} {n_nodes_child : Nat} {v_nodes_child : Nat → Int32} {n_nodes_children : Nat} {v_nodes_children : Nat → Int32} {x1 : Int32} {x2 : Int32} {w0 : Int32} {w1 : Nat} {w2 : Nat → Int32} {w3 : Nat} {w4 : Nat → Int32} {w5 : Nat} {w6 : Nat → Int32} {w7 : Nat} {w8 : Nat → Int32} {w9 : Nat} {w10 : Nat → Int32} {w11 : Nat} {w12 : Nat → Int32} {wg : Nat} (h : pm_X4_addChild F g v_first v_mover n_bench_stones n_bench_near v_bench_near n_bench_edges v_bench_edges n_bench_marks v_bench_marks v_nodes_count n_nodes_cells v_nodes_cells n_nodes_ahead v_nodes_ahead n_nodes_proof v_nodes_proof n_nodes_disproof v_nodes_disproof n_nodes_child v_nodes_child n_nodes_children v_nodes_children x1 x2 = some (w0, w1, w2, w3, w4, w5, w6, w7, w8, w9, w10, w11, w12, wg)) : wg ≤ g := by
  rw [pm_X4_addChild] at h
  have hle : g ≤ g := Nat.le_refl _
  obtain ⟨r_28, v_count_29, n_cells_30, v_cells_31, n_ahead_32, v_ahead_33, n_proof_34, v_proof_35, n_disproof_36, v_disproof_37, n_child_38, v_child_39, n_children_40, v_children_41, g_42, hc, h⟩ := bd15_s h
  have mo := mono_X3_add hc
  have hle := Nat.le_trans mo hle
  by_cases cb : r_28 = (-1 : Int32)
  · replace h := pm_pos cb h
    exact le_last ((Prod.mk.inj ((Prod.mk.inj ((Prod.mk.inj ((Prod.mk.inj ((Prod.mk.inj ((Prod.mk.inj ((Prod.mk.inj ((Prod.mk.inj ((Prod.mk.inj ((Prod.mk.inj ((Prod.mk.inj ((Prod.mk.inj ((Prod.mk.inj (Option.some.inj h)).2)).2)).2)).2)).2)).2)).2)).2)).2)).2)).2)).2)).2) hle
  · replace h := pm_neg cb h
    obtain ⟨r_49, hc, h⟩ := bd1_s h
    by_cases cb : r_49 = 0
    · replace h := pm_pos cb h
      exact le_last ((Prod.mk.inj ((Prod.mk.inj ((Prod.mk.inj ((Prod.mk.inj ((Prod.mk.inj ((Prod.mk.inj ((Prod.mk.inj ((Prod.mk.inj ((Prod.mk.inj ((Prod.mk.inj ((Prod.mk.inj ((Prod.mk.inj ((Prod.mk.inj (Option.some.inj h)).2)).2)).2)).2)).2)).2)).2)).2)).2)).2)).2)).2)).2) hle
    · replace h := pm_neg cb h
      obtain ⟨s2_50, hw, h⟩ := bd1_s h
      obtain ⟨b_52, h⟩ := pm_in h
      by_cases cb : v_mover = v_first
      · replace h := pm_pos cb h
        obtain ⟨b_54, h⟩ := pm_in h
        exact le_last ((Prod.mk.inj ((Prod.mk.inj ((Prod.mk.inj ((Prod.mk.inj ((Prod.mk.inj ((Prod.mk.inj ((Prod.mk.inj ((Prod.mk.inj ((Prod.mk.inj ((Prod.mk.inj ((Prod.mk.inj ((Prod.mk.inj ((Prod.mk.inj (Option.some.inj h)).2)).2)).2)).2)).2)).2)).2)).2)).2)).2)).2)).2)).2) hle
      · replace h := pm_neg cb h
        obtain ⟨b_53, h⟩ := pm_in h
        exact le_last ((Prod.mk.inj ((Prod.mk.inj ((Prod.mk.inj ((Prod.mk.inj ((Prod.mk.inj ((Prod.mk.inj ((Prod.mk.inj ((Prod.mk.inj ((Prod.mk.inj ((Prod.mk.inj ((Prod.mk.inj ((Prod.mk.inj ((Prod.mk.inj (Option.some.inj h)).2)).2)).2)).2)).2)).2)).2)).2)).2)).2)).2)).2)).2) hle
def pm_X4_expand_L71 (F : Nat) (v_first : Int32) (v_mover : Int32) (n_bench_stones : Nat) (v_bench_stones : Nat → Int32) (n_bench_near : Nat) (v_bench_near : Nat → Int32) (n_bench_edges : Nat) (v_bench_edges : Nat → Int32) (n_bench_marks : Nat) (x1 : Int32) (v_marks_2 : Nat → Int32) : Nat → Int32 → Int32 → Nat → (Nat → Int32) → Nat → (Nat → Int32) → Nat → (Nat → Int32) → Nat → (Nat → Int32) → Nat → (Nat → Int32) → Nat → (Nat → Int32) → Nat → Option (Int32 × Nat × (Nat → Int32) × Nat × (Nat → Int32) × Nat × (Nat → Int32) × Nat × (Nat → Int32) × Nat × (Nat → Int32) × Nat × (Nat → Int32) × Nat)
  | 0, _, _, _, _, _, _, _, _, _, _, _, _, _, _, _ => none
  | k + 1, x4_35, v_nodes_count_36, n_nodes_cells_37, v_nodes_cells_38, n_nodes_ahead_39, v_nodes_ahead_40, n_nodes_proof_41, v_nodes_proof_42, n_nodes_disproof_43, v_nodes_disproof_44, n_nodes_child_45, v_nodes_child_46, n_nodes_children_47, v_nodes_children_48, g_49 =>
    if (nI n_bench_stones) ≤ x4_35 then
    some (v_nodes_count_36, n_nodes_cells_37, v_nodes_cells_38, n_nodes_ahead_39, v_nodes_ahead_40, n_nodes_proof_41, v_nodes_proof_42, n_nodes_disproof_43, v_nodes_disproof_44, n_nodes_child_45, v_nodes_child_46, n_nodes_children_47, v_nodes_children_48, g_49)
    else
    bd1 (pm_X0_isEmpty F n_bench_stones v_bench_stones x4_35) fun r_50 =>
    if r_50 = 0 then
    pm_X4_expand_L71 F v_first v_mover n_bench_stones v_bench_stones n_bench_near v_bench_near n_bench_edges v_bench_edges n_bench_marks x1 v_marks_2 k (x4_35 + (1 : Int32)) v_nodes_count_36 n_nodes_cells_37 v_nodes_cells_38 n_nodes_ahead_39 v_nodes_ahead_40 n_nodes_proof_41 v_nodes_proof_42 n_nodes_disproof_43 v_nodes_disproof_44 n_nodes_child_45 v_nodes_child_46 n_nodes_children_47 v_nodes_children_48 g_49
    else
    bd14 (pm_X4_addChild F g_49 v_first v_mover n_bench_stones n_bench_near v_bench_near n_bench_edges v_bench_edges n_bench_marks v_marks_2 v_nodes_count_36 n_nodes_cells_37 v_nodes_cells_38 n_nodes_ahead_39 v_nodes_ahead_40 n_nodes_proof_41 v_nodes_proof_42 n_nodes_disproof_43 v_nodes_disproof_44 n_nodes_child_45 v_nodes_child_46 n_nodes_children_47 v_nodes_children_48 x1 x4_35) fun v_nodes_count_51 n_nodes_cells_52 v_nodes_cells_53 n_nodes_ahead_54 v_nodes_ahead_55 n_nodes_proof_56 v_nodes_proof_57 n_nodes_disproof_58 v_nodes_disproof_59 n_nodes_child_60 v_nodes_child_61 n_nodes_children_62 v_nodes_children_63 g_64 =>
    pm_X4_expand_L71 F v_first v_mover n_bench_stones v_bench_stones n_bench_near v_bench_near n_bench_edges v_bench_edges n_bench_marks x1 v_marks_2 k (x4_35 + (1 : Int32)) v_nodes_count_51 n_nodes_cells_52 v_nodes_cells_53 n_nodes_ahead_54 v_nodes_ahead_55 n_nodes_proof_56 v_nodes_proof_57 n_nodes_disproof_58 v_nodes_disproof_59 n_nodes_child_60 v_nodes_child_61 n_nodes_children_62 v_nodes_children_63 g_64
def pm_X4_expand (F : Nat) (g : Nat) (v_first : Int32) (v_mover : Int32) (n_bench_stones : Nat) (v_bench_stones : Nat → Int32) (n_bench_near : Nat) (v_bench_near : Nat → Int32) (n_bench_edges : Nat) (v_bench_edges : Nat → Int32) (n_bench_marks : Nat) (v_bench_marks : Nat → Int32) (n_bench_stack : Nat) (v_bench_stack : Nat → Int32) (v_nodes_count : Int32) (n_nodes_cells : Nat) (v_nodes_cells : Nat → Int32) (n_nodes_ahead : Nat) (v_nodes_ahead : Nat → Int32) (n_nodes_proof : Nat) (v_nodes_proof : Nat → Int32) (n_nodes_disproof : Nat) (v_nodes_disproof : Nat → Int32) (n_nodes_child : Nat) (v_nodes_child : Nat → Int32) (n_nodes_children : Nat) (v_nodes_children : Nat → Int32) (x1 : Int32) (x2 : Int32) : Option (Int32 × (Nat → Int32) × (Nat → Int32) × Int32 × Nat × (Nat → Int32) × Nat × (Nat → Int32) × Nat × (Nat → Int32) × Nat × (Nat → Int32) × Nat × (Nat → Int32) × Nat × (Nat → Int32) × Nat) :=
  bd1 (pm_X0_countEmpty F n_bench_stones v_bench_stones) fun r_1 =>
  if (v_nodes_count + r_1) ≤ x2 then
  bd2 (pm_X0_markFromEdges F n_bench_stones v_bench_stones n_bench_near v_bench_near n_bench_edges v_bench_edges n_bench_marks v_bench_marks n_bench_stack v_bench_stack v_mover) fun v_marks_2 v_stack_3 =>
  bd1 (
  if r_1 ≤ 0 then
  some (-1 : Int32)
  else
  some v_nodes_count) fun s2_4 =>
  if x1 < 0 ∨ n_nodes_child ≤ x1.toNatClampNeg then none else
  if x1 < 0 ∨ n_nodes_children ≤ x1.toNatClampNeg then none else
  bd14 (
  pm_X4_expand_L71 F v_first v_mover n_bench_stones v_bench_stones n_bench_near v_bench_near n_bench_edges v_bench_edges n_bench_marks x1 v_marks_2 F (0 : Int32) v_nodes_count n_nodes_cells v_nodes_cells n_nodes_ahead v_nodes_ahead n_nodes_proof v_nodes_proof n_nodes_disproof v_nodes_disproof n_nodes_child (upd v_nodes_child x1.toNatClampNeg s2_4) n_nodes_children (upd v_nodes_children x1.toNatClampNeg r_1) g) fun v_nodes_count_14 n_nodes_cells_15 v_nodes_cells_16 n_nodes_ahead_17 v_nodes_ahead_18 n_nodes_proof_19 v_nodes_proof_20 n_nodes_disproof_21 v_nodes_disproof_22 n_nodes_child_23 v_nodes_child_24 n_nodes_children_25 v_nodes_children_26 g_27 =>
  some ((1 : Int32), v_marks_2, v_stack_3, v_nodes_count_14, n_nodes_cells_15, v_nodes_cells_16, n_nodes_ahead_17, v_nodes_ahead_18, n_nodes_proof_19, v_nodes_proof_20, n_nodes_disproof_21, v_nodes_disproof_22, n_nodes_child_23, v_nodes_child_24, n_nodes_children_25, v_nodes_children_26, g_27)
  else
  some ((0 : Int32), v_bench_marks, v_bench_stack, v_nodes_count, n_nodes_cells, v_nodes_cells, n_nodes_ahead, v_nodes_ahead, n_nodes_proof, v_nodes_proof, n_nodes_disproof, v_nodes_disproof, n_nodes_child, v_nodes_child, n_nodes_children, v_nodes_children, g)
theorem mono_X4_expand_L71 {F : Nat} {v_first : Int32} {v_mover : Int32} {n_bench_stones : Nat} {v_bench_stones : Nat → Int32} {n_bench_near : Nat} {v_bench_near : Nat → Int32} {n_bench_edges : Nat} {v_bench_edges : Nat → Int32} {n_bench_marks : Nat} {x1 : Int32} {v_marks_2 : Nat → Int32} : ∀ {k : Nat} {x4_35 : Int32} {v_nodes_count_36 : Int32} {n_nodes_cells_37 : Nat} {v_nodes_cells_38 : Nat → Int32} {n_nodes_ahead_39 : Nat} {v_nodes_ahead_40 : Nat → Int32} {n_nodes_proof_41 : Nat} {v_nodes_proof_42 : Nat → Int32} {n_nodes_disproof_43 : Nat} {v_nodes_disproof_44 : Nat → Int32} {n_nodes_child_45 : Nat} {v_nodes_child_46 : Nat → Int32} {n_nodes_children_47 : Nat} {v_nodes_children_48 : Nat → Int32} {g_49 : Nat} {v_nodes_count_14 : Int32} {n_nodes_cells_15 : Nat} {v_nodes_cells_16 : Nat → Int32} {n_nodes_ahead_17 : Nat} {v_nodes_ahead_18 : Nat → Int32} {n_nodes_proof_19 : Nat} {v_nodes_proof_20 : Nat → Int32} {n_nodes_disproof_21 : Nat} {v_nodes_disproof_22 : Nat → Int32} {n_nodes_child_23 : Nat} {v_nodes_child_24 : Nat → Int32} {n_nodes_children_25 : Nat} {v_nodes_children_26 : Nat → Int32} {g_27 : Nat}, pm_X4_expand_L71 F v_first v_mover n_bench_stones v_bench_stones n_bench_near v_bench_near n_bench_edges v_bench_edges n_bench_marks x1 v_marks_2 k x4_35 v_nodes_count_36 n_nodes_cells_37 v_nodes_cells_38 n_nodes_ahead_39 v_nodes_ahead_40 n_nodes_proof_41 v_nodes_proof_42 n_nodes_disproof_43 v_nodes_disproof_44 n_nodes_child_45 v_nodes_child_46 n_nodes_children_47 v_nodes_children_48 g_49 = some (v_nodes_count_14, n_nodes_cells_15, v_nodes_cells_16, n_nodes_ahead_17, v_nodes_ahead_18, n_nodes_proof_19, v_nodes_proof_20, n_nodes_disproof_21, v_nodes_disproof_22, n_nodes_child_23, v_nodes_child_24, n_nodes_children_25, v_nodes_children_26, g_27) → g_27 ≤ g_49 := by
  intro k
  induction k with
  | zero => intro x4_35 v_nodes_count_36 n_nodes_cells_37 v_nodes_cells_38 n_nodes_ahead_39 v_nodes_ahead_40 n_nodes_proof_41 v_nodes_proof_42 n_nodes_disproof_43 v_nodes_disproof_44 n_nodes_child_45 v_nodes_child_46 n_nodes_children_47 v_nodes_children_48 g_49 v_nodes_count_14 n_nodes_cells_15 v_nodes_cells_16 n_nodes_ahead_17 v_nodes_ahead_18 n_nodes_proof_19 v_nodes_proof_20 n_nodes_disproof_21 v_nodes_disproof_22 n_nodes_child_23 v_nodes_child_24 n_nodes_children_25 v_nodes_children_26 g_27 h; rw [pm_X4_expand_L71] at h; cases h
  | succ k ih =>
    intro x4_35 v_nodes_count_36 n_nodes_cells_37 v_nodes_cells_38 n_nodes_ahead_39 v_nodes_ahead_40 n_nodes_proof_41 v_nodes_proof_42 n_nodes_disproof_43 v_nodes_disproof_44 n_nodes_child_45 v_nodes_child_46 n_nodes_children_47 v_nodes_children_48 g_49 v_nodes_count_14 n_nodes_cells_15 v_nodes_cells_16 n_nodes_ahead_17 v_nodes_ahead_18 n_nodes_proof_19 v_nodes_proof_20 n_nodes_disproof_21 v_nodes_disproof_22 n_nodes_child_23 v_nodes_child_24 n_nodes_children_25 v_nodes_children_26 g_27 h
    rw [pm_X4_expand_L71] at h
    have hle : g_49 ≤ g_49 := Nat.le_refl _
    by_cases cb : (nI n_bench_stones) ≤ x4_35
    · replace h := pm_pos cb h
      exact le_last ((Prod.mk.inj ((Prod.mk.inj ((Prod.mk.inj ((Prod.mk.inj ((Prod.mk.inj ((Prod.mk.inj ((Prod.mk.inj ((Prod.mk.inj ((Prod.mk.inj ((Prod.mk.inj ((Prod.mk.inj ((Prod.mk.inj ((Prod.mk.inj (Option.some.inj h)).2)).2)).2)).2)).2)).2)).2)).2)).2)).2)).2)).2)).2) hle
    · replace h := pm_neg cb h
      obtain ⟨r_50, hc, h⟩ := bd1_s h
      by_cases cb : r_50 = 0
      · replace h := pm_pos cb h
        exact Nat.le_trans (ih h) hle
      · replace h := pm_neg cb h
        obtain ⟨v_nodes_count_51, n_nodes_cells_52, v_nodes_cells_53, n_nodes_ahead_54, v_nodes_ahead_55, n_nodes_proof_56, v_nodes_proof_57, n_nodes_disproof_58, v_nodes_disproof_59, n_nodes_child_60, v_nodes_child_61, n_nodes_children_62, v_nodes_children_63, g_64, hc, h⟩ := bd14_s h
        have mo := mono_X4_addChild hc
        have hle := Nat.le_trans mo hle
        exact Nat.le_trans (ih h) hle
theorem mono_X4_expand {F : Nat} {g : Nat} {v_first : Int32} {v_mover : Int32} {n_bench_stones : Nat} {v_bench_stones : Nat → Int32} {n_bench_near : Nat} {v_bench_near : Nat → Int32} {n_bench_edges : Nat} {v_bench_edges : Nat → Int32} {n_bench_marks : Nat} {v_bench_marks : Nat → Int32} {n_bench_stack : Nat} {v_bench_stack : Nat → Int32} {v_nodes_count : Int32} {n_nodes_cells : Nat} {v_nodes_cells : Nat → Int32} {n_nodes_ahead : Nat} {v_nodes_ahead : Nat → Int32} {n_nodes_proof : Nat} {v_nodes_proof : Nat → Int32} {n_nodes_disproof : Nat} {v_nodes_disproof : Nat → Int32} {n_nodes_child : Nat} {v_nodes_child : Nat → Int32} {n_nodes_children : Nat} {v_nodes_children : Nat → Int32} {x1 : Int32} {x2 : Int32} {r : Int32} {w0 : Nat → Int32} {w1 : Nat → Int32} {w2 : Int32} {w3 : Nat} {w4 : Nat → Int32} {w5 : Nat} {w6 : Nat → Int32} {w7 : Nat} {w8 : Nat → Int32} {w9 : Nat} {w10 : Nat → Int32} {w11 : Nat} {w12 : Nat → Int32} {w13 : Nat} {w14 : Nat → Int32} {wg : Nat} (h : pm_X4_expand F g v_first v_mover n_bench_stones v_bench_stones n_bench_near v_bench_near n_bench_edges v_bench_edges n_bench_marks v_bench_marks n_bench_stack v_bench_stack v_nodes_count n_nodes_cells v_nodes_cells n_nodes_ahead v_nodes_ahead n_nodes_proof v_nodes_proof n_nodes_disproof v_nodes_disproof n_nodes_child v_nodes_child n_nodes_children v_nodes_children x1 x2 = some (r, w0, w1, w2, w3, w4, w5, w6, w7, w8, w9, w10, w11, w12, w13, w14, wg)) : wg ≤ g := by
  rw [pm_X4_expand] at h
  have hle : g ≤ g := Nat.le_refl _
  obtain ⟨r_71, hc, h⟩ := bd1_s h
  by_cases cb : (v_nodes_count + r_71) ≤ x2
  · replace h := pm_pos cb h
    obtain ⟨v_marks_72, v_stack_73, hc, h⟩ := bd2_s h
    obtain ⟨s2_74, hw, h⟩ := bd1_s h
    obtain ⟨b_76, h⟩ := pm_in h
    obtain ⟨b_77, h⟩ := pm_in h
    obtain ⟨v_nodes_count_84, n_nodes_cells_85, v_nodes_cells_86, n_nodes_ahead_87, v_nodes_ahead_88, n_nodes_proof_89, v_nodes_proof_90, n_nodes_disproof_91, v_nodes_disproof_92, n_nodes_child_93, v_nodes_child_94, n_nodes_children_95, v_nodes_children_96, g_97, hw, h⟩ := bd14_s h
    have hle := Nat.le_trans (mono_X4_expand_L71 hw) hle
    exact le_last ((Prod.mk.inj ((Prod.mk.inj ((Prod.mk.inj ((Prod.mk.inj ((Prod.mk.inj ((Prod.mk.inj ((Prod.mk.inj ((Prod.mk.inj ((Prod.mk.inj ((Prod.mk.inj ((Prod.mk.inj ((Prod.mk.inj ((Prod.mk.inj ((Prod.mk.inj ((Prod.mk.inj ((Prod.mk.inj (Option.some.inj h)).2)).2)).2)).2)).2)).2)).2)).2)).2)).2)).2)).2)).2)).2)).2)).2) hle
  · replace h := pm_neg cb h
    exact le_last ((Prod.mk.inj ((Prod.mk.inj ((Prod.mk.inj ((Prod.mk.inj ((Prod.mk.inj ((Prod.mk.inj ((Prod.mk.inj ((Prod.mk.inj ((Prod.mk.inj ((Prod.mk.inj ((Prod.mk.inj ((Prod.mk.inj ((Prod.mk.inj ((Prod.mk.inj ((Prod.mk.inj ((Prod.mk.inj (Option.some.inj h)).2)).2)).2)).2)).2)).2)).2)).2)).2)).2)).2)).2)).2)).2)).2)).2) hle
def pm_X4_writePlan_L126 (F : Nat) (n_bench_stones : Nat) (n_nodes_ahead : Nat) (v_nodes_ahead : Nat → Int32) (n_nodes_child : Nat) (v_nodes_child : Nat → Int32) (n_nodes_children : Nat) (v_nodes_children : Nat → Int32) (x1 : Int32) (v_count_27 : Int32) (n_ahead_28 : Nat) (v_ahead_29 : Nat → Int32) : Nat → Int32 → Int32 → Int32 → Int32 → Int32 → Option (Int32 × Int32 × Int32)
  | 0, _, _, _, _, _ => none
  | k + 1, x4_42, x5_43, x6_44, x7_45, x9_46 =>
    if (nI n_bench_stones) ≤ x9_46 then
    some (x4_42, x6_44, x7_45)
    else
    if x7_45 = (-1 : Int32) then
    if x5_43 = x1 then
    some (x4_42, x6_44, x7_45)
    else
    bd1 (
    if x4_42 = 0 then
    some (1 : Int32)
    else
    some (0 : Int32)) fun s0_47 =>
    bd1 (
    if s0_47 = 0 then
    bd1 (pm_X3_nextSibling F n_nodes_ahead v_nodes_ahead n_nodes_child v_nodes_child n_nodes_children v_nodes_children x5_43) fun r_54 =>
    some r_54
    else
    some (-1 : Int32)) fun s0_49 =>
    if x5_43 < 0 ∨ n_nodes_ahead ≤ x5_43.toNatClampNeg then none else
    bd1 (pm_X2_has F v_count_27 x6_44) fun r_52 =>
    if r_52 = 0 then
    pm_X4_writePlan_L126 F n_bench_stones n_nodes_ahead v_nodes_ahead n_nodes_child v_nodes_child n_nodes_children v_nodes_children x1 v_count_27 n_ahead_28 v_ahead_29 k s0_47 (v_nodes_ahead x5_43.toNatClampNeg) (-1 : Int32) s0_49 (x9_46 + (1 : Int32))
    else
    if x6_44 < 0 ∨ n_ahead_28 ≤ x6_44.toNatClampNeg then none else
    pm_X4_writePlan_L126 F n_bench_stones n_nodes_ahead v_nodes_ahead n_nodes_child v_nodes_child n_nodes_children v_nodes_children x1 v_count_27 n_ahead_28 v_ahead_29 k s0_47 (v_nodes_ahead x5_43.toNatClampNeg) (v_ahead_29 x6_44.toNatClampNeg) s0_49 (x9_46 + (1 : Int32))
    else
    some (x4_42, x6_44, x7_45)
def pm_X4_writePlan_L61 (F : Nat) (n_bench_stones : Nat) (n_nodes_cells : Nat) (v_nodes_cells : Nat → Int32) (n_nodes_ahead : Nat) (v_nodes_ahead : Nat → Int32) (n_nodes_disproof : Nat) (v_nodes_disproof : Nat → Int32) (n_nodes_child : Nat) (v_nodes_child : Nat → Int32) (n_nodes_children : Nat) (v_nodes_children : Nat → Int32) (x1 : Int32) : Nat → Int32 → Int32 → Int32 → Int32 → Int32 → Nat → (Nat → Int32) → Nat → (Nat → Int32) → Nat → Option (Int32 × Nat × (Nat → Int32) × Nat × (Nat → Int32) × Nat)
  | 0, _, _, _, _, _, _, _, _, _, _ => none
  | k + 1, x4_15, x6_16, x7_17, x8_18, v_plan_count_19, n_plan_ahead_20, v_plan_ahead_21, n_plan_cells_22, v_plan_cells_23, g_24 =>
    if (8000 : Int32) ≤ x8_18 then
    some (v_plan_count_19, n_plan_ahead_20, v_plan_ahead_21, n_plan_cells_22, v_plan_cells_23, g_24)
    else
    if x7_17 = (-1 : Int32) then
    some (v_plan_count_19, n_plan_ahead_20, v_plan_ahead_21, n_plan_cells_22, v_plan_cells_23, g_24)
    else
    if x7_17 < 0 ∨ n_nodes_cells ≤ x7_17.toNatClampNeg then none else
    bd7 (pm_X2_add F g_24 v_plan_count_19 n_plan_ahead_20 v_plan_ahead_21 n_plan_cells_22 v_plan_cells_23 x6_16 (v_nodes_cells x7_17.toNatClampNeg)) fun r_26 v_count_27 n_ahead_28 v_ahead_29 n_cells_30 v_cells_31 g_32 =>
    bd1 (
    if x4_15 = 0 then
    some (1 : Int32)
    else
    some (0 : Int32)) fun s0_35 =>
    bd1 (pm_X4_firstInPlan F n_nodes_child v_nodes_child n_nodes_children v_nodes_children n_nodes_disproof v_nodes_disproof x7_17 s0_35) fun r_37 =>
    bd3 (
    pm_X4_writePlan_L126 F n_bench_stones n_nodes_ahead v_nodes_ahead n_nodes_child v_nodes_child n_nodes_children v_nodes_children x1 v_count_27 n_ahead_28 v_ahead_29 F s0_35 x7_17 r_26 r_37 (0 : Int32)) fun x4_38 x6_39 x7_40 =>
    pm_X4_writePlan_L61 F n_bench_stones n_nodes_cells v_nodes_cells n_nodes_ahead v_nodes_ahead n_nodes_disproof v_nodes_disproof n_nodes_child v_nodes_child n_nodes_children v_nodes_children x1 k x4_38 x6_39 x7_40 (x8_18 + (1 : Int32)) v_count_27 n_ahead_28 v_ahead_29 n_cells_30 v_cells_31 g_32
def pm_X4_writePlan_L126_1 (F : Nat) (n_bench_stones : Nat) (n_nodes_ahead : Nat) (v_nodes_ahead : Nat → Int32) (n_nodes_child : Nat) (v_nodes_child : Nat → Int32) (n_nodes_children : Nat) (v_nodes_children : Nat → Int32) (x1 : Int32) (v_count_81 : Int32) (n_ahead_82 : Nat) (v_ahead_83 : Nat → Int32) : Nat → Int32 → Int32 → Int32 → Int32 → Int32 → Option (Int32 × Int32 × Int32)
  | 0, _, _, _, _, _ => none
  | k + 1, x4_96, x5_97, x6_98, x7_99, x9_100 =>
    if (nI n_bench_stones) ≤ x9_100 then
    some (x4_96, x6_98, x7_99)
    else
    if x7_99 = (-1 : Int32) then
    if x5_97 = x1 then
    some (x4_96, x6_98, x7_99)
    else
    bd1 (
    if x4_96 = 0 then
    some (1 : Int32)
    else
    some (0 : Int32)) fun s0_101 =>
    bd1 (
    if s0_101 = 0 then
    bd1 (pm_X3_nextSibling F n_nodes_ahead v_nodes_ahead n_nodes_child v_nodes_child n_nodes_children v_nodes_children x5_97) fun r_108 =>
    some r_108
    else
    some (-1 : Int32)) fun s0_103 =>
    if x5_97 < 0 ∨ n_nodes_ahead ≤ x5_97.toNatClampNeg then none else
    bd1 (pm_X2_has F v_count_81 x6_98) fun r_106 =>
    if r_106 = 0 then
    pm_X4_writePlan_L126_1 F n_bench_stones n_nodes_ahead v_nodes_ahead n_nodes_child v_nodes_child n_nodes_children v_nodes_children x1 v_count_81 n_ahead_82 v_ahead_83 k s0_101 (v_nodes_ahead x5_97.toNatClampNeg) (-1 : Int32) s0_103 (x9_100 + (1 : Int32))
    else
    if x6_98 < 0 ∨ n_ahead_82 ≤ x6_98.toNatClampNeg then none else
    pm_X4_writePlan_L126_1 F n_bench_stones n_nodes_ahead v_nodes_ahead n_nodes_child v_nodes_child n_nodes_children v_nodes_children x1 v_count_81 n_ahead_82 v_ahead_83 k s0_101 (v_nodes_ahead x5_97.toNatClampNeg) (v_ahead_83 x6_98.toNatClampNeg) s0_103 (x9_100 + (1 : Int32))
    else
    some (x4_96, x6_98, x7_99)
def pm_X4_writePlan_L61_1 (F : Nat) (n_bench_stones : Nat) (n_nodes_cells : Nat) (v_nodes_cells : Nat → Int32) (n_nodes_ahead : Nat) (v_nodes_ahead : Nat → Int32) (n_nodes_proof : Nat) (v_nodes_proof : Nat → Int32) (n_nodes_child : Nat) (v_nodes_child : Nat → Int32) (n_nodes_children : Nat) (v_nodes_children : Nat → Int32) (x1 : Int32) : Nat → Int32 → Int32 → Int32 → Int32 → Int32 → Nat → (Nat → Int32) → Nat → (Nat → Int32) → Nat → Option (Int32 × Nat × (Nat → Int32) × Nat × (Nat → Int32) × Nat)
  | 0, _, _, _, _, _, _, _, _, _, _ => none
  | k + 1, x4_69, x6_70, x7_71, x8_72, v_plan_count_73, n_plan_ahead_74, v_plan_ahead_75, n_plan_cells_76, v_plan_cells_77, g_78 =>
    if (8000 : Int32) ≤ x8_72 then
    some (v_plan_count_73, n_plan_ahead_74, v_plan_ahead_75, n_plan_cells_76, v_plan_cells_77, g_78)
    else
    if x7_71 = (-1 : Int32) then
    some (v_plan_count_73, n_plan_ahead_74, v_plan_ahead_75, n_plan_cells_76, v_plan_cells_77, g_78)
    else
    if x7_71 < 0 ∨ n_nodes_cells ≤ x7_71.toNatClampNeg then none else
    bd7 (pm_X2_add F g_78 v_plan_count_73 n_plan_ahead_74 v_plan_ahead_75 n_plan_cells_76 v_plan_cells_77 x6_70 (v_nodes_cells x7_71.toNatClampNeg)) fun r_80 v_count_81 n_ahead_82 v_ahead_83 n_cells_84 v_cells_85 g_86 =>
    bd1 (
    if x4_69 = 0 then
    some (1 : Int32)
    else
    some (0 : Int32)) fun s0_89 =>
    bd1 (pm_X4_firstInPlan F n_nodes_child v_nodes_child n_nodes_children v_nodes_children n_nodes_proof v_nodes_proof x7_71 s0_89) fun r_91 =>
    bd3 (
    pm_X4_writePlan_L126_1 F n_bench_stones n_nodes_ahead v_nodes_ahead n_nodes_child v_nodes_child n_nodes_children v_nodes_children x1 v_count_81 n_ahead_82 v_ahead_83 F s0_89 x7_71 r_80 r_91 (0 : Int32)) fun x4_92 x6_93 x7_94 =>
    pm_X4_writePlan_L61_1 F n_bench_stones n_nodes_cells v_nodes_cells n_nodes_ahead v_nodes_ahead n_nodes_proof v_nodes_proof n_nodes_child v_nodes_child n_nodes_children v_nodes_children x1 k x4_92 x6_93 x7_94 (x8_72 + (1 : Int32)) v_count_81 n_ahead_82 v_ahead_83 n_cells_84 v_cells_85 g_86
def pm_X4_writePlan (F : Nat) (g : Nat) (v_first : Int32) (n_bench_stones : Nat) (n_nodes_cells : Nat) (v_nodes_cells : Nat → Int32) (n_nodes_ahead : Nat) (v_nodes_ahead : Nat → Int32) (n_nodes_proof : Nat) (v_nodes_proof : Nat → Int32) (n_nodes_disproof : Nat) (v_nodes_disproof : Nat → Int32) (n_nodes_child : Nat) (v_nodes_child : Nat → Int32) (n_nodes_children : Nat) (v_nodes_children : Nat → Int32) (v_plan_count : Int32) (n_plan_ahead : Nat) (v_plan_ahead : Nat → Int32) (n_plan_cells : Nat) (v_plan_cells : Nat → Int32) (x1 : Int32) (x2 : Int32) : Option (Int32 × Nat × (Nat → Int32) × Nat × (Nat → Int32) × Nat) :=
  if x2 = v_first then
  bd1 (
  if x2 = v_first then
  some (1 : Int32)
  else
  some (0 : Int32)) fun s0_55 =>
  bd1 (pm_X4_firstInPlan F n_nodes_child v_nodes_child n_nodes_children v_nodes_children n_nodes_proof v_nodes_proof x1 s0_55) fun r_57 =>
  bd6 (
  pm_X4_writePlan_L61_1 F n_bench_stones n_nodes_cells v_nodes_cells n_nodes_ahead v_nodes_ahead n_nodes_proof v_nodes_proof n_nodes_child v_nodes_child n_nodes_children v_nodes_children x1 F s0_55 (-1 : Int32) r_57 (0 : Int32) v_plan_count n_plan_ahead v_plan_ahead n_plan_cells v_plan_cells g) fun v_plan_count_60 n_plan_ahead_61 v_plan_ahead_62 n_plan_cells_63 v_plan_cells_64 g_65 =>
  some (v_plan_count_60, n_plan_ahead_61, v_plan_ahead_62, n_plan_cells_63, v_plan_cells_64, g_65)
  else
  bd1 (
  if x2 = v_first then
  some (1 : Int32)
  else
  some (0 : Int32)) fun s0_1 =>
  bd1 (pm_X4_firstInPlan F n_nodes_child v_nodes_child n_nodes_children v_nodes_children n_nodes_disproof v_nodes_disproof x1 s0_1) fun r_3 =>
  bd6 (
  pm_X4_writePlan_L61 F n_bench_stones n_nodes_cells v_nodes_cells n_nodes_ahead v_nodes_ahead n_nodes_disproof v_nodes_disproof n_nodes_child v_nodes_child n_nodes_children v_nodes_children x1 F s0_1 (-1 : Int32) r_3 (0 : Int32) v_plan_count n_plan_ahead v_plan_ahead n_plan_cells v_plan_cells g) fun v_plan_count_6 n_plan_ahead_7 v_plan_ahead_8 n_plan_cells_9 v_plan_cells_10 g_11 =>
  some (v_plan_count_6, n_plan_ahead_7, v_plan_ahead_8, n_plan_cells_9, v_plan_cells_10, g_11)
theorem mono_X4_writePlan_L61 {F : Nat} {n_bench_stones : Nat} {n_nodes_cells : Nat} {v_nodes_cells : Nat → Int32} {n_nodes_ahead : Nat} {v_nodes_ahead : Nat → Int32} {n_nodes_disproof : Nat} {v_nodes_disproof : Nat → Int32} {n_nodes_child : Nat} {v_nodes_child : Nat → Int32} {n_nodes_children : Nat} {v_nodes_children : Nat → Int32} {x1 : Int32} : ∀ {k : Nat} {x4_15 : Int32} {x6_16 : Int32} {x7_17 : Int32} {x8_18 : Int32} {v_plan_count_19 : Int32} {n_plan_ahead_20 : Nat} {v_plan_ahead_21 : Nat → Int32} {n_plan_cells_22 : Nat} {v_plan_cells_23 : Nat → Int32} {g_24 : Nat} {v_plan_count_6 : Int32} {n_plan_ahead_7 : Nat} {v_plan_ahead_8 : Nat → Int32} {n_plan_cells_9 : Nat} {v_plan_cells_10 : Nat → Int32} {g_11 : Nat}, pm_X4_writePlan_L61 F n_bench_stones n_nodes_cells v_nodes_cells n_nodes_ahead v_nodes_ahead n_nodes_disproof v_nodes_disproof n_nodes_child v_nodes_child n_nodes_children v_nodes_children x1 k x4_15 x6_16 x7_17 x8_18 v_plan_count_19 n_plan_ahead_20 v_plan_ahead_21 n_plan_cells_22 v_plan_cells_23 g_24 = some (v_plan_count_6, n_plan_ahead_7, v_plan_ahead_8, n_plan_cells_9, v_plan_cells_10, g_11) → g_11 ≤ g_24 := by
  intro k
  induction k with
  | zero => intro x4_15 x6_16 x7_17 x8_18 v_plan_count_19 n_plan_ahead_20 v_plan_ahead_21 n_plan_cells_22 v_plan_cells_23 g_24 v_plan_count_6 n_plan_ahead_7 v_plan_ahead_8 n_plan_cells_9 v_plan_cells_10 g_11 h; rw [pm_X4_writePlan_L61] at h; cases h
  | succ k ih =>
    intro x4_15 x6_16 x7_17 x8_18 v_plan_count_19 n_plan_ahead_20 v_plan_ahead_21 n_plan_cells_22 v_plan_cells_23 g_24 v_plan_count_6 n_plan_ahead_7 v_plan_ahead_8 n_plan_cells_9 v_plan_cells_10 g_11 h
    rw [pm_X4_writePlan_L61] at h
    have hle : g_24 ≤ g_24 := Nat.le_refl _
    by_cases cb : (8000 : Int32) ≤ x8_18
    · replace h := pm_pos cb h
      exact le_last ((Prod.mk.inj ((Prod.mk.inj ((Prod.mk.inj ((Prod.mk.inj ((Prod.mk.inj (Option.some.inj h)).2)).2)).2)).2)).2) hle
    · replace h := pm_neg cb h
      by_cases cb : x7_17 = (-1 : Int32)
      · replace h := pm_pos cb h
        exact le_last ((Prod.mk.inj ((Prod.mk.inj ((Prod.mk.inj ((Prod.mk.inj ((Prod.mk.inj (Option.some.inj h)).2)).2)).2)).2)).2) hle
      · replace h := pm_neg cb h
        obtain ⟨b_25, h⟩ := pm_in h
        obtain ⟨r_26, v_count_27, n_ahead_28, v_ahead_29, n_cells_30, v_cells_31, g_32, hc, h⟩ := bd7_s h
        have mo := mono_X2_add hc
        have hle := Nat.le_trans mo hle
        obtain ⟨s0_35, hw, h⟩ := bd1_s h
        obtain ⟨r_37, hc, h⟩ := bd1_s h
        obtain ⟨x4_38, x6_39, x7_40, hw, h⟩ := bd3_s h
        exact Nat.le_trans (ih h) hle
theorem mono_X4_writePlan_L61_1 {F : Nat} {n_bench_stones : Nat} {n_nodes_cells : Nat} {v_nodes_cells : Nat → Int32} {n_nodes_ahead : Nat} {v_nodes_ahead : Nat → Int32} {n_nodes_proof : Nat} {v_nodes_proof : Nat → Int32} {n_nodes_child : Nat} {v_nodes_child : Nat → Int32} {n_nodes_children : Nat} {v_nodes_children : Nat → Int32} {x1 : Int32} : ∀ {k : Nat} {x4_69 : Int32} {x6_70 : Int32} {x7_71 : Int32} {x8_72 : Int32} {v_plan_count_73 : Int32} {n_plan_ahead_74 : Nat} {v_plan_ahead_75 : Nat → Int32} {n_plan_cells_76 : Nat} {v_plan_cells_77 : Nat → Int32} {g_78 : Nat} {v_plan_count_60 : Int32} {n_plan_ahead_61 : Nat} {v_plan_ahead_62 : Nat → Int32} {n_plan_cells_63 : Nat} {v_plan_cells_64 : Nat → Int32} {g_65 : Nat}, pm_X4_writePlan_L61_1 F n_bench_stones n_nodes_cells v_nodes_cells n_nodes_ahead v_nodes_ahead n_nodes_proof v_nodes_proof n_nodes_child v_nodes_child n_nodes_children v_nodes_children x1 k x4_69 x6_70 x7_71 x8_72 v_plan_count_73 n_plan_ahead_74 v_plan_ahead_75 n_plan_cells_76 v_plan_cells_77 g_78 = some (v_plan_count_60, n_plan_ahead_61, v_plan_ahead_62, n_plan_cells_63, v_plan_cells_64, g_65) → g_65 ≤ g_78 := by
  intro k
  induction k with
  | zero => intro x4_69 x6_70 x7_71 x8_72 v_plan_count_73 n_plan_ahead_74 v_plan_ahead_75 n_plan_cells_76 v_plan_cells_77 g_78 v_plan_count_60 n_plan_ahead_61 v_plan_ahead_62 n_plan_cells_63 v_plan_cells_64 g_65 h; rw [pm_X4_writePlan_L61_1] at h; cases h
  | succ k ih =>
    intro x4_69 x6_70 x7_71 x8_72 v_plan_count_73 n_plan_ahead_74 v_plan_ahead_75 n_plan_cells_76 v_plan_cells_77 g_78 v_plan_count_60 n_plan_ahead_61 v_plan_ahead_62 n_plan_cells_63 v_plan_cells_64 g_65 h
    rw [pm_X4_writePlan_L61_1] at h
    have hle : g_78 ≤ g_78 := Nat.le_refl _
    by_cases cb : (8000 : Int32) ≤ x8_72
    · replace h := pm_pos cb h
      exact le_last ((Prod.mk.inj ((Prod.mk.inj ((Prod.mk.inj ((Prod.mk.inj ((Prod.mk.inj (Option.some.inj h)).2)).2)).2)).2)).2) hle
    · replace h := pm_neg cb h
      by_cases cb : x7_71 = (-1 : Int32)
      · replace h := pm_pos cb h
        exact le_last ((Prod.mk.inj ((Prod.mk.inj ((Prod.mk.inj ((Prod.mk.inj ((Prod.mk.inj (Option.some.inj h)).2)).2)).2)).2)).2) hle
      · replace h := pm_neg cb h
        obtain ⟨b_79, h⟩ := pm_in h
        obtain ⟨r_80, v_count_81, n_ahead_82, v_ahead_83, n_cells_84, v_cells_85, g_86, hc, h⟩ := bd7_s h
        have mo := mono_X2_add hc
        have hle := Nat.le_trans mo hle
        obtain ⟨s0_89, hw, h⟩ := bd1_s h
        obtain ⟨r_91, hc, h⟩ := bd1_s h
        obtain ⟨x4_92, x6_93, x7_94, hw, h⟩ := bd3_s h
        exact Nat.le_trans (ih h) hle
theorem mono_X4_writePlan {F : Nat} {g : Nat} {v_first : Int32} {n_bench_stones : Nat} {n_nodes_cells : Nat} {v_nodes_cells : Nat → Int32} {n_nodes_ahead : Nat} {v_nodes_ahead : Nat → Int32} {n_nodes_proof : Nat} {v_nodes_proof : Nat → Int32} {n_nodes_disproof : Nat} {v_nodes_disproof : Nat → Int32} {n_nodes_child : Nat} {v_nodes_child : Nat → Int32} {n_nodes_children : Nat} {v_nodes_children : Nat → Int32} {v_plan_count : Int32} {n_plan_ahead : Nat} {v_plan_ahead : Nat → Int32} {n_plan_cells : Nat} {v_plan_cells : Nat → Int32} {x1 : Int32} {x2 : Int32} {w0 : Int32} {w1 : Nat} {w2 : Nat → Int32} {w3 : Nat} {w4 : Nat → Int32} {wg : Nat} (h : pm_X4_writePlan F g v_first n_bench_stones n_nodes_cells v_nodes_cells n_nodes_ahead v_nodes_ahead n_nodes_proof v_nodes_proof n_nodes_disproof v_nodes_disproof n_nodes_child v_nodes_child n_nodes_children v_nodes_children v_plan_count n_plan_ahead v_plan_ahead n_plan_cells v_plan_cells x1 x2 = some (w0, w1, w2, w3, w4, wg)) : wg ≤ g := by
  rw [pm_X4_writePlan] at h
  have hle : g ≤ g := Nat.le_refl _
  by_cases cb : x2 = v_first
  · replace h := pm_pos cb h
    obtain ⟨s0_163, hw, h⟩ := bd1_s h
    obtain ⟨r_165, hc, h⟩ := bd1_s h
    obtain ⟨v_plan_count_168, n_plan_ahead_169, v_plan_ahead_170, n_plan_cells_171, v_plan_cells_172, g_173, hw, h⟩ := bd6_s h
    have hle := Nat.le_trans (mono_X4_writePlan_L61_1 hw) hle
    exact le_last ((Prod.mk.inj ((Prod.mk.inj ((Prod.mk.inj ((Prod.mk.inj ((Prod.mk.inj (Option.some.inj h)).2)).2)).2)).2)).2) hle
  · replace h := pm_neg cb h
    obtain ⟨s0_109, hw, h⟩ := bd1_s h
    obtain ⟨r_111, hc, h⟩ := bd1_s h
    obtain ⟨v_plan_count_114, n_plan_ahead_115, v_plan_ahead_116, n_plan_cells_117, v_plan_cells_118, g_119, hw, h⟩ := bd6_s h
    have hle := Nat.le_trans (mono_X4_writePlan_L61 hw) hle
    exact le_last ((Prod.mk.inj ((Prod.mk.inj ((Prod.mk.inj ((Prod.mk.inj ((Prod.mk.inj (Option.some.inj h)).2)).2)).2)).2)).2) hle
def pm_X4_seek_L42 (F : Nat) (n_bench_stones : Nat) (n_bench_near : Nat) (v_bench_near : Nat → Int32) (n_bench_edges : Nat) (v_bench_edges : Nat → Int32) (n_bench_marks : Nat) (n_bench_stack : Nat) (x1 : Int32) (x2 : Int32) (r_1 : Int32) : Nat → Int32 → Int32 → Int32 → (Nat → Int32) → (Nat → Int32) → (Nat → Int32) → Int32 → Nat → (Nat → Int32) → Nat → (Nat → Int32) → Nat → (Nat → Int32) → Nat → (Nat → Int32) → Nat → (Nat → Int32) → Nat → (Nat → Int32) → Nat → Option (Int32 × (Nat → Int32) × (Nat → Int32) × (Nat → Int32) × Int32 × Nat × (Nat → Int32) × Nat × (Nat → Int32) × Nat × (Nat → Int32) × Nat × (Nat → Int32) × Nat × (Nat → Int32) × Nat × (Nat → Int32) × Nat)
  | 0, _, _, _, _, _, _, _, _, _, _, _, _, _, _, _, _, _, _, _, _ => none
  | k + 1, x4_62, x5_63, v_mover_64, v_bench_stones_65, v_bench_marks_66, v_bench_stack_67, v_nodes_count_68, n_nodes_cells_69, v_nodes_cells_70, n_nodes_ahead_71, v_nodes_ahead_72, n_nodes_proof_73, v_nodes_proof_74, n_nodes_disproof_75, v_nodes_disproof_76, n_nodes_child_77, v_nodes_child_78, n_nodes_children_79, v_nodes_children_80, g_81 =>
    if (8000 : Int32) ≤ x5_63 then
    some (v_mover_64, v_bench_stones_65, v_bench_marks_66, v_bench_stack_67, v_nodes_count_68, n_nodes_cells_69, v_nodes_cells_70, n_nodes_ahead_71, v_nodes_ahead_72, n_nodes_proof_73, v_nodes_proof_74, n_nodes_disproof_75, v_nodes_disproof_76, n_nodes_child_77, v_nodes_child_78, n_nodes_children_79, v_nodes_children_80, g_81)
    else
    if x4_62 = 0 then
    some (v_mover_64, v_bench_stones_65, v_bench_marks_66, v_bench_stack_67, v_nodes_count_68, n_nodes_cells_69, v_nodes_cells_70, n_nodes_ahead_71, v_nodes_ahead_72, n_nodes_proof_73, v_nodes_proof_74, n_nodes_disproof_75, v_nodes_disproof_76, n_nodes_child_77, v_nodes_child_78, n_nodes_children_79, v_nodes_children_80, g_81)
    else
    bd1 (pm_X4_isSettled F n_nodes_proof_73 v_nodes_proof_74 n_nodes_disproof_75 v_nodes_disproof_76 r_1) fun r_82 =>
    if r_82 = 0 then
    bd3 (pm_X4_descend F x1 v_mover_64 n_bench_stones v_bench_stones_65 n_nodes_cells_69 v_nodes_cells_70 n_nodes_proof_73 v_nodes_proof_74 n_nodes_disproof_75 v_nodes_disproof_76 n_nodes_child_77 v_nodes_child_78 n_nodes_children_79 v_nodes_children_80 r_1) fun r_83 v_mover_84 v_bench_stones_85 =>
    bd17 (pm_X4_expand F g_81 x1 v_mover_84 n_bench_stones v_bench_stones_85 n_bench_near v_bench_near n_bench_edges v_bench_edges n_bench_marks v_bench_marks_66 n_bench_stack v_bench_stack_67 v_nodes_count_68 n_nodes_cells_69 v_nodes_cells_70 n_nodes_ahead_71 v_nodes_ahead_72 n_nodes_proof_73 v_nodes_proof_74 n_nodes_disproof_75 v_nodes_disproof_76 n_nodes_child_77 v_nodes_child_78 n_nodes_children_79 v_nodes_children_80 r_83 x2) fun r_86 v_bench_marks_87 v_bench_stack_88 v_nodes_count_89 n_nodes_cells_90 v_nodes_cells_91 n_nodes_ahead_92 v_nodes_ahead_93 n_nodes_proof_94 v_nodes_proof_95 n_nodes_disproof_96 v_nodes_disproof_97 n_nodes_child_98 v_nodes_child_99 n_nodes_children_100 v_nodes_children_101 g_102 =>
    bd4 (pm_X4_climb F x1 v_mover_84 n_bench_stones v_bench_stones_85 n_nodes_cells_90 v_nodes_cells_91 n_nodes_ahead_92 v_nodes_ahead_93 n_nodes_proof_94 v_nodes_proof_95 n_nodes_disproof_96 v_nodes_disproof_97 n_nodes_child_98 v_nodes_child_99 n_nodes_children_100 v_nodes_children_101 r_83) fun v_mover_109 v_bench_stones_110 v_nodes_proof_111 v_nodes_disproof_112 =>
    pm_X4_seek_L42 F n_bench_stones n_bench_near v_bench_near n_bench_edges v_bench_edges n_bench_marks n_bench_stack x1 x2 r_1 k r_86 (x5_63 + (1 : Int32)) v_mover_109 v_bench_stones_110 v_bench_marks_87 v_bench_stack_88 v_nodes_count_89 n_nodes_cells_90 v_nodes_cells_91 n_nodes_ahead_92 v_nodes_ahead_93 n_nodes_proof_94 v_nodes_proof_111 n_nodes_disproof_96 v_nodes_disproof_112 n_nodes_child_98 v_nodes_child_99 n_nodes_children_100 v_nodes_children_101 g_102
    else
    some (v_mover_64, v_bench_stones_65, v_bench_marks_66, v_bench_stack_67, v_nodes_count_68, n_nodes_cells_69, v_nodes_cells_70, n_nodes_ahead_71, v_nodes_ahead_72, n_nodes_proof_73, v_nodes_proof_74, n_nodes_disproof_75, v_nodes_disproof_76, n_nodes_child_77, v_nodes_child_78, n_nodes_children_79, v_nodes_children_80, g_81)
def pm_X4_seek (F : Nat) (g : Nat) (n_bench_stones : Nat) (v_bench_stones : Nat → Int32) (n_bench_near : Nat) (v_bench_near : Nat → Int32) (n_bench_edges : Nat) (v_bench_edges : Nat → Int32) (n_bench_marks : Nat) (v_bench_marks : Nat → Int32) (n_bench_stack : Nat) (v_bench_stack : Nat → Int32) (n_nodes_cells : Nat) (v_nodes_cells : Nat → Int32) (n_nodes_ahead : Nat) (v_nodes_ahead : Nat → Int32) (n_nodes_proof : Nat) (v_nodes_proof : Nat → Int32) (n_nodes_disproof : Nat) (v_nodes_disproof : Nat → Int32) (n_nodes_child : Nat) (v_nodes_child : Nat → Int32) (n_nodes_children : Nat) (v_nodes_children : Nat → Int32) (n_plan_ahead : Nat) (v_plan_ahead : Nat → Int32) (n_plan_cells : Nat) (v_plan_cells : Nat → Int32) (x1 : Int32) (x2 : Int32) : Option (Int32 × Int32 × Int32 × (Nat → Int32) × (Nat → Int32) × (Nat → Int32) × Int32 × Nat × (Nat → Int32) × Nat × (Nat → Int32) × Nat × (Nat → Int32) × Nat × (Nat → Int32) × Nat × (Nat → Int32) × Nat × (Nat → Int32) × Int32 × Nat × (Nat → Int32) × Nat × (Nat → Int32) × Nat) :=
  bd15 (pm_X3_add F g (0 : Int32) n_nodes_cells v_nodes_cells n_nodes_ahead v_nodes_ahead n_nodes_proof v_nodes_proof n_nodes_disproof v_nodes_disproof n_nodes_child v_nodes_child n_nodes_children v_nodes_children (-1 : Int32) (-1 : Int32)) fun r_1 v_count_2 n_cells_3 v_cells_4 n_ahead_5 v_ahead_6 n_proof_7 v_proof_8 n_disproof_9 v_disproof_10 n_child_11 v_child_12 n_children_13 v_children_14 g_15 =>
  bd18 (
  pm_X4_seek_L42 F n_bench_stones n_bench_near v_bench_near n_bench_edges v_bench_edges n_bench_marks n_bench_stack x1 x2 r_1 F (1 : Int32) (0 : Int32) x1 v_bench_stones v_bench_marks v_bench_stack v_count_2 n_cells_3 v_cells_4 n_ahead_5 v_ahead_6 n_proof_7 v_proof_8 n_disproof_9 v_disproof_10 n_child_11 v_child_12 n_children_13 v_children_14 g_15) fun v_mover_28 v_bench_stones_29 v_bench_marks_30 v_bench_stack_31 v_nodes_count_32 n_nodes_cells_33 v_nodes_cells_34 n_nodes_ahead_35 v_nodes_ahead_36 n_nodes_proof_37 v_nodes_proof_38 n_nodes_disproof_39 v_nodes_disproof_40 n_nodes_child_41 v_nodes_child_42 n_nodes_children_43 v_nodes_children_44 g_45 =>
  bd1 (pm_X4_foundAt F x1 n_nodes_proof_37 v_nodes_proof_38 n_nodes_disproof_39 v_nodes_disproof_40 r_1) fun r_47 =>
  if r_47 = 0 then
  some (r_47, x1, v_mover_28, v_bench_stones_29, v_bench_marks_30, v_bench_stack_31, v_nodes_count_32, n_nodes_cells_33, v_nodes_cells_34, n_nodes_ahead_35, v_nodes_ahead_36, n_nodes_proof_37, v_nodes_proof_38, n_nodes_disproof_39, v_nodes_disproof_40, n_nodes_child_41, v_nodes_child_42, n_nodes_children_43, v_nodes_children_44, (0 : Int32), n_plan_ahead, v_plan_ahead, n_plan_cells, v_plan_cells, g_45)
  else
  bd6 (pm_X4_writePlan F g_45 x1 n_bench_stones n_nodes_cells_33 v_nodes_cells_34 n_nodes_ahead_35 v_nodes_ahead_36 n_nodes_proof_37 v_nodes_proof_38 n_nodes_disproof_39 v_nodes_disproof_40 n_nodes_child_41 v_nodes_child_42 n_nodes_children_43 v_nodes_children_44 (0 : Int32) n_plan_ahead v_plan_ahead n_plan_cells v_plan_cells r_1 r_47) fun v_plan_count_48 n_plan_ahead_49 v_plan_ahead_50 n_plan_cells_51 v_plan_cells_52 g_53 =>
  some (r_47, x1, v_mover_28, v_bench_stones_29, v_bench_marks_30, v_bench_stack_31, v_nodes_count_32, n_nodes_cells_33, v_nodes_cells_34, n_nodes_ahead_35, v_nodes_ahead_36, n_nodes_proof_37, v_nodes_proof_38, n_nodes_disproof_39, v_nodes_disproof_40, n_nodes_child_41, v_nodes_child_42, n_nodes_children_43, v_nodes_children_44, v_plan_count_48, n_plan_ahead_49, v_plan_ahead_50, n_plan_cells_51, v_plan_cells_52, g_53)
theorem mono_X4_seek_L42 {F : Nat} {n_bench_stones : Nat} {n_bench_near : Nat} {v_bench_near : Nat → Int32} {n_bench_edges : Nat} {v_bench_edges : Nat → Int32} {n_bench_marks : Nat} {n_bench_stack : Nat} {x1 : Int32} {x2 : Int32} {r_1 : Int32} : ∀ {k : Nat} {x4_62 : Int32} {x5_63 : Int32} {v_mover_64 : Int32} {v_bench_stones_65 : Nat → Int32} {v_bench_marks_66 : Nat → Int32} {v_bench_stack_67 : Nat → Int32} {v_nodes_count_68 : Int32} {n_nodes_cells_69 : Nat} {v_nodes_cells_70 : Nat → Int32} {n_nodes_ahead_71 : Nat} {v_nodes_ahead_72 : Nat → Int32} {n_nodes_proof_73 : Nat} {v_nodes_proof_74 : Nat → Int32} {n_nodes_disproof_75 : Nat} {v_nodes_disproof_76 : Nat → Int32} {n_nodes_child_77 : Nat} {v_nodes_child_78 : Nat → Int32} {n_nodes_children_79 : Nat} {v_nodes_children_80 : Nat → Int32} {g_81 : Nat} {v_mover_28 : Int32} {v_bench_stones_29 : Nat → Int32} {v_bench_marks_30 : Nat → Int32} {v_bench_stack_31 : Nat → Int32} {v_nodes_count_32 : Int32} {n_nodes_cells_33 : Nat} {v_nodes_cells_34 : Nat → Int32} {n_nodes_ahead_35 : Nat} {v_nodes_ahead_36 : Nat → Int32} {n_nodes_proof_37 : Nat} {v_nodes_proof_38 : Nat → Int32} {n_nodes_disproof_39 : Nat} {v_nodes_disproof_40 : Nat → Int32} {n_nodes_child_41 : Nat} {v_nodes_child_42 : Nat → Int32} {n_nodes_children_43 : Nat} {v_nodes_children_44 : Nat → Int32} {g_45 : Nat}, pm_X4_seek_L42 F n_bench_stones n_bench_near v_bench_near n_bench_edges v_bench_edges n_bench_marks n_bench_stack x1 x2 r_1 k x4_62 x5_63 v_mover_64 v_bench_stones_65 v_bench_marks_66 v_bench_stack_67 v_nodes_count_68 n_nodes_cells_69 v_nodes_cells_70 n_nodes_ahead_71 v_nodes_ahead_72 n_nodes_proof_73 v_nodes_proof_74 n_nodes_disproof_75 v_nodes_disproof_76 n_nodes_child_77 v_nodes_child_78 n_nodes_children_79 v_nodes_children_80 g_81 = some (v_mover_28, v_bench_stones_29, v_bench_marks_30, v_bench_stack_31, v_nodes_count_32, n_nodes_cells_33, v_nodes_cells_34, n_nodes_ahead_35, v_nodes_ahead_36, n_nodes_proof_37, v_nodes_proof_38, n_nodes_disproof_39, v_nodes_disproof_40, n_nodes_child_41, v_nodes_child_42, n_nodes_children_43, v_nodes_children_44, g_45) → g_45 ≤ g_81 := by
  intro k
  induction k with
  | zero => intro x4_62 x5_63 v_mover_64 v_bench_stones_65 v_bench_marks_66 v_bench_stack_67 v_nodes_count_68 n_nodes_cells_69 v_nodes_cells_70 n_nodes_ahead_71 v_nodes_ahead_72 n_nodes_proof_73 v_nodes_proof_74 n_nodes_disproof_75 v_nodes_disproof_76 n_nodes_child_77 v_nodes_child_78 n_nodes_children_79 v_nodes_children_80 g_81 v_mover_28 v_bench_stones_29 v_bench_marks_30 v_bench_stack_31 v_nodes_count_32 n_nodes_cells_33 v_nodes_cells_34 n_nodes_ahead_35 v_nodes_ahead_36 n_nodes_proof_37 v_nodes_proof_38 n_nodes_disproof_39 v_nodes_disproof_40 n_nodes_child_41 v_nodes_child_42 n_nodes_children_43 v_nodes_children_44 g_45 h; rw [pm_X4_seek_L42] at h; cases h
  | succ k ih =>
    intro x4_62 x5_63 v_mover_64 v_bench_stones_65 v_bench_marks_66 v_bench_stack_67 v_nodes_count_68 n_nodes_cells_69 v_nodes_cells_70 n_nodes_ahead_71 v_nodes_ahead_72 n_nodes_proof_73 v_nodes_proof_74 n_nodes_disproof_75 v_nodes_disproof_76 n_nodes_child_77 v_nodes_child_78 n_nodes_children_79 v_nodes_children_80 g_81 v_mover_28 v_bench_stones_29 v_bench_marks_30 v_bench_stack_31 v_nodes_count_32 n_nodes_cells_33 v_nodes_cells_34 n_nodes_ahead_35 v_nodes_ahead_36 n_nodes_proof_37 v_nodes_proof_38 n_nodes_disproof_39 v_nodes_disproof_40 n_nodes_child_41 v_nodes_child_42 n_nodes_children_43 v_nodes_children_44 g_45 h
    rw [pm_X4_seek_L42] at h
    have hle : g_81 ≤ g_81 := Nat.le_refl _
    by_cases cb : (8000 : Int32) ≤ x5_63
    · replace h := pm_pos cb h
      exact le_last ((Prod.mk.inj ((Prod.mk.inj ((Prod.mk.inj ((Prod.mk.inj ((Prod.mk.inj ((Prod.mk.inj ((Prod.mk.inj ((Prod.mk.inj ((Prod.mk.inj ((Prod.mk.inj ((Prod.mk.inj ((Prod.mk.inj ((Prod.mk.inj ((Prod.mk.inj ((Prod.mk.inj ((Prod.mk.inj ((Prod.mk.inj (Option.some.inj h)).2)).2)).2)).2)).2)).2)).2)).2)).2)).2)).2)).2)).2)).2)).2)).2)).2) hle
    · replace h := pm_neg cb h
      by_cases cb : x4_62 = 0
      · replace h := pm_pos cb h
        exact le_last ((Prod.mk.inj ((Prod.mk.inj ((Prod.mk.inj ((Prod.mk.inj ((Prod.mk.inj ((Prod.mk.inj ((Prod.mk.inj ((Prod.mk.inj ((Prod.mk.inj ((Prod.mk.inj ((Prod.mk.inj ((Prod.mk.inj ((Prod.mk.inj ((Prod.mk.inj ((Prod.mk.inj ((Prod.mk.inj ((Prod.mk.inj (Option.some.inj h)).2)).2)).2)).2)).2)).2)).2)).2)).2)).2)).2)).2)).2)).2)).2)).2)).2) hle
      · replace h := pm_neg cb h
        obtain ⟨r_82, hc, h⟩ := bd1_s h
        by_cases cb : r_82 = 0
        · replace h := pm_pos cb h
          obtain ⟨r_83, v_mover_84, v_bench_stones_85, hc, h⟩ := bd3_s h
          obtain ⟨r_86, v_bench_marks_87, v_bench_stack_88, v_nodes_count_89, n_nodes_cells_90, v_nodes_cells_91, n_nodes_ahead_92, v_nodes_ahead_93, n_nodes_proof_94, v_nodes_proof_95, n_nodes_disproof_96, v_nodes_disproof_97, n_nodes_child_98, v_nodes_child_99, n_nodes_children_100, v_nodes_children_101, g_102, hc, h⟩ := bd17_s h
          have mo := mono_X4_expand hc
          have hle := Nat.le_trans mo hle
          obtain ⟨v_mover_109, v_bench_stones_110, v_nodes_proof_111, v_nodes_disproof_112, hc, h⟩ := bd4_s h
          exact Nat.le_trans (ih h) hle
        · replace h := pm_neg cb h
          exact le_last ((Prod.mk.inj ((Prod.mk.inj ((Prod.mk.inj ((Prod.mk.inj ((Prod.mk.inj ((Prod.mk.inj ((Prod.mk.inj ((Prod.mk.inj ((Prod.mk.inj ((Prod.mk.inj ((Prod.mk.inj ((Prod.mk.inj ((Prod.mk.inj ((Prod.mk.inj ((Prod.mk.inj ((Prod.mk.inj ((Prod.mk.inj (Option.some.inj h)).2)).2)).2)).2)).2)).2)).2)).2)).2)).2)).2)).2)).2)).2)).2)).2)).2) hle
theorem mono_X4_seek {F : Nat} {g : Nat} {n_bench_stones : Nat} {v_bench_stones : Nat → Int32} {n_bench_near : Nat} {v_bench_near : Nat → Int32} {n_bench_edges : Nat} {v_bench_edges : Nat → Int32} {n_bench_marks : Nat} {v_bench_marks : Nat → Int32} {n_bench_stack : Nat} {v_bench_stack : Nat → Int32} {n_nodes_cells : Nat} {v_nodes_cells : Nat → Int32} {n_nodes_ahead : Nat} {v_nodes_ahead : Nat → Int32} {n_nodes_proof : Nat} {v_nodes_proof : Nat → Int32} {n_nodes_disproof : Nat} {v_nodes_disproof : Nat → Int32} {n_nodes_child : Nat} {v_nodes_child : Nat → Int32} {n_nodes_children : Nat} {v_nodes_children : Nat → Int32} {n_plan_ahead : Nat} {v_plan_ahead : Nat → Int32} {n_plan_cells : Nat} {v_plan_cells : Nat → Int32} {x1 : Int32} {x2 : Int32} {r : Int32} {w0 : Int32} {w1 : Int32} {w2 : Nat → Int32} {w3 : Nat → Int32} {w4 : Nat → Int32} {w5 : Int32} {w6 : Nat} {w7 : Nat → Int32} {w8 : Nat} {w9 : Nat → Int32} {w10 : Nat} {w11 : Nat → Int32} {w12 : Nat} {w13 : Nat → Int32} {w14 : Nat} {w15 : Nat → Int32} {w16 : Nat} {w17 : Nat → Int32} {w18 : Int32} {w19 : Nat} {w20 : Nat → Int32} {w21 : Nat} {w22 : Nat → Int32} {wg : Nat} (h : pm_X4_seek F g n_bench_stones v_bench_stones n_bench_near v_bench_near n_bench_edges v_bench_edges n_bench_marks v_bench_marks n_bench_stack v_bench_stack n_nodes_cells v_nodes_cells n_nodes_ahead v_nodes_ahead n_nodes_proof v_nodes_proof n_nodes_disproof v_nodes_disproof n_nodes_child v_nodes_child n_nodes_children v_nodes_children n_plan_ahead v_plan_ahead n_plan_cells v_plan_cells x1 x2 = some (r, w0, w1, w2, w3, w4, w5, w6, w7, w8, w9, w10, w11, w12, w13, w14, w15, w16, w17, w18, w19, w20, w21, w22, wg)) : wg ≤ g := by
  rw [pm_X4_seek] at h
  have hle : g ≤ g := Nat.le_refl _
  obtain ⟨r_113, v_count_114, n_cells_115, v_cells_116, n_ahead_117, v_ahead_118, n_proof_119, v_proof_120, n_disproof_121, v_disproof_122, n_child_123, v_child_124, n_children_125, v_children_126, g_127, hc, h⟩ := bd15_s h
  have mo := mono_X3_add hc
  have hle := Nat.le_trans mo hle
  obtain ⟨v_mover_140, v_bench_stones_141, v_bench_marks_142, v_bench_stack_143, v_nodes_count_144, n_nodes_cells_145, v_nodes_cells_146, n_nodes_ahead_147, v_nodes_ahead_148, n_nodes_proof_149, v_nodes_proof_150, n_nodes_disproof_151, v_nodes_disproof_152, n_nodes_child_153, v_nodes_child_154, n_nodes_children_155, v_nodes_children_156, g_157, hw, h⟩ := bd18_s h
  have hle := Nat.le_trans (mono_X4_seek_L42 hw) hle
  obtain ⟨r_159, hc, h⟩ := bd1_s h
  by_cases cb : r_159 = 0
  · replace h := pm_pos cb h
    exact le_last ((Prod.mk.inj ((Prod.mk.inj ((Prod.mk.inj ((Prod.mk.inj ((Prod.mk.inj ((Prod.mk.inj ((Prod.mk.inj ((Prod.mk.inj ((Prod.mk.inj ((Prod.mk.inj ((Prod.mk.inj ((Prod.mk.inj ((Prod.mk.inj ((Prod.mk.inj ((Prod.mk.inj ((Prod.mk.inj ((Prod.mk.inj ((Prod.mk.inj ((Prod.mk.inj ((Prod.mk.inj ((Prod.mk.inj ((Prod.mk.inj ((Prod.mk.inj ((Prod.mk.inj (Option.some.inj h)).2)).2)).2)).2)).2)).2)).2)).2)).2)).2)).2)).2)).2)).2)).2)).2)).2)).2)).2)).2)).2)).2)).2)).2) hle
  · replace h := pm_neg cb h
    obtain ⟨v_plan_count_160, n_plan_ahead_161, v_plan_ahead_162, n_plan_cells_163, v_plan_cells_164, g_165, hc, h⟩ := bd6_s h
    have mo := mono_X4_writePlan hc
    have hle := Nat.le_trans mo hle
    exact le_last ((Prod.mk.inj ((Prod.mk.inj ((Prod.mk.inj ((Prod.mk.inj ((Prod.mk.inj ((Prod.mk.inj ((Prod.mk.inj ((Prod.mk.inj ((Prod.mk.inj ((Prod.mk.inj ((Prod.mk.inj ((Prod.mk.inj ((Prod.mk.inj ((Prod.mk.inj ((Prod.mk.inj ((Prod.mk.inj ((Prod.mk.inj ((Prod.mk.inj ((Prod.mk.inj ((Prod.mk.inj ((Prod.mk.inj ((Prod.mk.inj ((Prod.mk.inj ((Prod.mk.inj (Option.some.inj h)).2)).2)).2)).2)).2)).2)).2)).2)).2)).2)).2)).2)).2)).2)).2)).2)).2)).2)).2)).2)).2)).2)).2)).2) hle
def pm_X5_init (F : Nat) (g : Nat) : Option (Nat) :=
  some g
theorem mono_X5_init {F : Nat} {g : Nat} {wg : Nat} (h : pm_X5_init F g = some wg) : wg ≤ g := by
  rw [pm_X5_init] at h
  have hle : g ≤ g := Nat.le_refl _
  exact le_last (Option.some.inj h) hle
def pm_X6_init (F : Nat) (g : Nat) (x1 : Int32) : Option (Int32 × Int32 × Nat × (Nat → Int32) × Nat × (Nat → Int32) × Nat × (Nat → Int32) × Nat × (Nat → Int32) × Nat × (Nat → Int32) × Int32 × Nat × (Nat → Int32) × Nat × (Nat → Int32) × Nat × (Nat → Int32) × Nat × (Nat → Int32) × Nat × (Nat → Int32) × Int32 × Int32 × Int32 × Int32 × Int32 × Int32 × Int32 × Int32 × Int32 × Int32 × Nat × (Nat → Int32) × Nat × (Nat → Int32) × Nat × (Nat → Int32) × Nat × (Nat → Int32) × Nat × (Nat → Int32) × Nat × (Nat → Int32) × Int32 × Nat × (Nat → Int32) × Nat × (Nat → Int32) × Int32 × Nat × (Nat → Int32) × Nat × (Nat → Int32) × Int32 × Int32 × Nat × (Nat → Int32) × Nat × (Nat → Int32) × Nat × (Nat → Int32) × Nat) :=
  bd1 (gs g 6) fun g_2 =>
  bd12 (pm_X0_init F g_2 (if (1 : Int32) < (if x1 < (11 : Int32) then x1 else (11 : Int32)) then (if x1 < (11 : Int32) then x1 else (11 : Int32)) else (1 : Int32))) fun v_size_3 n_stones_4 v_stones_5 n_near_6 v_near_7 n_edges_8 v_edges_9 n_marks_10 v_marks_11 n_stack_12 v_stack_13 g_14 =>
  bd1 (gs g_14 6) fun g_21 =>
  bd12 (pm_X0_init F g_21 (if (1 : Int32) < (if x1 < (11 : Int32) then x1 else (11 : Int32)) then (if x1 < (11 : Int32) then x1 else (11 : Int32)) else (1 : Int32))) fun v_size_22 n_stones_23 v_stones_24 n_near_25 v_near_26 n_edges_27 v_edges_28 n_marks_29 v_marks_30 n_stack_31 v_stack_32 g_33 =>
  bd1 (gs g_33 8) fun g_40 =>
  bd1 (pm_X5_init F g_40) fun g_41 =>
  bd1 (gs g_41 5) fun g_43 =>
  bd21 (pm_X4_init F g_43) fun v_first_44 v_mover_45 v_nodes_count_46 n_nodes_cells_47 v_nodes_cells_48 n_nodes_ahead_49 v_nodes_ahead_50 n_nodes_proof_51 v_nodes_proof_52 n_nodes_disproof_53 v_nodes_disproof_54 n_nodes_child_55 v_nodes_child_56 n_nodes_children_57 v_nodes_children_58 v_plan_count_59 n_plan_ahead_60 v_plan_ahead_61 n_plan_cells_62 v_plan_cells_63 g_64 =>
  bd1 (gs g_64 3) fun g_76 =>
  bd5 (pm_X2_init F g_76) fun n_ahead_77 v_ahead_78 n_cells_79 v_cells_80 g_81 =>
  bd1 (gs g_81 6) fun g_85 =>
  bd7 (pm_X1_init F g_85) fun v_side_86 v_mover_87 n_behind_88 v_behind_89 n_nextOne_90 v_nextOne_91 g_92 =>
  if ((if (1 : Int32) < (if x1 < (11 : Int32) then x1 else (11 : Int32)) then (if x1 < (11 : Int32) then x1 else (11 : Int32)) else (1 : Int32)) * (if (1 : Int32) < (if x1 < (11 : Int32) then x1 else (11 : Int32)) then (if x1 < (11 : Int32) then x1 else (11 : Int32)) else (1 : Int32))) < 0 ∨ 100000 < ((if (1 : Int32) < (if x1 < (11 : Int32) then x1 else (11 : Int32)) then (if x1 < (11 : Int32) then x1 else (11 : Int32)) else (1 : Int32)) * (if (1 : Int32) < (if x1 < (11 : Int32) then x1 else (11 : Int32)) then (if x1 < (11 : Int32) then x1 else (11 : Int32)) else (1 : Int32))).toNatClampNeg then none else
  bd1 (gs g_92 (((if (1 : Int32) < (if x1 < (11 : Int32) then x1 else (11 : Int32)) then (if x1 < (11 : Int32) then x1 else (11 : Int32)) else (1 : Int32)) * (if (1 : Int32) < (if x1 < (11 : Int32) then x1 else (11 : Int32)) then (if x1 < (11 : Int32) then x1 else (11 : Int32)) else (1 : Int32))).toNatClampNeg)) fun g_96 =>
  some ((1 : Int32), v_size_3, n_stones_4, v_stones_5, n_near_6, v_near_7, n_edges_8, v_edges_9, n_marks_10, v_marks_11, n_stack_12, v_stack_13, v_size_22, n_stones_23, v_stones_24, n_near_25, v_near_26, n_edges_27, v_edges_28, n_marks_29, v_marks_30, n_stack_31, v_stack_32, (0 : Int32), (0 : Int32), (0 : Int32), (0 : Int32), (0 : Int32), (0 : Int32), (0 : Int32), v_first_44, v_mover_45, v_nodes_count_46, n_nodes_cells_47, v_nodes_cells_48, n_nodes_ahead_49, v_nodes_ahead_50, n_nodes_proof_51, v_nodes_proof_52, n_nodes_disproof_53, v_nodes_disproof_54, n_nodes_child_55, v_nodes_child_56, n_nodes_children_57, v_nodes_children_58, v_plan_count_59, n_plan_ahead_60, v_plan_ahead_61, n_plan_cells_62, v_plan_cells_63, (0 : Int32), n_ahead_77, v_ahead_78, n_cells_79, v_cells_80, v_side_86, v_mover_87, n_behind_88, v_behind_89, n_nextOne_90, v_nextOne_91, ((if (1 : Int32) < (if x1 < (11 : Int32) then x1 else (11 : Int32)) then (if x1 < (11 : Int32) then x1 else (11 : Int32)) else (1 : Int32)) * (if (1 : Int32) < (if x1 < (11 : Int32) then x1 else (11 : Int32)) then (if x1 < (11 : Int32) then x1 else (11 : Int32)) else (1 : Int32))).toNatClampNeg, (fun _ => 0), g_96)
theorem mono_X6_init {F : Nat} {g : Nat} {x1 : Int32} {w0 : Int32} {w1 : Int32} {w2 : Nat} {w3 : Nat → Int32} {w4 : Nat} {w5 : Nat → Int32} {w6 : Nat} {w7 : Nat → Int32} {w8 : Nat} {w9 : Nat → Int32} {w10 : Nat} {w11 : Nat → Int32} {w12 : Int32} {w13 : Nat} {w14 : Nat → Int32} {w15 : Nat} {w16 : Nat → Int32} {w17 : Nat} {w18 : Nat → Int32} {w19 : Nat} {w20 : Nat → Int32} {w21 : Nat} {w22 : Nat → Int32} {w23 : Int32} {w24 : Int32} {w25 : Int32} {w26 : Int32} {w27 : Int32} {w28 : Int32} {w29 : Int32} {w30 : Int32} {w31 : Int32} {w32 : Int32} {w33 : Nat} {w34 : Nat → Int32} {w35 : Nat} {w36 : Nat → Int32} {w37 : Nat} {w38 : Nat → Int32} {w39 : Nat} {w40 : Nat → Int32} {w41 : Nat} {w42 : Nat → Int32} {w43 : Nat} {w44 : Nat → Int32} {w45 : Int32} {w46 : Nat} {w47 : Nat → Int32} {w48 : Nat} {w49 : Nat → Int32} {w50 : Int32} {w51 : Nat} {w52 : Nat → Int32} {w53 : Nat} {w54 : Nat → Int32} {w55 : Int32} {w56 : Int32} {w57 : Nat} {w58 : Nat → Int32} {w59 : Nat} {w60 : Nat → Int32} {w61 : Nat} {w62 : Nat → Int32} {wg : Nat} (h : pm_X6_init F g x1 = some (w0, w1, w2, w3, w4, w5, w6, w7, w8, w9, w10, w11, w12, w13, w14, w15, w16, w17, w18, w19, w20, w21, w22, w23, w24, w25, w26, w27, w28, w29, w30, w31, w32, w33, w34, w35, w36, w37, w38, w39, w40, w41, w42, w43, w44, w45, w46, w47, w48, w49, w50, w51, w52, w53, w54, w55, w56, w57, w58, w59, w60, w61, w62, wg)) : wg ≤ g := by
  rw [pm_X6_init] at h
  have hle : g ≤ g := Nat.le_refl _
  obtain ⟨g_98, hgs, h⟩ := bd1_s h
  have hle := Nat.le_trans (gs_le hgs) hle
  obtain ⟨v_size_99, n_stones_100, v_stones_101, n_near_102, v_near_103, n_edges_104, v_edges_105, n_marks_106, v_marks_107, n_stack_108, v_stack_109, g_110, hc, h⟩ := bd12_s h
  have mo := mono_X0_init hc
  have hle := Nat.le_trans mo hle
  obtain ⟨g_117, hgs, h⟩ := bd1_s h
  have hle := Nat.le_trans (gs_le hgs) hle
  obtain ⟨v_size_118, n_stones_119, v_stones_120, n_near_121, v_near_122, n_edges_123, v_edges_124, n_marks_125, v_marks_126, n_stack_127, v_stack_128, g_129, hc, h⟩ := bd12_s h
  have mo := mono_X0_init hc
  have hle := Nat.le_trans mo hle
  obtain ⟨g_136, hgs, h⟩ := bd1_s h
  have hle := Nat.le_trans (gs_le hgs) hle
  obtain ⟨g_137, hc, h⟩ := bd1_s h
  have mo := mono_X5_init hc
  have hle := Nat.le_trans mo hle
  obtain ⟨g_139, hgs, h⟩ := bd1_s h
  have hle := Nat.le_trans (gs_le hgs) hle
  obtain ⟨v_first_140, v_mover_141, v_nodes_count_142, n_nodes_cells_143, v_nodes_cells_144, n_nodes_ahead_145, v_nodes_ahead_146, n_nodes_proof_147, v_nodes_proof_148, n_nodes_disproof_149, v_nodes_disproof_150, n_nodes_child_151, v_nodes_child_152, n_nodes_children_153, v_nodes_children_154, v_plan_count_155, n_plan_ahead_156, v_plan_ahead_157, n_plan_cells_158, v_plan_cells_159, g_160, hc, h⟩ := bd21_s h
  have mo := mono_X4_init hc
  have hle := Nat.le_trans mo hle
  obtain ⟨g_172, hgs, h⟩ := bd1_s h
  have hle := Nat.le_trans (gs_le hgs) hle
  obtain ⟨n_ahead_173, v_ahead_174, n_cells_175, v_cells_176, g_177, hc, h⟩ := bd5_s h
  have mo := mono_X2_init hc
  have hle := Nat.le_trans mo hle
  obtain ⟨g_181, hgs, h⟩ := bd1_s h
  have hle := Nat.le_trans (gs_le hgs) hle
  obtain ⟨v_side_182, v_mover_183, n_behind_184, v_behind_185, n_nextOne_186, v_nextOne_187, g_188, hc, h⟩ := bd7_s h
  have mo := mono_X1_init hc
  have hle := Nat.le_trans mo hle
  obtain ⟨hz, h⟩ := pm_nc h
  obtain ⟨z1, z2⟩ := nb_ok hz
  obtain ⟨g_192, hgs, h⟩ := bd1_s h
  have hle := Nat.le_trans (gs_le hgs) hle
  exact le_last ((Prod.mk.inj ((Prod.mk.inj ((Prod.mk.inj ((Prod.mk.inj ((Prod.mk.inj ((Prod.mk.inj ((Prod.mk.inj ((Prod.mk.inj ((Prod.mk.inj ((Prod.mk.inj ((Prod.mk.inj ((Prod.mk.inj ((Prod.mk.inj ((Prod.mk.inj ((Prod.mk.inj ((Prod.mk.inj ((Prod.mk.inj ((Prod.mk.inj ((Prod.mk.inj ((Prod.mk.inj ((Prod.mk.inj ((Prod.mk.inj ((Prod.mk.inj ((Prod.mk.inj ((Prod.mk.inj ((Prod.mk.inj ((Prod.mk.inj ((Prod.mk.inj ((Prod.mk.inj ((Prod.mk.inj ((Prod.mk.inj ((Prod.mk.inj ((Prod.mk.inj ((Prod.mk.inj ((Prod.mk.inj ((Prod.mk.inj ((Prod.mk.inj ((Prod.mk.inj ((Prod.mk.inj ((Prod.mk.inj ((Prod.mk.inj ((Prod.mk.inj ((Prod.mk.inj ((Prod.mk.inj ((Prod.mk.inj ((Prod.mk.inj ((Prod.mk.inj ((Prod.mk.inj ((Prod.mk.inj ((Prod.mk.inj ((Prod.mk.inj ((Prod.mk.inj ((Prod.mk.inj ((Prod.mk.inj ((Prod.mk.inj ((Prod.mk.inj ((Prod.mk.inj ((Prod.mk.inj ((Prod.mk.inj ((Prod.mk.inj ((Prod.mk.inj ((Prod.mk.inj ((Prod.mk.inj (Option.some.inj h)).2)).2)).2)).2)).2)).2)).2)).2)).2)).2)).2)).2)).2)).2)).2)).2)).2)).2)).2)).2)).2)).2)).2)).2)).2)).2)).2)).2)).2)).2)).2)).2)).2)).2)).2)).2)).2)).2)).2)).2)).2)).2)).2)).2)).2)).2)).2)).2)).2)).2)).2)).2)).2)).2)).2)).2)).2)).2)).2)).2)).2)).2)).2) hle
def pm_X6_search (F : Nat) (g : Nat) (v_mover : Int32) (n_board_stones : Nat) (v_board_stones : Nat → Int32) (n_board_near : Nat) (v_board_near : Nat → Int32) (n_board_edges : Nat) (v_board_edges : Nat → Int32) (n_board_marks : Nat) (v_board_marks : Nat → Int32) (n_board_stack : Nat) (v_board_stack : Nat → Int32) (n_bench_stones : Nat) (v_bench_stones : Nat → Int32) (n_bench_near : Nat) (v_bench_near : Nat → Int32) (n_bench_edges : Nat) (v_bench_edges : Nat → Int32) (n_bench_marks : Nat) (v_bench_marks : Nat → Int32) (n_bench_stack : Nat) (v_bench_stack : Nat → Int32) (v_seeker_first : Int32) (v_seeker_mover : Int32) (v_seeker_nodes_count : Int32) (n_seeker_nodes_cells : Nat) (v_seeker_nodes_cells : Nat → Int32) (n_seeker_nodes_ahead : Nat) (v_seeker_nodes_ahead : Nat → Int32) (n_seeker_nodes_proof : Nat) (v_seeker_nodes_proof : Nat → Int32) (n_seeker_nodes_disproof : Nat) (v_seeker_nodes_disproof : Nat → Int32) (n_seeker_nodes_child : Nat) (v_seeker_nodes_child : Nat → Int32) (n_seeker_nodes_children : Nat) (v_seeker_nodes_children : Nat → Int32) (v_seeker_plan_count : Int32) (n_seeker_plan_ahead : Nat) (v_seeker_plan_ahead : Nat → Int32) (n_seeker_plan_cells : Nat) (v_seeker_plan_cells : Nat → Int32) (x1 : Int32) : Option (Int32 × (Nat → Int32) × (Nat → Int32) × (Nat → Int32) × (Nat → Int32) × (Nat → Int32) × Int32 × Int32 × Int32 × Nat × (Nat → Int32) × Nat × (Nat → Int32) × Nat × (Nat → Int32) × Nat × (Nat → Int32) × Nat × (Nat → Int32) × Nat × (Nat → Int32) × Int32 × Nat × (Nat → Int32) × Nat × (Nat → Int32) × Nat) :=
  if x1 < (1 : Int32) then
  some ((-1 : Int32), v_board_marks, v_board_stack, v_bench_stones, v_bench_marks, v_bench_stack, v_seeker_first, v_seeker_mover, v_seeker_nodes_count, n_seeker_nodes_cells, v_seeker_nodes_cells, n_seeker_nodes_ahead, v_seeker_nodes_ahead, n_seeker_nodes_proof, v_seeker_nodes_proof, n_seeker_nodes_disproof, v_seeker_nodes_disproof, n_seeker_nodes_child, v_seeker_nodes_child, n_seeker_nodes_children, v_seeker_nodes_children, v_seeker_plan_count, n_seeker_plan_ahead, v_seeker_plan_ahead, n_seeker_plan_cells, v_seeker_plan_cells, g)
  else
  if (8000 : Int32) < x1 then
  some ((-1 : Int32), v_board_marks, v_board_stack, v_bench_stones, v_bench_marks, v_bench_stack, v_seeker_first, v_seeker_mover, v_seeker_nodes_count, n_seeker_nodes_cells, v_seeker_nodes_cells, n_seeker_nodes_ahead, v_seeker_nodes_ahead, n_seeker_nodes_proof, v_seeker_nodes_proof, n_seeker_nodes_disproof, v_seeker_nodes_disproof, n_seeker_nodes_child, v_seeker_nodes_child, n_seeker_nodes_children, v_seeker_nodes_children, v_seeker_plan_count, n_seeker_plan_ahead, v_seeker_plan_ahead, n_seeker_plan_cells, v_seeker_plan_cells, g)
  else
  bd3 (pm_X0_winner F n_board_stones v_board_stones n_board_near v_board_near n_board_edges v_board_edges n_board_marks v_board_marks n_board_stack v_board_stack) fun r_1 v_marks_2 v_stack_3 =>
  if r_1 = 0 then
  bd1 (pm_X0_copyStones F n_bench_stones v_bench_stones n_board_stones v_board_stones) fun v_stones_4 =>
  bd25 (pm_X4_seek F g n_bench_stones v_stones_4 n_bench_near v_bench_near n_bench_edges v_bench_edges n_bench_marks v_bench_marks n_bench_stack v_bench_stack n_seeker_nodes_cells v_seeker_nodes_cells n_seeker_nodes_ahead v_seeker_nodes_ahead n_seeker_nodes_proof v_seeker_nodes_proof n_seeker_nodes_disproof v_seeker_nodes_disproof n_seeker_nodes_child v_seeker_nodes_child n_seeker_nodes_children v_seeker_nodes_children n_seeker_plan_ahead v_seeker_plan_ahead n_seeker_plan_cells v_seeker_plan_cells v_mover x1) fun r_5 v_first_6 v_mover_7 v_bench_stones_8 v_bench_marks_9 v_bench_stack_10 v_nodes_count_11 n_nodes_cells_12 v_nodes_cells_13 n_nodes_ahead_14 v_nodes_ahead_15 n_nodes_proof_16 v_nodes_proof_17 n_nodes_disproof_18 v_nodes_disproof_19 n_nodes_child_20 v_nodes_child_21 n_nodes_children_22 v_nodes_children_23 v_plan_count_24 n_plan_ahead_25 v_plan_ahead_26 n_plan_cells_27 v_plan_cells_28 g_29 =>
  some (r_5, v_marks_2, v_stack_3, v_bench_stones_8, v_bench_marks_9, v_bench_stack_10, v_first_6, v_mover_7, v_nodes_count_11, n_nodes_cells_12, v_nodes_cells_13, n_nodes_ahead_14, v_nodes_ahead_15, n_nodes_proof_16, v_nodes_proof_17, n_nodes_disproof_18, v_nodes_disproof_19, n_nodes_child_20, v_nodes_child_21, n_nodes_children_22, v_nodes_children_23, v_plan_count_24, n_plan_ahead_25, v_plan_ahead_26, n_plan_cells_27, v_plan_cells_28, g_29)
  else
  some ((-1 : Int32), v_marks_2, v_stack_3, v_bench_stones, v_bench_marks, v_bench_stack, v_seeker_first, v_seeker_mover, v_seeker_nodes_count, n_seeker_nodes_cells, v_seeker_nodes_cells, n_seeker_nodes_ahead, v_seeker_nodes_ahead, n_seeker_nodes_proof, v_seeker_nodes_proof, n_seeker_nodes_disproof, v_seeker_nodes_disproof, n_seeker_nodes_child, v_seeker_nodes_child, n_seeker_nodes_children, v_seeker_nodes_children, v_seeker_plan_count, n_seeker_plan_ahead, v_seeker_plan_ahead, n_seeker_plan_cells, v_seeker_plan_cells, g)
theorem mono_X6_search {F : Nat} {g : Nat} {v_mover : Int32} {n_board_stones : Nat} {v_board_stones : Nat → Int32} {n_board_near : Nat} {v_board_near : Nat → Int32} {n_board_edges : Nat} {v_board_edges : Nat → Int32} {n_board_marks : Nat} {v_board_marks : Nat → Int32} {n_board_stack : Nat} {v_board_stack : Nat → Int32} {n_bench_stones : Nat} {v_bench_stones : Nat → Int32} {n_bench_near : Nat} {v_bench_near : Nat → Int32} {n_bench_edges : Nat} {v_bench_edges : Nat → Int32} {n_bench_marks : Nat} {v_bench_marks : Nat → Int32} {n_bench_stack : Nat} {v_bench_stack : Nat → Int32} {v_seeker_first : Int32} {v_seeker_mover : Int32} {v_seeker_nodes_count : Int32} {n_seeker_nodes_cells : Nat} {v_seeker_nodes_cells : Nat → Int32} {n_seeker_nodes_ahead : Nat} {v_seeker_nodes_ahead : Nat → Int32} {n_seeker_nodes_proof : Nat} {v_seeker_nodes_proof : Nat → Int32} {n_seeker_nodes_disproof : Nat} {v_seeker_nodes_disproof : Nat → Int32} {n_seeker_nodes_child : Nat} {v_seeker_nodes_child : Nat → Int32} {n_seeker_nodes_children : Nat} {v_seeker_nodes_children : Nat → Int32} {v_seeker_plan_count : Int32} {n_seeker_plan_ahead : Nat} {v_seeker_plan_ahead : Nat → Int32} {n_seeker_plan_cells : Nat} {v_seeker_plan_cells : Nat → Int32} {x1 : Int32} {r : Int32} {w0 : Nat → Int32} {w1 : Nat → Int32} {w2 : Nat → Int32} {w3 : Nat → Int32} {w4 : Nat → Int32} {w5 : Int32} {w6 : Int32} {w7 : Int32} {w8 : Nat} {w9 : Nat → Int32} {w10 : Nat} {w11 : Nat → Int32} {w12 : Nat} {w13 : Nat → Int32} {w14 : Nat} {w15 : Nat → Int32} {w16 : Nat} {w17 : Nat → Int32} {w18 : Nat} {w19 : Nat → Int32} {w20 : Int32} {w21 : Nat} {w22 : Nat → Int32} {w23 : Nat} {w24 : Nat → Int32} {wg : Nat} (h : pm_X6_search F g v_mover n_board_stones v_board_stones n_board_near v_board_near n_board_edges v_board_edges n_board_marks v_board_marks n_board_stack v_board_stack n_bench_stones v_bench_stones n_bench_near v_bench_near n_bench_edges v_bench_edges n_bench_marks v_bench_marks n_bench_stack v_bench_stack v_seeker_first v_seeker_mover v_seeker_nodes_count n_seeker_nodes_cells v_seeker_nodes_cells n_seeker_nodes_ahead v_seeker_nodes_ahead n_seeker_nodes_proof v_seeker_nodes_proof n_seeker_nodes_disproof v_seeker_nodes_disproof n_seeker_nodes_child v_seeker_nodes_child n_seeker_nodes_children v_seeker_nodes_children v_seeker_plan_count n_seeker_plan_ahead v_seeker_plan_ahead n_seeker_plan_cells v_seeker_plan_cells x1 = some (r, w0, w1, w2, w3, w4, w5, w6, w7, w8, w9, w10, w11, w12, w13, w14, w15, w16, w17, w18, w19, w20, w21, w22, w23, w24, wg)) : wg ≤ g := by
  rw [pm_X6_search] at h
  have hle : g ≤ g := Nat.le_refl _
  by_cases cb : x1 < (1 : Int32)
  · replace h := pm_pos cb h
    exact le_last ((Prod.mk.inj ((Prod.mk.inj ((Prod.mk.inj ((Prod.mk.inj ((Prod.mk.inj ((Prod.mk.inj ((Prod.mk.inj ((Prod.mk.inj ((Prod.mk.inj ((Prod.mk.inj ((Prod.mk.inj ((Prod.mk.inj ((Prod.mk.inj ((Prod.mk.inj ((Prod.mk.inj ((Prod.mk.inj ((Prod.mk.inj ((Prod.mk.inj ((Prod.mk.inj ((Prod.mk.inj ((Prod.mk.inj ((Prod.mk.inj ((Prod.mk.inj ((Prod.mk.inj ((Prod.mk.inj ((Prod.mk.inj (Option.some.inj h)).2)).2)).2)).2)).2)).2)).2)).2)).2)).2)).2)).2)).2)).2)).2)).2)).2)).2)).2)).2)).2)).2)).2)).2)).2)).2) hle
  · replace h := pm_neg cb h
    by_cases cb : (8000 : Int32) < x1
    · replace h := pm_pos cb h
      exact le_last ((Prod.mk.inj ((Prod.mk.inj ((Prod.mk.inj ((Prod.mk.inj ((Prod.mk.inj ((Prod.mk.inj ((Prod.mk.inj ((Prod.mk.inj ((Prod.mk.inj ((Prod.mk.inj ((Prod.mk.inj ((Prod.mk.inj ((Prod.mk.inj ((Prod.mk.inj ((Prod.mk.inj ((Prod.mk.inj ((Prod.mk.inj ((Prod.mk.inj ((Prod.mk.inj ((Prod.mk.inj ((Prod.mk.inj ((Prod.mk.inj ((Prod.mk.inj ((Prod.mk.inj ((Prod.mk.inj ((Prod.mk.inj (Option.some.inj h)).2)).2)).2)).2)).2)).2)).2)).2)).2)).2)).2)).2)).2)).2)).2)).2)).2)).2)).2)).2)).2)).2)).2)).2)).2)).2) hle
    · replace h := pm_neg cb h
      obtain ⟨r_38, v_marks_39, v_stack_40, hc, h⟩ := bd3_s h
      by_cases cb : r_38 = 0
      · replace h := pm_pos cb h
        obtain ⟨v_stones_41, hc, h⟩ := bd1_s h
        obtain ⟨r_42, v_first_43, v_mover_44, v_bench_stones_45, v_bench_marks_46, v_bench_stack_47, v_nodes_count_48, n_nodes_cells_49, v_nodes_cells_50, n_nodes_ahead_51, v_nodes_ahead_52, n_nodes_proof_53, v_nodes_proof_54, n_nodes_disproof_55, v_nodes_disproof_56, n_nodes_child_57, v_nodes_child_58, n_nodes_children_59, v_nodes_children_60, v_plan_count_61, n_plan_ahead_62, v_plan_ahead_63, n_plan_cells_64, v_plan_cells_65, g_66, hc, h⟩ := bd25_s h
        have mo := mono_X4_seek hc
        have hle := Nat.le_trans mo hle
        exact le_last ((Prod.mk.inj ((Prod.mk.inj ((Prod.mk.inj ((Prod.mk.inj ((Prod.mk.inj ((Prod.mk.inj ((Prod.mk.inj ((Prod.mk.inj ((Prod.mk.inj ((Prod.mk.inj ((Prod.mk.inj ((Prod.mk.inj ((Prod.mk.inj ((Prod.mk.inj ((Prod.mk.inj ((Prod.mk.inj ((Prod.mk.inj ((Prod.mk.inj ((Prod.mk.inj ((Prod.mk.inj ((Prod.mk.inj ((Prod.mk.inj ((Prod.mk.inj ((Prod.mk.inj ((Prod.mk.inj ((Prod.mk.inj (Option.some.inj h)).2)).2)).2)).2)).2)).2)).2)).2)).2)).2)).2)).2)).2)).2)).2)).2)).2)).2)).2)).2)).2)).2)).2)).2)).2)).2) hle
      · replace h := pm_neg cb h
        exact le_last ((Prod.mk.inj ((Prod.mk.inj ((Prod.mk.inj ((Prod.mk.inj ((Prod.mk.inj ((Prod.mk.inj ((Prod.mk.inj ((Prod.mk.inj ((Prod.mk.inj ((Prod.mk.inj ((Prod.mk.inj ((Prod.mk.inj ((Prod.mk.inj ((Prod.mk.inj ((Prod.mk.inj ((Prod.mk.inj ((Prod.mk.inj ((Prod.mk.inj ((Prod.mk.inj ((Prod.mk.inj ((Prod.mk.inj ((Prod.mk.inj ((Prod.mk.inj ((Prod.mk.inj ((Prod.mk.inj ((Prod.mk.inj (Option.some.inj h)).2)).2)).2)).2)).2)).2)).2)).2)).2)).2)).2)).2)).2)).2)).2)).2)).2)).2)).2)).2)).2)).2)).2)).2)).2)).2) hle
def pm_X6_load (F : Nat) (g : Nat) (v_seeker_plan_count : Int32) (n_seeker_plan_ahead : Nat) (v_seeker_plan_ahead : Nat → Int32) (n_seeker_plan_cells : Nat) (v_seeker_plan_cells : Nat → Int32) (n_tree_ahead : Nat) (v_tree_ahead : Nat → Int32) (n_tree_cells : Nat) (v_tree_cells : Nat → Int32) : Option (Int32 × Int32 × Nat × (Nat → Int32) × Nat × (Nat → Int32) × Nat) :=
  bd6 (pm_X2_copyEntries F g n_tree_ahead v_tree_ahead n_tree_cells v_tree_cells v_seeker_plan_count n_seeker_plan_ahead v_seeker_plan_ahead n_seeker_plan_cells v_seeker_plan_cells) fun v_count_1 n_ahead_2 v_ahead_3 n_cells_4 v_cells_5 g_6 =>
  some (v_count_1, v_count_1, n_ahead_2, v_ahead_3, n_cells_4, v_cells_5, g_6)
theorem mono_X6_load {F : Nat} {g : Nat} {v_seeker_plan_count : Int32} {n_seeker_plan_ahead : Nat} {v_seeker_plan_ahead : Nat → Int32} {n_seeker_plan_cells : Nat} {v_seeker_plan_cells : Nat → Int32} {n_tree_ahead : Nat} {v_tree_ahead : Nat → Int32} {n_tree_cells : Nat} {v_tree_cells : Nat → Int32} {r : Int32} {w0 : Int32} {w1 : Nat} {w2 : Nat → Int32} {w3 : Nat} {w4 : Nat → Int32} {wg : Nat} (h : pm_X6_load F g v_seeker_plan_count n_seeker_plan_ahead v_seeker_plan_ahead n_seeker_plan_cells v_seeker_plan_cells n_tree_ahead v_tree_ahead n_tree_cells v_tree_cells = some (r, w0, w1, w2, w3, w4, wg)) : wg ≤ g := by
  rw [pm_X6_load] at h
  have hle : g ≤ g := Nat.le_refl _
  obtain ⟨v_count_9, n_ahead_10, v_ahead_11, n_cells_12, v_cells_13, g_14, hc, h⟩ := bd6_s h
  have mo := mono_X2_copyEntries hc
  have hle := Nat.le_trans mo hle
  exact le_last ((Prod.mk.inj ((Prod.mk.inj ((Prod.mk.inj ((Prod.mk.inj ((Prod.mk.inj ((Prod.mk.inj (Option.some.inj h)).2)).2)).2)).2)).2)).2) hle
def pm_X6_plant (F : Nat) (g : Nat) (v_tree_count : Int32) (n_tree_ahead : Nat) (v_tree_ahead : Nat → Int32) (n_tree_cells : Nat) (v_tree_cells : Nat → Int32) (x1 : Int32) (x2 : Int32) : Option (Int32 × Int32 × Nat × (Nat → Int32) × Nat × (Nat → Int32) × Nat) :=
  if x1 = (-1 : Int32) then
  bd7 (pm_X2_add F g v_tree_count n_tree_ahead v_tree_ahead n_tree_cells v_tree_cells x1 x2) fun r_1 v_count_2 n_ahead_3 v_ahead_4 n_cells_5 v_cells_6 g_7 =>
  some (r_1, v_count_2, n_ahead_3, v_ahead_4, n_cells_5, v_cells_6, g_7)
  else
  bd1 (pm_X2_has F v_tree_count x1) fun r_10 =>
  if r_10 = 0 then
  some ((-1 : Int32), v_tree_count, n_tree_ahead, v_tree_ahead, n_tree_cells, v_tree_cells, g)
  else
  bd7 (pm_X2_add F g v_tree_count n_tree_ahead v_tree_ahead n_tree_cells v_tree_cells x1 x2) fun r_11 v_count_12 n_ahead_13 v_ahead_14 n_cells_15 v_cells_16 g_17 =>
  some (r_11, v_count_12, n_ahead_13, v_ahead_14, n_cells_15, v_cells_16, g_17)
theorem mono_X6_plant {F : Nat} {g : Nat} {v_tree_count : Int32} {n_tree_ahead : Nat} {v_tree_ahead : Nat → Int32} {n_tree_cells : Nat} {v_tree_cells : Nat → Int32} {x1 : Int32} {x2 : Int32} {r : Int32} {w0 : Int32} {w1 : Nat} {w2 : Nat → Int32} {w3 : Nat} {w4 : Nat → Int32} {wg : Nat} (h : pm_X6_plant F g v_tree_count n_tree_ahead v_tree_ahead n_tree_cells v_tree_cells x1 x2 = some (r, w0, w1, w2, w3, w4, wg)) : wg ≤ g := by
  rw [pm_X6_plant] at h
  have hle : g ≤ g := Nat.le_refl _
  by_cases cb : x1 = (-1 : Int32)
  · replace h := pm_pos cb h
    obtain ⟨r_20, v_count_21, n_ahead_22, v_ahead_23, n_cells_24, v_cells_25, g_26, hc, h⟩ := bd7_s h
    have mo := mono_X2_add hc
    have hle := Nat.le_trans mo hle
    exact le_last ((Prod.mk.inj ((Prod.mk.inj ((Prod.mk.inj ((Prod.mk.inj ((Prod.mk.inj ((Prod.mk.inj (Option.some.inj h)).2)).2)).2)).2)).2)).2) hle
  · replace h := pm_neg cb h
    obtain ⟨r_29, hc, h⟩ := bd1_s h
    by_cases cb : r_29 = 0
    · replace h := pm_pos cb h
      exact le_last ((Prod.mk.inj ((Prod.mk.inj ((Prod.mk.inj ((Prod.mk.inj ((Prod.mk.inj ((Prod.mk.inj (Option.some.inj h)).2)).2)).2)).2)).2)).2) hle
    · replace h := pm_neg cb h
      obtain ⟨r_30, v_count_31, n_ahead_32, v_ahead_33, n_cells_34, v_cells_35, g_36, hc, h⟩ := bd7_s h
      have mo := mono_X2_add hc
      have hle := Nat.le_trans mo hle
      exact le_last ((Prod.mk.inj ((Prod.mk.inj ((Prod.mk.inj ((Prod.mk.inj ((Prod.mk.inj ((Prod.mk.inj (Option.some.inj h)).2)).2)).2)).2)).2)).2) hle
def pm_X6_check (F : Nat) (g : Nat) (v_mover : Int32) (n_board_stones : Nat) (v_board_stones : Nat → Int32) (n_board_near : Nat) (v_board_near : Nat → Int32) (n_board_edges : Nat) (v_board_edges : Nat → Int32) (n_board_marks : Nat) (v_board_marks : Nat → Int32) (n_board_stack : Nat) (v_board_stack : Nat → Int32) (n_bench_stones : Nat) (v_bench_stones : Nat → Int32) (n_bench_near : Nat) (v_bench_near : Nat → Int32) (n_bench_edges : Nat) (v_bench_edges : Nat → Int32) (n_bench_marks : Nat) (v_bench_marks : Nat → Int32) (n_bench_stack : Nat) (v_bench_stack : Nat → Int32) (v_tree_count : Int32) (n_tree_ahead : Nat) (v_tree_ahead : Nat → Int32) (n_tree_cells : Nat) (v_tree_cells : Nat → Int32) (v_checker_side : Int32) (v_checker_mover : Int32) (n_checker_behind : Nat) (v_checker_behind : Nat → Int32) (n_checker_nextOne : Nat) (v_checker_nextOne : Nat → Int32) (x1 : Int32) : Option (Int32 × (Nat → Int32) × (Nat → Int32) × (Nat → Int32) × (Nat → Int32) × (Nat → Int32) × Int32 × Int32 × Nat × (Nat → Int32) × Nat × (Nat → Int32) × Nat) :=
  bd1 (pm_X6_isSide F x1) fun r_1 =>
  if r_1 = 0 then
  some ((-1 : Int32), v_board_marks, v_board_stack, v_bench_stones, v_bench_marks, v_bench_stack, v_checker_side, v_checker_mover, n_checker_behind, v_checker_behind, n_checker_nextOne, v_checker_nextOne, g)
  else
  bd3 (pm_X0_winner F n_board_stones v_board_stones n_board_near v_board_near n_board_edges v_board_edges n_board_marks v_board_marks n_board_stack v_board_stack) fun r_2 v_marks_3 v_stack_4 =>
  if r_2 = 0 then
  bd1 (pm_X0_copyStones F n_bench_stones v_bench_stones n_board_stones v_board_stones) fun v_stones_5 =>
  bd11 (pm_X1_judge F g n_bench_stones v_stones_5 n_bench_near v_bench_near n_bench_edges v_bench_edges n_bench_marks v_bench_marks n_bench_stack v_bench_stack v_tree_count n_tree_ahead v_tree_ahead n_tree_cells v_tree_cells n_checker_behind v_checker_behind n_checker_nextOne v_checker_nextOne x1 v_mover) fun r_6 v_side_7 v_mover_8 v_bench_stones_9 v_bench_marks_10 v_bench_stack_11 n_behind_12 v_behind_13 n_nextOne_14 v_nextOne_15 g_16 =>
  some (r_6, v_marks_3, v_stack_4, v_bench_stones_9, v_bench_marks_10, v_bench_stack_11, v_side_7, v_mover_8, n_behind_12, v_behind_13, n_nextOne_14, v_nextOne_15, g_16)
  else
  some ((-1 : Int32), v_marks_3, v_stack_4, v_bench_stones, v_bench_marks, v_bench_stack, v_checker_side, v_checker_mover, n_checker_behind, v_checker_behind, n_checker_nextOne, v_checker_nextOne, g)
theorem mono_X6_check {F : Nat} {g : Nat} {v_mover : Int32} {n_board_stones : Nat} {v_board_stones : Nat → Int32} {n_board_near : Nat} {v_board_near : Nat → Int32} {n_board_edges : Nat} {v_board_edges : Nat → Int32} {n_board_marks : Nat} {v_board_marks : Nat → Int32} {n_board_stack : Nat} {v_board_stack : Nat → Int32} {n_bench_stones : Nat} {v_bench_stones : Nat → Int32} {n_bench_near : Nat} {v_bench_near : Nat → Int32} {n_bench_edges : Nat} {v_bench_edges : Nat → Int32} {n_bench_marks : Nat} {v_bench_marks : Nat → Int32} {n_bench_stack : Nat} {v_bench_stack : Nat → Int32} {v_tree_count : Int32} {n_tree_ahead : Nat} {v_tree_ahead : Nat → Int32} {n_tree_cells : Nat} {v_tree_cells : Nat → Int32} {v_checker_side : Int32} {v_checker_mover : Int32} {n_checker_behind : Nat} {v_checker_behind : Nat → Int32} {n_checker_nextOne : Nat} {v_checker_nextOne : Nat → Int32} {x1 : Int32} {r : Int32} {w0 : Nat → Int32} {w1 : Nat → Int32} {w2 : Nat → Int32} {w3 : Nat → Int32} {w4 : Nat → Int32} {w5 : Int32} {w6 : Int32} {w7 : Nat} {w8 : Nat → Int32} {w9 : Nat} {w10 : Nat → Int32} {wg : Nat} (h : pm_X6_check F g v_mover n_board_stones v_board_stones n_board_near v_board_near n_board_edges v_board_edges n_board_marks v_board_marks n_board_stack v_board_stack n_bench_stones v_bench_stones n_bench_near v_bench_near n_bench_edges v_bench_edges n_bench_marks v_bench_marks n_bench_stack v_bench_stack v_tree_count n_tree_ahead v_tree_ahead n_tree_cells v_tree_cells v_checker_side v_checker_mover n_checker_behind v_checker_behind n_checker_nextOne v_checker_nextOne x1 = some (r, w0, w1, w2, w3, w4, w5, w6, w7, w8, w9, w10, wg)) : wg ≤ g := by
  rw [pm_X6_check] at h
  have hle : g ≤ g := Nat.le_refl _
  obtain ⟨r_19, hc, h⟩ := bd1_s h
  by_cases cb : r_19 = 0
  · replace h := pm_pos cb h
    exact le_last ((Prod.mk.inj ((Prod.mk.inj ((Prod.mk.inj ((Prod.mk.inj ((Prod.mk.inj ((Prod.mk.inj ((Prod.mk.inj ((Prod.mk.inj ((Prod.mk.inj ((Prod.mk.inj ((Prod.mk.inj ((Prod.mk.inj (Option.some.inj h)).2)).2)).2)).2)).2)).2)).2)).2)).2)).2)).2)).2) hle
  · replace h := pm_neg cb h
    obtain ⟨r_20, v_marks_21, v_stack_22, hc, h⟩ := bd3_s h
    by_cases cb : r_20 = 0
    · replace h := pm_pos cb h
      obtain ⟨v_stones_23, hc, h⟩ := bd1_s h
      obtain ⟨r_24, v_side_25, v_mover_26, v_bench_stones_27, v_bench_marks_28, v_bench_stack_29, n_behind_30, v_behind_31, n_nextOne_32, v_nextOne_33, g_34, hc, h⟩ := bd11_s h
      have mo := mono_X1_judge hc
      have hle := Nat.le_trans mo hle
      exact le_last ((Prod.mk.inj ((Prod.mk.inj ((Prod.mk.inj ((Prod.mk.inj ((Prod.mk.inj ((Prod.mk.inj ((Prod.mk.inj ((Prod.mk.inj ((Prod.mk.inj ((Prod.mk.inj ((Prod.mk.inj ((Prod.mk.inj (Option.some.inj h)).2)).2)).2)).2)).2)).2)).2)).2)).2)).2)).2)).2) hle
    · replace h := pm_neg cb h
      exact le_last ((Prod.mk.inj ((Prod.mk.inj ((Prod.mk.inj ((Prod.mk.inj ((Prod.mk.inj ((Prod.mk.inj ((Prod.mk.inj ((Prod.mk.inj ((Prod.mk.inj ((Prod.mk.inj ((Prod.mk.inj ((Prod.mk.inj (Option.some.inj h)).2)).2)).2)).2)).2)).2)).2)).2)).2)).2)).2)).2) hle
def pm_X7_init (F : Nat) (g : Nat) (x1 : Int32) : Option (Int32 × Int32 × Int32 × Nat × (Nat → Int32) × Nat × (Nat → Int32) × Nat × (Nat → Int32) × Nat × (Nat → Int32) × Nat × (Nat → Int32) × Nat × (Nat → Int32) × Nat × (Nat → Int32) × Nat × (Nat → Int32) × Nat × (Nat → Int32) × Nat × (Nat → Int32) × Nat × (Nat → Int32) × Nat × (Nat → Int32) × Nat × (Nat → Int32) × Nat × (Nat → Int32) × Nat × (Nat → Int32) × Nat × (Nat → Int32) × Nat × (Nat → Int32) × Nat × (Nat → Int32) × Nat × (Nat → Int32) × Nat) :=
  bd1 (gs g ((121 : Int32).toNatClampNeg)) fun g_2 =>
  bd1 (gs g_2 ((121 : Int32).toNatClampNeg)) fun g_4 =>
  bd1 (gs g_4 ((8000 : Int32).toNatClampNeg)) fun g_6 =>
  bd1 (gs g_6 ((8000 : Int32).toNatClampNeg)) fun g_8 =>
  bd1 (gs g_8 ((8000 : Int32).toNatClampNeg)) fun g_10 =>
  bd1 (gs g_10 ((8000 : Int32).toNatClampNeg)) fun g_12 =>
  bd1 (gs g_12 ((8000 : Int32).toNatClampNeg)) fun g_14 =>
  bd1 (gs g_14 ((8000 : Int32).toNatClampNeg)) fun g_16 =>
  bd1 (gs g_16 ((8000 : Int32).toNatClampNeg)) fun g_18 =>
  bd1 (gs g_18 ((8000 : Int32).toNatClampNeg)) fun g_20 =>
  bd1 (gs g_20 ((8000 : Int32).toNatClampNeg)) fun g_22 =>
  bd1 (gs g_22 ((8000 : Int32).toNatClampNeg)) fun g_24 =>
  bd1 (gs g_24 ((121 : Int32).toNatClampNeg)) fun g_26 =>
  bd1 (gs g_26 ((121 : Int32).toNatClampNeg)) fun g_28 =>
  bd1 (gs g_28 ((8200 : Int32).toNatClampNeg)) fun g_30 =>
  bd1 (gs g_30 ((8200 : Int32).toNatClampNeg)) fun g_32 =>
  bd1 (gs g_32 ((8001 : Int32).toNatClampNeg)) fun g_34 =>
  bd1 (gs g_34 ((8000 : Int32).toNatClampNeg)) fun g_36 =>
  bd1 (gs g_36 ((122 : Int32).toNatClampNeg)) fun g_38 =>
  bd1 (
  if (1 : Int32) ≤ x1 then
  if x1 ≤ (11 : Int32) then
  some x1
  else
  some (11 : Int32)
  else
  some (1 : Int32)) fun s1_39 =>
  some (s1_39, s1_39 * s1_39, (1 : Int32), (121 : Int32).toNatClampNeg, (fun _ => 0), (121 : Int32).toNatClampNeg, (fun _ => 0), (8000 : Int32).toNatClampNeg, (fun _ => 0), (8000 : Int32).toNatClampNeg, (fun _ => 0), (8000 : Int32).toNatClampNeg, (fun _ => 0), (8000 : Int32).toNatClampNeg, (fun _ => 0), (8000 : Int32).toNatClampNeg, (fun _ => 0), (8000 : Int32).toNatClampNeg, (fun _ => 0), (8000 : Int32).toNatClampNeg, (fun _ => 0), (8000 : Int32).toNatClampNeg, (fun _ => 0), (8000 : Int32).toNatClampNeg, (fun _ => 0), (8000 : Int32).toNatClampNeg, (fun _ => 0), (121 : Int32).toNatClampNeg, (fun _ => 0), (121 : Int32).toNatClampNeg, (fun _ => 0), (8200 : Int32).toNatClampNeg, (fun _ => 0), (8200 : Int32).toNatClampNeg, (fun _ => 0), (8001 : Int32).toNatClampNeg, (fun _ => 0), (8000 : Int32).toNatClampNeg, (fun _ => 0), (122 : Int32).toNatClampNeg, (fun _ => 0), g_38)
theorem mono_X7_init {F : Nat} {g : Nat} {x1 : Int32} {w0 : Int32} {w1 : Int32} {w2 : Int32} {w3 : Nat} {w4 : Nat → Int32} {w5 : Nat} {w6 : Nat → Int32} {w7 : Nat} {w8 : Nat → Int32} {w9 : Nat} {w10 : Nat → Int32} {w11 : Nat} {w12 : Nat → Int32} {w13 : Nat} {w14 : Nat → Int32} {w15 : Nat} {w16 : Nat → Int32} {w17 : Nat} {w18 : Nat → Int32} {w19 : Nat} {w20 : Nat → Int32} {w21 : Nat} {w22 : Nat → Int32} {w23 : Nat} {w24 : Nat → Int32} {w25 : Nat} {w26 : Nat → Int32} {w27 : Nat} {w28 : Nat → Int32} {w29 : Nat} {w30 : Nat → Int32} {w31 : Nat} {w32 : Nat → Int32} {w33 : Nat} {w34 : Nat → Int32} {w35 : Nat} {w36 : Nat → Int32} {w37 : Nat} {w38 : Nat → Int32} {w39 : Nat} {w40 : Nat → Int32} {wg : Nat} (h : pm_X7_init F g x1 = some (w0, w1, w2, w3, w4, w5, w6, w7, w8, w9, w10, w11, w12, w13, w14, w15, w16, w17, w18, w19, w20, w21, w22, w23, w24, w25, w26, w27, w28, w29, w30, w31, w32, w33, w34, w35, w36, w37, w38, w39, w40, wg)) : wg ≤ g := by
  rw [pm_X7_init] at h
  have hle : g ≤ g := Nat.le_refl _
  obtain ⟨g_42, hgs, h⟩ := bd1_s h
  have hle := Nat.le_trans (gs_le hgs) hle
  obtain ⟨g_44, hgs, h⟩ := bd1_s h
  have hle := Nat.le_trans (gs_le hgs) hle
  obtain ⟨g_46, hgs, h⟩ := bd1_s h
  have hle := Nat.le_trans (gs_le hgs) hle
  obtain ⟨g_48, hgs, h⟩ := bd1_s h
  have hle := Nat.le_trans (gs_le hgs) hle
  obtain ⟨g_50, hgs, h⟩ := bd1_s h
  have hle := Nat.le_trans (gs_le hgs) hle
  obtain ⟨g_52, hgs, h⟩ := bd1_s h
  have hle := Nat.le_trans (gs_le hgs) hle
  obtain ⟨g_54, hgs, h⟩ := bd1_s h
  have hle := Nat.le_trans (gs_le hgs) hle
  obtain ⟨g_56, hgs, h⟩ := bd1_s h
  have hle := Nat.le_trans (gs_le hgs) hle
  obtain ⟨g_58, hgs, h⟩ := bd1_s h
  have hle := Nat.le_trans (gs_le hgs) hle
  obtain ⟨g_60, hgs, h⟩ := bd1_s h
  have hle := Nat.le_trans (gs_le hgs) hle
  obtain ⟨g_62, hgs, h⟩ := bd1_s h
  have hle := Nat.le_trans (gs_le hgs) hle
  obtain ⟨g_64, hgs, h⟩ := bd1_s h
  have hle := Nat.le_trans (gs_le hgs) hle
  obtain ⟨g_66, hgs, h⟩ := bd1_s h
  have hle := Nat.le_trans (gs_le hgs) hle
  obtain ⟨g_68, hgs, h⟩ := bd1_s h
  have hle := Nat.le_trans (gs_le hgs) hle
  obtain ⟨g_70, hgs, h⟩ := bd1_s h
  have hle := Nat.le_trans (gs_le hgs) hle
  obtain ⟨g_72, hgs, h⟩ := bd1_s h
  have hle := Nat.le_trans (gs_le hgs) hle
  obtain ⟨g_74, hgs, h⟩ := bd1_s h
  have hle := Nat.le_trans (gs_le hgs) hle
  obtain ⟨g_76, hgs, h⟩ := bd1_s h
  have hle := Nat.le_trans (gs_le hgs) hle
  obtain ⟨g_78, hgs, h⟩ := bd1_s h
  have hle := Nat.le_trans (gs_le hgs) hle
  obtain ⟨s1_79, hw, h⟩ := bd1_s h
  exact le_last ((Prod.mk.inj ((Prod.mk.inj ((Prod.mk.inj ((Prod.mk.inj ((Prod.mk.inj ((Prod.mk.inj ((Prod.mk.inj ((Prod.mk.inj ((Prod.mk.inj ((Prod.mk.inj ((Prod.mk.inj ((Prod.mk.inj ((Prod.mk.inj ((Prod.mk.inj ((Prod.mk.inj ((Prod.mk.inj ((Prod.mk.inj ((Prod.mk.inj ((Prod.mk.inj ((Prod.mk.inj ((Prod.mk.inj ((Prod.mk.inj ((Prod.mk.inj ((Prod.mk.inj ((Prod.mk.inj ((Prod.mk.inj ((Prod.mk.inj ((Prod.mk.inj ((Prod.mk.inj ((Prod.mk.inj ((Prod.mk.inj ((Prod.mk.inj ((Prod.mk.inj ((Prod.mk.inj ((Prod.mk.inj ((Prod.mk.inj ((Prod.mk.inj ((Prod.mk.inj ((Prod.mk.inj ((Prod.mk.inj ((Prod.mk.inj (Option.some.inj h)).2)).2)).2)).2)).2)).2)).2)).2)).2)).2)).2)).2)).2)).2)).2)).2)).2)).2)).2)).2)).2)).2)).2)).2)).2)).2)).2)).2)).2)).2)).2)).2)).2)).2)).2)).2)).2)).2)).2)).2)).2) hle
