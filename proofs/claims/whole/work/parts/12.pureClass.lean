def pm_X1_coversEmptyCells_L11 (F : Nat) (n_bench_stones : Nat) (v_bench_stones : Nat → Int32) (n_bench_marks : Nat) (n_tree_cells : Nat) (v_tree_cells : Nat → Int32) (n_nextOne : Nat) (v_nextOne : Nat → Int32) : Nat → Int32 → Int32 → (Nat → Int32) → Option (Int32 × (Nat → Int32))
  | 0, _, _, _ => none
  | k + 1, x2_2, x3_3, v_bench_marks_4 =>
    if (8000 : Int32) ≤ x2_2 then
    bd1 (pm_X0_countEmpty F n_bench_stones v_bench_stones) fun r_5 =>
    if x2_2 = r_5 then
    some ((1 : Int32), v_bench_marks_4)
    else
    some ((0 : Int32), v_bench_marks_4)
    else
    if x3_3 = (-1 : Int32) then
    bd1 (pm_X0_countEmpty F n_bench_stones v_bench_stones) fun r_6 =>
    if x2_2 = r_6 then
    some ((1 : Int32), v_bench_marks_4)
    else
    some ((0 : Int32), v_bench_marks_4)
    else
    if x3_3 < 0 ∨ n_tree_cells ≤ x3_3.toNatClampNeg then none else
    bd2 (pm_X0_markEmpty F n_bench_stones v_bench_stones n_bench_marks v_bench_marks_4 (v_tree_cells x3_3.toNatClampNeg)) fun r_8 v_bench_marks_9 =>
    if r_8 = 0 then
    some ((0 : Int32), v_bench_marks_9)
    else
    if x3_3 < 0 ∨ n_nextOne ≤ x3_3.toNatClampNeg then none else
    pm_X1_coversEmptyCells_L11 F n_bench_stones v_bench_stones n_bench_marks n_tree_cells v_tree_cells n_nextOne v_nextOne k (x2_2 + (1 : Int32)) (v_nextOne x3_3.toNatClampNeg) v_bench_marks_9
def pm_X1_coversEmptyCells (F : Nat) (n_bench_stones : Nat) (v_bench_stones : Nat → Int32) (n_bench_marks : Nat) (v_bench_marks : Nat → Int32) (n_tree_cells : Nat) (v_tree_cells : Nat → Int32) (n_nextOne : Nat) (v_nextOne : Nat → Int32) (x1 : Int32) : Option (Int32 × (Nat → Int32)) :=
  bd1 (pm_X0_clearMarks F n_bench_marks v_bench_marks) fun v_bench_marks_1 =>
  pm_X1_coversEmptyCells_L11 F n_bench_stones v_bench_stones n_bench_marks n_tree_cells v_tree_cells n_nextOne v_nextOne F (0 : Int32) x1 v_bench_marks_1
def pm_X1_wrongBehind (F : Nat) (v_side : Int32) (v_mover : Int32) (n_bench_stones : Nat) (v_bench_stones : Nat → Int32) (n_bench_marks : Nat) (v_bench_marks : Nat → Int32) (n_tree_cells : Nat) (v_tree_cells : Nat → Int32) (n_behind : Nat) (v_behind : Nat → Int32) (n_nextOne : Nat) (v_nextOne : Nat → Int32) (x1 : Int32) : Option (Int32 × (Nat → Int32)) :=
  if (x1 + (1 : Int32)) < 0 ∨ n_behind ≤ (x1 + (1 : Int32)).toNatClampNeg then none else
  if v_mover = v_side then
  if (v_behind (x1 + (1 : Int32)).toNatClampNeg) = (-1 : Int32) then
  some ((3 : Int32), v_bench_marks)
  else
  if (v_behind (x1 + (1 : Int32)).toNatClampNeg) < 0 ∨ n_nextOne ≤ (v_behind (x1 + (1 : Int32)).toNatClampNeg).toNatClampNeg then none else
  if (v_nextOne (v_behind (x1 + (1 : Int32)).toNatClampNeg).toNatClampNeg) = (-1 : Int32) then
  some ((0 : Int32), v_bench_marks)
  else
  some ((3 : Int32), v_bench_marks)
  else
  bd2 (pm_X1_coversEmptyCells F n_bench_stones v_bench_stones n_bench_marks v_bench_marks n_tree_cells v_tree_cells n_nextOne v_nextOne (v_behind (x1 + (1 : Int32)).toNatClampNeg)) fun r_2 v_bench_marks_3 =>
  if r_2 = 0 then
  some ((4 : Int32), v_bench_marks_3)
  else
  some ((0 : Int32), v_bench_marks_3)
def pm_X6_otherSide (F : Nat) (x0 : Int32) : Option (Int32) :=
  some ((3 : Int32) - x0)
def pm_X1_wrongAt (F : Nat) (v_side : Int32) (v_mover : Int32) (n_bench_stones : Nat) (v_bench_stones : Nat → Int32) (n_bench_near : Nat) (v_bench_near : Nat → Int32) (n_bench_edges : Nat) (v_bench_edges : Nat → Int32) (n_bench_marks : Nat) (v_bench_marks : Nat → Int32) (n_bench_stack : Nat) (v_bench_stack : Nat → Int32) (n_tree_cells : Nat) (v_tree_cells : Nat → Int32) (n_behind : Nat) (v_behind : Nat → Int32) (n_nextOne : Nat) (v_nextOne : Nat → Int32) (x1 : Int32) : Option (Int32 × Int32 × (Nat → Int32) × (Nat → Int32) × (Nat → Int32)) :=
  if x1 < 0 ∨ n_tree_cells ≤ x1.toNatClampNeg then none else
  bd1 (pm_X0_isEmpty F n_bench_stones v_bench_stones (v_tree_cells x1.toNatClampNeg)) fun r_2 =>
  if r_2 = 0 then
  some ((1 : Int32), v_mover, v_bench_stones, v_bench_marks, v_bench_stack)
  else
  bd1 (pm_X0_put F n_bench_stones v_bench_stones (v_tree_cells x1.toNatClampNeg) v_mover) fun v_bench_stones_3 =>
  bd1 (pm_X6_otherSide F v_mover) fun r_4 =>
  bd3 (pm_X0_wins F n_bench_stones v_bench_stones_3 n_bench_near v_bench_near n_bench_edges v_bench_edges n_bench_marks v_bench_marks n_bench_stack v_bench_stack v_mover) fun r_5 v_bench_marks_6 v_bench_stack_7 =>
  if r_5 = 0 then
  bd2 (pm_X1_wrongBehind F v_side r_4 n_bench_stones v_bench_stones_3 n_bench_marks v_bench_marks_6 n_tree_cells v_tree_cells n_behind v_behind n_nextOne v_nextOne x1) fun r_9 v_bench_marks_10 =>
  some (r_9, r_4, v_bench_stones_3, v_bench_marks_10, v_bench_stack_7)
  else
  if v_mover = v_side then
  if (x1 + (1 : Int32)) < 0 ∨ n_behind ≤ (x1 + (1 : Int32)).toNatClampNeg then none else
  if (v_behind (x1 + (1 : Int32)).toNatClampNeg) = (-1 : Int32) then
  some ((0 : Int32), r_4, v_bench_stones_3, v_bench_marks_6, v_bench_stack_7)
  else
  some ((2 : Int32), r_4, v_bench_stones_3, v_bench_marks_6, v_bench_stack_7)
  else
  some ((5 : Int32), r_4, v_bench_stones_3, v_bench_marks_6, v_bench_stack_7)
def pm_X1_climbToNext_L7 (F : Nat) (n_bench_stones : Nat) (n_tree_ahead : Nat) (v_tree_ahead : Nat → Int32) (n_tree_cells : Nat) (v_tree_cells : Nat → Int32) (n_nextOne : Nat) (v_nextOne : Nat → Int32) : Nat → Int32 → Int32 → Int32 → Int32 → (Nat → Int32) → Option (Int32 × Int32 × (Nat → Int32))
  | 0, _, _, _, _, _ => none
  | k + 1, x2_5, x3_6, x4_7, v_mover_8, v_bench_stones_9 =>
    if (nI n_bench_stones) ≤ x4_7 then
    some (x3_6, v_mover_8, v_bench_stones_9)
    else
    if x3_6 = (-1 : Int32) then
    if x2_5 = (-1 : Int32) then
    some (x3_6, v_mover_8, v_bench_stones_9)
    else
    if x2_5 < 0 ∨ n_tree_cells ≤ x2_5.toNatClampNeg then none else
    bd1 (pm_X0_put F n_bench_stones v_bench_stones_9 (v_tree_cells x2_5.toNatClampNeg) (0 : Int32)) fun v_bench_stones_11 =>
    bd1 (pm_X6_otherSide F v_mover_8) fun r_12 =>
    if x2_5 < 0 ∨ n_nextOne ≤ x2_5.toNatClampNeg then none else
    if x2_5 < 0 ∨ n_tree_ahead ≤ x2_5.toNatClampNeg then none else
    pm_X1_climbToNext_L7 F n_bench_stones n_tree_ahead v_tree_ahead n_tree_cells v_tree_cells n_nextOne v_nextOne k (v_tree_ahead x2_5.toNatClampNeg) (v_nextOne x2_5.toNatClampNeg) (x4_7 + (1 : Int32)) r_12 v_bench_stones_11
    else
    some (x3_6, v_mover_8, v_bench_stones_9)
def pm_X1_climbToNext (F : Nat) (v_mover : Int32) (n_bench_stones : Nat) (v_bench_stones : Nat → Int32) (n_tree_ahead : Nat) (v_tree_ahead : Nat → Int32) (n_tree_cells : Nat) (v_tree_cells : Nat → Int32) (n_nextOne : Nat) (v_nextOne : Nat → Int32) (x1 : Int32) : Option (Int32 × Int32 × (Nat → Int32)) :=
  bd3 (
  pm_X1_climbToNext_L7 F n_bench_stones n_tree_ahead v_tree_ahead n_tree_cells v_tree_cells n_nextOne v_nextOne F x1 (-1 : Int32) (0 : Int32) v_mover v_bench_stones) fun x3_1 v_mover_2 v_bench_stones_3 =>
  some (x3_1, v_mover_2, v_bench_stones_3)
def pm_X2_has (F : Nat) (v_count : Int32) (x1 : Int32) : Option (Int32) :=
  if x1 < 0 then
  some (0 : Int32)
  else
  if v_count ≤ x1 then
  some (0 : Int32)
  else
  some (1 : Int32)
def pm_X6_roomierLength (F : Nat) (x0 : Int32) : Option (Int32) :=
  some (if (16 : Int32) < (if ((2 : Int32) * x0) < (8000 : Int32) then ((2 : Int32) * x0) else (8000 : Int32)) then (if ((2 : Int32) * x0) < (8000 : Int32) then ((2 : Int32) * x0) else (8000 : Int32)) else (16 : Int32))
def pm_X3_tell (F : Nat) (v_count : Int32) (n_cells : Nat) (v_cells : Nat → Int32) (n_ahead : Nat) (v_ahead : Nat → Int32) (n_proof : Nat) (v_proof : Nat → Int32) (n_disproof : Nat) (v_disproof : Nat → Int32) (n_child : Nat) (v_child : Nat → Int32) (n_children : Nat) (v_children : Nat → Int32) (x1 : Int32) (x2 : Int32) : Option (Int32) :=
  if x1 < 0 then
  some (-1 : Int32)
  else
  if x1 < v_count then
  if x2 = (0 : Int32) then
  if x1 < 0 ∨ n_cells ≤ x1.toNatClampNeg then none else
  some (v_cells x1.toNatClampNeg)
  else
  if x2 = (1 : Int32) then
  if x1 < 0 ∨ n_ahead ≤ x1.toNatClampNeg then none else
  some (v_ahead x1.toNatClampNeg)
  else
  if x2 = (2 : Int32) then
  if x1 < 0 ∨ n_proof ≤ x1.toNatClampNeg then none else
  some (v_proof x1.toNatClampNeg)
  else
  if x2 = (3 : Int32) then
  if x1 < 0 ∨ n_disproof ≤ x1.toNatClampNeg then none else
  some (v_disproof x1.toNatClampNeg)
  else
  if x2 = (4 : Int32) then
  if x1 < 0 ∨ n_child ≤ x1.toNatClampNeg then none else
  some (v_child x1.toNatClampNeg)
  else
  if x2 = (5 : Int32) then
  if x1 < 0 ∨ n_children ≤ x1.toNatClampNeg then none else
  some (v_children x1.toNatClampNeg)
  else
  some (-1 : Int32)
  else
  some (-1 : Int32)
def pm_X3_leastChild_L10 (F : Nat) (v_child : Nat → Int32) (n_children : Nat) (v_children : Nat → Int32) (n_p2 : Nat) (v_p2 : Nat → Int32) (x1 : Int32) : Nat → Int32 → Int32 → Option (Int32)
  | 0, _, _ => none
  | k + 1, x3_4, x4_5 =>
    if x1 < 0 ∨ n_children ≤ x1.toNatClampNeg then none else
    if (v_children x1.toNatClampNeg) ≤ x4_5 then
    some x3_4
    else
    if ((v_child x1.toNatClampNeg) + x4_5) < 0 ∨ n_p2 ≤ ((v_child x1.toNatClampNeg) + x4_5).toNatClampNeg then none else
    if x3_4 < 0 ∨ n_p2 ≤ x3_4.toNatClampNeg then none else
    if (v_p2 x3_4.toNatClampNeg) ≤ (v_p2 ((v_child x1.toNatClampNeg) + x4_5).toNatClampNeg) then
    pm_X3_leastChild_L10 F v_child n_children v_children n_p2 v_p2 x1 k x3_4 (x4_5 + (1 : Int32))
    else
    pm_X3_leastChild_L10 F v_child n_children v_children n_p2 v_p2 x1 k ((v_child x1.toNatClampNeg) + x4_5) (x4_5 + (1 : Int32))
def pm_X3_leastChild (F : Nat) (n_child : Nat) (v_child : Nat → Int32) (n_children : Nat) (v_children : Nat → Int32) (n_p2 : Nat) (v_p2 : Nat → Int32) (x1 : Int32) : Option (Int32) :=
  if x1 < 0 ∨ n_child ≤ x1.toNatClampNeg then none else
  bd1 (
  pm_X3_leastChild_L10 F v_child n_children v_children n_p2 v_p2 x1 F (v_child x1.toNatClampNeg) (1 : Int32)) fun x3_2 =>
  some x3_2
def pm_X3_sumOfChildren_L5 (F : Nat) (n_child : Nat) (v_child : Nat → Int32) (n_children : Nat) (v_children : Nat → Int32) (n_p2 : Nat) (v_p2 : Nat → Int32) (x1 : Int32) : Nat → Int32 → Int32 → Option (Int32)
  | 0, _, _ => none
  | k + 1, x3_3, x4_4 =>
    if x1 < 0 ∨ n_children ≤ x1.toNatClampNeg then none else
    if (v_children x1.toNatClampNeg) ≤ x4_4 then
    some x3_3
    else
    if x1 < 0 ∨ n_child ≤ x1.toNatClampNeg then none else
    if ((v_child x1.toNatClampNeg) + x4_4) < 0 ∨ n_p2 ≤ ((v_child x1.toNatClampNeg) + x4_4).toNatClampNeg then none else
    pm_X3_sumOfChildren_L5 F n_child v_child n_children v_children n_p2 v_p2 x1 k (if (x3_3 + (v_p2 ((v_child x1.toNatClampNeg) + x4_4).toNatClampNeg)) < (1000000000 : Int32) then (x3_3 + (v_p2 ((v_child x1.toNatClampNeg) + x4_4).toNatClampNeg)) else (1000000000 : Int32)) (x4_4 + (1 : Int32))
def pm_X3_sumOfChildren (F : Nat) (n_child : Nat) (v_child : Nat → Int32) (n_children : Nat) (v_children : Nat → Int32) (n_p2 : Nat) (v_p2 : Nat → Int32) (x1 : Int32) : Option (Int32) :=
  bd1 (
  pm_X3_sumOfChildren_L5 F n_child v_child n_children v_children n_p2 v_p2 x1 F (0 : Int32) (0 : Int32)) fun x3_1 =>
  some x3_1
def pm_X3_nextSibling (F : Nat) (n_ahead : Nat) (v_ahead : Nat → Int32) (n_child : Nat) (v_child : Nat → Int32) (n_children : Nat) (v_children : Nat → Int32) (x1 : Int32) : Option (Int32) :=
  if x1 < 0 ∨ n_ahead ≤ x1.toNatClampNeg then none else
  if (v_ahead x1.toNatClampNeg) = (-1 : Int32) then
  some (-1 : Int32)
  else
  if (v_ahead x1.toNatClampNeg) < 0 ∨ n_child ≤ (v_ahead x1.toNatClampNeg).toNatClampNeg then none else
  if (v_ahead x1.toNatClampNeg) < 0 ∨ n_children ≤ (v_ahead x1.toNatClampNeg).toNatClampNeg then none else
  if (x1 + (1 : Int32)) < ((v_child (v_ahead x1.toNatClampNeg).toNatClampNeg) + (v_children (v_ahead x1.toNatClampNeg).toNatClampNeg)) then
  some (x1 + (1 : Int32))
  else
  some (-1 : Int32)
def pm_X4_isSettled (F : Nat) (n_nodes_proof : Nat) (v_nodes_proof : Nat → Int32) (n_nodes_disproof : Nat) (v_nodes_disproof : Nat → Int32) (x1 : Int32) : Option (Int32) :=
  if x1 < 0 ∨ n_nodes_proof ≤ x1.toNatClampNeg then none else
  if (v_nodes_proof x1.toNatClampNeg) = 0 then
  some (1 : Int32)
  else
  if x1 < 0 ∨ n_nodes_disproof ≤ x1.toNatClampNeg then none else
  if (v_nodes_disproof x1.toNatClampNeg) = 0 then
  some (1 : Int32)
  else
  some (0 : Int32)
def pm_X4_descend_L4 (F : Nat) (v_first : Int32) (n_bench_stones : Nat) (n_nodes_cells : Nat) (v_nodes_cells : Nat → Int32) (n_nodes_proof : Nat) (v_nodes_proof : Nat → Int32) (n_nodes_disproof : Nat) (v_nodes_disproof : Nat → Int32) (n_nodes_child : Nat) (v_nodes_child : Nat → Int32) (n_nodes_children : Nat) (v_nodes_children : Nat → Int32) : Nat → Int32 → Int32 → Int32 → (Nat → Int32) → Option (Int32 × Int32 × (Nat → Int32))
  | 0, _, _, _, _ => none
  | k + 1, x2_5, x3_6, v_mover_7, v_bench_stones_8 =>
    if (nI n_bench_stones) ≤ x3_6 then
    some (x2_5, v_mover_7, v_bench_stones_8)
    else
    if x2_5 < 0 ∨ n_nodes_children ≤ x2_5.toNatClampNeg then none else
    if (v_nodes_children x2_5.toNatClampNeg) ≤ 0 then
    some (x2_5, v_mover_7, v_bench_stones_8)
    else
    if v_mover_7 = v_first then
    bd1 (pm_X3_leastChild F n_nodes_child v_nodes_child n_nodes_children v_nodes_children n_nodes_proof v_nodes_proof x2_5) fun r_14 =>
    if r_14 < 0 ∨ n_nodes_cells ≤ r_14.toNatClampNeg then none else
    bd1 (pm_X0_put F n_bench_stones v_bench_stones_8 (v_nodes_cells r_14.toNatClampNeg) v_mover_7) fun v_bench_stones_16 =>
    bd1 (pm_X6_otherSide F v_mover_7) fun r_17 =>
    pm_X4_descend_L4 F v_first n_bench_stones n_nodes_cells v_nodes_cells n_nodes_proof v_nodes_proof n_nodes_disproof v_nodes_disproof n_nodes_child v_nodes_child n_nodes_children v_nodes_children k r_14 (x3_6 + (1 : Int32)) r_17 v_bench_stones_16
    else
    bd1 (pm_X3_leastChild F n_nodes_child v_nodes_child n_nodes_children v_nodes_children n_nodes_disproof v_nodes_disproof x2_5) fun r_10 =>
    if r_10 < 0 ∨ n_nodes_cells ≤ r_10.toNatClampNeg then none else
    bd1 (pm_X0_put F n_bench_stones v_bench_stones_8 (v_nodes_cells r_10.toNatClampNeg) v_mover_7) fun v_bench_stones_12 =>
    bd1 (pm_X6_otherSide F v_mover_7) fun r_13 =>
    pm_X4_descend_L4 F v_first n_bench_stones n_nodes_cells v_nodes_cells n_nodes_proof v_nodes_proof n_nodes_disproof v_nodes_disproof n_nodes_child v_nodes_child n_nodes_children v_nodes_children k r_10 (x3_6 + (1 : Int32)) r_13 v_bench_stones_12
def pm_X4_descend (F : Nat) (v_first : Int32) (v_mover : Int32) (n_bench_stones : Nat) (v_bench_stones : Nat → Int32) (n_nodes_cells : Nat) (v_nodes_cells : Nat → Int32) (n_nodes_proof : Nat) (v_nodes_proof : Nat → Int32) (n_nodes_disproof : Nat) (v_nodes_disproof : Nat → Int32) (n_nodes_child : Nat) (v_nodes_child : Nat → Int32) (n_nodes_children : Nat) (v_nodes_children : Nat → Int32) (x1 : Int32) : Option (Int32 × Int32 × (Nat → Int32)) :=
  bd3 (
  pm_X4_descend_L4 F v_first n_bench_stones n_nodes_cells v_nodes_cells n_nodes_proof v_nodes_proof n_nodes_disproof v_nodes_disproof n_nodes_child v_nodes_child n_nodes_children v_nodes_children F x1 (0 : Int32) v_mover v_bench_stones) fun x2_1 v_mover_2 v_bench_stones_3 =>
  some (x2_1, v_mover_2, v_bench_stones_3)
def pm_X4_reckon (F : Nat) (v_first : Int32) (v_mover : Int32) (n_nodes_proof : Nat) (v_nodes_proof : Nat → Int32) (n_nodes_disproof : Nat) (v_nodes_disproof : Nat → Int32) (n_nodes_child : Nat) (v_nodes_child : Nat → Int32) (n_nodes_children : Nat) (v_nodes_children : Nat → Int32) (x1 : Int32) : Option ((Nat → Int32) × (Nat → Int32)) :=
  if x1 < 0 ∨ n_nodes_children ≤ x1.toNatClampNeg then none else
  if (v_nodes_children x1.toNatClampNeg) = 0 then
  some (v_nodes_proof, v_nodes_disproof)
  else
  if v_mover = v_first then
  if v_mover = v_first then
  bd1 (pm_X3_leastChild F n_nodes_child v_nodes_child n_nodes_children v_nodes_children n_nodes_proof v_nodes_proof x1) fun r_15 =>
  if r_15 < 0 ∨ n_nodes_proof ≤ r_15.toNatClampNeg then none else
  if x1 < 0 ∨ n_nodes_proof ≤ x1.toNatClampNeg then none else
  bd1 (pm_X3_sumOfChildren F n_nodes_child v_nodes_child n_nodes_children v_nodes_children n_nodes_disproof v_nodes_disproof x1) fun r_18 =>
  if x1 < 0 ∨ n_nodes_disproof ≤ x1.toNatClampNeg then none else
  some (upd v_nodes_proof x1.toNatClampNeg (v_nodes_proof r_15.toNatClampNeg), upd v_nodes_disproof x1.toNatClampNeg r_18)
  else
  bd1 (pm_X3_leastChild F n_nodes_child v_nodes_child n_nodes_children v_nodes_children n_nodes_proof v_nodes_proof x1) fun r_11 =>
  if r_11 < 0 ∨ n_nodes_proof ≤ r_11.toNatClampNeg then none else
  if x1 < 0 ∨ n_nodes_proof ≤ x1.toNatClampNeg then none else
  bd1 (pm_X3_sumOfChildren F n_nodes_child v_nodes_child n_nodes_children v_nodes_children n_nodes_proof (upd v_nodes_proof x1.toNatClampNeg (v_nodes_proof r_11.toNatClampNeg)) x1) fun r_14 =>
  some (upd (upd v_nodes_proof x1.toNatClampNeg (v_nodes_proof r_11.toNatClampNeg)) x1.toNatClampNeg r_14, v_nodes_disproof)
  else
  if v_mover = v_first then
  bd1 (pm_X3_leastChild F n_nodes_child v_nodes_child n_nodes_children v_nodes_children n_nodes_disproof v_nodes_disproof x1) fun r_7 =>
  if r_7 < 0 ∨ n_nodes_disproof ≤ r_7.toNatClampNeg then none else
  if x1 < 0 ∨ n_nodes_disproof ≤ x1.toNatClampNeg then none else
  bd1 (pm_X3_sumOfChildren F n_nodes_child v_nodes_child n_nodes_children v_nodes_children n_nodes_disproof (upd v_nodes_disproof x1.toNatClampNeg (v_nodes_disproof r_7.toNatClampNeg)) x1) fun r_10 =>
  some (v_nodes_proof, upd (upd v_nodes_disproof x1.toNatClampNeg (v_nodes_disproof r_7.toNatClampNeg)) x1.toNatClampNeg r_10)
  else
  bd1 (pm_X3_leastChild F n_nodes_child v_nodes_child n_nodes_children v_nodes_children n_nodes_disproof v_nodes_disproof x1) fun r_2 =>
  if r_2 < 0 ∨ n_nodes_disproof ≤ r_2.toNatClampNeg then none else
  if x1 < 0 ∨ n_nodes_disproof ≤ x1.toNatClampNeg then none else
  bd1 (pm_X3_sumOfChildren F n_nodes_child v_nodes_child n_nodes_children v_nodes_children n_nodes_proof v_nodes_proof x1) fun r_5 =>
  if x1 < 0 ∨ n_nodes_proof ≤ x1.toNatClampNeg then none else
  some (upd v_nodes_proof x1.toNatClampNeg r_5, upd v_nodes_disproof x1.toNatClampNeg (v_nodes_disproof r_2.toNatClampNeg))
def pm_X4_climb_L9 (F : Nat) (v_first : Int32) (n_bench_stones : Nat) (n_nodes_cells : Nat) (v_nodes_cells : Nat → Int32) (n_nodes_ahead : Nat) (v_nodes_ahead : Nat → Int32) (n_nodes_proof : Nat) (n_nodes_disproof : Nat) (n_nodes_child : Nat) (v_nodes_child : Nat → Int32) (n_nodes_children : Nat) (v_nodes_children : Nat → Int32) : Nat → Int32 → Int32 → Int32 → (Nat → Int32) → (Nat → Int32) → (Nat → Int32) → Option (Int32 × (Nat → Int32) × (Nat → Int32) × (Nat → Int32))
  | 0, _, _, _, _, _, _ => none
  | k + 1, x2_8, x3_9, v_mover_10, v_bench_stones_11, v_nodes_proof_12, v_nodes_disproof_13 =>
    if (nI n_bench_stones) ≤ x3_9 then
    some (v_mover_10, v_bench_stones_11, v_nodes_proof_12, v_nodes_disproof_13)
    else
    if x2_8 < 0 ∨ n_nodes_ahead ≤ x2_8.toNatClampNeg then none else
    if (v_nodes_ahead x2_8.toNatClampNeg) = (-1 : Int32) then
    some (v_mover_10, v_bench_stones_11, v_nodes_proof_12, v_nodes_disproof_13)
    else
    if x2_8 < 0 ∨ n_nodes_cells ≤ x2_8.toNatClampNeg then none else
    bd1 (pm_X0_put F n_bench_stones v_bench_stones_11 (v_nodes_cells x2_8.toNatClampNeg) (0 : Int32)) fun v_bench_stones_16 =>
    bd1 (pm_X6_otherSide F v_mover_10) fun r_17 =>
    bd2 (pm_X4_reckon F v_first r_17 n_nodes_proof v_nodes_proof_12 n_nodes_disproof v_nodes_disproof_13 n_nodes_child v_nodes_child n_nodes_children v_nodes_children (v_nodes_ahead x2_8.toNatClampNeg)) fun v_nodes_proof_18 v_nodes_disproof_19 =>
    pm_X4_climb_L9 F v_first n_bench_stones n_nodes_cells v_nodes_cells n_nodes_ahead v_nodes_ahead n_nodes_proof n_nodes_disproof n_nodes_child v_nodes_child n_nodes_children v_nodes_children k (v_nodes_ahead x2_8.toNatClampNeg) (x3_9 + (1 : Int32)) r_17 v_bench_stones_16 v_nodes_proof_18 v_nodes_disproof_19
def pm_X4_climb (F : Nat) (v_first : Int32) (v_mover : Int32) (n_bench_stones : Nat) (v_bench_stones : Nat → Int32) (n_nodes_cells : Nat) (v_nodes_cells : Nat → Int32) (n_nodes_ahead : Nat) (v_nodes_ahead : Nat → Int32) (n_nodes_proof : Nat) (v_nodes_proof : Nat → Int32) (n_nodes_disproof : Nat) (v_nodes_disproof : Nat → Int32) (n_nodes_child : Nat) (v_nodes_child : Nat → Int32) (n_nodes_children : Nat) (v_nodes_children : Nat → Int32) (x1 : Int32) : Option (Int32 × (Nat → Int32) × (Nat → Int32) × (Nat → Int32)) :=
  bd2 (pm_X4_reckon F v_first v_mover n_nodes_proof v_nodes_proof n_nodes_disproof v_nodes_disproof n_nodes_child v_nodes_child n_nodes_children v_nodes_children x1) fun v_nodes_proof_1 v_nodes_disproof_2 =>
  bd4 (
  pm_X4_climb_L9 F v_first n_bench_stones n_nodes_cells v_nodes_cells n_nodes_ahead v_nodes_ahead n_nodes_proof n_nodes_disproof n_nodes_child v_nodes_child n_nodes_children v_nodes_children F x1 (0 : Int32) v_mover v_bench_stones v_nodes_proof_1 v_nodes_disproof_2) fun v_mover_3 v_bench_stones_4 v_nodes_proof_5 v_nodes_disproof_6 =>
  some (v_mover_3, v_bench_stones_4, v_nodes_proof_5, v_nodes_disproof_6)
def pm_X4_foundAt (F : Nat) (v_first : Int32) (n_nodes_proof : Nat) (v_nodes_proof : Nat → Int32) (n_nodes_disproof : Nat) (v_nodes_disproof : Nat → Int32) (x1 : Int32) : Option (Int32) :=
  if x1 < 0 ∨ n_nodes_proof ≤ x1.toNatClampNeg then none else
  if (v_nodes_proof x1.toNatClampNeg) = 0 then
  some v_first
  else
  if x1 < 0 ∨ n_nodes_disproof ≤ x1.toNatClampNeg then none else
  if (v_nodes_disproof x1.toNatClampNeg) = 0 then
  bd1 (pm_X6_otherSide F v_first) fun r_3 =>
  some r_3
  else
  some (0 : Int32)
def pm_X4_firstInPlan (F : Nat) (n_nodes_child : Nat) (v_nodes_child : Nat → Int32) (n_nodes_children : Nat) (v_nodes_children : Nat → Int32) (n_p3 : Nat) (v_p3 : Nat → Int32) (x1 : Int32) (x2 : Int32) : Option (Int32) :=
  if x2 = 0 then
  if x1 < 0 ∨ n_nodes_child ≤ x1.toNatClampNeg then none else
  some (v_nodes_child x1.toNatClampNeg)
  else
  bd1 (pm_X3_leastChild F n_nodes_child v_nodes_child n_nodes_children v_nodes_children n_p3 v_p3 x1) fun r_2 =>
  some r_2
def pm_X5_lookBeyond (F : Nat) (v_oneX : Int32) (v_oneY : Int32) (v_twoX : Int32) (v_twoY : Int32) (v_board_size : Int32) (n_board_stones : Nat) (v_board_stones : Nat → Int32) (x1 : Int32) (x2 : Int32) : Option (Int32 × Int32 × Int32) :=
  bd1 (pm_X0_sideAt F v_board_size n_board_stones v_board_stones ((v_oneX + v_twoX) - x1) ((v_oneY + v_twoY) - x2)) fun r_1 =>
  some ((v_oneX + v_twoX) - x1, (v_oneY + v_twoY) - x2, r_1)
def pm_X5_goOn (F : Nat) (v_oneX : Int32) (v_oneY : Int32) (v_twoX : Int32) (v_twoY : Int32) (v_thirdX : Int32) (v_thirdY : Int32) (v_thirdSide : Int32) (v_board_size : Int32) (n_board_stones : Nat) (v_board_stones : Nat → Int32) : Option (Int32 × Int32 × Int32 × Int32 × Int32 × Int32 × Int32) :=
  bd1 (
  if v_thirdSide = (1 : Int32) then
  some v_oneX
  else
  some v_twoX) fun s0_1 =>
  bd1 (
  if v_thirdSide = (1 : Int32) then
  some v_oneY
  else
  some v_twoY) fun s0_3 =>
  bd4 (
  if v_thirdSide = (1 : Int32) then
  some (v_thirdX, v_thirdY, v_twoX, v_twoY)
  else
  some (v_oneX, v_oneY, v_thirdX, v_thirdY)) fun v_oneX_5 v_oneY_6 v_twoX_7 v_twoY_8 =>
  bd3 (pm_X5_lookBeyond F v_oneX_5 v_oneY_6 v_twoX_7 v_twoY_8 v_board_size n_board_stones v_board_stones s0_1 s0_3) fun v_thirdX_10 v_thirdY_11 v_thirdSide_12 =>
  some (v_oneX_5, v_oneY_6, v_twoX_7, v_twoY_8, v_thirdX_10, v_thirdY_11, v_thirdSide_12)
def pm_X5_follow_L28 (F : Nat) (v_board_size : Int32) (n_board_stones : Nat) (v_board_stones : Nat → Int32) (x1 : Int32) : Nat → Int32 → Int32 → Int32 → Int32 → Int32 → Int32 → Int32 → Int32 → Option (Int32 × Int32 × Int32 × Int32 × Int32 × Int32 × Int32 × Int32)
  | 0, _, _, _, _, _, _, _, _ => none
  | k + 1, x2_13, v_oneX_14, v_oneY_15, v_twoX_16, v_twoY_17, v_thirdX_18, v_thirdY_19, v_thirdSide_20 =>
    if x1 ≤ x2_13 then
    some (x2_13, v_oneX_14, v_oneY_15, v_twoX_16, v_twoY_17, v_thirdX_18, v_thirdY_19, v_thirdSide_20)
    else
    if v_thirdSide_20 = 0 then
    some (x2_13, v_oneX_14, v_oneY_15, v_twoX_16, v_twoY_17, v_thirdX_18, v_thirdY_19, v_thirdSide_20)
    else
    bd7 (pm_X5_goOn F v_oneX_14 v_oneY_15 v_twoX_16 v_twoY_17 v_thirdX_18 v_thirdY_19 v_thirdSide_20 v_board_size n_board_stones v_board_stones) fun v_oneX_21 v_oneY_22 v_twoX_23 v_twoY_24 v_thirdX_25 v_thirdY_26 v_thirdSide_27 =>
    pm_X5_follow_L28 F v_board_size n_board_stones v_board_stones x1 k (x2_13 + (1 : Int32)) v_oneX_21 v_oneY_22 v_twoX_23 v_twoY_24 v_thirdX_25 v_thirdY_26 v_thirdSide_27
def pm_X5_follow (F : Nat) (v_board_size : Int32) (n_board_stones : Nat) (v_board_stones : Nat → Int32) (x1 : Int32) : Option (Int32 × Int32 × Int32 × Int32 × Int32 × Int32 × Int32 × Int32) :=
  bd3 (pm_X5_lookBeyond F (0 : Int32) (-1 : Int32) (-1 : Int32) (0 : Int32) v_board_size n_board_stones v_board_stones (-1 : Int32) (-1 : Int32)) fun v_thirdX_1 v_thirdY_2 v_thirdSide_3 =>
  bd8 (
  pm_X5_follow_L28 F v_board_size n_board_stones v_board_stones x1 F (0 : Int32) (0 : Int32) (-1 : Int32) (-1 : Int32) (0 : Int32) v_thirdX_1 v_thirdY_2 v_thirdSide_3) fun x2_4 v_oneX_5 v_oneY_6 v_twoX_7 v_twoY_8 v_thirdX_9 v_thirdY_10 v_thirdSide_11 =>
  some (x2_4, v_oneX_5, v_oneY_6, v_twoX_7, v_twoY_8, v_thirdX_9, v_thirdY_10, v_thirdSide_11)
def pm_X6_set (F : Nat) (v_playCount : Int32) (v_board_size : Int32) (n_board_stones : Nat) (v_board_stones : Nat → Int32) (x1 : Int32) (x2 : Int32) (x3 : Int32) : Option (Int32 × Int32 × (Nat → Int32)) :=
  bd1 (pm_X0_numberOf F v_board_size x1 x2) fun r_1 =>
  if r_1 = (-1 : Int32) then
  some ((0 : Int32), v_playCount, v_board_stones)
  else
  if x3 < 0 then
  some ((0 : Int32), v_playCount, v_board_stones)
  else
  if x3 ≤ (2 : Int32) then
  bd1 (pm_X0_put F n_board_stones v_board_stones r_1 x3) fun v_board_stones_2 =>
  some ((1 : Int32), (0 : Int32), v_board_stones_2)
  else
  some ((0 : Int32), v_playCount, v_board_stones)
def pm_X6_isSide (F : Nat) (x0 : Int32) : Option (Int32) :=
  if x0 = (1 : Int32) then
  some (1 : Int32)
  else
  if x0 = (2 : Int32) then
  some (1 : Int32)
  else
  some (0 : Int32)
def pm_X6_turn (F : Nat) (v_playCount : Int32) (v_mover : Int32) (x1 : Int32) : Option (Int32 × Int32 × Int32) :=
  bd1 (pm_X6_isSide F x1) fun r_1 =>
  if r_1 = 0 then
  some ((0 : Int32), v_playCount, v_mover)
  else
  some ((1 : Int32), (0 : Int32), x1)
def pm_X6_play (F : Nat) (v_playCount : Int32) (v_mover : Int32) (v_board_size : Int32) (n_board_stones : Nat) (v_board_stones : Nat → Int32) (n_board_near : Nat) (v_board_near : Nat → Int32) (n_board_edges : Nat) (v_board_edges : Nat → Int32) (n_board_marks : Nat) (v_board_marks : Nat → Int32) (n_board_stack : Nat) (v_board_stack : Nat → Int32) (n_plays : Nat) (v_plays : Nat → Int32) (x1 : Int32) (x2 : Int32) : Option (Int32 × Int32 × Int32 × (Nat → Int32) × (Nat → Int32) × (Nat → Int32) × (Nat → Int32)) :=
  bd1 (pm_X0_numberOf F v_board_size x1 x2) fun r_1 =>
  bd1 (pm_X0_isEmpty F n_board_stones v_board_stones r_1) fun r_2 =>
  if r_2 = 0 then
  some ((0 : Int32), v_playCount, v_mover, v_board_stones, v_board_marks, v_board_stack, v_plays)
  else
  bd3 (pm_X0_winner F n_board_stones v_board_stones n_board_near v_board_near n_board_edges v_board_edges n_board_marks v_board_marks n_board_stack v_board_stack) fun r_3 v_board_marks_4 v_board_stack_5 =>
  if r_3 = 0 then
  if v_playCount < (nI n_plays) then
  bd1 (pm_X0_put F n_board_stones v_board_stones r_1 v_mover) fun v_board_stones_6 =>
  if v_playCount < 0 ∨ n_plays ≤ v_playCount.toNatClampNeg then none else
  bd1 (pm_X6_otherSide F v_mover) fun r_8 =>
  some ((1 : Int32), v_playCount + (1 : Int32), r_8, v_board_stones_6, v_board_marks_4, v_board_stack_5, upd v_plays v_playCount.toNatClampNeg r_1)
  else
  some ((0 : Int32), v_playCount, v_mover, v_board_stones, v_board_marks_4, v_board_stack_5, v_plays)
  else
  some ((0 : Int32), v_playCount, v_mover, v_board_stones, v_board_marks_4, v_board_stack_5, v_plays)
def pm_X6_undo (F : Nat) (v_playCount : Int32) (v_mover : Int32) (n_board_stones : Nat) (v_board_stones : Nat → Int32) (n_plays : Nat) (v_plays : Nat → Int32) : Option (Int32 × Int32 × Int32 × (Nat → Int32)) :=
  if 0 < v_playCount then
  if (v_playCount - (1 : Int32)) < 0 ∨ n_plays ≤ (v_playCount - (1 : Int32)).toNatClampNeg then none else
  bd1 (pm_X0_put F n_board_stones v_board_stones (v_plays (v_playCount - (1 : Int32)).toNatClampNeg) (0 : Int32)) fun v_board_stones_2 =>
  bd1 (pm_X6_otherSide F v_mover) fun r_3 =>
  some (v_plays (v_playCount - (1 : Int32)).toNatClampNeg, v_playCount - (1 : Int32), r_3, v_board_stones_2)
  else
  some ((-1 : Int32), v_playCount, v_mover, v_board_stones)
def pm_X6_cell (F : Nat) (v_board_size : Int32) (n_board_stones : Nat) (v_board_stones : Nat → Int32) (x1 : Int32) (x2 : Int32) : Option (Int32) :=
  bd1 (pm_X0_numberOf F v_board_size x1 x2) fun r_1 =>
  if r_1 = (-1 : Int32) then
  some (-1 : Int32)
  else
  bd1 (pm_X0_stoneAt F n_board_stones v_board_stones r_1) fun r_2 =>
  some r_2
def pm_X6_chain (F : Nat) (v_board_size : Int32) (n_board_stones : Nat) (v_board_stones : Nat → Int32) (n_board_near : Nat) (v_board_near : Nat → Int32) (n_board_marks : Nat) (v_board_marks : Nat → Int32) (n_board_stack : Nat) (v_board_stack : Nat → Int32) (x1 : Int32) (x2 : Int32) : Option (Int32 × (Nat → Int32) × (Nat → Int32)) :=
  bd1 (pm_X0_numberOf F v_board_size x1 x2) fun r_1 =>
  bd3 (pm_X0_chainName F n_board_stones v_board_stones n_board_near v_board_near n_board_marks v_board_marks n_board_stack v_board_stack r_1) fun r_2 v_board_marks_3 v_board_stack_4 =>
  some (r_2, v_board_marks_3, v_board_stack_4)
def pm_X6_about (F : Nat) (v_playCount : Int32) (v_mover : Int32) (v_board_size : Int32) (n_board_stones : Nat) (v_board_stones : Nat → Int32) (n_board_near : Nat) (v_board_near : Nat → Int32) (n_board_edges : Nat) (v_board_edges : Nat → Int32) (n_board_marks : Nat) (v_board_marks : Nat → Int32) (n_board_stack : Nat) (v_board_stack : Nat → Int32) (v_seeker_nodes_count : Int32) (v_seeker_plan_count : Int32) (v_tree_count : Int32) (x1 : Int32) : Option (Int32 × (Nat → Int32) × (Nat → Int32)) :=
  if x1 = (0 : Int32) then
  some (v_board_size, v_board_marks, v_board_stack)
  else
  if x1 = (1 : Int32) then
  some (v_mover, v_board_marks, v_board_stack)
  else
  if x1 = (2 : Int32) then
  some (v_playCount, v_board_marks, v_board_stack)
  else
  if x1 = (3 : Int32) then
  bd3 (pm_X0_winner F n_board_stones v_board_stones n_board_near v_board_near n_board_edges v_board_edges n_board_marks v_board_marks n_board_stack v_board_stack) fun r_5 v_board_marks_6 v_board_stack_7 =>
  some (r_5, v_board_marks_6, v_board_stack_7)
  else
  if x1 = (4 : Int32) then
  bd1 (pm_X0_countEmpty F n_board_stones v_board_stones) fun r_4 =>
  some (r_4, v_board_marks, v_board_stack)
  else
  if x1 = (5 : Int32) then
  bd3 (pm_X0_countChains F n_board_stones v_board_stones n_board_near v_board_near n_board_marks v_board_marks n_board_stack v_board_stack) fun r_1 v_board_marks_2 v_board_stack_3 =>
  some (r_1, v_board_marks_2, v_board_stack_3)
  else
  if x1 = (6 : Int32) then
  some (v_seeker_nodes_count, v_board_marks, v_board_stack)
  else
  if x1 = (7 : Int32) then
  some (v_seeker_plan_count, v_board_marks, v_board_stack)
  else
  if x1 = (8 : Int32) then
  some (v_tree_count, v_board_marks, v_board_stack)
  else
  some ((-1 : Int32), v_board_marks, v_board_stack)
def pm_X6_walk (F : Nat) (v_board_size : Int32) (n_board_stones : Nat) (v_board_stones : Nat → Int32) (v_walker_oneX : Int32) (v_walker_oneY : Int32) (v_walker_twoX : Int32) (v_walker_twoY : Int32) (v_walker_thirdX : Int32) (v_walker_thirdY : Int32) (v_walker_thirdSide : Int32) : Option (Int32 × Int32 × Int32 × Int32 × Int32 × Int32 × Int32 × Int32) :=
  bd1 (pm_X0_countEmpty F n_board_stones v_board_stones) fun r_1 =>
  if r_1 ≤ 0 then
  bd8 (pm_X5_follow F v_board_size n_board_stones v_board_stones (1000 : Int32)) fun r_2 v_walker_oneX_3 v_walker_oneY_4 v_walker_twoX_5 v_walker_twoY_6 v_walker_thirdX_7 v_walker_thirdY_8 v_walker_thirdSide_9 =>
  some (r_2 + (1 : Int32), v_walker_oneX_3, v_walker_oneY_4, v_walker_twoX_5, v_walker_twoY_6, v_walker_thirdX_7, v_walker_thirdY_8, v_walker_thirdSide_9)
  else
  some ((-1 : Int32), v_walker_oneX, v_walker_oneY, v_walker_twoX, v_walker_twoY, v_walker_thirdX, v_walker_thirdY, v_walker_thirdSide)
def pm_X6_step (F : Nat) (v_board_size : Int32) (n_board_stones : Nat) (v_board_stones : Nat → Int32) (v_walker_oneX : Int32) (v_walker_oneY : Int32) (v_walker_twoX : Int32) (v_walker_twoY : Int32) (v_walker_thirdX : Int32) (v_walker_thirdY : Int32) (v_walker_thirdSide : Int32) (x1 : Int32) (x2 : Int32) : Option (Int32 × Int32 × Int32 × Int32 × Int32 × Int32 × Int32 × Int32) :=
  if x1 < 0 then
  some ((-3 : Int32), v_walker_oneX, v_walker_oneY, v_walker_twoX, v_walker_twoY, v_walker_thirdX, v_walker_thirdY, v_walker_thirdSide)
  else
  if (1000 : Int32) ≤ x1 then
  some ((-3 : Int32), v_walker_oneX, v_walker_oneY, v_walker_twoX, v_walker_twoY, v_walker_thirdX, v_walker_thirdY, v_walker_thirdSide)
  else
  bd1 (pm_X0_countEmpty F n_board_stones v_board_stones) fun r_1 =>
  if 0 < r_1 then
  some ((-3 : Int32), v_walker_oneX, v_walker_oneY, v_walker_twoX, v_walker_twoY, v_walker_thirdX, v_walker_thirdY, v_walker_thirdSide)
  else
  bd8 (pm_X5_follow F v_board_size n_board_stones v_board_stones x1) fun r_2 v_walker_oneX_3 v_walker_oneY_4 v_walker_twoX_5 v_walker_twoY_6 v_walker_thirdX_7 v_walker_thirdY_8 v_walker_thirdSide_9 =>
  if r_2 = x1 then
  if x2 = (0 : Int32) then
  some (v_walker_thirdX_7, v_walker_oneX_3, v_walker_oneY_4, v_walker_twoX_5, v_walker_twoY_6, v_walker_thirdX_7, v_walker_thirdY_8, v_walker_thirdSide_9)
  else
  if x2 = (1 : Int32) then
  some (v_walker_thirdY_8, v_walker_oneX_3, v_walker_oneY_4, v_walker_twoX_5, v_walker_twoY_6, v_walker_thirdX_7, v_walker_thirdY_8, v_walker_thirdSide_9)
  else
  if x2 = (2 : Int32) then
  some (v_walker_thirdSide_9, v_walker_oneX_3, v_walker_oneY_4, v_walker_twoX_5, v_walker_twoY_6, v_walker_thirdX_7, v_walker_thirdY_8, v_walker_thirdSide_9)
  else
  some ((-3 : Int32), v_walker_oneX_3, v_walker_oneY_4, v_walker_twoX_5, v_walker_twoY_6, v_walker_thirdX_7, v_walker_thirdY_8, v_walker_thirdSide_9)
  else
  some ((-3 : Int32), v_walker_oneX_3, v_walker_oneY_4, v_walker_twoX_5, v_walker_twoY_6, v_walker_thirdX_7, v_walker_thirdY_8, v_walker_thirdSide_9)
def pm_X6_node (F : Nat) (v_seeker_nodes_count : Int32) (n_seeker_nodes_cells : Nat) (v_seeker_nodes_cells : Nat → Int32) (n_seeker_nodes_ahead : Nat) (v_seeker_nodes_ahead : Nat → Int32) (n_seeker_nodes_proof : Nat) (v_seeker_nodes_proof : Nat → Int32) (n_seeker_nodes_disproof : Nat) (v_seeker_nodes_disproof : Nat → Int32) (n_seeker_nodes_child : Nat) (v_seeker_nodes_child : Nat → Int32) (n_seeker_nodes_children : Nat) (v_seeker_nodes_children : Nat → Int32) (x1 : Int32) (x2 : Int32) : Option (Int32) :=
  bd1 (pm_X3_tell F v_seeker_nodes_count n_seeker_nodes_cells v_seeker_nodes_cells n_seeker_nodes_ahead v_seeker_nodes_ahead n_seeker_nodes_proof v_seeker_nodes_proof n_seeker_nodes_disproof v_seeker_nodes_disproof n_seeker_nodes_child v_seeker_nodes_child n_seeker_nodes_children v_seeker_nodes_children x1 x2) fun r_1 =>
  some r_1
def pm_X6_strategy (F : Nat) (v_seeker_plan_count : Int32) (n_seeker_plan_ahead : Nat) (v_seeker_plan_ahead : Nat → Int32) (n_seeker_plan_cells : Nat) (v_seeker_plan_cells : Nat → Int32) (x1 : Int32) (x2 : Int32) : Option (Int32) :=
  bd1 (pm_X2_has F v_seeker_plan_count x1) fun r_1 =>
  if r_1 = 0 then
  some (-3 : Int32)
  else
  if x2 = (0 : Int32) then
  if x1 < 0 ∨ n_seeker_plan_ahead ≤ x1.toNatClampNeg then none else
  some (v_seeker_plan_ahead x1.toNatClampNeg)
  else
  if x2 = (1 : Int32) then
  if x1 < 0 ∨ n_seeker_plan_cells ≤ x1.toNatClampNeg then none else
  some (v_seeker_plan_cells x1.toNatClampNeg)
  else
  some (-3 : Int32)
def pm_X6_graft (F : Nat) (v_tree_count : Int32) (n_tree_cells : Nat) (v_tree_cells : Nat → Int32) (x1 : Int32) (x2 : Int32) : Option (Int32 × (Nat → Int32)) :=
  bd1 (pm_X2_has F v_tree_count x1) fun r_1 =>
  if r_1 = 0 then
  some ((0 : Int32), v_tree_cells)
  else
  if x1 < 0 ∨ n_tree_cells ≤ x1.toNatClampNeg then none else
  some ((1 : Int32), upd v_tree_cells x1.toNatClampNeg x2)
def pm_X6_prune (F : Nat) (v_tree_count : Int32) (x1 : Int32) : Option (Int32 × Int32) :=
  if x1 < 0 then
  some ((-1 : Int32), v_tree_count)
  else
  if x1 ≤ v_tree_count then
  some (x1, x1)
  else
  some ((-1 : Int32), v_tree_count)
