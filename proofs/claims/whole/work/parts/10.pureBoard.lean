def pm_X0_edgeMarks (F : Nat) (x0 : Int32) (x1 : Int32) : Option (Int32) :=
  bd1 (
  if x0 = 0 then
  some (1 : Int32)
  else
  some (0 : Int32)) fun s0_1 =>
  if x0 = (x1 - (1 : Int32)) then
  some (s0_1 ||| (2 : Int32))
  else
  some (s0_1 ||| (0 : Int32))
def pm_X0_numberIn (F : Nat) (x0 : Int32) (x1 : Int32) (x2 : Int32) : Option (Int32) :=
  if x1 < 0 then
  some (-1 : Int32)
  else
  if x0 ≤ x1 then
  some (-1 : Int32)
  else
  if x2 < 0 then
  some (-1 : Int32)
  else
  if x2 < x0 then
  some ((x0 * x2) + x1)
  else
  some (-1 : Int32)
def pm_X0_numberOf (F : Nat) (v_size : Int32) (x1 : Int32) (x2 : Int32) : Option (Int32) :=
  bd1 (pm_X0_numberIn F v_size x1 x2) fun r_1 =>
  some r_1
def pm_X0_has (F : Nat) (n_stones : Nat) (x1 : Int32) : Option (Int32) :=
  if x1 < 0 then
  some (0 : Int32)
  else
  if (nI n_stones) ≤ x1 then
  some (0 : Int32)
  else
  some (1 : Int32)
def pm_X0_isEmpty (F : Nat) (n_stones : Nat) (v_stones : Nat → Int32) (x1 : Int32) : Option (Int32) :=
  if x1 < 0 then
  some (0 : Int32)
  else
  if (nI n_stones) ≤ x1 then
  some (0 : Int32)
  else
  if x1 < 0 ∨ n_stones ≤ x1.toNatClampNeg then none else
  if (v_stones x1.toNatClampNeg) = 0 then
  some (1 : Int32)
  else
  some (0 : Int32)
def pm_X0_stoneAt (F : Nat) (n_stones : Nat) (v_stones : Nat → Int32) (x1 : Int32) : Option (Int32) :=
  bd1 (pm_X0_has F n_stones x1) fun r_1 =>
  if r_1 = 0 then
  some (0 : Int32)
  else
  if x1 < 0 ∨ n_stones ≤ x1.toNatClampNeg then none else
  some (v_stones x1.toNatClampNeg)
def pm_X0_put (F : Nat) (n_stones : Nat) (v_stones : Nat → Int32) (x1 : Int32) (x2 : Int32) : Option ((Nat → Int32)) :=
  bd1 (pm_X0_has F n_stones x1) fun r_1 =>
  if r_1 = 0 then
  some v_stones
  else
  if x1 < 0 ∨ n_stones ≤ x1.toNatClampNeg then none else
  some (upd v_stones x1.toNatClampNeg x2)
def pm_X0_copyStones (F : Nat) (n_stones : Nat) (v_stones : Nat → Int32) (n_p1_stones : Nat) (v_p1_stones : Nat → Int32) : Option ((Nat → Int32)) :=
  if (0 : Int32) < 0 ∨ (0 : Int32) < 0 ∨ (if (nI n_stones) < (nI n_p1_stones) then (nI n_stones) else (nI n_p1_stones)) < 0 ∨ n_p1_stones < (0 : Int32).toNatClampNeg + (if (nI n_stones) < (nI n_p1_stones) then (nI n_stones) else (nI n_p1_stones)).toNatClampNeg ∨ n_stones < (0 : Int32).toNatClampNeg + (if (nI n_stones) < (nI n_p1_stones) then (nI n_stones) else (nI n_p1_stones)).toNatClampNeg then none else
  some (va_cpy v_p1_stones v_stones (0 : Int32).toNatClampNeg (0 : Int32).toNatClampNeg (if (nI n_stones) < (nI n_p1_stones) then (nI n_stones) else (nI n_p1_stones)).toNatClampNeg)
def pm_X0_countEmpty_L13 (F : Nat) (n_stones : Nat) (v_stones : Nat → Int32) : Nat → Int32 → Int32 → Option (Int32)
  | 0, _, _ => none
  | k + 1, x1_3, x4_4 =>
    if (nI n_stones) ≤ x4_4 then
    some x1_3
    else
    if x4_4 < 0 ∨ n_stones ≤ x4_4.toNatClampNeg then none else
    if (v_stones x4_4.toNatClampNeg) = 0 then
    pm_X0_countEmpty_L13 F n_stones v_stones k (x1_3 + (1 : Int32)) (x4_4 + (1 : Int32))
    else
    pm_X0_countEmpty_L13 F n_stones v_stones k x1_3 (x4_4 + (1 : Int32))
def pm_X0_countEmpty (F : Nat) (n_stones : Nat) (v_stones : Nat → Int32) : Option (Int32) :=
  bd1 (
  pm_X0_countEmpty_L13 F n_stones v_stones F (0 : Int32) (0 : Int32)) fun x1_1 =>
  some x1_1
def pm_X0_sideAt (F : Nat) (v_size : Int32) (n_stones : Nat) (v_stones : Nat → Int32) (x1 : Int32) (x2 : Int32) : Option (Int32) :=
  bd1 (pm_X0_numberOf F v_size x1 x2) fun r_1 =>
  if r_1 = (-1 : Int32) then
  if x1 < (-1 : Int32) then
  some (0 : Int32)
  else
  if v_size < x1 then
  some (0 : Int32)
  else
  if x2 < (-1 : Int32) then
  some (0 : Int32)
  else
  if x2 ≤ v_size then
  if x2 = (-1 : Int32) then
  if x1 = x2 then
  some (0 : Int32)
  else
  some (1 : Int32)
  else
  if x2 = v_size then
  if x1 = x2 then
  some (0 : Int32)
  else
  some (1 : Int32)
  else
  some (2 : Int32)
  else
  some (0 : Int32)
  else
  if r_1 < 0 ∨ n_stones ≤ r_1.toNatClampNeg then none else
  some (v_stones r_1.toNatClampNeg)
def pm_J7_fill_53178_L5 (F : Nat) (n_p0 : Nat) (x1 : Int32) : Nat → Int32 → (Nat → Int32) → Option ((Nat → Int32))
  | 0, _, _ => none
  | k + 1, x2_3, v_p0_4 =>
    if (nI n_p0) ≤ x2_3 then
    some v_p0_4
    else
    if x2_3 < 0 ∨ n_p0 ≤ x2_3.toNatClampNeg then none else
    pm_J7_fill_53178_L5 F n_p0 x1 k (x2_3 + (1 : Int32)) (upd v_p0_4 x2_3.toNatClampNeg x1)
def pm_J7_fill_53178 (F : Nat) (n_p0 : Nat) (v_p0 : Nat → Int32) (x1 : Int32) : Option ((Nat → Int32)) :=
  bd1 (
  pm_J7_fill_53178_L5 F n_p0 x1 F (0 : Int32) v_p0) fun v_p0_1 =>
  some v_p0_1
def pm_X0_clearMarks (F : Nat) (n_marks : Nat) (v_marks : Nat → Int32) : Option ((Nat → Int32)) :=
  bd1 (pm_J7_fill_53178 F n_marks v_marks (0 : Int32)) fun v_marks_1 =>
  some v_marks_1
def pm_X0_markEmpty (F : Nat) (n_stones : Nat) (v_stones : Nat → Int32) (n_marks : Nat) (v_marks : Nat → Int32) (x1 : Int32) : Option (Int32 × (Nat → Int32)) :=
  bd1 (pm_X0_isEmpty F n_stones v_stones x1) fun r_1 =>
  if r_1 = 0 then
  some ((0 : Int32), v_marks)
  else
  if x1 < 0 ∨ n_marks ≤ x1.toNatClampNeg then none else
  if (v_marks x1.toNatClampNeg) = 0 then
  some ((1 : Int32), upd v_marks x1.toNatClampNeg (1 : Int32))
  else
  some ((0 : Int32), v_marks)
def pm_X0_openAround_L6 (F : Nat) (n_stones : Nat) (v_stones : Nat → Int32) (n_near : Nat) (v_near : Nat → Int32) (n_marks : Nat) (n_stack : Nat) (x1 : Int32) (x2 : Int32) : Nat → Int32 → Int32 → (Nat → Int32) → (Nat → Int32) → Option (Int32 × (Nat → Int32) × (Nat → Int32))
  | 0, _, _, _, _ => none
  | k + 1, x4_5, x5_6, v_marks_7, v_stack_8 =>
    if (6 : Int32) ≤ x5_6 then
    some (x4_5, v_marks_7, v_stack_8)
    else
    if (((6 : Int32) * x1) + x5_6) < 0 ∨ n_near ≤ (((6 : Int32) * x1) + x5_6).toNatClampNeg then none else
    if (v_near (((6 : Int32) * x1) + x5_6).toNatClampNeg) = (-1 : Int32) then
    pm_X0_openAround_L6 F n_stones v_stones n_near v_near n_marks n_stack x1 x2 k x4_5 (x5_6 + (1 : Int32)) v_marks_7 v_stack_8
    else
    if (v_near (((6 : Int32) * x1) + x5_6).toNatClampNeg) < 0 ∨ n_stones ≤ (v_near (((6 : Int32) * x1) + x5_6).toNatClampNeg).toNatClampNeg then none else
    if x1 < 0 ∨ n_stones ≤ x1.toNatClampNeg then none else
    if (v_stones (v_near (((6 : Int32) * x1) + x5_6).toNatClampNeg).toNatClampNeg) = (v_stones x1.toNatClampNeg) then
    if (v_near (((6 : Int32) * x1) + x5_6).toNatClampNeg) < 0 ∨ n_marks ≤ (v_near (((6 : Int32) * x1) + x5_6).toNatClampNeg).toNatClampNeg then none else
    if ((v_marks_7 (v_near (((6 : Int32) * x1) + x5_6).toNatClampNeg).toNatClampNeg) &&& x2) = x2 then
    pm_X0_openAround_L6 F n_stones v_stones n_near v_near n_marks n_stack x1 x2 k x4_5 (x5_6 + (1 : Int32)) v_marks_7 v_stack_8
    else
    if (nI n_stack) ≤ x4_5 then
    pm_X0_openAround_L6 F n_stones v_stones n_near v_near n_marks n_stack x1 x2 k x4_5 (x5_6 + (1 : Int32)) v_marks_7 v_stack_8
    else
    if x4_5 < 0 ∨ n_stack ≤ x4_5.toNatClampNeg then none else
    pm_X0_openAround_L6 F n_stones v_stones n_near v_near n_marks n_stack x1 x2 k (x4_5 + (1 : Int32)) (x5_6 + (1 : Int32)) (upd v_marks_7 (v_near (((6 : Int32) * x1) + x5_6).toNatClampNeg).toNatClampNeg ((v_marks_7 (v_near (((6 : Int32) * x1) + x5_6).toNatClampNeg).toNatClampNeg) ||| x2)) (upd v_stack_8 x4_5.toNatClampNeg (v_near (((6 : Int32) * x1) + x5_6).toNatClampNeg))
    else
    pm_X0_openAround_L6 F n_stones v_stones n_near v_near n_marks n_stack x1 x2 k x4_5 (x5_6 + (1 : Int32)) v_marks_7 v_stack_8
def pm_X0_openAround (F : Nat) (n_stones : Nat) (v_stones : Nat → Int32) (n_near : Nat) (v_near : Nat → Int32) (n_marks : Nat) (v_marks : Nat → Int32) (n_stack : Nat) (v_stack : Nat → Int32) (x1 : Int32) (x2 : Int32) (x3 : Int32) : Option (Int32 × (Nat → Int32) × (Nat → Int32)) :=
  bd3 (
  pm_X0_openAround_L6 F n_stones v_stones n_near v_near n_marks n_stack x1 x2 F x3 (0 : Int32) v_marks v_stack) fun x4_1 v_marks_2 v_stack_3 =>
  some (x4_1, v_marks_2, v_stack_3)
def pm_X0_markChain_L35 (F : Nat) (n_stones : Nat) (v_stones : Nat → Int32) (n_near : Nat) (v_near : Nat → Int32) (n_marks : Nat) (n_stack : Nat) (x2 : Int32) : Nat → Int32 → Int32 → (Nat → Int32) → (Nat → Int32) → Option ((Nat → Int32) × (Nat → Int32))
  | 0, _, _, _, _ => none
  | k + 1, x3_6, x4_7, v_marks_8, v_stack_9 =>
    if (nI n_stack) ≤ x4_7 then
    some (v_marks_8, v_stack_9)
    else
    if x3_6 ≤ 0 then
    some (v_marks_8, v_stack_9)
    else
    if (x3_6 + (-1 : Int32)) < 0 ∨ n_stack ≤ (x3_6 + (-1 : Int32)).toNatClampNeg then none else
    bd3 (pm_X0_openAround F n_stones v_stones n_near v_near n_marks v_marks_8 n_stack v_stack_9 (v_stack_9 (x3_6 + (-1 : Int32)).toNatClampNeg) x2 (x3_6 + (-1 : Int32))) fun r_11 v_marks_12 v_stack_13 =>
    pm_X0_markChain_L35 F n_stones v_stones n_near v_near n_marks n_stack x2 k r_11 (x4_7 + (1 : Int32)) v_marks_12 v_stack_13
def pm_X0_markChain (F : Nat) (n_stones : Nat) (v_stones : Nat → Int32) (n_near : Nat) (v_near : Nat → Int32) (n_marks : Nat) (v_marks : Nat → Int32) (n_stack : Nat) (v_stack : Nat → Int32) (x1 : Int32) (x2 : Int32) : Option ((Nat → Int32) × (Nat → Int32)) :=
  if x1 < 0 ∨ n_marks ≤ x1.toNatClampNeg then none else
  if ((v_marks x1.toNatClampNeg) &&& x2) = x2 then
  some (v_marks, v_stack)
  else
  if (0 : Int32) < 0 ∨ n_stack ≤ (0 : Int32).toNatClampNeg then none else
  bd2 (
  pm_X0_markChain_L35 F n_stones v_stones n_near v_near n_marks n_stack x2 F (1 : Int32) (0 : Int32) (upd v_marks x1.toNatClampNeg ((v_marks x1.toNatClampNeg) ||| x2)) (upd v_stack (0 : Int32).toNatClampNeg x1)) fun v_marks_3 v_stack_4 =>
  some (v_marks_3, v_stack_4)
def pm_X0_chainName_L31 (F : Nat) (n_marks : Nat) (x1 : Int32) (v_marks_4 : Nat → Int32) (v_stack_5 : Nat → Int32) : Nat → Int32 → Option (Int32 × (Nat → Int32) × (Nat → Int32))
  | 0, _ => none
  | k + 1, x2_6 =>
    if x1 ≤ x2_6 then
    some (x1, v_marks_4, v_stack_5)
    else
    if x2_6 < 0 ∨ n_marks ≤ x2_6.toNatClampNeg then none else
    if (v_marks_4 x2_6.toNatClampNeg) = 0 then
    pm_X0_chainName_L31 F n_marks x1 v_marks_4 v_stack_5 k (x2_6 + (1 : Int32))
    else
    some (x2_6, v_marks_4, v_stack_5)
def pm_X0_chainName (F : Nat) (n_stones : Nat) (v_stones : Nat → Int32) (n_near : Nat) (v_near : Nat → Int32) (n_marks : Nat) (v_marks : Nat → Int32) (n_stack : Nat) (v_stack : Nat → Int32) (x1 : Int32) : Option (Int32 × (Nat → Int32) × (Nat → Int32)) :=
  bd1 (pm_X0_has F n_stones x1) fun r_1 =>
  if r_1 = 0 then
  some ((-1 : Int32), v_marks, v_stack)
  else
  if x1 < 0 ∨ n_stones ≤ x1.toNatClampNeg then none else
  if (v_stones x1.toNatClampNeg) = 0 then
  some ((-1 : Int32), v_marks, v_stack)
  else
  bd1 (pm_X0_clearMarks F n_marks v_marks) fun v_marks_3 =>
  bd2 (pm_X0_markChain F n_stones v_stones n_near v_near n_marks v_marks_3 n_stack v_stack x1 (1 : Int32)) fun v_marks_4 v_stack_5 =>
  pm_X0_chainName_L31 F n_marks x1 v_marks_4 v_stack_5 F (0 : Int32)
def pm_X0_countChains_L8 (F : Nat) (n_stones : Nat) (v_stones : Nat → Int32) (n_near : Nat) (v_near : Nat → Int32) (n_marks : Nat) (n_stack : Nat) : Nat → Int32 → Int32 → (Nat → Int32) → (Nat → Int32) → Option (Int32 × (Nat → Int32) × (Nat → Int32))
  | 0, _, _, _, _ => none
  | k + 1, x1_6, x2_7, v_marks_8, v_stack_9 =>
    if (nI n_stones) ≤ x2_7 then
    some (x1_6, v_marks_8, v_stack_9)
    else
    if x2_7 < 0 ∨ n_stones ≤ x2_7.toNatClampNeg then none else
    if (v_stones x2_7.toNatClampNeg) = 0 then
    pm_X0_countChains_L8 F n_stones v_stones n_near v_near n_marks n_stack k x1_6 (x2_7 + (1 : Int32)) v_marks_8 v_stack_9
    else
    if x2_7 < 0 ∨ n_marks ≤ x2_7.toNatClampNeg then none else
    if (v_marks_8 x2_7.toNatClampNeg) = 0 then
    bd2 (pm_X0_markChain F n_stones v_stones n_near v_near n_marks v_marks_8 n_stack v_stack_9 x2_7 (1 : Int32)) fun v_marks_12 v_stack_13 =>
    pm_X0_countChains_L8 F n_stones v_stones n_near v_near n_marks n_stack k (x1_6 + (1 : Int32)) (x2_7 + (1 : Int32)) v_marks_12 v_stack_13
    else
    pm_X0_countChains_L8 F n_stones v_stones n_near v_near n_marks n_stack k x1_6 (x2_7 + (1 : Int32)) v_marks_8 v_stack_9
def pm_X0_countChains (F : Nat) (n_stones : Nat) (v_stones : Nat → Int32) (n_near : Nat) (v_near : Nat → Int32) (n_marks : Nat) (v_marks : Nat → Int32) (n_stack : Nat) (v_stack : Nat → Int32) : Option (Int32 × (Nat → Int32) × (Nat → Int32)) :=
  bd1 (pm_X0_clearMarks F n_marks v_marks) fun v_marks_1 =>
  bd3 (
  pm_X0_countChains_L8 F n_stones v_stones n_near v_near n_marks n_stack F (0 : Int32) (0 : Int32) v_marks_1 v_stack) fun x1_2 v_marks_3 v_stack_4 =>
  some (x1_2, v_marks_3, v_stack_4)
def pm_X0_edgesOf (F : Nat) (n_edges : Nat) (v_edges : Nat → Int32) (x1 : Int32) (x2 : Int32) : Option (Int32) :=
  if x1 = (1 : Int32) then
  if x2 < 0 ∨ n_edges ≤ x2.toNatClampNeg then none else
  some ((v_edges x2.toNatClampNeg) &&& (3 : Int32))
  else
  if x2 < 0 ∨ n_edges ≤ x2.toNatClampNeg then none else
  some ((v_edges x2.toNatClampNeg) >>> ((2 : Int32) &&& 31))
def pm_X0_markFromEdges_L6 (F : Nat) (n_stones : Nat) (v_stones : Nat → Int32) (n_near : Nat) (v_near : Nat → Int32) (n_edges : Nat) (v_edges : Nat → Int32) (n_marks : Nat) (n_stack : Nat) (x1 : Int32) : Nat → Int32 → (Nat → Int32) → (Nat → Int32) → Option ((Nat → Int32) × (Nat → Int32))
  | 0, _, _, _ => none
  | k + 1, x2_5, v_marks_6, v_stack_7 =>
    if (nI n_stones) ≤ x2_5 then
    some (v_marks_6, v_stack_7)
    else
    if x2_5 < 0 ∨ n_stones ≤ x2_5.toNatClampNeg then none else
    if (v_stones x2_5.toNatClampNeg) = x1 then
    bd1 (pm_X0_edgesOf F n_edges v_edges x1 x2_5) fun r_9 =>
    bd2 (pm_X0_markChain F n_stones v_stones n_near v_near n_marks v_marks_6 n_stack v_stack_7 x2_5 r_9) fun v_marks_10 v_stack_11 =>
    pm_X0_markFromEdges_L6 F n_stones v_stones n_near v_near n_edges v_edges n_marks n_stack x1 k (x2_5 + (1 : Int32)) v_marks_10 v_stack_11
    else
    pm_X0_markFromEdges_L6 F n_stones v_stones n_near v_near n_edges v_edges n_marks n_stack x1 k (x2_5 + (1 : Int32)) v_marks_6 v_stack_7
def pm_X0_markFromEdges (F : Nat) (n_stones : Nat) (v_stones : Nat → Int32) (n_near : Nat) (v_near : Nat → Int32) (n_edges : Nat) (v_edges : Nat → Int32) (n_marks : Nat) (v_marks : Nat → Int32) (n_stack : Nat) (v_stack : Nat → Int32) (x1 : Int32) : Option ((Nat → Int32) × (Nat → Int32)) :=
  bd1 (pm_X0_clearMarks F n_marks v_marks) fun v_marks_1 =>
  bd2 (
  pm_X0_markFromEdges_L6 F n_stones v_stones n_near v_near n_edges v_edges n_marks n_stack x1 F (0 : Int32) v_marks_1 v_stack) fun v_marks_2 v_stack_3 =>
  some (v_marks_2, v_stack_3)
def pm_X0_wins_L16 (F : Nat) (n_marks : Nat) (v_marks_1 : Nat → Int32) (v_stack_2 : Nat → Int32) : Nat → Int32 → Option (Int32 × (Nat → Int32) × (Nat → Int32))
  | 0, _ => none
  | k + 1, x4_3 =>
    if (nI n_marks) ≤ x4_3 then
    some ((0 : Int32), v_marks_1, v_stack_2)
    else
    if x4_3 < 0 ∨ n_marks ≤ x4_3.toNatClampNeg then none else
    if (v_marks_1 x4_3.toNatClampNeg) = (3 : Int32) then
    some ((1 : Int32), v_marks_1, v_stack_2)
    else
    pm_X0_wins_L16 F n_marks v_marks_1 v_stack_2 k (x4_3 + (1 : Int32))
def pm_X0_wins (F : Nat) (n_stones : Nat) (v_stones : Nat → Int32) (n_near : Nat) (v_near : Nat → Int32) (n_edges : Nat) (v_edges : Nat → Int32) (n_marks : Nat) (v_marks : Nat → Int32) (n_stack : Nat) (v_stack : Nat → Int32) (x1 : Int32) : Option (Int32 × (Nat → Int32) × (Nat → Int32)) :=
  bd2 (pm_X0_markFromEdges F n_stones v_stones n_near v_near n_edges v_edges n_marks v_marks n_stack v_stack x1) fun v_marks_1 v_stack_2 =>
  pm_X0_wins_L16 F n_marks v_marks_1 v_stack_2 F (0 : Int32)
def pm_X0_winner (F : Nat) (n_stones : Nat) (v_stones : Nat → Int32) (n_near : Nat) (v_near : Nat → Int32) (n_edges : Nat) (v_edges : Nat → Int32) (n_marks : Nat) (v_marks : Nat → Int32) (n_stack : Nat) (v_stack : Nat → Int32) : Option (Int32 × (Nat → Int32) × (Nat → Int32)) :=
  bd3 (pm_X0_wins F n_stones v_stones n_near v_near n_edges v_edges n_marks v_marks n_stack v_stack (1 : Int32)) fun r_1 v_marks_2 v_stack_3 =>
  if r_1 = 0 then
  bd3 (pm_X0_wins F n_stones v_stones n_near v_near n_edges v_edges n_marks v_marks_2 n_stack v_stack_3 (2 : Int32)) fun r_4 v_marks_5 v_stack_6 =>
  if r_4 = 0 then
  some ((0 : Int32), v_marks_5, v_stack_6)
  else
  some ((2 : Int32), v_marks_5, v_stack_6)
  else
  some ((1 : Int32), v_marks_2, v_stack_3)
def pm_X0_wouldWin_L20 (F : Nat) (n_near : Nat) (v_near : Nat → Int32) (n_marks : Nat) (v_marks : Nat → Int32) (x2 : Int32) : Nat → Int32 → Int32 → Option (Int32)
  | 0, _, _ => none
  | k + 1, x3_5, x4_6 =>
    if (6 : Int32) ≤ x4_6 then
    some x3_5
    else
    if (((6 : Int32) * x2) + x4_6) < 0 ∨ n_near ≤ (((6 : Int32) * x2) + x4_6).toNatClampNeg then none else
    if (v_near (((6 : Int32) * x2) + x4_6).toNatClampNeg) = (-1 : Int32) then
    pm_X0_wouldWin_L20 F n_near v_near n_marks v_marks x2 k x3_5 (x4_6 + (1 : Int32))
    else
    if (v_near (((6 : Int32) * x2) + x4_6).toNatClampNeg) < 0 ∨ n_marks ≤ (v_near (((6 : Int32) * x2) + x4_6).toNatClampNeg).toNatClampNeg then none else
    pm_X0_wouldWin_L20 F n_near v_near n_marks v_marks x2 k (x3_5 ||| (v_marks (v_near (((6 : Int32) * x2) + x4_6).toNatClampNeg).toNatClampNeg)) (x4_6 + (1 : Int32))
def pm_X0_wouldWin (F : Nat) (n_stones : Nat) (n_near : Nat) (v_near : Nat → Int32) (n_edges : Nat) (v_edges : Nat → Int32) (n_marks : Nat) (v_marks : Nat → Int32) (x1 : Int32) (x2 : Int32) : Option (Int32) :=
  bd1 (pm_X0_has F n_stones x2) fun r_1 =>
  if r_1 = 0 then
  some (0 : Int32)
  else
  bd1 (pm_X0_edgesOf F n_edges v_edges x1 x2) fun r_2 =>
  bd1 (
  pm_X0_wouldWin_L20 F n_near v_near n_marks v_marks x2 F r_2 (0 : Int32)) fun x3_3 =>
  if x3_3 = (3 : Int32) then
  some (1 : Int32)
  else
  some (0 : Int32)
