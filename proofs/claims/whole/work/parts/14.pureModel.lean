def pm_X7_isCell (F : Nat) (v_size : Int32) (x1 : Int32) (x2 : Int32) : Option (Int32) :=
  if x1 < 0 then
  some (0 : Int32)
  else
  if x2 < 0 then
  some (0 : Int32)
  else
  if v_size ≤ x1 then
  some (0 : Int32)
  else
  if v_size ≤ x2 then
  some (0 : Int32)
  else
  some (1 : Int32)
def pm_X7_neighbour (F : Nat) (v_size : Int32) (x1 : Int32) (x2 : Int32) : Option (Int32) :=
  if v_size = 0 then none else
  bd1 (
  if x2 = 0 then
  some (-1 : Int32)
  else
  if x2 = (5 : Int32) then
  some (-1 : Int32)
  else
  if x2 = (1 : Int32) then
  some (1 : Int32)
  else
  if x2 = (4 : Int32) then
  some (1 : Int32)
  else
  some (0 : Int32)) fun s1_2 =>
  if v_size = 0 then none else
  bd1 (
  if x2 = (2 : Int32) then
  some (-1 : Int32)
  else
  if x2 = (4 : Int32) then
  some (-1 : Int32)
  else
  if x2 = (3 : Int32) then
  some (1 : Int32)
  else
  if x2 = (5 : Int32) then
  some (1 : Int32)
  else
  some (0 : Int32)) fun s1_5 =>
  bd1 (pm_X7_isCell F v_size ((x1 - x1 / v_size * v_size) + s1_2) ((x1 / v_size) + s1_5)) fun r_7 =>
  if r_7 = 0 then
  some (-1 : Int32)
  else
  some ((v_size * ((x1 / v_size) + s1_5)) + ((x1 - x1 / v_size * v_size) + s1_2))
def pm_X7_forget_L2 (F : Nat) (n_seen : Nat) : Nat → Int32 → (Nat → Int32) → Option ((Nat → Int32))
  | 0, _, _ => none
  | k + 1, x1_3, v_seen_4 =>
    if (121 : Int32) ≤ x1_3 then
    some v_seen_4
    else
    if x1_3 < 0 ∨ n_seen ≤ x1_3.toNatClampNeg then none else
    pm_X7_forget_L2 F n_seen k (x1_3 + (1 : Int32)) (upd v_seen_4 x1_3.toNatClampNeg (vp_nar .boolean (0 : Int32)))
def pm_X7_forget (F : Nat) (n_seen : Nat) (v_seen : Nat → Int32) : Option (Int32 × (Nat → Int32)) :=
  bd1 (
  pm_X7_forget_L2 F n_seen F (0 : Int32) v_seen) fun v_seen_1 =>
  some ((0 : Int32), v_seen_1)
def pm_X7_reach (F : Nat) (v_waves : Int32) (n_seen : Nat) (v_seen : Nat → Int32) (n_wave : Nat) (v_wave : Nat → Int32) (x1 : Int32) : Option (Int32 × (Nat → Int32) × (Nat → Int32)) :=
  if x1 < 0 ∨ n_seen ≤ x1.toNatClampNeg then none else
  if (v_seen x1.toNatClampNeg) = 0 then
  if v_waves < 0 ∨ n_wave ≤ v_waves.toNatClampNeg then none else
  some (v_waves + (1 : Int32), upd v_seen x1.toNatClampNeg (vp_nar .boolean (1 : Int32)), upd v_wave v_waves.toNatClampNeg x1)
  else
  some (v_waves, v_seen, v_wave)
def pm_X7_spread_L12_2 (F : Nat) (v_size : Int32) (n_board : Nat) (v_board : Nat → Int32) (n_seen : Nat) (n_wave : Nat) (x1 : Int32) (x2_5 : Int32) : Nat → Int32 → Int32 → (Nat → Int32) → (Nat → Int32) → Option (Int32 × (Nat → Int32) × (Nat → Int32))
  | 0, _, _, _, _ => none
  | k + 1, x3_13, v_waves_14, v_seen_15, v_wave_16 =>
    if (6 : Int32) ≤ x3_13 then
    some (v_waves_14, v_seen_15, v_wave_16)
    else
    if x2_5 < 0 ∨ n_wave ≤ x2_5.toNatClampNeg then none else
    bd1 (pm_X7_neighbour F v_size (v_wave_16 x2_5.toNatClampNeg) x3_13) fun r_18 =>
    if r_18 < 0 then
    pm_X7_spread_L12_2 F v_size n_board v_board n_seen n_wave x1 x2_5 k (x3_13 + (1 : Int32)) v_waves_14 v_seen_15 v_wave_16
    else
    if r_18 < 0 ∨ n_board ≤ r_18.toNatClampNeg then none else
    if (v_board r_18.toNatClampNeg) = x1 then
    bd3 (pm_X7_reach F v_waves_14 n_seen v_seen_15 n_wave v_wave_16 r_18) fun v_waves_20 v_seen_21 v_wave_22 =>
    pm_X7_spread_L12_2 F v_size n_board v_board n_seen n_wave x1 x2_5 k (x3_13 + (1 : Int32)) v_waves_20 v_seen_21 v_wave_22
    else
    pm_X7_spread_L12_2 F v_size n_board v_board n_seen n_wave x1 x2_5 k (x3_13 + (1 : Int32)) v_waves_14 v_seen_15 v_wave_16
def pm_X7_spread_L2 (F : Nat) (v_size : Int32) (n_board : Nat) (v_board : Nat → Int32) (n_seen : Nat) (n_wave : Nat) (x1 : Int32) : Nat → Int32 → Int32 → (Nat → Int32) → (Nat → Int32) → Option (Int32 × (Nat → Int32) × (Nat → Int32))
  | 0, _, _, _, _ => none
  | k + 1, x2_5, v_waves_6, v_seen_7, v_wave_8 =>
    if v_waves_6 ≤ x2_5 then
    some (v_waves_6, v_seen_7, v_wave_8)
    else
    bd3 (
    pm_X7_spread_L12_2 F v_size n_board v_board n_seen n_wave x1 x2_5 F (0 : Int32) v_waves_6 v_seen_7 v_wave_8) fun v_waves_9 v_seen_10 v_wave_11 =>
    pm_X7_spread_L2 F v_size n_board v_board n_seen n_wave x1 k (x2_5 + (1 : Int32)) v_waves_9 v_seen_10 v_wave_11
def pm_X7_spread (F : Nat) (v_size : Int32) (v_waves : Int32) (n_board : Nat) (v_board : Nat → Int32) (n_seen : Nat) (v_seen : Nat → Int32) (n_wave : Nat) (v_wave : Nat → Int32) (x1 : Int32) : Option (Int32 × (Nat → Int32) × (Nat → Int32)) :=
  bd3 (
  pm_X7_spread_L2 F v_size n_board v_board n_seen n_wave x1 F (0 : Int32) v_waves v_seen v_wave) fun v_waves_1 v_seen_2 v_wave_3 =>
  some (v_waves_1, v_seen_2, v_wave_3)
def pm_X7_isWon_L60 (F : Nat) (v_size : Int32) (v_cells : Int32) (n_seen : Nat) (x1 : Int32) (v_seen_8 : Nat → Int32) : Nat → Int32 → Int32 → Option (Int32)
  | 0, _, _ => none
  | k + 1, x2_12, x3_13 =>
    if v_size ≤ x3_13 then
    some x2_12
    else
    bd1 (
    if x1 = (1 : Int32) then
    some ((v_cells - v_size) + x3_13)
    else
    some (((v_size * x3_13) + v_size) - (1 : Int32))) fun s2_14 =>
    if s2_14 < 0 ∨ n_seen ≤ s2_14.toNatClampNeg then none else
    pm_X7_isWon_L60 F v_size v_cells n_seen x1 v_seen_8 k (x2_12 ||| (v_seen_8 s2_14.toNatClampNeg)) (x3_13 + (1 : Int32))
def pm_X7_isWon_L6 (F : Nat) (v_size : Int32) (n_board : Nat) (v_board : Nat → Int32) (n_seen : Nat) (n_wave : Nat) (x1 : Int32) : Nat → Int32 → Int32 → (Nat → Int32) → (Nat → Int32) → Option (Int32 × (Nat → Int32) × (Nat → Int32))
  | 0, _, _, _, _ => none
  | k + 1, x2_17, v_waves_18, v_seen_19, v_wave_20 =>
    if v_size ≤ x2_17 then
    some (v_waves_18, v_seen_19, v_wave_20)
    else
    bd1 (
    if x1 = (1 : Int32) then
    some x2_17
    else
    some (v_size * x2_17)) fun s0_21 =>
    if s0_21 < 0 ∨ n_board ≤ s0_21.toNatClampNeg then none else
    if (v_board s0_21.toNatClampNeg) = x1 then
    bd3 (pm_X7_reach F v_waves_18 n_seen v_seen_19 n_wave v_wave_20 s0_21) fun v_waves_24 v_seen_25 v_wave_26 =>
    pm_X7_isWon_L6 F v_size n_board v_board n_seen n_wave x1 k (x2_17 + (1 : Int32)) v_waves_24 v_seen_25 v_wave_26
    else
    pm_X7_isWon_L6 F v_size n_board v_board n_seen n_wave x1 k (x2_17 + (1 : Int32)) v_waves_18 v_seen_19 v_wave_20
def pm_X7_isWon (F : Nat) (v_size : Int32) (v_cells : Int32) (n_board : Nat) (v_board : Nat → Int32) (n_seen : Nat) (v_seen : Nat → Int32) (n_wave : Nat) (v_wave : Nat → Int32) (x1 : Int32) : Option (Int32 × Int32 × (Nat → Int32) × (Nat → Int32)) :=
  bd2 (pm_X7_forget F n_seen v_seen) fun v_waves_1 v_seen_2 =>
  bd3 (
  pm_X7_isWon_L6 F v_size n_board v_board n_seen n_wave x1 F (0 : Int32) v_waves_1 v_seen_2 v_wave) fun v_waves_3 v_seen_4 v_wave_5 =>
  bd3 (pm_X7_spread F v_size v_waves_3 n_board v_board n_seen v_seen_4 n_wave v_wave_5 x1) fun v_waves_7 v_seen_8 v_wave_9 =>
  bd1 (
  pm_X7_isWon_L60 F v_size v_cells n_seen x1 v_seen_8 F (0 : Int32) (0 : Int32)) fun x2_10 =>
  if x2_10 = 0 ∨ x2_10 = 1 then some (x2_10, v_waves_7, v_seen_8, v_wave_9) else none
def pm_X7_winner (F : Nat) (v_size : Int32) (v_cells : Int32) (n_board : Nat) (v_board : Nat → Int32) (n_seen : Nat) (v_seen : Nat → Int32) (n_wave : Nat) (v_wave : Nat → Int32) : Option (Int32 × Int32 × (Nat → Int32) × (Nat → Int32)) :=
  bd4 (pm_X7_isWon F v_size v_cells n_board v_board n_seen v_seen n_wave v_wave (1 : Int32)) fun r_1 v_waves_2 v_seen_3 v_wave_4 =>
  if r_1 = 0 then
  bd4 (pm_X7_isWon F v_size v_cells n_board v_board n_seen v_seen_3 n_wave v_wave_4 (2 : Int32)) fun r_5 v_waves_6 v_seen_7 v_wave_8 =>
  if r_5 = 0 then
  some ((0 : Int32), v_waves_6, v_seen_7, v_wave_8)
  else
  some ((2 : Int32), v_waves_6, v_seen_7, v_wave_8)
  else
  some ((1 : Int32), v_waves_2, v_seen_3, v_wave_4)
def pm_X7_empty_L4 (F : Nat) (v_cells : Int32) (n_board : Nat) (v_board : Nat → Int32) : Nat → Int32 → Int32 → Option (Int32)
  | 0, _, _ => none
  | k + 1, x1_3, x2_4 =>
    if v_cells ≤ x2_4 then
    some x1_3
    else
    if x2_4 < 0 ∨ n_board ≤ x2_4.toNatClampNeg then none else
    if (v_board x2_4.toNatClampNeg) = 0 then
    pm_X7_empty_L4 F v_cells n_board v_board k (x1_3 + (1 : Int32)) (x2_4 + (1 : Int32))
    else
    pm_X7_empty_L4 F v_cells n_board v_board k (x1_3 + (0 : Int32)) (x2_4 + (1 : Int32))
def pm_X7_empty (F : Nat) (v_cells : Int32) (n_board : Nat) (v_board : Nat → Int32) : Option (Int32) :=
  bd1 (
  pm_X7_empty_L4 F v_cells n_board v_board F (0 : Int32) (0 : Int32)) fun x1_1 =>
  some x1_1
def pm_X7_nameOf_L21 (F : Nat) (n_seen : Nat) (v_seen_8 : Nat → Int32) : Nat → Int32 → Option (Int32)
  | 0, _ => none
  | k + 1, x2_12 =>
    if x2_12 < 0 ∨ n_seen ≤ x2_12.toNatClampNeg then none else
    if (v_seen_8 x2_12.toNatClampNeg) = 0 then
    pm_X7_nameOf_L21 F n_seen v_seen_8 k (x2_12 + (1 : Int32))
    else
    some x2_12
def pm_X7_nameOf (F : Nat) (v_size : Int32) (n_board : Nat) (v_board : Nat → Int32) (n_seen : Nat) (v_seen : Nat → Int32) (n_wave : Nat) (v_wave : Nat → Int32) (x1 : Int32) : Option (Int32 × Int32 × (Nat → Int32) × (Nat → Int32)) :=
  bd2 (pm_X7_forget F n_seen v_seen) fun v_waves_1 v_seen_2 =>
  bd3 (pm_X7_reach F v_waves_1 n_seen v_seen_2 n_wave v_wave x1) fun v_waves_3 v_seen_4 v_wave_5 =>
  if x1 < 0 ∨ n_board ≤ x1.toNatClampNeg then none else
  bd3 (pm_X7_spread F v_size v_waves_3 n_board v_board n_seen v_seen_4 n_wave v_wave_5 (v_board x1.toNatClampNeg)) fun v_waves_7 v_seen_8 v_wave_9 =>
  bd1 (
  pm_X7_nameOf_L21 F n_seen v_seen_8 F (0 : Int32)) fun x2_10 =>
  some (x2_10, v_waves_7, v_seen_8, v_wave_9)
def pm_X7_chains_L4 (F : Nat) (v_size : Int32) (v_cells : Int32) (n_board : Nat) (v_board : Nat → Int32) (n_seen : Nat) (n_wave : Nat) : Nat → Int32 → Int32 → Int32 → (Nat → Int32) → (Nat → Int32) → Option (Int32 × Int32 × (Nat → Int32) × (Nat → Int32))
  | 0, _, _, _, _, _ => none
  | k + 1, x1_6, x2_7, v_waves_8, v_seen_9, v_wave_10 =>
    if v_cells ≤ x2_7 then
    some (x1_6, v_waves_8, v_seen_9, v_wave_10)
    else
    if x2_7 < 0 ∨ n_board ≤ x2_7.toNatClampNeg then none else
    if (v_board x2_7.toNatClampNeg) = 0 then
    pm_X7_chains_L4 F v_size v_cells n_board v_board n_seen n_wave k (x1_6 + (0 : Int32)) (x2_7 + (1 : Int32)) v_waves_8 v_seen_9 v_wave_10
    else
    bd4 (pm_X7_nameOf F v_size n_board v_board n_seen v_seen_9 n_wave v_wave_10 x2_7) fun r_12 v_waves_13 v_seen_14 v_wave_15 =>
    if r_12 = x2_7 then
    pm_X7_chains_L4 F v_size v_cells n_board v_board n_seen n_wave k (x1_6 + (1 : Int32)) (x2_7 + (1 : Int32)) v_waves_13 v_seen_14 v_wave_15
    else
    pm_X7_chains_L4 F v_size v_cells n_board v_board n_seen n_wave k (x1_6 + (0 : Int32)) (x2_7 + (1 : Int32)) v_waves_13 v_seen_14 v_wave_15
def pm_X7_chains (F : Nat) (v_size : Int32) (v_cells : Int32) (v_waves : Int32) (n_board : Nat) (v_board : Nat → Int32) (n_seen : Nat) (v_seen : Nat → Int32) (n_wave : Nat) (v_wave : Nat → Int32) : Option (Int32 × Int32 × (Nat → Int32) × (Nat → Int32)) :=
  bd4 (
  pm_X7_chains_L4 F v_size v_cells n_board v_board n_seen n_wave F (0 : Int32) (0 : Int32) v_waves v_seen v_wave) fun x1_1 v_waves_2 v_seen_3 v_wave_4 =>
  some (x1_1, v_waves_2, v_seen_3, v_wave_4)
def pm_X7_set (F : Nat) (v_size : Int32) (v_plays : Int32) (n_board : Nat) (v_board : Nat → Int32) (x1 : Int32) (x2 : Int32) (x3 : Int32) : Option (Int32 × Int32 × (Nat → Int32)) :=
  bd1 (pm_X7_isCell F v_size x1 x2) fun r_1 =>
  if r_1 = 0 then
  some ((0 : Int32), v_plays, v_board)
  else
  if x3 < 0 then
  some ((0 : Int32), v_plays, v_board)
  else
  if x3 ≤ (2 : Int32) then
  if ((v_size * x2) + x1) < 0 ∨ n_board ≤ ((v_size * x2) + x1).toNatClampNeg then none else
  some ((1 : Int32), (0 : Int32), upd v_board ((v_size * x2) + x1).toNatClampNeg (vp_nar .byte x3.toInt8.toInt32))
  else
  some ((0 : Int32), v_plays, v_board)
def pm_X7_turn (F : Nat) (v_turn : Int32) (v_plays : Int32) (x1 : Int32) : Option (Int32 × Int32 × Int32) :=
  if x1 = (1 : Int32) then
  some ((1 : Int32), x1, (0 : Int32))
  else
  if x1 = (2 : Int32) then
  some ((1 : Int32), x1, (0 : Int32))
  else
  some ((0 : Int32), v_turn, v_plays)
def pm_X7_play (F : Nat) (v_size : Int32) (v_cells : Int32) (v_turn : Int32) (v_plays : Int32) (v_waves : Int32) (n_board : Nat) (v_board : Nat → Int32) (n_played : Nat) (v_played : Nat → Int32) (n_seen : Nat) (v_seen : Nat → Int32) (n_wave : Nat) (v_wave : Nat → Int32) (x1 : Int32) (x2 : Int32) : Option (Int32 × Int32 × Int32 × Int32 × (Nat → Int32) × (Nat → Int32) × (Nat → Int32) × (Nat → Int32)) :=
  bd1 (pm_X7_isCell F v_size x1 x2) fun r_1 =>
  if r_1 = 0 then
  some ((0 : Int32), v_turn, v_plays, v_waves, v_board, v_played, v_seen, v_wave)
  else
  if ((v_size * x2) + x1) < 0 ∨ n_board ≤ ((v_size * x2) + x1).toNatClampNeg then none else
  if (v_board ((v_size * x2) + x1).toNatClampNeg) = 0 then
  bd4 (pm_X7_winner F v_size v_cells n_board v_board n_seen v_seen n_wave v_wave) fun r_3 v_waves_4 v_seen_5 v_wave_6 =>
  if r_3 = 0 then
  if v_plays < 0 ∨ n_played ≤ v_plays.toNatClampNeg then none else
  some ((1 : Int32), (3 : Int32) - v_turn, v_plays + (1 : Int32), v_waves_4, upd v_board ((v_size * x2) + x1).toNatClampNeg (vp_nar .byte v_turn.toInt8.toInt32), upd v_played v_plays.toNatClampNeg ((v_size * x2) + x1), v_seen_5, v_wave_6)
  else
  some ((0 : Int32), v_turn, v_plays, v_waves_4, v_board, v_played, v_seen_5, v_wave_6)
  else
  some ((0 : Int32), v_turn, v_plays, v_waves, v_board, v_played, v_seen, v_wave)
def pm_X7_undo (F : Nat) (v_turn : Int32) (v_plays : Int32) (n_board : Nat) (v_board : Nat → Int32) (n_played : Nat) (v_played : Nat → Int32) : Option (Int32 × Int32 × Int32 × (Nat → Int32)) :=
  if v_plays = 0 then
  some ((-1 : Int32), v_turn, v_plays, v_board)
  else
  if (v_plays - (1 : Int32)) < 0 ∨ n_played ≤ (v_plays - (1 : Int32)).toNatClampNeg then none else
  if (v_played (v_plays - (1 : Int32)).toNatClampNeg) < 0 ∨ n_board ≤ (v_played (v_plays - (1 : Int32)).toNatClampNeg).toNatClampNeg then none else
  some (v_played (v_plays - (1 : Int32)).toNatClampNeg, (3 : Int32) - v_turn, v_plays - (1 : Int32), upd v_board (v_played (v_plays - (1 : Int32)).toNatClampNeg).toNatClampNeg (vp_nar .byte (0 : Int32)))
def pm_X7_cell (F : Nat) (v_size : Int32) (n_board : Nat) (v_board : Nat → Int32) (x1 : Int32) (x2 : Int32) : Option (Int32) :=
  bd1 (pm_X7_isCell F v_size x1 x2) fun r_1 =>
  if r_1 = 0 then
  some (-1 : Int32)
  else
  if ((v_size * x2) + x1) < 0 ∨ n_board ≤ ((v_size * x2) + x1).toNatClampNeg then none else
  some (v_board ((v_size * x2) + x1).toNatClampNeg)
def pm_X7_chain (F : Nat) (v_size : Int32) (v_waves : Int32) (n_board : Nat) (v_board : Nat → Int32) (n_seen : Nat) (v_seen : Nat → Int32) (n_wave : Nat) (v_wave : Nat → Int32) (x1 : Int32) (x2 : Int32) : Option (Int32 × Int32 × (Nat → Int32) × (Nat → Int32)) :=
  bd1 (pm_X7_isCell F v_size x1 x2) fun r_1 =>
  if r_1 = 0 then
  some ((-1 : Int32), v_waves, v_seen, v_wave)
  else
  if ((v_size * x2) + x1) < 0 ∨ n_board ≤ ((v_size * x2) + x1).toNatClampNeg then none else
  if (v_board ((v_size * x2) + x1).toNatClampNeg) = 0 then
  some ((-1 : Int32), v_waves, v_seen, v_wave)
  else
  bd4 (pm_X7_nameOf F v_size n_board v_board n_seen v_seen n_wave v_wave ((v_size * x2) + x1)) fun r_3 v_waves_4 v_seen_5 v_wave_6 =>
  some (r_3, v_waves_4, v_seen_5, v_wave_6)
def pm_X7_about (F : Nat) (v_size : Int32) (v_cells : Int32) (v_turn : Int32) (v_plays : Int32) (v_nodes : Int32) (v_entries : Int32) (v_planted : Int32) (v_waves : Int32) (n_board : Nat) (v_board : Nat → Int32) (n_seen : Nat) (v_seen : Nat → Int32) (n_wave : Nat) (v_wave : Nat → Int32) (x1 : Int32) : Option (Int32 × Int32 × (Nat → Int32) × (Nat → Int32)) :=
  if x1 = (0 : Int32) then
  some (v_size, v_waves, v_seen, v_wave)
  else
  if x1 = (1 : Int32) then
  some (v_turn, v_waves, v_seen, v_wave)
  else
  if x1 = (2 : Int32) then
  some (v_plays, v_waves, v_seen, v_wave)
  else
  if x1 = (3 : Int32) then
  bd4 (pm_X7_winner F v_size v_cells n_board v_board n_seen v_seen n_wave v_wave) fun r_6 v_waves_7 v_seen_8 v_wave_9 =>
  some (r_6, v_waves_7, v_seen_8, v_wave_9)
  else
  if x1 = (4 : Int32) then
  bd1 (pm_X7_empty F v_cells n_board v_board) fun r_5 =>
  some (r_5, v_waves, v_seen, v_wave)
  else
  if x1 = (5 : Int32) then
  bd4 (pm_X7_chains F v_size v_cells v_waves n_board v_board n_seen v_seen n_wave v_wave) fun r_1 v_waves_2 v_seen_3 v_wave_4 =>
  some (r_1, v_waves_2, v_seen_3, v_wave_4)
  else
  if x1 = (6 : Int32) then
  some (v_nodes, v_waves, v_seen, v_wave)
  else
  if x1 = (7 : Int32) then
  some (v_entries, v_waves, v_seen, v_wave)
  else
  if x1 = (8 : Int32) then
  some (v_planted, v_waves, v_seen, v_wave)
  else
  some ((-1 : Int32), v_waves, v_seen, v_wave)
def pm_X7_sideAt (F : Nat) (v_size : Int32) (n_board : Nat) (v_board : Nat → Int32) (x1 : Int32) (x2 : Int32) : Option (Int32) :=
  bd1 (pm_X7_isCell F v_size x1 x2) fun r_1 =>
  if r_1 = 0 then
  if x2 = (-1 : Int32) then
  if x1 < 0 then
  if x2 = v_size then
  if x1 < (-1 : Int32) then
  if x1 = (-1 : Int32) then
  if x2 < 0 then
  some (0 : Int32)
  else
  if v_size ≤ x2 then
  some (0 : Int32)
  else
  some (2 : Int32)
  else
  if x1 = v_size then
  if x2 < 0 then
  some (0 : Int32)
  else
  if v_size ≤ x2 then
  some (0 : Int32)
  else
  some (2 : Int32)
  else
  some (0 : Int32)
  else
  if v_size ≤ x1 then
  if x1 = (-1 : Int32) then
  if x2 < 0 then
  some (0 : Int32)
  else
  if v_size ≤ x2 then
  some (0 : Int32)
  else
  some (2 : Int32)
  else
  if x1 = v_size then
  if x2 < 0 then
  some (0 : Int32)
  else
  if v_size ≤ x2 then
  some (0 : Int32)
  else
  some (2 : Int32)
  else
  some (0 : Int32)
  else
  some (1 : Int32)
  else
  if x1 = (-1 : Int32) then
  if x2 < 0 then
  some (0 : Int32)
  else
  if v_size ≤ x2 then
  some (0 : Int32)
  else
  some (2 : Int32)
  else
  if x1 = v_size then
  if x2 < 0 then
  some (0 : Int32)
  else
  if v_size ≤ x2 then
  some (0 : Int32)
  else
  some (2 : Int32)
  else
  some (0 : Int32)
  else
  if v_size < x1 then
  if x2 = v_size then
  if x1 < (-1 : Int32) then
  if x1 = (-1 : Int32) then
  if x2 < 0 then
  some (0 : Int32)
  else
  if v_size ≤ x2 then
  some (0 : Int32)
  else
  some (2 : Int32)
  else
  if x1 = v_size then
  if x2 < 0 then
  some (0 : Int32)
  else
  if v_size ≤ x2 then
  some (0 : Int32)
  else
  some (2 : Int32)
  else
  some (0 : Int32)
  else
  if v_size ≤ x1 then
  if x1 = (-1 : Int32) then
  if x2 < 0 then
  some (0 : Int32)
  else
  if v_size ≤ x2 then
  some (0 : Int32)
  else
  some (2 : Int32)
  else
  if x1 = v_size then
  if x2 < 0 then
  some (0 : Int32)
  else
  if v_size ≤ x2 then
  some (0 : Int32)
  else
  some (2 : Int32)
  else
  some (0 : Int32)
  else
  some (1 : Int32)
  else
  if x1 = (-1 : Int32) then
  if x2 < 0 then
  some (0 : Int32)
  else
  if v_size ≤ x2 then
  some (0 : Int32)
  else
  some (2 : Int32)
  else
  if x1 = v_size then
  if x2 < 0 then
  some (0 : Int32)
  else
  if v_size ≤ x2 then
  some (0 : Int32)
  else
  some (2 : Int32)
  else
  some (0 : Int32)
  else
  some (1 : Int32)
  else
  if x2 = v_size then
  if x1 < (-1 : Int32) then
  if x1 = (-1 : Int32) then
  if x2 < 0 then
  some (0 : Int32)
  else
  if v_size ≤ x2 then
  some (0 : Int32)
  else
  some (2 : Int32)
  else
  if x1 = v_size then
  if x2 < 0 then
  some (0 : Int32)
  else
  if v_size ≤ x2 then
  some (0 : Int32)
  else
  some (2 : Int32)
  else
  some (0 : Int32)
  else
  if v_size ≤ x1 then
  if x1 = (-1 : Int32) then
  if x2 < 0 then
  some (0 : Int32)
  else
  if v_size ≤ x2 then
  some (0 : Int32)
  else
  some (2 : Int32)
  else
  if x1 = v_size then
  if x2 < 0 then
  some (0 : Int32)
  else
  if v_size ≤ x2 then
  some (0 : Int32)
  else
  some (2 : Int32)
  else
  some (0 : Int32)
  else
  some (1 : Int32)
  else
  if x1 = (-1 : Int32) then
  if x2 < 0 then
  some (0 : Int32)
  else
  if v_size ≤ x2 then
  some (0 : Int32)
  else
  some (2 : Int32)
  else
  if x1 = v_size then
  if x2 < 0 then
  some (0 : Int32)
  else
  if v_size ≤ x2 then
  some (0 : Int32)
  else
  some (2 : Int32)
  else
  some (0 : Int32)
  else
  if ((v_size * x2) + x1) < 0 ∨ n_board ≤ ((v_size * x2) + x1).toNatClampNeg then none else
  some (v_board ((v_size * x2) + x1).toNatClampNeg)
def pm_X7_isBeside (F : Nat) (x0 : Int32) (x1 : Int32) (x2 : Int32) (x3 : Int32) : Option (Int32) :=
  if ((x2 - x0) + (x3 - x1)) = 0 then
  if (x2 - x0) = (1 : Int32) then
  some (1 : Int32)
  else
  if (x2 - x0) = (-1 : Int32) then
  some (1 : Int32)
  else
  some (0 : Int32)
  else
  if ((x2 - x0) * (x3 - x1)) = 0 then
  if ((x2 - x0) + (x3 - x1)) = (1 : Int32) then
  some (1 : Int32)
  else
  if ((x2 - x0) + (x3 - x1)) = (-1 : Int32) then
  some (1 : Int32)
  else
  some (0 : Int32)
  else
  some (0 : Int32)
def pm_X7_third_L9_2 (F : Nat) (v_ax : Int32) (v_ay : Int32) (v_bx : Int32) (v_by : Int32) (v_fx : Int32) (v_fy : Int32) (x1_4 : Int32) : Nat → Int32 → Int32 → Int32 → Option (Int32 × Int32)
  | 0, _, _, _ => none
  | k + 1, x2_10, v_tx_11, v_ty_12 =>
    if (2 : Int32) ≤ x2_10 then
    some (v_tx_11, v_ty_12)
    else
    bd1 (pm_X7_isBeside F v_ax v_ay (v_ax + x2_10) (v_ay + x1_4)) fun r_13 =>
    if r_13 = 0 then
    pm_X7_third_L9_2 F v_ax v_ay v_bx v_by v_fx v_fy x1_4 k (x2_10 + (1 : Int32)) v_tx_11 v_ty_12
    else
    bd1 (pm_X7_isBeside F v_bx v_by (v_ax + x2_10) (v_ay + x1_4)) fun r_14 =>
    if r_14 = 0 then
    pm_X7_third_L9_2 F v_ax v_ay v_bx v_by v_fx v_fy x1_4 k (x2_10 + (1 : Int32)) v_tx_11 v_ty_12
    else
    if (v_ax + x2_10) = v_fx then
    if (v_ay + x1_4) = v_fy then
    pm_X7_third_L9_2 F v_ax v_ay v_bx v_by v_fx v_fy x1_4 k (x2_10 + (1 : Int32)) v_tx_11 v_ty_12
    else
    pm_X7_third_L9_2 F v_ax v_ay v_bx v_by v_fx v_fy x1_4 k (x2_10 + (1 : Int32)) (v_ax + x2_10) (v_ay + x1_4)
    else
    pm_X7_third_L9_2 F v_ax v_ay v_bx v_by v_fx v_fy x1_4 k (x2_10 + (1 : Int32)) (v_ax + x2_10) (v_ay + x1_4)
def pm_X7_third_L2 (F : Nat) (v_ax : Int32) (v_ay : Int32) (v_bx : Int32) (v_by : Int32) (v_fx : Int32) (v_fy : Int32) : Nat → Int32 → Int32 → Int32 → Option (Int32 × Int32)
  | 0, _, _, _ => none
  | k + 1, x1_4, v_tx_5, v_ty_6 =>
    if (2 : Int32) ≤ x1_4 then
    some (v_tx_5, v_ty_6)
    else
    bd2 (
    pm_X7_third_L9_2 F v_ax v_ay v_bx v_by v_fx v_fy x1_4 F (-1 : Int32) v_tx_5 v_ty_6) fun v_tx_7 v_ty_8 =>
    pm_X7_third_L2 F v_ax v_ay v_bx v_by v_fx v_fy k (x1_4 + (1 : Int32)) v_tx_7 v_ty_8
def pm_X7_third (F : Nat) (v_ax : Int32) (v_ay : Int32) (v_bx : Int32) (v_by : Int32) (v_fx : Int32) (v_fy : Int32) (v_tx : Int32) (v_ty : Int32) : Option (Int32 × Int32) :=
  bd2 (
  pm_X7_third_L2 F v_ax v_ay v_bx v_by v_fx v_fy F (-1 : Int32) v_tx v_ty) fun v_tx_1 v_ty_2 =>
  some (v_tx_1, v_ty_2)
def pm_X7_walked_L36 (F : Nat) (v_size : Int32) (n_board : Nat) (v_board : Nat → Int32) (x1 : Int32) : Nat → Int32 → Int32 → Int32 → Int32 → Int32 → Int32 → Int32 → Int32 → Int32 → Option (Int32 × Int32 × Int32 × Int32 × Int32 × Int32 × Int32 × Int32 × Int32)
  | 0, _, _, _, _, _, _, _, _, _ => none
  | k + 1, x2_13, v_ax_14, v_ay_15, v_bx_16, v_by_17, v_fx_18, v_fy_19, v_tx_20, v_ty_21 =>
    if x1 < x2_13 then
    some (x2_13, v_ax_14, v_ay_15, v_bx_16, v_by_17, v_fx_18, v_fy_19, v_tx_20, v_ty_21)
    else
    bd1 (pm_X7_sideAt F v_size n_board v_board v_tx_20 v_ty_21) fun r_22 =>
    if r_22 = 0 then
    some (x2_13, v_ax_14, v_ay_15, v_bx_16, v_by_17, v_fx_18, v_fy_19, v_tx_20, v_ty_21)
    else
    bd1 (pm_X7_sideAt F v_size n_board v_board v_tx_20 v_ty_21) fun r_23 =>
    bd6 (
    if r_23 = (1 : Int32) then
    some (v_tx_20, v_ty_21, v_bx_16, v_by_17, v_ax_14, v_ay_15)
    else
    some (v_ax_14, v_ay_15, v_tx_20, v_ty_21, v_bx_16, v_by_17)) fun v_ax_24 v_ay_25 v_bx_26 v_by_27 v_fx_28 v_fy_29 =>
    bd2 (pm_X7_third F v_ax_24 v_ay_25 v_bx_26 v_by_27 v_fx_28 v_fy_29 v_tx_20 v_ty_21) fun v_tx_31 v_ty_32 =>
    pm_X7_walked_L36 F v_size n_board v_board x1 k (x2_13 + (1 : Int32)) v_ax_24 v_ay_25 v_bx_26 v_by_27 v_fx_28 v_fy_29 v_tx_31 v_ty_32
def pm_X7_walked (F : Nat) (v_size : Int32) (v_tx : Int32) (v_ty : Int32) (n_board : Nat) (v_board : Nat → Int32) (x1 : Int32) : Option (Int32 × Int32 × Int32 × Int32 × Int32 × Int32 × Int32 × Int32 × Int32) :=
  bd2 (pm_X7_third F (0 : Int32) (-1 : Int32) (-1 : Int32) (0 : Int32) (-1 : Int32) (-1 : Int32) v_tx v_ty) fun v_tx_1 v_ty_2 =>
  bd9 (
  pm_X7_walked_L36 F v_size n_board v_board x1 F (1 : Int32) (0 : Int32) (-1 : Int32) (-1 : Int32) (0 : Int32) (-1 : Int32) (-1 : Int32) v_tx_1 v_ty_2) fun x2_3 v_ax_4 v_ay_5 v_bx_6 v_by_7 v_fx_8 v_fy_9 v_tx_10 v_ty_11 =>
  some (x2_3, v_ax_4, v_ay_5, v_bx_6, v_by_7, v_fx_8, v_fy_9, v_tx_10, v_ty_11)
def pm_X7_walk (F : Nat) (v_size : Int32) (v_cells : Int32) (v_ax : Int32) (v_ay : Int32) (v_bx : Int32) (v_by : Int32) (v_fx : Int32) (v_fy : Int32) (v_tx : Int32) (v_ty : Int32) (n_board : Nat) (v_board : Nat → Int32) : Option (Int32 × Int32 × Int32 × Int32 × Int32 × Int32 × Int32 × Int32 × Int32) :=
  bd1 (pm_X7_empty F v_cells n_board v_board) fun r_1 =>
  if r_1 ≤ 0 then
  bd9 (pm_X7_walked F v_size v_tx v_ty n_board v_board (100000 : Int32)) fun r_2 v_ax_3 v_ay_4 v_bx_5 v_by_6 v_fx_7 v_fy_8 v_tx_9 v_ty_10 =>
  some (r_2, v_ax_3, v_ay_4, v_bx_5, v_by_6, v_fx_7, v_fy_8, v_tx_9, v_ty_10)
  else
  some ((-1 : Int32), v_ax, v_ay, v_bx, v_by, v_fx, v_fy, v_tx, v_ty)
def pm_X7_step (F : Nat) (v_size : Int32) (v_cells : Int32) (v_ax : Int32) (v_ay : Int32) (v_bx : Int32) (v_by : Int32) (v_fx : Int32) (v_fy : Int32) (v_tx : Int32) (v_ty : Int32) (n_board : Nat) (v_board : Nat → Int32) (x1 : Int32) (x2 : Int32) : Option (Int32 × Int32 × Int32 × Int32 × Int32 × Int32 × Int32 × Int32 × Int32) :=
  if x1 < 0 then
  some ((-3 : Int32), v_ax, v_ay, v_bx, v_by, v_fx, v_fy, v_tx, v_ty)
  else
  if x2 < 0 then
  some ((-3 : Int32), v_ax, v_ay, v_bx, v_by, v_fx, v_fy, v_tx, v_ty)
  else
  if (2 : Int32) < x2 then
  some ((-3 : Int32), v_ax, v_ay, v_bx, v_by, v_fx, v_fy, v_tx, v_ty)
  else
  bd1 (pm_X7_empty F v_cells n_board v_board) fun r_1 =>
  if 0 < r_1 then
  some ((-3 : Int32), v_ax, v_ay, v_bx, v_by, v_fx, v_fy, v_tx, v_ty)
  else
  bd9 (pm_X7_walked F v_size v_tx v_ty n_board v_board x1) fun r_2 v_ax_3 v_ay_4 v_bx_5 v_by_6 v_fx_7 v_fy_8 v_tx_9 v_ty_10 =>
  if r_2 = (x1 + (1 : Int32)) then
  if x2 = 0 then
  some (v_tx_9, v_ax_3, v_ay_4, v_bx_5, v_by_6, v_fx_7, v_fy_8, v_tx_9, v_ty_10)
  else
  if x2 = (1 : Int32) then
  some (v_ty_10, v_ax_3, v_ay_4, v_bx_5, v_by_6, v_fx_7, v_fy_8, v_tx_9, v_ty_10)
  else
  bd1 (pm_X7_sideAt F v_size n_board v_board v_tx_9 v_ty_10) fun r_11 =>
  some (r_11, v_ax_3, v_ay_4, v_bx_5, v_by_6, v_fx_7, v_fy_8, v_tx_9, v_ty_10)
  else
  some ((-3 : Int32), v_ax_3, v_ay_4, v_bx_5, v_by_6, v_fx_7, v_fy_8, v_tx_9, v_ty_10)
def pm_X7_makeNode (F : Nat) (v_size : Int32) (v_cells : Int32) (v_nodes : Int32) (v_waves : Int32) (v_first : Int32) (n_board : Nat) (v_board : Nat → Int32) (n_cellOf : Nat) (v_cellOf : Nat → Int32) (n_ahead : Nat) (v_ahead : Nat → Int32) (n_proof : Nat) (v_proof : Nat → Int32) (n_disproof : Nat) (v_disproof : Nat → Int32) (n_child : Nat) (v_child : Nat → Int32) (n_many : Nat) (v_many : Nat → Int32) (n_seen : Nat) (v_seen : Nat → Int32) (n_wave : Nat) (v_wave : Nat → Int32) (x1 : Int32) (x2 : Int32) : Option (Int32 × Int32 × (Nat → Int32) × (Nat → Int32) × (Nat → Int32) × (Nat → Int32) × (Nat → Int32) × (Nat → Int32) × (Nat → Int32) × (Nat → Int32)) :=
  if v_nodes < 0 ∨ n_cellOf ≤ v_nodes.toNatClampNeg then none else
  if v_nodes < 0 ∨ n_ahead ≤ v_nodes.toNatClampNeg then none else
  if v_nodes < 0 ∨ n_child ≤ v_nodes.toNatClampNeg then none else
  if v_nodes < 0 ∨ n_many ≤ v_nodes.toNatClampNeg then none else
  bd4 (
  if 0 ≤ x1 then
  if x1 < 0 ∨ n_board ≤ x1.toNatClampNeg then none else
  bd4 (pm_X7_isWon F v_size v_cells n_board v_board n_seen v_seen n_wave v_wave (v_board x1.toNatClampNeg)) fun r_17 v_waves_18 v_seen_19 v_wave_20 =>
  if r_17 = 0 then
  some ((0 : Int32), v_waves_18, v_seen_19, v_wave_20)
  else
  some (v_board x1.toNatClampNeg, v_waves_18, v_seen_19, v_wave_20)
  else
  some ((0 : Int32), v_waves, v_seen, v_wave)) fun s0_5 v_waves_6 v_seen_7 v_wave_8 =>
  bd1 (
  if s0_5 = 0 then
  some (1 : Int32)
  else
  if s0_5 = v_first then
  some (0 : Int32)
  else
  some (1000000000 : Int32)) fun s2_10 =>
  if v_nodes < 0 ∨ n_proof ≤ v_nodes.toNatClampNeg then none else
  bd1 (
  if s0_5 = 0 then
  some (1 : Int32)
  else
  if s0_5 = v_first then
  some (1000000000 : Int32)
  else
  some (0 : Int32)) fun s2_13 =>
  if v_nodes < 0 ∨ n_disproof ≤ v_nodes.toNatClampNeg then none else
  some (v_nodes + (1 : Int32), v_waves_6, upd v_cellOf v_nodes.toNatClampNeg x1, upd v_ahead v_nodes.toNatClampNeg x2, upd v_proof v_nodes.toNatClampNeg s2_10, upd v_disproof v_nodes.toNatClampNeg s2_13, upd v_child v_nodes.toNatClampNeg (-1 : Int32), upd v_many v_nodes.toNatClampNeg (0 : Int32), v_seen_7, v_wave_8)
def pm_X7_reckon_L21 (F : Nat) (n_proof : Nat) (v_proof : Nat → Int32) (n_disproof : Nat) (v_disproof : Nat → Int32) (v_child : Nat → Int32) (n_many : Nat) (v_many : Nat → Int32) (x1 : Int32) : Nat → Int32 → Int32 → Int64 → Int64 → Int32 → Option (Int32 × Int32 × Int64 × Int64)
  | 0, _, _, _, _, _ => none
  | k + 1, x3_16, x4_17, x5_18, x7_19, x9_20 =>
    if x1 < 0 ∨ n_many ≤ x1.toNatClampNeg then none else
    if ((v_child x1.toNatClampNeg) + (v_many x1.toNatClampNeg)) ≤ x9_20 then
    some (x3_16, x4_17, x5_18, x7_19)
    else
    if x9_20 < 0 ∨ n_proof ≤ x9_20.toNatClampNeg then none else
    bd1 (
    if x3_16 ≤ (v_proof x9_20.toNatClampNeg) then
    some x3_16
    else
    some (v_proof x9_20.toNatClampNeg)) fun x3_23 =>
    if x9_20 < 0 ∨ n_disproof ≤ x9_20.toNatClampNeg then none else
    bd1 (
    if x4_17 ≤ (v_disproof x9_20.toNatClampNeg) then
    some x4_17
    else
    some (v_disproof x9_20.toNatClampNeg)) fun x4_26 =>
    pm_X7_reckon_L21 F n_proof v_proof n_disproof v_disproof v_child n_many v_many x1 k x3_23 x4_26 (x5_18 + ((v_proof x9_20.toNatClampNeg).toInt64)) (x7_19 + ((v_disproof x9_20.toNatClampNeg).toInt64)) (x9_20 + (1 : Int32))
def pm_X7_reckon (F : Nat) (n_proof : Nat) (v_proof : Nat → Int32) (n_disproof : Nat) (v_disproof : Nat → Int32) (n_child : Nat) (v_child : Nat → Int32) (n_many : Nat) (v_many : Nat → Int32) (x1 : Int32) (x2 : Int32) : Option ((Nat → Int32) × (Nat → Int32)) :=
  if x1 < 0 ∨ n_child ≤ x1.toNatClampNeg then none else
  bd4 (
  pm_X7_reckon_L21 F n_proof v_proof n_disproof v_disproof v_child n_many v_many x1 F (1000000000 : Int32) (1000000000 : Int32) (0 : Int64) (0 : Int64) (v_child x1.toNatClampNeg)) fun x3_2 x4_3 x5_4 x7_5 =>
  bd1 (
  if (lg_cmp x5_4 (1000000000 : Int64)) ≤ 0 then
  some x5_4
  else
  some (1000000000 : Int64)) fun x5_7 =>
  bd1 (
  if (lg_cmp x7_5 (1000000000 : Int64)) ≤ 0 then
  some x7_5
  else
  some (1000000000 : Int64)) fun x7_9 =>
  bd1 (
  if x2 = 0 then
  some x5_7.toInt32
  else
  some x3_2) fun s2_11 =>
  if x1 < 0 ∨ n_proof ≤ x1.toNatClampNeg then none else
  if x2 = 0 then
  if x1 < 0 ∨ n_disproof ≤ x1.toNatClampNeg then none else
  some (upd v_proof x1.toNatClampNeg s2_11, upd v_disproof x1.toNatClampNeg x4_3)
  else
  if x1 < 0 ∨ n_disproof ≤ x1.toNatClampNeg then none else
  some (upd v_proof x1.toNatClampNeg s2_11, upd v_disproof x1.toNatClampNeg x7_9.toInt32)
def pm_X7_best_L15 (F : Nat) (n_proof : Nat) (v_proof : Nat → Int32) (n_disproof : Nat) (v_disproof : Nat → Int32) (v_child : Nat → Int32) (n_many : Nat) (v_many : Nat → Int32) (x1 : Int32) (x2 : Int32) : Nat → Int32 → Int32 → Option (Int32)
  | 0, _, _ => none
  | k + 1, x3_4, x4_5 =>
    if x1 < 0 ∨ n_many ≤ x1.toNatClampNeg then none else
    if ((v_child x1.toNatClampNeg) + (v_many x1.toNatClampNeg)) ≤ x4_5 then
    some x3_4
    else
    if x2 = 0 then
    if x4_5 < 0 ∨ n_disproof ≤ x4_5.toNatClampNeg then none else
    if x3_4 < 0 ∨ n_disproof ≤ x3_4.toNatClampNeg then none else
    if (v_disproof x3_4.toNatClampNeg) ≤ (v_disproof x4_5.toNatClampNeg) then
    pm_X7_best_L15 F n_proof v_proof n_disproof v_disproof v_child n_many v_many x1 x2 k x3_4 (x4_5 + (1 : Int32))
    else
    pm_X7_best_L15 F n_proof v_proof n_disproof v_disproof v_child n_many v_many x1 x2 k x4_5 (x4_5 + (1 : Int32))
    else
    if x4_5 < 0 ∨ n_proof ≤ x4_5.toNatClampNeg then none else
    if x3_4 < 0 ∨ n_proof ≤ x3_4.toNatClampNeg then none else
    if (v_proof x3_4.toNatClampNeg) ≤ (v_proof x4_5.toNatClampNeg) then
    pm_X7_best_L15 F n_proof v_proof n_disproof v_disproof v_child n_many v_many x1 x2 k x3_4 (x4_5 + (1 : Int32))
    else
    pm_X7_best_L15 F n_proof v_proof n_disproof v_disproof v_child n_many v_many x1 x2 k x4_5 (x4_5 + (1 : Int32))
def pm_X7_best (F : Nat) (n_proof : Nat) (v_proof : Nat → Int32) (n_disproof : Nat) (v_disproof : Nat → Int32) (n_child : Nat) (v_child : Nat → Int32) (n_many : Nat) (v_many : Nat → Int32) (x1 : Int32) (x2 : Int32) : Option (Int32) :=
  if x1 < 0 ∨ n_child ≤ x1.toNatClampNeg then none else
  bd1 (
  pm_X7_best_L15 F n_proof v_proof n_disproof v_disproof v_child n_many v_many x1 x2 F (v_child x1.toNatClampNeg) (v_child x1.toNatClampNeg)) fun x3_2 =>
  some x3_2
def pm_X7_grow_L163 (F : Nat) (v_first : Int32) (n_board : Nat) (n_cellOf : Nat) (n_ahead : Nat) (n_proof : Nat) (n_disproof : Nat) (n_child : Nat) (n_many : Nat) (s0_6 : Int32) (v_cellOf_11 : Nat → Int32) (v_ahead_12 : Nat → Int32) (v_child_15 : Nat → Int32) (v_many_16 : Nat → Int32) : Nat → Int32 → Int32 → (Nat → Int32) → (Nat → Int32) → (Nat → Int32) → Option ((Nat → Int32) × (Nat → Int32) × (Nat → Int32))
  | 0, _, _, _, _, _ => none
  | k + 1, x1_24, x2_25, v_board_26, v_proof_27, v_disproof_28 =>
    if x1_24 < 0 then
    some (v_board_26, v_proof_27, v_disproof_28)
    else
    bd2 (
    if s0_6 = 0 then
    some (v_proof_27, v_disproof_28)
    else
    bd1 (
    if x2_25 = v_first then
    some (1 : Int32)
    else
    some (0 : Int32)) fun s2_37 =>
    bd2 (pm_X7_reckon F n_proof v_proof_27 n_disproof v_disproof_28 n_child v_child_15 n_many v_many_16 x1_24 s2_37) fun v_proof_39 v_disproof_40 =>
    some (v_proof_39, v_disproof_40)) fun v_proof_29 v_disproof_30 =>
    bd1 (
    if x1_24 ≤ 0 then
    some v_board_26
    else
    if x1_24 < 0 ∨ n_cellOf ≤ x1_24.toNatClampNeg then none else
    if (v_cellOf_11 x1_24.toNatClampNeg) < 0 ∨ n_board ≤ (v_cellOf_11 x1_24.toNatClampNeg).toNatClampNeg then none else
    some (upd v_board_26 (v_cellOf_11 x1_24.toNatClampNeg).toNatClampNeg (vp_nar .byte (0 : Int32)))) fun v_board_32 =>
    if x1_24 < 0 ∨ n_ahead ≤ x1_24.toNatClampNeg then none else
    pm_X7_grow_L163 F v_first n_board n_cellOf n_ahead n_proof n_disproof n_child n_many s0_6 v_cellOf_11 v_ahead_12 v_child_15 v_many_16 k (v_ahead_12 x1_24.toNatClampNeg) ((3 : Int32) - x2_25) v_board_32 v_proof_29 v_disproof_30
def pm_X7_grow_L94_1 (F : Nat) (v_size : Int32) (v_cells : Int32) (v_first : Int32) (n_board : Nat) (n_cellOf : Nat) (n_ahead : Nat) (n_proof : Nat) (n_disproof : Nat) (n_child : Nat) (n_many : Nat) (n_seen : Nat) (n_wave : Nat) (x1_1 : Int32) (x2_2 : Int32) : Nat → Int32 → Int32 → Int32 → (Nat → Int32) → (Nat → Int32) → (Nat → Int32) → (Nat → Int32) → (Nat → Int32) → (Nat → Int32) → (Nat → Int32) → (Nat → Int32) → (Nat → Int32) → Option (Int32 × Int32 × (Nat → Int32) × (Nat → Int32) × (Nat → Int32) × (Nat → Int32) × (Nat → Int32) × (Nat → Int32) × (Nat → Int32) × (Nat → Int32) × (Nat → Int32))
  | 0, _, _, _, _, _, _, _, _, _, _, _, _ => none
  | k + 1, x4_55, v_nodes_56, v_waves_57, v_board_58, v_cellOf_59, v_ahead_60, v_proof_61, v_disproof_62, v_child_63, v_many_64, v_seen_65, v_wave_66 =>
    if v_cells ≤ x4_55 then
    some (v_nodes_56, v_waves_57, v_board_58, v_cellOf_59, v_ahead_60, v_proof_61, v_disproof_62, v_child_63, v_many_64, v_seen_65, v_wave_66)
    else
    if x4_55 < 0 ∨ n_board ≤ x4_55.toNatClampNeg then none else
    if (v_board_58 x4_55.toNatClampNeg) = 0 then
    bd10 (pm_X7_makeNode F v_size v_cells v_nodes_56 v_waves_57 v_first n_board (upd v_board_58 x4_55.toNatClampNeg (vp_nar .byte x2_2.toInt8.toInt32)) n_cellOf v_cellOf_59 n_ahead v_ahead_60 n_proof v_proof_61 n_disproof v_disproof_62 n_child v_child_63 n_many v_many_64 n_seen v_seen_65 n_wave v_wave_66 x4_55 x1_1) fun v_nodes_68 v_waves_69 v_cellOf_70 v_ahead_71 v_proof_72 v_disproof_73 v_child_74 v_many_75 v_seen_76 v_wave_77 =>
    pm_X7_grow_L94_1 F v_size v_cells v_first n_board n_cellOf n_ahead n_proof n_disproof n_child n_many n_seen n_wave x1_1 x2_2 k (x4_55 + (1 : Int32)) v_nodes_68 v_waves_69 (upd (upd v_board_58 x4_55.toNatClampNeg (vp_nar .byte x2_2.toInt8.toInt32)) x4_55.toNatClampNeg (vp_nar .byte (0 : Int32))) v_cellOf_70 v_ahead_71 v_proof_72 v_disproof_73 v_child_74 v_many_75 v_seen_76 v_wave_77
    else
    pm_X7_grow_L94_1 F v_size v_cells v_first n_board n_cellOf n_ahead n_proof n_disproof n_child n_many n_seen n_wave x1_1 x2_2 k (x4_55 + (1 : Int32)) v_nodes_56 v_waves_57 v_board_58 v_cellOf_59 v_ahead_60 v_proof_61 v_disproof_62 v_child_63 v_many_64 v_seen_65 v_wave_66
def pm_X7_grow_L7 (F : Nat) (v_first : Int32) (n_board : Nat) (n_cellOf : Nat) (v_cellOf : Nat → Int32) (n_proof : Nat) (v_proof : Nat → Int32) (n_disproof : Nat) (v_disproof : Nat → Int32) (n_child : Nat) (v_child : Nat → Int32) (n_many : Nat) (v_many : Nat → Int32) : Nat → Int32 → Int32 → (Nat → Int32) → Option (Int32 × Int32 × (Nat → Int32))
  | 0, _, _, _ => none
  | k + 1, x1_78, x2_79, v_board_80 =>
    if x1_78 < 0 ∨ n_many ≤ x1_78.toNatClampNeg then none else
    if (v_many x1_78.toNatClampNeg) ≤ 0 then
    some (x1_78, x2_79, v_board_80)
    else
    bd1 (
    if x2_79 = v_first then
    some (1 : Int32)
    else
    some (0 : Int32)) fun s2_82 =>
    bd1 (pm_X7_best F n_proof v_proof n_disproof v_disproof n_child v_child n_many v_many x1_78 s2_82) fun r_84 =>
    if r_84 < 0 ∨ n_cellOf ≤ r_84.toNatClampNeg then none else
    if (v_cellOf r_84.toNatClampNeg) < 0 ∨ n_board ≤ (v_cellOf r_84.toNatClampNeg).toNatClampNeg then none else
    pm_X7_grow_L7 F v_first n_board n_cellOf v_cellOf n_proof v_proof n_disproof v_disproof n_child v_child n_many v_many k r_84 ((3 : Int32) - x2_79) (upd v_board_80 (v_cellOf r_84.toNatClampNeg).toNatClampNeg (vp_nar .byte x2_79.toInt8.toInt32))
def pm_X7_grow (F : Nat) (v_size : Int32) (v_cells : Int32) (v_nodes : Int32) (v_budgetOf : Int32) (v_waves : Int32) (v_first : Int32) (n_board : Nat) (v_board : Nat → Int32) (n_cellOf : Nat) (v_cellOf : Nat → Int32) (n_ahead : Nat) (v_ahead : Nat → Int32) (n_proof : Nat) (v_proof : Nat → Int32) (n_disproof : Nat) (v_disproof : Nat → Int32) (n_child : Nat) (v_child : Nat → Int32) (n_many : Nat) (v_many : Nat → Int32) (n_seen : Nat) (v_seen : Nat → Int32) (n_wave : Nat) (v_wave : Nat → Int32) : Option (Int32 × Int32 × Int32 × (Nat → Int32) × (Nat → Int32) × (Nat → Int32) × (Nat → Int32) × (Nat → Int32) × (Nat → Int32) × (Nat → Int32) × (Nat → Int32) × (Nat → Int32)) :=
  bd3 (
  pm_X7_grow_L7 F v_first n_board n_cellOf v_cellOf n_proof v_proof n_disproof v_disproof n_child v_child n_many v_many F (0 : Int32) v_first v_board) fun x1_1 x2_2 v_board_3 =>
  bd1 (pm_X7_empty F v_cells n_board v_board_3) fun r_5 =>
  bd1 (
  if v_budgetOf < (v_nodes + r_5) then
  some (0 : Int32)
  else
  some (1 : Int32)) fun s0_6 =>
  bd11 (
  if s0_6 = 0 then
  some (v_nodes, v_waves, v_board_3, v_cellOf, v_ahead, v_proof, v_disproof, v_child, v_many, v_seen, v_wave)
  else
  if x1_1 < 0 ∨ n_child ≤ x1_1.toNatClampNeg then none else
  bd11 (
  pm_X7_grow_L94_1 F v_size v_cells v_first n_board n_cellOf n_ahead n_proof n_disproof n_child n_many n_seen n_wave x1_1 x2_2 F (0 : Int32) v_nodes v_waves v_board_3 v_cellOf v_ahead v_proof v_disproof (upd v_child x1_1.toNatClampNeg v_nodes) v_many v_seen v_wave) fun v_nodes_42 v_waves_43 v_board_44 v_cellOf_45 v_ahead_46 v_proof_47 v_disproof_48 v_child_49 v_many_50 v_seen_51 v_wave_52 =>
  if x1_1 < 0 ∨ n_many ≤ x1_1.toNatClampNeg then none else
  some (v_nodes_42, v_waves_43, v_board_44, v_cellOf_45, v_ahead_46, v_proof_47, v_disproof_48, v_child_49, upd v_many_50 x1_1.toNatClampNeg (v_nodes_42 - (v_child_49 x1_1.toNatClampNeg)), v_seen_51, v_wave_52)) fun v_nodes_8 v_waves_9 v_board_10 v_cellOf_11 v_ahead_12 v_proof_13 v_disproof_14 v_child_15 v_many_16 v_seen_17 v_wave_18 =>
  bd3 (
  pm_X7_grow_L163 F v_first n_board n_cellOf n_ahead n_proof n_disproof n_child n_many s0_6 v_cellOf_11 v_ahead_12 v_child_15 v_many_16 F x1_1 x2_2 v_board_10 v_proof_13 v_disproof_14) fun v_board_20 v_proof_21 v_disproof_22 =>
  if s0_6 = 0 ∨ s0_6 = 1 then some (s0_6, v_nodes_8, v_waves_9, v_board_20, v_cellOf_11, v_ahead_12, v_proof_21, v_disproof_22, v_child_15, v_many_16, v_seen_17, v_wave_18) else none
def pm_X7_isEnd (F : Nat) (n_proof : Nat) (v_proof : Nat → Int32) (n_disproof : Nat) (v_disproof : Nat → Int32) (n_many : Nat) (v_many : Nat → Int32) (x1 : Int32) : Option (Int32) :=
  if x1 < 0 ∨ n_proof ≤ x1.toNatClampNeg then none else
  if (v_proof x1.toNatClampNeg) = 0 then
  if x1 < 0 ∨ n_disproof ≤ x1.toNatClampNeg then none else
  if (v_disproof x1.toNatClampNeg) = (1000000000 : Int32) then
  if x1 < 0 ∨ n_many ≤ x1.toNatClampNeg then none else
  if (v_many x1.toNatClampNeg) = 0 then
  some (1 : Int32)
  else
  if (v_disproof x1.toNatClampNeg) = 0 then
  if (v_proof x1.toNatClampNeg) = (1000000000 : Int32) then
  if (v_many x1.toNatClampNeg) = 0 then
  some (1 : Int32)
  else
  some (0 : Int32)
  else
  some (0 : Int32)
  else
  some (0 : Int32)
  else
  if (v_disproof x1.toNatClampNeg) = 0 then
  if (v_proof x1.toNatClampNeg) = (1000000000 : Int32) then
  if x1 < 0 ∨ n_many ≤ x1.toNatClampNeg then none else
  if (v_many x1.toNatClampNeg) = 0 then
  some (1 : Int32)
  else
  some (0 : Int32)
  else
  some (0 : Int32)
  else
  some (0 : Int32)
  else
  if x1 < 0 ∨ n_disproof ≤ x1.toNatClampNeg then none else
  if (v_disproof x1.toNatClampNeg) = 0 then
  if (v_proof x1.toNatClampNeg) = (1000000000 : Int32) then
  if x1 < 0 ∨ n_many ≤ x1.toNatClampNeg then none else
  if (v_many x1.toNatClampNeg) = 0 then
  some (1 : Int32)
  else
  some (0 : Int32)
  else
  some (0 : Int32)
  else
  some (0 : Int32)
def pm_X7_isOwn_L7 (F : Nat) (n_ahead : Nat) (v_ahead : Nat → Int32) : Nat → Int32 → Int32 → Option (Int32)
  | 0, _, _ => none
  | k + 1, x2_3, x3_4 =>
    if x3_4 ≤ 0 then
    some x2_3
    else
    if x3_4 < 0 ∨ n_ahead ≤ x3_4.toNatClampNeg then none else
    pm_X7_isOwn_L7 F n_ahead v_ahead k ((3 : Int32) - x2_3) (v_ahead x3_4.toNatClampNeg)
def pm_X7_isOwn (F : Nat) (v_wins : Int32) (v_first : Int32) (n_ahead : Nat) (v_ahead : Nat → Int32) (x1 : Int32) : Option (Int32) :=
  bd1 (
  pm_X7_isOwn_L7 F n_ahead v_ahead F v_first x1) fun x2_1 =>
  if x2_1 = v_wins then
  some (1 : Int32)
  else
  some (0 : Int32)
def pm_X7_isSure (F : Nat) (v_wins : Int32) (v_first : Int32) (n_proof : Nat) (v_proof : Nat → Int32) (n_disproof : Nat) (v_disproof : Nat → Int32) (x1 : Int32) : Option (Int32) :=
  if v_wins = v_first then
  if x1 < 0 ∨ n_proof ≤ x1.toNatClampNeg then none else
  if (v_proof x1.toNatClampNeg) = 0 then
  some (1 : Int32)
  else
  some (0 : Int32)
  else
  if x1 < 0 ∨ n_disproof ≤ x1.toNatClampNeg then none else
  if (v_disproof x1.toNatClampNeg) = 0 then
  some (1 : Int32)
  else
  some (0 : Int32)
def pm_X7_gather_L157_2 (F : Nat) (v_child : Nat → Int32) (n_open : Nat) (n_behind : Nat) (x1_9 : Int32) (v_open_13 : Nat → Int32) (x3_17 : Int32) : Nat → Int32 → Int32 → (Nat → Int32) → (Nat → Int32) → Option (Int32 × (Nat → Int32) × (Nat → Int32))
  | 0, _, _, _, _ => none
  | k + 1, x1_30, x5_31, v_open_32, v_behind_33 =>
    if x5_31 < (v_child (v_open_13 (x1_9 + (-1 : Int32)).toNatClampNeg).toNatClampNeg) then
    some (x1_30, v_open_32, v_behind_33)
    else
    if x1_30 < 0 ∨ n_open ≤ x1_30.toNatClampNeg then none else
    if x1_30 < 0 ∨ n_behind ≤ x1_30.toNatClampNeg then none else
    pm_X7_gather_L157_2 F v_child n_open n_behind x1_9 v_open_13 x3_17 k (x1_30 + (1 : Int32)) (x5_31 + (-1 : Int32)) (upd v_open_32 x1_30.toNatClampNeg x5_31) (upd v_behind_33 x1_30.toNatClampNeg x3_17)
def pm_X7_gather_L108_2 (F : Nat) (v_wins : Int32) (v_first : Int32) (n_proof : Nat) (v_proof : Nat → Int32) (n_disproof : Nat) (v_disproof : Nat → Int32) : Nat → Int32 → Option (Int32)
  | 0, _ => none
  | k + 1, x4_38 =>
    bd1 (pm_X7_isSure F v_wins v_first n_proof v_proof n_disproof v_disproof x4_38) fun r_39 =>
    if r_39 = 0 then
    pm_X7_gather_L108_2 F v_wins v_first n_proof v_proof n_disproof v_disproof k (x4_38 + (1 : Int32))
    else
    some x4_38
def pm_X7_gather_L16 (F : Nat) (v_wins : Int32) (v_first : Int32) (n_cellOf : Nat) (v_cellOf : Nat → Int32) (n_ahead : Nat) (v_ahead : Nat → Int32) (n_proof : Nat) (v_proof : Nat → Int32) (n_disproof : Nat) (v_disproof : Nat → Int32) (n_child : Nat) (v_child : Nat → Int32) (n_many : Nat) (v_many : Nat → Int32) (n_strategyAhead : Nat) (n_strategyCell : Nat) (n_open : Nat) (n_behind : Nat) : Nat → Int32 → Int32 → (Nat → Int32) → (Nat → Int32) → (Nat → Int32) → (Nat → Int32) → Option (Int32 × (Nat → Int32) × (Nat → Int32) × (Nat → Int32) × (Nat → Int32))
  | 0, _, _, _, _, _, _ => none
  | k + 1, x1_9, v_entries_10, v_strategyAhead_11, v_strategyCell_12, v_open_13, v_behind_14 =>
    if x1_9 ≤ 0 then
    some (v_entries_10, v_strategyAhead_11, v_strategyCell_12, v_open_13, v_behind_14)
    else
    if (x1_9 + (-1 : Int32)) < 0 ∨ n_open ≤ (x1_9 + (-1 : Int32)).toNatClampNeg then none else
    if (x1_9 + (-1 : Int32)) < 0 ∨ n_behind ≤ (x1_9 + (-1 : Int32)).toNatClampNeg then none else
    bd4 (
    if (v_open_13 (x1_9 + (-1 : Int32)).toNatClampNeg) ≤ 0 then
    some (v_behind_14 (x1_9 + (-1 : Int32)).toNatClampNeg, v_entries_10, v_strategyAhead_11, v_strategyCell_12)
    else
    if v_entries_10 < 0 ∨ n_strategyAhead ≤ v_entries_10.toNatClampNeg then none else
    if (v_open_13 (x1_9 + (-1 : Int32)).toNatClampNeg) < 0 ∨ n_cellOf ≤ (v_open_13 (x1_9 + (-1 : Int32)).toNatClampNeg).toNatClampNeg then none else
    if v_entries_10 < 0 ∨ n_strategyCell ≤ v_entries_10.toNatClampNeg then none else
    some (v_entries_10, v_entries_10 + (1 : Int32), upd v_strategyAhead_11 v_entries_10.toNatClampNeg (v_behind_14 (x1_9 + (-1 : Int32)).toNatClampNeg), upd v_strategyCell_12 v_entries_10.toNatClampNeg (v_cellOf (v_open_13 (x1_9 + (-1 : Int32)).toNatClampNeg).toNatClampNeg))) fun x3_17 v_entries_18 v_strategyAhead_19 v_strategyCell_20 =>
    bd1 (pm_X7_isEnd F n_proof v_proof n_disproof v_disproof n_many v_many (v_open_13 (x1_9 + (-1 : Int32)).toNatClampNeg)) fun r_22 =>
    if r_22 = 0 then
    if (v_open_13 (x1_9 + (-1 : Int32)).toNatClampNeg) < 0 ∨ n_child ≤ (v_open_13 (x1_9 + (-1 : Int32)).toNatClampNeg).toNatClampNeg then none else
    bd1 (pm_X7_isOwn F v_wins v_first n_ahead v_ahead (v_open_13 (x1_9 + (-1 : Int32)).toNatClampNeg)) fun r_24 =>
    if r_24 = 0 then
    if (v_open_13 (x1_9 + (-1 : Int32)).toNatClampNeg) < 0 ∨ n_many ≤ (v_open_13 (x1_9 + (-1 : Int32)).toNatClampNeg).toNatClampNeg then none else
    bd3 (
    pm_X7_gather_L157_2 F v_child n_open n_behind x1_9 v_open_13 x3_17 F (x1_9 + (-1 : Int32)) (((v_child (v_open_13 (x1_9 + (-1 : Int32)).toNatClampNeg).toNatClampNeg) + (v_many (v_open_13 (x1_9 + (-1 : Int32)).toNatClampNeg).toNatClampNeg)) - (1 : Int32)) v_open_13 v_behind_14) fun x1_26 v_open_27 v_behind_28 =>
    pm_X7_gather_L16 F v_wins v_first n_cellOf v_cellOf n_ahead v_ahead n_proof v_proof n_disproof v_disproof n_child v_child n_many v_many n_strategyAhead n_strategyCell n_open n_behind k x1_26 v_entries_18 v_strategyAhead_19 v_strategyCell_20 v_open_27 v_behind_28
    else
    bd1 (
    pm_X7_gather_L108_2 F v_wins v_first n_proof v_proof n_disproof v_disproof F (v_child (v_open_13 (x1_9 + (-1 : Int32)).toNatClampNeg).toNatClampNeg)) fun x4_36 =>
    pm_X7_gather_L16 F v_wins v_first n_cellOf v_cellOf n_ahead v_ahead n_proof v_proof n_disproof v_disproof n_child v_child n_many v_many n_strategyAhead n_strategyCell n_open n_behind k ((x1_9 + (-1 : Int32)) + (1 : Int32)) v_entries_18 v_strategyAhead_19 v_strategyCell_20 (upd v_open_13 (x1_9 + (-1 : Int32)).toNatClampNeg x4_36) (upd v_behind_14 (x1_9 + (-1 : Int32)).toNatClampNeg x3_17)
    else
    pm_X7_gather_L16 F v_wins v_first n_cellOf v_cellOf n_ahead v_ahead n_proof v_proof n_disproof v_disproof n_child v_child n_many v_many n_strategyAhead n_strategyCell n_open n_behind k (x1_9 + (-1 : Int32)) v_entries_18 v_strategyAhead_19 v_strategyCell_20 v_open_13 v_behind_14
def pm_X7_gather (F : Nat) (v_wins : Int32) (v_entries : Int32) (v_first : Int32) (n_cellOf : Nat) (v_cellOf : Nat → Int32) (n_ahead : Nat) (v_ahead : Nat → Int32) (n_proof : Nat) (v_proof : Nat → Int32) (n_disproof : Nat) (v_disproof : Nat → Int32) (n_child : Nat) (v_child : Nat → Int32) (n_many : Nat) (v_many : Nat → Int32) (n_strategyAhead : Nat) (v_strategyAhead : Nat → Int32) (n_strategyCell : Nat) (v_strategyCell : Nat → Int32) (n_open : Nat) (v_open : Nat → Int32) (n_behind : Nat) (v_behind : Nat → Int32) : Option (Int32 × (Nat → Int32) × (Nat → Int32) × (Nat → Int32) × (Nat → Int32)) :=
  if (0 : Int32) < 0 ∨ n_open ≤ (0 : Int32).toNatClampNeg then none else
  if (0 : Int32) < 0 ∨ n_behind ≤ (0 : Int32).toNatClampNeg then none else
  bd5 (
  pm_X7_gather_L16 F v_wins v_first n_cellOf v_cellOf n_ahead v_ahead n_proof v_proof n_disproof v_disproof n_child v_child n_many v_many n_strategyAhead n_strategyCell n_open n_behind F (1 : Int32) v_entries v_strategyAhead v_strategyCell (upd v_open (0 : Int32).toNatClampNeg (0 : Int32)) (upd v_behind (0 : Int32).toNatClampNeg (-1 : Int32))) fun v_entries_3 v_strategyAhead_4 v_strategyCell_5 v_open_6 v_behind_7 =>
  some (v_entries_3, v_strategyAhead_4, v_strategyCell_5, v_open_6, v_behind_7)
def pm_X7_search_L52 (F : Nat) (v_size : Int32) (v_cells : Int32) (v_turn : Int32) (n_board : Nat) (n_cellOf : Nat) (n_ahead : Nat) (n_proof : Nat) (n_disproof : Nat) (n_child : Nat) (n_many : Nat) (n_seen : Nat) (n_wave : Nat) (x1 : Int32) : Nat → Int32 → Int32 → Int32 → (Nat → Int32) → (Nat → Int32) → (Nat → Int32) → (Nat → Int32) → (Nat → Int32) → (Nat → Int32) → (Nat → Int32) → (Nat → Int32) → (Nat → Int32) → Option (Int32 × Int32 × (Nat → Int32) × (Nat → Int32) × (Nat → Int32) × (Nat → Int32) × (Nat → Int32) × (Nat → Int32) × (Nat → Int32) × (Nat → Int32) × (Nat → Int32))
  | 0, _, _, _, _, _, _, _, _, _, _, _, _ => none
  | k + 1, x2_36, v_nodes_37, v_waves_38, v_board_39, v_cellOf_40, v_ahead_41, v_proof_42, v_disproof_43, v_child_44, v_many_45, v_seen_46, v_wave_47 =>
    if x2_36 = 0 then
    some (v_nodes_37, v_waves_38, v_board_39, v_cellOf_40, v_ahead_41, v_proof_42, v_disproof_43, v_child_44, v_many_45, v_seen_46, v_wave_47)
    else
    if (0 : Int32) < 0 ∨ n_proof ≤ (0 : Int32).toNatClampNeg then none else
    if (v_proof_42 (0 : Int32).toNatClampNeg) = 0 then
    some (v_nodes_37, v_waves_38, v_board_39, v_cellOf_40, v_ahead_41, v_proof_42, v_disproof_43, v_child_44, v_many_45, v_seen_46, v_wave_47)
    else
    if (0 : Int32) < 0 ∨ n_disproof ≤ (0 : Int32).toNatClampNeg then none else
    if (v_disproof_43 (0 : Int32).toNatClampNeg) = 0 then
    some (v_nodes_37, v_waves_38, v_board_39, v_cellOf_40, v_ahead_41, v_proof_42, v_disproof_43, v_child_44, v_many_45, v_seen_46, v_wave_47)
    else
    bd12 (pm_X7_grow F v_size v_cells v_nodes_37 x1 v_waves_38 v_turn n_board v_board_39 n_cellOf v_cellOf_40 n_ahead v_ahead_41 n_proof v_proof_42 n_disproof v_disproof_43 n_child v_child_44 n_many v_many_45 n_seen v_seen_46 n_wave v_wave_47) fun r_50 v_nodes_51 v_waves_52 v_board_53 v_cellOf_54 v_ahead_55 v_proof_56 v_disproof_57 v_child_58 v_many_59 v_seen_60 v_wave_61 =>
    pm_X7_search_L52 F v_size v_cells v_turn n_board n_cellOf n_ahead n_proof n_disproof n_child n_many n_seen n_wave x1 k r_50 v_nodes_51 v_waves_52 v_board_53 v_cellOf_54 v_ahead_55 v_proof_56 v_disproof_57 v_child_58 v_many_59 v_seen_60 v_wave_61
def pm_X7_search (F : Nat) (v_size : Int32) (v_cells : Int32) (v_turn : Int32) (v_nodes : Int32) (v_budgetOf : Int32) (v_wins : Int32) (v_entries : Int32) (v_waves : Int32) (v_first : Int32) (n_board : Nat) (v_board : Nat → Int32) (n_cellOf : Nat) (v_cellOf : Nat → Int32) (n_ahead : Nat) (v_ahead : Nat → Int32) (n_proof : Nat) (v_proof : Nat → Int32) (n_disproof : Nat) (v_disproof : Nat → Int32) (n_child : Nat) (v_child : Nat → Int32) (n_many : Nat) (v_many : Nat → Int32) (n_strategyAhead : Nat) (v_strategyAhead : Nat → Int32) (n_strategyCell : Nat) (v_strategyCell : Nat → Int32) (n_seen : Nat) (v_seen : Nat → Int32) (n_wave : Nat) (v_wave : Nat → Int32) (n_open : Nat) (v_open : Nat → Int32) (n_behind : Nat) (v_behind : Nat → Int32) (x1 : Int32) : Option (Int32 × Int32 × Int32 × Int32 × Int32 × Int32 × Int32 × (Nat → Int32) × (Nat → Int32) × (Nat → Int32) × (Nat → Int32) × (Nat → Int32) × (Nat → Int32) × (Nat → Int32) × (Nat → Int32) × (Nat → Int32) × (Nat → Int32) × (Nat → Int32) × (Nat → Int32) × (Nat → Int32)) :=
  if x1 < (1 : Int32) then
  some ((-1 : Int32), v_nodes, v_budgetOf, v_wins, v_entries, v_waves, v_first, v_board, v_cellOf, v_ahead, v_proof, v_disproof, v_child, v_many, v_strategyAhead, v_strategyCell, v_seen, v_wave, v_open, v_behind)
  else
  if (8000 : Int32) < x1 then
  some ((-1 : Int32), v_nodes, v_budgetOf, v_wins, v_entries, v_waves, v_first, v_board, v_cellOf, v_ahead, v_proof, v_disproof, v_child, v_many, v_strategyAhead, v_strategyCell, v_seen, v_wave, v_open, v_behind)
  else
  bd4 (pm_X7_winner F v_size v_cells n_board v_board n_seen v_seen n_wave v_wave) fun r_1 v_waves_2 v_seen_3 v_wave_4 =>
  if r_1 = 0 then
  bd10 (pm_X7_makeNode F v_size v_cells (0 : Int32) v_waves_2 v_turn n_board v_board n_cellOf v_cellOf n_ahead v_ahead n_proof v_proof n_disproof v_disproof n_child v_child n_many v_many n_seen v_seen_3 n_wave v_wave_4 (-1 : Int32) (-1 : Int32)) fun v_nodes_5 v_waves_6 v_cellOf_7 v_ahead_8 v_proof_9 v_disproof_10 v_child_11 v_many_12 v_seen_13 v_wave_14 =>
  bd11 (
  pm_X7_search_L52 F v_size v_cells v_turn n_board n_cellOf n_ahead n_proof n_disproof n_child n_many n_seen n_wave x1 F (1 : Int32) v_nodes_5 v_waves_6 v_board v_cellOf_7 v_ahead_8 v_proof_9 v_disproof_10 v_child_11 v_many_12 v_seen_13 v_wave_14) fun v_nodes_15 v_waves_16 v_board_17 v_cellOf_18 v_ahead_19 v_proof_20 v_disproof_21 v_child_22 v_many_23 v_seen_24 v_wave_25 =>
  if (0 : Int32) < 0 ∨ n_proof ≤ (0 : Int32).toNatClampNeg then none else
  bd1 (
  if (v_proof_20 (0 : Int32).toNatClampNeg) = 0 then
  some v_turn
  else
  if (0 : Int32) < 0 ∨ n_disproof ≤ (0 : Int32).toNatClampNeg then none else
  if (v_disproof_21 (0 : Int32).toNatClampNeg) = 0 then
  some ((3 : Int32) - v_turn)
  else
  some (0 : Int32)) fun s1_28 =>
  if s1_28 = 0 then
  some (s1_28, v_nodes_15, x1, s1_28, (0 : Int32), v_waves_16, v_turn, v_board_17, v_cellOf_18, v_ahead_19, v_proof_20, v_disproof_21, v_child_22, v_many_23, v_strategyAhead, v_strategyCell, v_seen_24, v_wave_25, v_open, v_behind)
  else
  bd5 (pm_X7_gather F s1_28 (0 : Int32) v_turn n_cellOf v_cellOf_18 n_ahead v_ahead_19 n_proof v_proof_20 n_disproof v_disproof_21 n_child v_child_22 n_many v_many_23 n_strategyAhead v_strategyAhead n_strategyCell v_strategyCell n_open v_open n_behind v_behind) fun v_entries_30 v_strategyAhead_31 v_strategyCell_32 v_open_33 v_behind_34 =>
  some (s1_28, v_nodes_15, x1, s1_28, v_entries_30, v_waves_16, v_turn, v_board_17, v_cellOf_18, v_ahead_19, v_proof_20, v_disproof_21, v_child_22, v_many_23, v_strategyAhead_31, v_strategyCell_32, v_seen_24, v_wave_25, v_open_33, v_behind_34)
  else
  some ((-1 : Int32), v_nodes, v_budgetOf, v_wins, v_entries, v_waves_2, v_first, v_board, v_cellOf, v_ahead, v_proof, v_disproof, v_child, v_many, v_strategyAhead, v_strategyCell, v_seen_3, v_wave_4, v_open, v_behind)
def pm_X7_node (F : Nat) (v_nodes : Int32) (n_cellOf : Nat) (v_cellOf : Nat → Int32) (n_ahead : Nat) (v_ahead : Nat → Int32) (n_proof : Nat) (v_proof : Nat → Int32) (n_disproof : Nat) (v_disproof : Nat → Int32) (n_child : Nat) (v_child : Nat → Int32) (n_many : Nat) (v_many : Nat → Int32) (x1 : Int32) (x2 : Int32) : Option (Int32) :=
  if x1 < 0 then
  some (-1 : Int32)
  else
  if x1 < v_nodes then
  if x2 = (0 : Int32) then
  if x1 < 0 ∨ n_cellOf ≤ x1.toNatClampNeg then none else
  some (v_cellOf x1.toNatClampNeg)
  else
  if x2 = (1 : Int32) then
  if x1 < 0 ∨ n_ahead ≤ x1.toNatClampNeg then none else
  some (v_ahead x1.toNatClampNeg)
  else
  if x2 = (2 : Int32) then
  if x1 < 0 ∨ n_proof ≤ x1.toNatClampNeg then none else
  some (v_proof x1.toNatClampNeg)
  else
  if x2 = (3 : Int32) then
  if x1 < 0 ∨ n_disproof ≤ x1.toNatClampNeg then none else
  some (v_disproof x1.toNatClampNeg)
  else
  if x2 = (4 : Int32) then
  if x1 < 0 ∨ n_child ≤ x1.toNatClampNeg then none else
  some (v_child x1.toNatClampNeg)
  else
  if x2 = (5 : Int32) then
  if x1 < 0 ∨ n_many ≤ x1.toNatClampNeg then none else
  some (v_many x1.toNatClampNeg)
  else
  some (-1 : Int32)
  else
  some (-1 : Int32)
def pm_X7_strategy (F : Nat) (v_entries : Int32) (n_strategyAhead : Nat) (v_strategyAhead : Nat → Int32) (n_strategyCell : Nat) (v_strategyCell : Nat → Int32) (x1 : Int32) (x2 : Int32) : Option (Int32) :=
  if x1 < 0 then
  some (-3 : Int32)
  else
  if v_entries ≤ x1 then
  some (-3 : Int32)
  else
  if x2 < 0 then
  some (-3 : Int32)
  else
  if x2 ≤ (1 : Int32) then
  if x2 = 0 then
  if x1 < 0 ∨ n_strategyAhead ≤ x1.toNatClampNeg then none else
  some (v_strategyAhead x1.toNatClampNeg)
  else
  if x1 < 0 ∨ n_strategyCell ≤ x1.toNatClampNeg then none else
  some (v_strategyCell x1.toNatClampNeg)
  else
  some (-3 : Int32)
def pm_X7_load_L2 (F : Nat) (v_entries : Int32) (n_strategyAhead : Nat) (v_strategyAhead : Nat → Int32) (n_strategyCell : Nat) (v_strategyCell : Nat → Int32) (n_treeAhead : Nat) (n_treeCell : Nat) : Nat → Int32 → (Nat → Int32) → (Nat → Int32) → Option ((Nat → Int32) × (Nat → Int32))
  | 0, _, _, _ => none
  | k + 1, x1_4, v_treeAhead_5, v_treeCell_6 =>
    if v_entries ≤ x1_4 then
    some (v_treeAhead_5, v_treeCell_6)
    else
    if x1_4 < 0 ∨ n_strategyAhead ≤ x1_4.toNatClampNeg then none else
    if x1_4 < 0 ∨ n_treeAhead ≤ x1_4.toNatClampNeg then none else
    if x1_4 < 0 ∨ n_strategyCell ≤ x1_4.toNatClampNeg then none else
    if x1_4 < 0 ∨ n_treeCell ≤ x1_4.toNatClampNeg then none else
    pm_X7_load_L2 F v_entries n_strategyAhead v_strategyAhead n_strategyCell v_strategyCell n_treeAhead n_treeCell k (x1_4 + (1 : Int32)) (upd v_treeAhead_5 x1_4.toNatClampNeg (v_strategyAhead x1_4.toNatClampNeg)) (upd v_treeCell_6 x1_4.toNatClampNeg (v_strategyCell x1_4.toNatClampNeg))
def pm_X7_load (F : Nat) (v_entries : Int32) (n_strategyAhead : Nat) (v_strategyAhead : Nat → Int32) (n_strategyCell : Nat) (v_strategyCell : Nat → Int32) (n_treeAhead : Nat) (v_treeAhead : Nat → Int32) (n_treeCell : Nat) (v_treeCell : Nat → Int32) : Option (Int32 × Int32 × (Nat → Int32) × (Nat → Int32)) :=
  bd2 (
  pm_X7_load_L2 F v_entries n_strategyAhead v_strategyAhead n_strategyCell v_strategyCell n_treeAhead n_treeCell F (0 : Int32) v_treeAhead v_treeCell) fun v_treeAhead_1 v_treeCell_2 =>
  some (v_entries, v_entries, v_treeAhead_1, v_treeCell_2)
def pm_X7_plant (F : Nat) (v_planted : Int32) (n_treeAhead : Nat) (v_treeAhead : Nat → Int32) (n_treeCell : Nat) (v_treeCell : Nat → Int32) (x1 : Int32) (x2 : Int32) : Option (Int32 × Int32 × (Nat → Int32) × (Nat → Int32)) :=
  if v_planted = (8000 : Int32) then
  some ((-1 : Int32), v_planted, v_treeAhead, v_treeCell)
  else
  if x1 < (-1 : Int32) then
  some ((-1 : Int32), v_planted, v_treeAhead, v_treeCell)
  else
  if x1 < v_planted then
  if v_planted < 0 ∨ n_treeAhead ≤ v_planted.toNatClampNeg then none else
  if v_planted < 0 ∨ n_treeCell ≤ v_planted.toNatClampNeg then none else
  some ((v_planted + (1 : Int32)) - (1 : Int32), v_planted + (1 : Int32), upd v_treeAhead v_planted.toNatClampNeg x1, upd v_treeCell v_planted.toNatClampNeg x2)
  else
  some ((-1 : Int32), v_planted, v_treeAhead, v_treeCell)
def pm_X7_graft (F : Nat) (v_planted : Int32) (n_treeCell : Nat) (v_treeCell : Nat → Int32) (x1 : Int32) (x2 : Int32) : Option (Int32 × (Nat → Int32)) :=
  if x1 < 0 then
  some ((0 : Int32), v_treeCell)
  else
  if x1 < v_planted then
  if x1 < 0 ∨ n_treeCell ≤ x1.toNatClampNeg then none else
  some ((1 : Int32), upd v_treeCell x1.toNatClampNeg x2)
  else
  some ((0 : Int32), v_treeCell)
def pm_X7_prune (F : Nat) (v_planted : Int32) (x1 : Int32) : Option (Int32 × Int32) :=
  if x1 < 0 then
  some ((-1 : Int32), v_planted)
  else
  if x1 ≤ v_planted then
  some (x1, x1)
  else
  some ((-1 : Int32), v_planted)
def pm_X7_link_L30 (F : Nat) (n_treeAhead : Nat) (v_treeAhead : Nat → Int32) (n_heir : Nat) (n_beside : Nat) : Nat → Int32 → (Nat → Int32) → (Nat → Int32) → Option ((Nat → Int32) × (Nat → Int32))
  | 0, _, _, _ => none
  | k + 1, x1_6, v_heir_7, v_beside_8 =>
    if x1_6 < 0 then
    some (v_heir_7, v_beside_8)
    else
    if x1_6 < 0 ∨ n_treeAhead ≤ x1_6.toNatClampNeg then none else
    if ((v_treeAhead x1_6.toNatClampNeg) + (1 : Int32)) < 0 ∨ n_heir ≤ ((v_treeAhead x1_6.toNatClampNeg) + (1 : Int32)).toNatClampNeg then none else
    if x1_6 < 0 ∨ n_beside ≤ x1_6.toNatClampNeg then none else
    pm_X7_link_L30 F n_treeAhead v_treeAhead n_heir n_beside k (x1_6 + (-1 : Int32)) (upd v_heir_7 ((v_treeAhead x1_6.toNatClampNeg) + (1 : Int32)).toNatClampNeg x1_6) (upd v_beside_8 x1_6.toNatClampNeg (v_heir_7 ((v_treeAhead x1_6.toNatClampNeg) + (1 : Int32)).toNatClampNeg))
def pm_X7_link_L2 (F : Nat) (v_planted : Int32) (n_heir : Nat) : Nat → Int32 → (Nat → Int32) → Option ((Nat → Int32))
  | 0, _, _ => none
  | k + 1, x1_12, v_heir_13 =>
    if v_planted < x1_12 then
    some v_heir_13
    else
    if x1_12 < 0 ∨ n_heir ≤ x1_12.toNatClampNeg then none else
    pm_X7_link_L2 F v_planted n_heir k (x1_12 + (1 : Int32)) (upd v_heir_13 x1_12.toNatClampNeg (-1 : Int32))
def pm_X7_link (F : Nat) (v_planted : Int32) (n_treeAhead : Nat) (v_treeAhead : Nat → Int32) (n_heir : Nat) (v_heir : Nat → Int32) (n_beside : Nat) (v_beside : Nat → Int32) : Option ((Nat → Int32) × (Nat → Int32)) :=
  bd1 (
  pm_X7_link_L2 F v_planted n_heir F (0 : Int32) v_heir) fun v_heir_1 =>
  bd2 (
  pm_X7_link_L30 F n_treeAhead v_treeAhead n_heir n_beside F (v_planted - (1 : Int32)) v_heir_1 v_beside) fun v_heir_3 v_beside_4 =>
  some (v_heir_3, v_beside_4)
def pm_X7_isFree (F : Nat) (v_cells : Int32) (n_board : Nat) (v_board : Nat → Int32) (x1 : Int32) : Option (Int32) :=
  if x1 < 0 then
  some (0 : Int32)
  else
  if v_cells ≤ x1 then
  some (0 : Int32)
  else
  if x1 < 0 ∨ n_board ≤ x1.toNatClampNeg then none else
  if (v_board x1.toNatClampNeg) = 0 then
  some (1 : Int32)
  else
  some (0 : Int32)
def pm_X7_wrongBehind_L43 (F : Nat) (v_cells : Int32) (n_board : Nat) (v_board : Nat → Int32) (n_treeCell : Nat) (v_treeCell : Nat → Int32) (n_seen : Nat) (n_wave : Nat) (n_beside : Nat) (v_beside : Nat → Int32) : Nat → Int32 → Int32 → Int32 → Int32 → (Nat → Int32) → (Nat → Int32) → Option (Int32 × Int32 × Int32 × (Nat → Int32) × (Nat → Int32))
  | 0, _, _, _, _, _, _ => none
  | k + 1, x3_11, x4_12, x5_13, v_waves_14, v_seen_15, v_wave_16 =>
    if x3_11 < 0 then
    some (x4_12, x5_13, v_waves_14, v_seen_15, v_wave_16)
    else
    if x5_13 = 0 then
    some (x4_12, x5_13, v_waves_14, v_seen_15, v_wave_16)
    else
    if x3_11 < 0 ∨ n_treeCell ≤ x3_11.toNatClampNeg then none else
    bd1 (pm_X7_isFree F v_cells n_board v_board (v_treeCell x3_11.toNatClampNeg)) fun r_18 =>
    bd1 (
    if r_18 = 0 then
    some (0 : Int32)
    else
    if (v_treeCell x3_11.toNatClampNeg) < 0 ∨ n_seen ≤ (v_treeCell x3_11.toNatClampNeg).toNatClampNeg then none else
    if (v_seen_15 (v_treeCell x3_11.toNatClampNeg).toNatClampNeg) = 0 then
    some (1 : Int32)
    else
    some (0 : Int32)) fun s0_19 =>
    bd3 (
    if s0_19 = 0 then
    some (v_waves_14, v_seen_15, v_wave_16)
    else
    bd3 (pm_X7_reach F v_waves_14 n_seen v_seen_15 n_wave v_wave_16 (v_treeCell x3_11.toNatClampNeg)) fun v_waves_26 v_seen_27 v_wave_28 =>
    some (v_waves_26, v_seen_27, v_wave_28)) fun v_waves_21 v_seen_22 v_wave_23 =>
    if x3_11 < 0 ∨ n_beside ≤ x3_11.toNatClampNeg then none else
    pm_X7_wrongBehind_L43 F v_cells n_board v_board n_treeCell v_treeCell n_seen n_wave n_beside v_beside k (v_beside x3_11.toNatClampNeg) (x4_12 + (-1 : Int32)) s0_19 v_waves_21 v_seen_22 v_wave_23
def pm_X7_wrongBehind (F : Nat) (v_cells : Int32) (v_waves : Int32) (n_board : Nat) (v_board : Nat → Int32) (n_treeCell : Nat) (v_treeCell : Nat → Int32) (n_seen : Nat) (v_seen : Nat → Int32) (n_wave : Nat) (v_wave : Nat → Int32) (n_heir : Nat) (v_heir : Nat → Int32) (n_beside : Nat) (v_beside : Nat → Int32) (x1 : Int32) (x2 : Int32) : Option (Int32 × Int32 × (Nat → Int32) × (Nat → Int32)) :=
  if x1 < 0 ∨ n_heir ≤ x1.toNatClampNeg then none else
  if x2 = 0 then
  bd2 (pm_X7_forget F n_seen v_seen) fun v_waves_2 v_seen_3 =>
  bd1 (pm_X7_empty F v_cells n_board v_board) fun r_4 =>
  bd5 (
  pm_X7_wrongBehind_L43 F v_cells n_board v_board n_treeCell v_treeCell n_seen n_wave n_beside v_beside F (v_heir x1.toNatClampNeg) r_4 (1 : Int32) v_waves_2 v_seen_3 v_wave) fun x4_5 x5_6 v_waves_7 v_seen_8 v_wave_9 =>
  if x5_6 = 0 then
  some ((4 : Int32), v_waves_7, v_seen_8, v_wave_9)
  else
  if x4_5 = 0 then
  some ((0 : Int32), v_waves_7, v_seen_8, v_wave_9)
  else
  some ((4 : Int32), v_waves_7, v_seen_8, v_wave_9)
  else
  if (v_heir x1.toNatClampNeg) < 0 then
  some ((3 : Int32), v_waves, v_seen, v_wave)
  else
  if (v_heir x1.toNatClampNeg) < 0 ∨ n_beside ≤ (v_heir x1.toNatClampNeg).toNatClampNeg then none else
  if 0 ≤ (v_beside (v_heir x1.toNatClampNeg).toNatClampNeg) then
  some ((3 : Int32), v_waves, v_seen, v_wave)
  else
  some ((0 : Int32), v_waves, v_seen, v_wave)
def pm_X7_wrong (F : Nat) (v_size : Int32) (v_cells : Int32) (n_board : Nat) (v_board : Nat → Int32) (n_treeCell : Nat) (v_treeCell : Nat → Int32) (n_seen : Nat) (v_seen : Nat → Int32) (n_wave : Nat) (v_wave : Nat → Int32) (n_heir : Nat) (v_heir : Nat → Int32) (n_beside : Nat) (v_beside : Nat → Int32) (x1 : Int32) (x2 : Int32) (x3 : Int32) : Option (Int32 × Int32 × (Nat → Int32) × (Nat → Int32)) :=
  bd4 (pm_X7_winner F v_size v_cells n_board v_board n_seen v_seen n_wave v_wave) fun r_1 v_waves_2 v_seen_3 v_wave_4 =>
  if r_1 = ((3 : Int32) - x2) then
  some ((5 : Int32), v_waves_2, v_seen_3, v_wave_4)
  else
  if r_1 = x2 then
  if (x1 + (1 : Int32)) < 0 ∨ n_heir ≤ (x1 + (1 : Int32)).toNatClampNeg then none else
  if (v_heir (x1 + (1 : Int32)).toNatClampNeg) < 0 then
  some ((0 : Int32), v_waves_2, v_seen_3, v_wave_4)
  else
  some ((2 : Int32), v_waves_2, v_seen_3, v_wave_4)
  else
  bd4 (pm_X7_wrongBehind F v_cells v_waves_2 n_board v_board n_treeCell v_treeCell n_seen v_seen_3 n_wave v_wave_4 n_heir v_heir n_beside v_beside (x1 + (1 : Int32)) x3) fun r_5 v_waves_6 v_seen_7 v_wave_8 =>
  some (r_5, v_waves_6, v_seen_7, v_wave_8)
def pm_X7_check_L243 (F : Nat) (n_board : Nat) (n_treeCell : Nat) (v_treeCell : Nat → Int32) (n_wave2 : Nat) (v_wave2_21 : Nat → Int32) : Nat → Int32 → (Nat → Int32) → Option ((Nat → Int32))
  | 0, _, _ => none
  | k + 1, x5_25, v_board_26 =>
    if x5_25 ≤ 0 then
    some v_board_26
    else
    if (x5_25 + (-1 : Int32)) < 0 ∨ n_wave2 ≤ (x5_25 + (-1 : Int32)).toNatClampNeg then none else
    if (v_wave2_21 (x5_25 + (-1 : Int32)).toNatClampNeg) < 0 ∨ n_treeCell ≤ (v_wave2_21 (x5_25 + (-1 : Int32)).toNatClampNeg).toNatClampNeg then none else
    if (v_treeCell (v_wave2_21 (x5_25 + (-1 : Int32)).toNatClampNeg).toNatClampNeg) < 0 ∨ n_board ≤ (v_treeCell (v_wave2_21 (x5_25 + (-1 : Int32)).toNatClampNeg).toNatClampNeg).toNatClampNeg then none else
    pm_X7_check_L243 F n_board n_treeCell v_treeCell n_wave2 v_wave2_21 k (x5_25 + (-1 : Int32)) (upd v_board_26 (v_treeCell (v_wave2_21 (x5_25 + (-1 : Int32)).toNatClampNeg).toNatClampNeg).toNatClampNeg (vp_nar .byte (0 : Int32)))
def pm_X7_check_L185_2 (F : Nat) (n_board : Nat) (n_treeCell : Nat) (v_treeCell : Nat → Int32) (n_beside : Nat) (n_wave2 : Nat) (v_beside_6 : Nat → Int32) (x4_32 : Int32) (x5_33 : Int32) (v_wave2_38 : Nat → Int32) : Nat → Int32 → Int32 → Int32 → (Nat → Int32) → Option (Int32 × Int32 × Int32 × (Nat → Int32))
  | 0, _, _, _, _ => none
  | k + 1, x2_55, x5_56, x8_57, v_board_58 =>
    if 0 ≤ x8_57 then
    some (x2_55, x5_56, x8_57, v_board_58)
    else
    if x5_56 ≤ 0 then
    some (x2_55, x5_56, x8_57, v_board_58)
    else
    if (x5_56 + (-1 : Int32)) < 0 ∨ n_wave2 ≤ (x5_56 + (-1 : Int32)).toNatClampNeg then none else
    if ((upd v_wave2_38 x5_33.toNatClampNeg x4_32) (x5_56 + (-1 : Int32)).toNatClampNeg) < 0 ∨ n_treeCell ≤ ((upd v_wave2_38 x5_33.toNatClampNeg x4_32) (x5_56 + (-1 : Int32)).toNatClampNeg).toNatClampNeg then none else
    if (v_treeCell ((upd v_wave2_38 x5_33.toNatClampNeg x4_32) (x5_56 + (-1 : Int32)).toNatClampNeg).toNatClampNeg) < 0 ∨ n_board ≤ (v_treeCell ((upd v_wave2_38 x5_33.toNatClampNeg x4_32) (x5_56 + (-1 : Int32)).toNatClampNeg).toNatClampNeg).toNatClampNeg then none else
    if ((upd v_wave2_38 x5_33.toNatClampNeg x4_32) (x5_56 + (-1 : Int32)).toNatClampNeg) < 0 ∨ n_beside ≤ ((upd v_wave2_38 x5_33.toNatClampNeg x4_32) (x5_56 + (-1 : Int32)).toNatClampNeg).toNatClampNeg then none else
    pm_X7_check_L185_2 F n_board n_treeCell v_treeCell n_beside n_wave2 v_beside_6 x4_32 x5_33 v_wave2_38 k ((3 : Int32) - x2_55) (x5_56 + (-1 : Int32)) (v_beside_6 ((upd v_wave2_38 x5_33.toNatClampNeg x4_32) (x5_56 + (-1 : Int32)).toNatClampNeg).toNatClampNeg) (upd v_board_58 (v_treeCell ((upd v_wave2_38 x5_33.toNatClampNeg x4_32) (x5_56 + (-1 : Int32)).toNatClampNeg).toNatClampNeg).toNatClampNeg (vp_nar .byte (0 : Int32)))
def pm_X7_check_L66 (F : Nat) (v_size : Int32) (v_cells : Int32) (n_board : Nat) (n_treeCell : Nat) (v_treeCell : Nat → Int32) (n_seen : Nat) (n_wave : Nat) (n_heir : Nat) (n_beside : Nat) (n_wave2 : Nat) (x1 : Int32) (v_heir_5 : Nat → Int32) (v_beside_6 : Nat → Int32) : Nat → Int32 → Int32 → Int32 → Int32 → Int32 → (Nat → Int32) → (Nat → Int32) → (Nat → Int32) → (Nat → Int32) → Option (Int32 × Int32 × Int32 × (Nat → Int32) × (Nat → Int32) × (Nat → Int32) × (Nat → Int32))
  | 0, _, _, _, _, _, _, _, _, _ => none
  | k + 1, x2_30, x3_31, x4_32, x5_33, v_waves_34, v_board_35, v_seen_36, v_wave_37, v_wave2_38 =>
    if x4_32 < 0 then
    some (x3_31, x5_33, v_waves_34, v_board_35, v_seen_36, v_wave_37, v_wave2_38)
    else
    if x3_31 = 0 then
    if x4_32 < 0 ∨ n_treeCell ≤ x4_32.toNatClampNeg then none else
    bd1 (pm_X7_isFree F v_cells n_board v_board_35 (v_treeCell x4_32.toNatClampNeg)) fun r_40 =>
    if r_40 = 0 then
    pm_X7_check_L66 F v_size v_cells n_board n_treeCell v_treeCell n_seen n_wave n_heir n_beside n_wave2 x1 v_heir_5 v_beside_6 k x2_30 ((1 : Int32) + ((16 : Int32) * (x4_32 + (1 : Int32)))) x4_32 x5_33 v_waves_34 v_board_35 v_seen_36 v_wave_37 v_wave2_38
    else
    if (v_treeCell x4_32.toNatClampNeg) < 0 ∨ n_board ≤ (v_treeCell x4_32.toNatClampNeg).toNatClampNeg then none else
    if x5_33 < 0 ∨ n_wave2 ≤ x5_33.toNatClampNeg then none else
    bd1 (
    if ((3 : Int32) - x2_30) = x1 then
    some (1 : Int32)
    else
    some (0 : Int32)) fun s3_43 =>
    bd4 (pm_X7_wrong F v_size v_cells n_board (upd v_board_35 (v_treeCell x4_32.toNatClampNeg).toNatClampNeg (vp_nar .byte x2_30.toInt8.toInt32)) n_treeCell v_treeCell n_seen v_seen_36 n_wave v_wave_37 n_heir v_heir_5 n_beside v_beside_6 x4_32 x1 s3_43) fun r_45 v_waves_46 v_seen_47 v_wave_48 =>
    if r_45 = 0 then
    if (x4_32 + (1 : Int32)) < 0 ∨ n_heir ≤ (x4_32 + (1 : Int32)).toNatClampNeg then none else
    bd4 (
    pm_X7_check_L185_2 F n_board n_treeCell v_treeCell n_beside n_wave2 v_beside_6 x4_32 x5_33 v_wave2_38 F ((3 : Int32) - x2_30) (x5_33 + (1 : Int32)) (v_heir_5 (x4_32 + (1 : Int32)).toNatClampNeg) (upd v_board_35 (v_treeCell x4_32.toNatClampNeg).toNatClampNeg (vp_nar .byte x2_30.toInt8.toInt32))) fun x2_50 x5_51 x8_52 v_board_53 =>
    pm_X7_check_L66 F v_size v_cells n_board n_treeCell v_treeCell n_seen n_wave n_heir n_beside n_wave2 x1 v_heir_5 v_beside_6 k x2_50 x3_31 x8_52 x5_51 v_waves_46 v_board_53 v_seen_47 v_wave_48 (upd v_wave2_38 x5_33.toNatClampNeg x4_32)
    else
    pm_X7_check_L66 F v_size v_cells n_board n_treeCell v_treeCell n_seen n_wave n_heir n_beside n_wave2 x1 v_heir_5 v_beside_6 k ((3 : Int32) - x2_30) (r_45 + ((16 : Int32) * (x4_32 + (1 : Int32)))) x4_32 (x5_33 + (1 : Int32)) v_waves_46 (upd v_board_35 (v_treeCell x4_32.toNatClampNeg).toNatClampNeg (vp_nar .byte x2_30.toInt8.toInt32)) v_seen_47 v_wave_48 (upd v_wave2_38 x5_33.toNatClampNeg x4_32)
    else
    some (x3_31, x5_33, v_waves_34, v_board_35, v_seen_36, v_wave_37, v_wave2_38)
def pm_X7_check_L243_1 (F : Nat) (n_board : Nat) (n_treeCell : Nat) (v_treeCell : Nat → Int32) (n_wave2 : Nat) (v_wave2_84 : Nat → Int32) : Nat → Int32 → (Nat → Int32) → Option ((Nat → Int32))
  | 0, _, _ => none
  | k + 1, x5_88, v_board_89 =>
    if x5_88 ≤ 0 then
    some v_board_89
    else
    if (x5_88 + (-1 : Int32)) < 0 ∨ n_wave2 ≤ (x5_88 + (-1 : Int32)).toNatClampNeg then none else
    if (v_wave2_84 (x5_88 + (-1 : Int32)).toNatClampNeg) < 0 ∨ n_treeCell ≤ (v_wave2_84 (x5_88 + (-1 : Int32)).toNatClampNeg).toNatClampNeg then none else
    if (v_treeCell (v_wave2_84 (x5_88 + (-1 : Int32)).toNatClampNeg).toNatClampNeg) < 0 ∨ n_board ≤ (v_treeCell (v_wave2_84 (x5_88 + (-1 : Int32)).toNatClampNeg).toNatClampNeg).toNatClampNeg then none else
    pm_X7_check_L243_1 F n_board n_treeCell v_treeCell n_wave2 v_wave2_84 k (x5_88 + (-1 : Int32)) (upd v_board_89 (v_treeCell (v_wave2_84 (x5_88 + (-1 : Int32)).toNatClampNeg).toNatClampNeg).toNatClampNeg (vp_nar .byte (0 : Int32)))
def pm_X7_check_L185_5 (F : Nat) (n_board : Nat) (n_treeCell : Nat) (v_treeCell : Nat → Int32) (n_beside : Nat) (n_wave2 : Nat) (v_beside_69 : Nat → Int32) (x4_95 : Int32) (x5_96 : Int32) (v_wave2_101 : Nat → Int32) : Nat → Int32 → Int32 → Int32 → (Nat → Int32) → Option (Int32 × Int32 × Int32 × (Nat → Int32))
  | 0, _, _, _, _ => none
  | k + 1, x2_118, x5_119, x8_120, v_board_121 =>
    if 0 ≤ x8_120 then
    some (x2_118, x5_119, x8_120, v_board_121)
    else
    if x5_119 ≤ 0 then
    some (x2_118, x5_119, x8_120, v_board_121)
    else
    if (x5_119 + (-1 : Int32)) < 0 ∨ n_wave2 ≤ (x5_119 + (-1 : Int32)).toNatClampNeg then none else
    if ((upd v_wave2_101 x5_96.toNatClampNeg x4_95) (x5_119 + (-1 : Int32)).toNatClampNeg) < 0 ∨ n_treeCell ≤ ((upd v_wave2_101 x5_96.toNatClampNeg x4_95) (x5_119 + (-1 : Int32)).toNatClampNeg).toNatClampNeg then none else
    if (v_treeCell ((upd v_wave2_101 x5_96.toNatClampNeg x4_95) (x5_119 + (-1 : Int32)).toNatClampNeg).toNatClampNeg) < 0 ∨ n_board ≤ (v_treeCell ((upd v_wave2_101 x5_96.toNatClampNeg x4_95) (x5_119 + (-1 : Int32)).toNatClampNeg).toNatClampNeg).toNatClampNeg then none else
    if ((upd v_wave2_101 x5_96.toNatClampNeg x4_95) (x5_119 + (-1 : Int32)).toNatClampNeg) < 0 ∨ n_beside ≤ ((upd v_wave2_101 x5_96.toNatClampNeg x4_95) (x5_119 + (-1 : Int32)).toNatClampNeg).toNatClampNeg then none else
    pm_X7_check_L185_5 F n_board n_treeCell v_treeCell n_beside n_wave2 v_beside_69 x4_95 x5_96 v_wave2_101 k ((3 : Int32) - x2_118) (x5_119 + (-1 : Int32)) (v_beside_69 ((upd v_wave2_101 x5_96.toNatClampNeg x4_95) (x5_119 + (-1 : Int32)).toNatClampNeg).toNatClampNeg) (upd v_board_121 (v_treeCell ((upd v_wave2_101 x5_96.toNatClampNeg x4_95) (x5_119 + (-1 : Int32)).toNatClampNeg).toNatClampNeg).toNatClampNeg (vp_nar .byte (0 : Int32)))
def pm_X7_check_L66_1 (F : Nat) (v_size : Int32) (v_cells : Int32) (n_board : Nat) (n_treeCell : Nat) (v_treeCell : Nat → Int32) (n_seen : Nat) (n_wave : Nat) (n_heir : Nat) (n_beside : Nat) (n_wave2 : Nat) (x1 : Int32) (v_heir_68 : Nat → Int32) (v_beside_69 : Nat → Int32) : Nat → Int32 → Int32 → Int32 → Int32 → Int32 → (Nat → Int32) → (Nat → Int32) → (Nat → Int32) → (Nat → Int32) → Option (Int32 × Int32 × Int32 × (Nat → Int32) × (Nat → Int32) × (Nat → Int32) × (Nat → Int32))
  | 0, _, _, _, _, _, _, _, _, _ => none
  | k + 1, x2_93, x3_94, x4_95, x5_96, v_waves_97, v_board_98, v_seen_99, v_wave_100, v_wave2_101 =>
    if x4_95 < 0 then
    some (x3_94, x5_96, v_waves_97, v_board_98, v_seen_99, v_wave_100, v_wave2_101)
    else
    if x3_94 = 0 then
    if x4_95 < 0 ∨ n_treeCell ≤ x4_95.toNatClampNeg then none else
    bd1 (pm_X7_isFree F v_cells n_board v_board_98 (v_treeCell x4_95.toNatClampNeg)) fun r_103 =>
    if r_103 = 0 then
    pm_X7_check_L66_1 F v_size v_cells n_board n_treeCell v_treeCell n_seen n_wave n_heir n_beside n_wave2 x1 v_heir_68 v_beside_69 k x2_93 ((1 : Int32) + ((16 : Int32) * (x4_95 + (1 : Int32)))) x4_95 x5_96 v_waves_97 v_board_98 v_seen_99 v_wave_100 v_wave2_101
    else
    if (v_treeCell x4_95.toNatClampNeg) < 0 ∨ n_board ≤ (v_treeCell x4_95.toNatClampNeg).toNatClampNeg then none else
    if x5_96 < 0 ∨ n_wave2 ≤ x5_96.toNatClampNeg then none else
    bd1 (
    if ((3 : Int32) - x2_93) = x1 then
    some (1 : Int32)
    else
    some (0 : Int32)) fun s3_106 =>
    bd4 (pm_X7_wrong F v_size v_cells n_board (upd v_board_98 (v_treeCell x4_95.toNatClampNeg).toNatClampNeg (vp_nar .byte x2_93.toInt8.toInt32)) n_treeCell v_treeCell n_seen v_seen_99 n_wave v_wave_100 n_heir v_heir_68 n_beside v_beside_69 x4_95 x1 s3_106) fun r_108 v_waves_109 v_seen_110 v_wave_111 =>
    if r_108 = 0 then
    if (x4_95 + (1 : Int32)) < 0 ∨ n_heir ≤ (x4_95 + (1 : Int32)).toNatClampNeg then none else
    bd4 (
    pm_X7_check_L185_5 F n_board n_treeCell v_treeCell n_beside n_wave2 v_beside_69 x4_95 x5_96 v_wave2_101 F ((3 : Int32) - x2_93) (x5_96 + (1 : Int32)) (v_heir_68 (x4_95 + (1 : Int32)).toNatClampNeg) (upd v_board_98 (v_treeCell x4_95.toNatClampNeg).toNatClampNeg (vp_nar .byte x2_93.toInt8.toInt32))) fun x2_113 x5_114 x8_115 v_board_116 =>
    pm_X7_check_L66_1 F v_size v_cells n_board n_treeCell v_treeCell n_seen n_wave n_heir n_beside n_wave2 x1 v_heir_68 v_beside_69 k x2_113 x3_94 x8_115 x5_114 v_waves_109 v_board_116 v_seen_110 v_wave_111 (upd v_wave2_101 x5_96.toNatClampNeg x4_95)
    else
    pm_X7_check_L66_1 F v_size v_cells n_board n_treeCell v_treeCell n_seen n_wave n_heir n_beside n_wave2 x1 v_heir_68 v_beside_69 k ((3 : Int32) - x2_93) (r_108 + ((16 : Int32) * (x4_95 + (1 : Int32)))) x4_95 (x5_96 + (1 : Int32)) v_waves_109 (upd v_board_98 (v_treeCell x4_95.toNatClampNeg).toNatClampNeg (vp_nar .byte x2_93.toInt8.toInt32)) v_seen_110 v_wave_111 (upd v_wave2_101 x5_96.toNatClampNeg x4_95)
    else
    some (x3_94, x5_96, v_waves_97, v_board_98, v_seen_99, v_wave_100, v_wave2_101)
def pm_X7_check (F : Nat) (v_size : Int32) (v_cells : Int32) (v_turn : Int32) (v_planted : Int32) (v_waves : Int32) (n_board : Nat) (v_board : Nat → Int32) (n_treeAhead : Nat) (v_treeAhead : Nat → Int32) (n_treeCell : Nat) (v_treeCell : Nat → Int32) (n_seen : Nat) (v_seen : Nat → Int32) (n_wave : Nat) (v_wave : Nat → Int32) (n_heir : Nat) (v_heir : Nat → Int32) (n_beside : Nat) (v_beside : Nat → Int32) (n_wave2 : Nat) (v_wave2 : Nat → Int32) (x1 : Int32) : Option (Int32 × Int32 × (Nat → Int32) × (Nat → Int32) × (Nat → Int32) × (Nat → Int32) × (Nat → Int32) × (Nat → Int32)) :=
  if x1 = (1 : Int32) then
  bd4 (pm_X7_winner F v_size v_cells n_board v_board n_seen v_seen n_wave v_wave) fun r_1 v_waves_2 v_seen_3 v_wave_4 =>
  if r_1 = 0 then
  bd2 (pm_X7_link F v_planted n_treeAhead v_treeAhead n_heir v_heir n_beside v_beside) fun v_heir_5 v_beside_6 =>
  bd1 (
  if v_turn = x1 then
  some (1 : Int32)
  else
  some (0 : Int32)) fun s2_7 =>
  bd4 (pm_X7_wrongBehind F v_cells v_waves_2 n_board v_board n_treeCell v_treeCell n_seen v_seen_3 n_wave v_wave_4 n_heir v_heir_5 n_beside v_beside_6 (0 : Int32) s2_7) fun r_9 v_waves_10 v_seen_11 v_wave_12 =>
  bd1 (
  if r_9 = 0 then
  if (0 : Int32) < 0 ∨ n_heir ≤ (0 : Int32).toNatClampNeg then none else
  some (v_heir_5 (0 : Int32).toNatClampNeg)
  else
  some (-1 : Int32)) fun s0_13 =>
  bd7 (
  pm_X7_check_L66 F v_size v_cells n_board n_treeCell v_treeCell n_seen n_wave n_heir n_beside n_wave2 x1 v_heir_5 v_beside_6 F v_turn r_9 s0_13 (0 : Int32) v_waves_10 v_board v_seen_11 v_wave_12 v_wave2) fun x3_15 x5_16 v_waves_17 v_board_18 v_seen_19 v_wave_20 v_wave2_21 =>
  bd1 (
  pm_X7_check_L243 F n_board n_treeCell v_treeCell n_wave2 v_wave2_21 F x5_16 v_board_18) fun v_board_23 =>
  some (x3_15, v_waves_17, v_board_23, v_seen_19, v_wave_20, v_heir_5, v_beside_6, v_wave2_21)
  else
  some ((-1 : Int32), v_waves_2, v_board, v_seen_3, v_wave_4, v_heir, v_beside, v_wave2)
  else
  if x1 = (2 : Int32) then
  bd4 (pm_X7_winner F v_size v_cells n_board v_board n_seen v_seen n_wave v_wave) fun r_64 v_waves_65 v_seen_66 v_wave_67 =>
  if r_64 = 0 then
  bd2 (pm_X7_link F v_planted n_treeAhead v_treeAhead n_heir v_heir n_beside v_beside) fun v_heir_68 v_beside_69 =>
  bd1 (
  if v_turn = x1 then
  some (1 : Int32)
  else
  some (0 : Int32)) fun s2_70 =>
  bd4 (pm_X7_wrongBehind F v_cells v_waves_65 n_board v_board n_treeCell v_treeCell n_seen v_seen_66 n_wave v_wave_67 n_heir v_heir_68 n_beside v_beside_69 (0 : Int32) s2_70) fun r_72 v_waves_73 v_seen_74 v_wave_75 =>
  bd1 (
  if r_72 = 0 then
  if (0 : Int32) < 0 ∨ n_heir ≤ (0 : Int32).toNatClampNeg then none else
  some (v_heir_68 (0 : Int32).toNatClampNeg)
  else
  some (-1 : Int32)) fun s0_76 =>
  bd7 (
  pm_X7_check_L66_1 F v_size v_cells n_board n_treeCell v_treeCell n_seen n_wave n_heir n_beside n_wave2 x1 v_heir_68 v_beside_69 F v_turn r_72 s0_76 (0 : Int32) v_waves_73 v_board v_seen_74 v_wave_75 v_wave2) fun x3_78 x5_79 v_waves_80 v_board_81 v_seen_82 v_wave_83 v_wave2_84 =>
  bd1 (
  pm_X7_check_L243_1 F n_board n_treeCell v_treeCell n_wave2 v_wave2_84 F x5_79 v_board_81) fun v_board_86 =>
  some (x3_78, v_waves_80, v_board_86, v_seen_82, v_wave_83, v_heir_68, v_beside_69, v_wave2_84)
  else
  some ((-1 : Int32), v_waves_65, v_board, v_seen_66, v_wave_67, v_heir, v_beside, v_wave2)
  else
  some ((-1 : Int32), v_waves, v_board, v_seen, v_wave, v_heir, v_beside, v_wave2)
