abbrev rm_X6_plant (g wg : Nat) : Room := { frames := 3, cells := g - wg, slots := g - wg, locals := 105 }
set_option maxHeartbeats 4000000 in
set_option maxRecDepth 100000 in
theorem c_X6_plant (l : Launch) (D : va_G) (cI cB cZ : ClassId) (q_this : Nat) (q_board : Nat) (q_bench : Nat) (q_walker : Nat) (q_seeker : Nat) (q_tree : Nat) (q_checker : Nat) (q_plays : Nat) (q_tree_ahead : Nat) (q_tree_cells : Nat) (v_playCount : Int32) (v_mover : Int32) (v_tree_count : Int32) (n_tree_ahead : Nat) (v_tree_ahead : Nat → Int32) (n_tree_cells : Nat) (v_tree_cells : Nat → Int32) (x1 : Int32) (x2 : Int32) (g : Nat) (F : Nat) {r : Int32} {w0 : Int32} {w1 : Nat} {w2 : Nat → Int32} {w3 : Nat} {w4 : Nat → Int32} {wg : Nat} (h : pm_X6_plant F g v_tree_count n_tree_ahead v_tree_ahead n_tree_cells v_tree_cells x1 x2 = some (r, w0, w1, w2, w3, w4, wg)) : MIX none l yX6_plant cX6_plant 3 (some .int) (rm_X6_plant g wg) [.ref q_this, .int x1, .int x2] D cI cB cZ [(q_this, .inr (6, [.ref q_board, .ref q_bench, .ref q_walker, .ref q_seeker, .ref q_tree, .ref q_checker, .ref q_plays, .int v_playCount, .int v_mover])), (q_tree, .inr (2, [.ref q_tree_ahead, .ref q_tree_cells, .int v_tree_count])), (q_tree_ahead, .inl (cI, n_tree_ahead, .inl v_tree_ahead)), (q_tree_cells, .inl (cI, n_tree_cells, .inl v_tree_cells))] (fun (u : Int32 × Nat × (Nat → Int32) × Nat × (Nat → Int32) × Nat) (a : Nat × Nat) => [(q_this, .inr (6, [.ref q_board, .ref q_bench, .ref q_walker, .ref q_seeker, .ref q_tree, .ref q_checker, .ref q_plays, .int v_playCount, .int v_mover])), (q_tree, .inr (2, [.ref a.1, .ref a.2, .int u.1])), (a.1, .inl (cI, u.2.1, .inl u.2.2.1)), (a.2, .inl (cI, u.2.2.2.1, .inl u.2.2.2.2.1))]) (r, (w0, w1, w2, w3, w4, wg)) := by
  refine ent_ix (by decide) (Nat.le_of_ble_eq_true rfl) ?_
  intro p e s m args below meth c A ls Q hQ hx hb hr hml hown hts hlk hnm hK hA hP hD hS hZ hl
  have hl : lv_has ls 3 [(0, .ref q_this), (1, .int x1), (2, .int x2)] := hl
  have hg : g ≤ g := Nat.le_refl g
  have hm : wg ≤ g := mono_X6_plant h
  rw [pm_X6_plant] at h
  refine W.widen (k := g - g) (n := g - g) (Nat.zero_le _) (Nat.zero_le _) ?_
  refine lv_iload_n hx hb dX6_plant_0 rfl (lv_at hl 1 rfl) ?_
  refine lv_iconst (v := (-1 : Int32)) hx hb dX6_plant_1 (by decide) ?_
  refine lv_icmp_eq (tgt := 16) hx hb dX6_plant_2 (by decide) (fun cb => ?_) (fun cb => ?_)
  · replace h := pm_pos cb h
    refine lv_aload_n hx hb dX6_plant_16 rfl (lv_at hl 0 rfl) ?_
    refine va_get (D := D) (ci := 6) (v := .ref q_tree) (C := "HexTable") (T := TX6) (N := 9) hx hb hts inX6 hown hK.1 hP 0 rfl rfl 4 (by decide) (hts _ wd_1_214) (fun _ h9 => h9) rfl dX6_plant_17 ?_
    refine lv_iload_n hx hb dX6_plant_20 rfl (lv_at hl 1 rfl) ?_
    refine lv_iload_n hx hb dX6_plant_21 rfl (lv_at hl 2 rfl) ?_
    obtain ⟨r_1, v_count_2, n_ahead_3, v_ahead_4, n_cells_5, v_cells_6, g_7, hc, h⟩ := bd7_s h
    have mo := mono_X2_add hc
    have hg0 := hg
    have hg : g_7 ≤ g := Nat.le_trans mo hg
    have hm : wg ≤ g_7 := by
      have hle : g_7 ≤ g_7 := Nat.le_refl _
      exact le_last ((Prod.mk.inj ((Prod.mk.inj ((Prod.mk.inj ((Prod.mk.inj ((Prod.mk.inj ((Prod.mk.inj (Option.some.inj h)).2)).2)).2)).2)).2)).2) hle
    refine aft_ix (wr := [(q_this, .inr (6, [.ref q_board, .ref q_bench, .ref q_walker, .ref q_seeker, .ref q_tree, .ref q_checker, .ref q_plays, .int v_playCount, .int v_mover]))]) (wc := [(q_tree, .inr (2, [.ref q_tree_ahead, .ref q_tree_cells, .int v_tree_count])), (q_tree_ahead, .inl (cI, n_tree_ahead, .inl v_tree_ahead)), (q_tree_cells, .inl (cI, n_tree_cells, .inl v_tree_cells))]) hP hD hS hA [1, 2, 3] [0] rfl rfl (by decide) (by decide) (rn_V (As := [.int x1, .int x2]) (rest := []) (n := 2) hx hb hml hown hts (c_X2_add l D cI cB cZ q_tree q_tree_ahead q_tree_cells v_tree_count n_tree_ahead v_tree_ahead n_tree_cells v_tree_cells x1 x2 g F hc _) (pre_VZ (z := none) trivial hS hA hK hP hD [1, 2, 3] rfl (by decide) (ci := 2) (q0 := 1) rfl rfl) wd_3_15 wd_2_216 wd_2_217 wd_1_7 wd_2_218 (by decide +kernel) ⟨Nat.le_of_ble_eq_true rfl, Nat.le_of_ble_eq_true rfl⟩ ⟨ca_1 mo hg0 hm, ca_1 mo hg0 hm⟩ rfl hl.1 rfl (Nat.le_of_ble_eq_true rfl) dX6_plant_22) (fun x H locs hP hD hS => ?_)
    obtain ⟨q_new_8, q_new_9⟩ := x
    have hP : va_P D vwCl [(q_this, .inr (6, [.ref q_board, .ref q_bench, .ref q_walker, .ref q_seeker, .ref q_tree, .ref q_checker, .ref q_plays, .int v_playCount, .int v_mover])), (q_tree, .inr (2, [.ref q_new_8, .ref q_new_9, .int v_count_2])), (q_new_8, .inl (cI, n_ahead_3, .inl v_ahead_4)), (q_new_9, .inl (cI, n_cells_5, .inl v_cells_6))] H := hP
    have hD : va_D A [(q_this, .inr (6, [.ref q_board, .ref q_bench, .ref q_walker, .ref q_seeker, .ref q_tree, .ref q_checker, .ref q_plays, .int v_playCount, .int v_mover])), (q_tree, .inr (2, [.ref q_new_8, .ref q_new_9, .int v_count_2])), (q_new_8, .inl (cI, n_ahead_3, .inl v_ahead_4)), (q_new_9, .inl (cI, n_cells_5, .inl v_cells_6))] := hD
    refine W.widen (k := g - g_7) (n := g - g_7) (ca_2 mo hg0) (ca_2 mo hg0) ?_
    refine lv_goto (tgt := 29) hx hb dX6_plant_25 (by decide) ?_
    refine W.widen (k := g - wg) (n := g - wg) (ca_3 hm) (ca_3 hm) ?_
    exact rt_ix (u := (v_count_2, n_ahead_3, v_ahead_4, n_cells_5, v_cells_6, g_7)) (q_new_8, q_new_9) hQ hx hb hr hlk h hP hD hS dX6_plant_29
  · replace h := pm_neg cb h
    refine lv_aload_n hx hb dX6_plant_5 rfl (lv_at hl 0 rfl) ?_
    refine va_get (D := D) (ci := 6) (v := .ref q_tree) (C := "HexTable") (T := TX6) (N := 9) hx hb hts inX6 hown hK.1 hP 0 rfl rfl 4 (by decide) (hts _ wd_1_214) (fun _ h9 => h9) rfl dX6_plant_6 ?_
    refine lv_iload_n hx hb dX6_plant_9 rfl (lv_at hl 1 rfl) ?_
    obtain ⟨r_10, hc, h⟩ := bd1_s h
    refine aft_i (wr := [(q_this, .inr (6, [.ref q_board, .ref q_bench, .ref q_walker, .ref q_seeker, .ref q_tree, .ref q_checker, .ref q_plays, .int v_playCount, .int v_mover])), (q_tree_ahead, .inl (cI, n_tree_ahead, .inl v_tree_ahead)), (q_tree_cells, .inl (cI, n_tree_cells, .inl v_tree_cells))]) (wc := [(q_tree, .inr (2, [.ref q_tree_ahead, .ref q_tree_cells, .int v_tree_count]))]) hP hD hS hA [1] [0, 2, 3] rfl rfl (by decide) (by decide) (rn_V (As := [.int x1]) (rest := []) (n := 1) hx hb hml hown hts (c_X2_has l D cI cB cZ q_tree q_tree_ahead q_tree_cells v_tree_count x1 F hc _) (pre_V hK hP hD [1] rfl (by decide) (ci := 2) (q0 := 1) rfl rfl) wd_3_1 wd_2_226 wd_2_227 wd_1_7 wd_2_228 (by decide +kernel) ⟨Nat.le_of_ble_eq_true rfl, Nat.le_of_ble_eq_true rfl⟩ ⟨ca_0 hg hm, ca_0 hg hm⟩ rfl hl.1 rfl (Nat.le_of_ble_eq_true rfl) dX6_plant_10) (fun H locs hP hD hS => ?_)
    have hP : va_P D vwCl [(q_this, .inr (6, [.ref q_board, .ref q_bench, .ref q_walker, .ref q_seeker, .ref q_tree, .ref q_checker, .ref q_plays, .int v_playCount, .int v_mover])), (q_tree_ahead, .inl (cI, n_tree_ahead, .inl v_tree_ahead)), (q_tree_cells, .inl (cI, n_tree_cells, .inl v_tree_cells)), (q_tree, .inr (2, [.ref q_tree_ahead, .ref q_tree_cells, .int v_tree_count]))] H := hP
    have hD : va_D A [(q_this, .inr (6, [.ref q_board, .ref q_bench, .ref q_walker, .ref q_seeker, .ref q_tree, .ref q_checker, .ref q_plays, .int v_playCount, .int v_mover])), (q_tree_ahead, .inl (cI, n_tree_ahead, .inl v_tree_ahead)), (q_tree_cells, .inl (cI, n_tree_cells, .inl v_tree_cells)), (q_tree, .inr (2, [.ref q_tree_ahead, .ref q_tree_cells, .int v_tree_count]))] := hD
    refine W.widen (k := g - g) (n := g - g) (Nat.le_refl _) (Nat.le_refl _) ?_
    refine lv_if_eq (tgt := 28) hx hb dX6_plant_13 (by decide) (fun cb => ?_) (fun cb => ?_)
    · replace h := pm_pos cb h
      refine lv_iconst (v := (-1 : Int32)) hx hb dX6_plant_28 (by decide) ?_
      have hP : va_P D vwCl [(q_this, .inr (6, [.ref q_board, .ref q_bench, .ref q_walker, .ref q_seeker, .ref q_tree, .ref q_checker, .ref q_plays, .int v_playCount, .int v_mover])), (q_tree, .inr (2, [.ref q_tree_ahead, .ref q_tree_cells, .int v_tree_count])), (q_tree_ahead, .inl (cI, n_tree_ahead, .inl v_tree_ahead)), (q_tree_cells, .inl (cI, n_tree_cells, .inl v_tree_cells))] H := hP.sub [0, 3, 1, 2] rfl
      have hD : va_D A [(q_this, .inr (6, [.ref q_board, .ref q_bench, .ref q_walker, .ref q_seeker, .ref q_tree, .ref q_checker, .ref q_plays, .int v_playCount, .int v_mover])), (q_tree, .inr (2, [.ref q_tree_ahead, .ref q_tree_cells, .int v_tree_count])), (q_tree_ahead, .inl (cI, n_tree_ahead, .inl v_tree_ahead)), (q_tree_cells, .inl (cI, n_tree_cells, .inl v_tree_cells))] := hD.sub [0, 3, 1, 2] (by decide) rfl
      refine W.widen (k := g - wg) (n := g - wg) (ca_3 hm) (ca_3 hm) ?_
      exact rt_ix (u := (v_tree_count, n_tree_ahead, v_tree_ahead, n_tree_cells, v_tree_cells, g)) (q_tree_ahead, q_tree_cells) hQ hx hb hr hlk h hP hD hS dX6_plant_29
    · replace h := pm_neg cb h
      refine lv_aload_n hx hb dX6_plant_16 rfl (lv_at hl 0 rfl) ?_
      refine va_get (D := D) (ci := 6) (v := .ref q_tree) (C := "HexTable") (T := TX6) (N := 9) hx hb hts inX6 hown hK.1 hP 0 rfl rfl 4 (by decide) (hts _ wd_1_214) (fun _ h9 => h9) rfl dX6_plant_17 ?_
      refine lv_iload_n hx hb dX6_plant_20 rfl (lv_at hl 1 rfl) ?_
      refine lv_iload_n hx hb dX6_plant_21 rfl (lv_at hl 2 rfl) ?_
      obtain ⟨r_11, v_count_12, n_ahead_13, v_ahead_14, n_cells_15, v_cells_16, g_17, hc, h⟩ := bd7_s h
      have mo := mono_X2_add hc
      have hg0 := hg
      have hg : g_17 ≤ g := Nat.le_trans mo hg
      have hm : wg ≤ g_17 := by
        have hle : g_17 ≤ g_17 := Nat.le_refl _
        exact le_last ((Prod.mk.inj ((Prod.mk.inj ((Prod.mk.inj ((Prod.mk.inj ((Prod.mk.inj ((Prod.mk.inj (Option.some.inj h)).2)).2)).2)).2)).2)).2) hle
      refine aft_ix (wr := [(q_this, .inr (6, [.ref q_board, .ref q_bench, .ref q_walker, .ref q_seeker, .ref q_tree, .ref q_checker, .ref q_plays, .int v_playCount, .int v_mover]))]) (wc := [(q_tree, .inr (2, [.ref q_tree_ahead, .ref q_tree_cells, .int v_tree_count])), (q_tree_ahead, .inl (cI, n_tree_ahead, .inl v_tree_ahead)), (q_tree_cells, .inl (cI, n_tree_cells, .inl v_tree_cells))]) hP hD hS hA [3, 1, 2] [0] rfl rfl (by decide) (by decide) (rn_V (As := [.int x1, .int x2]) (rest := []) (n := 2) hx hb hml hown hts (c_X2_add l D cI cB cZ q_tree q_tree_ahead q_tree_cells v_tree_count n_tree_ahead v_tree_ahead n_tree_cells v_tree_cells x1 x2 g F hc _) (pre_VZ (z := none) trivial hS hA hK hP hD [3, 1, 2] rfl (by decide) (ci := 2) (q0 := 3) rfl rfl) wd_3_15 wd_2_216 wd_2_217 wd_1_7 wd_2_218 (by decide +kernel) ⟨Nat.le_of_ble_eq_true rfl, Nat.le_of_ble_eq_true rfl⟩ ⟨ca_1 mo hg0 hm, ca_1 mo hg0 hm⟩ rfl hl.1 rfl (Nat.le_of_ble_eq_true rfl) dX6_plant_22) (fun x H locs hP hD hS => ?_)
      obtain ⟨q_new_18, q_new_19⟩ := x
      have hP : va_P D vwCl [(q_this, .inr (6, [.ref q_board, .ref q_bench, .ref q_walker, .ref q_seeker, .ref q_tree, .ref q_checker, .ref q_plays, .int v_playCount, .int v_mover])), (q_tree, .inr (2, [.ref q_new_18, .ref q_new_19, .int v_count_12])), (q_new_18, .inl (cI, n_ahead_13, .inl v_ahead_14)), (q_new_19, .inl (cI, n_cells_15, .inl v_cells_16))] H := hP
      have hD : va_D A [(q_this, .inr (6, [.ref q_board, .ref q_bench, .ref q_walker, .ref q_seeker, .ref q_tree, .ref q_checker, .ref q_plays, .int v_playCount, .int v_mover])), (q_tree, .inr (2, [.ref q_new_18, .ref q_new_19, .int v_count_12])), (q_new_18, .inl (cI, n_ahead_13, .inl v_ahead_14)), (q_new_19, .inl (cI, n_cells_15, .inl v_cells_16))] := hD
      refine W.widen (k := g - g_17) (n := g - g_17) (ca_2 mo hg0) (ca_2 mo hg0) ?_
      refine lv_goto (tgt := 29) hx hb dX6_plant_25 (by decide) ?_
      refine W.widen (k := g - wg) (n := g - wg) (ca_3 hm) (ca_3 hm) ?_
      exact rt_ix (u := (v_count_12, n_ahead_13, v_ahead_14, n_cells_15, v_cells_16, g_17)) (q_new_18, q_new_19) hQ hx hb hr hlk h hP hD hS dX6_plant_29
