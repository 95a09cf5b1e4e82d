abbrev rm_X0_edgeMarks : Room := { frames := 0, cells := 0, slots := 0, locals := 0 }
set_option maxHeartbeats 4000000 in
set_option maxRecDepth 100000 in
theorem c_X0_edgeMarks (l : Launch) (D : va_G) (cI cB cZ : ClassId) (x0 : Int32) (x1 : Int32) (F : Nat) {r : Int32} (h : pm_X0_edgeMarks F x0 x1 = some r) : MI l yX0_edgeMarks cX0_edgeMarks 2 (some .int) rm_X0_edgeMarks [.int x0, .int x1] D cI cB cZ [] (fun u : Unit => []) (r, ()) := by
  refine ent_i (by decide) (Nat.le_of_ble_eq_true rfl) ?_
  intro p e s m args below meth c A ls Q hQ hx hb hr hml hown hts hlk hnm hK hA hP hD hS hl
  have hl : lv_has ls 2 [(0, .int x0), (1, .int x1)] := hl
  rw [pm_X0_edgeMarks] at h
  refine lv_iload_n hx hb dX0_edgeMarks_0 rfl (lv_at hl 0 rfl) ?_
  obtain ⟨s0_1, hw, h⟩ := bd1_s h
  have J_2 : ∀ (H : Heap) (locs : List Loc) (ls : Array Slot), va_P D vwCl [] H → va_D A [] → va_S A s.heap H locs → lv_has ls 2 [(0, .int x0), (1, .int x1)] → W p l e rm_X0_edgeMarks s m args below meth c H locs 0 0 Q (F0 m 9 ls [.int s0_1]) := by
    intro H locs ls hP hD hS hl
    refine lv_iload_n hx hb dX0_edgeMarks_9 rfl (lv_at hl 0 rfl) ?_
    refine lv_iload_n hx hb dX0_edgeMarks_10 rfl (lv_at hl 1 rfl) ?_
    refine lv_iconst (v := (1 : Int32)) hx hb dX0_edgeMarks_11 (by decide) ?_
    refine lv_isub hx hb dX0_edgeMarks_12 ?_
    refine lv_icmp_ne (tgt := 20) hx hb dX0_edgeMarks_13 (by decide) (fun cb => ?_) (fun cb => ?_)
    · replace h := pm_neg cb h
      refine lv_iconst (v := (0 : Int32)) hx hb dX0_edgeMarks_20 (by decide) ?_
      refine lv_ior hx hb dX0_edgeMarks_21 ?_
      exact rt_i (u := ()) hQ hx hb hr hlk (un_i h) hP hD hS dX0_edgeMarks_22
    · replace h := pm_pos cb h
      refine lv_iconst (v := (2 : Int32)) hx hb dX0_edgeMarks_16 (by decide) ?_
      refine lv_goto (tgt := 21) hx hb dX0_edgeMarks_17 (by decide) ?_
      refine lv_ior hx hb dX0_edgeMarks_21 ?_
      exact rt_i (u := ()) hQ hx hb hr hlk (un_i h) hP hD hS dX0_edgeMarks_22
  replace h := hw
  refine lv_if_ne (tgt := 8) hx hb dX0_edgeMarks_1 (by decide) (fun cb => ?_) (fun cb => ?_)
  · replace h := pm_neg cb h
    refine lv_iconst (v := (0 : Int32)) hx hb dX0_edgeMarks_8 (by decide) ?_
    cases h
    exact J_2 _ _ _ hP hD hS (lv_sub hl [0, 1] rfl)
  · replace h := pm_pos cb h
    refine lv_iconst (v := (1 : Int32)) hx hb dX0_edgeMarks_4 (by decide) ?_
    refine lv_goto (tgt := 9) hx hb dX0_edgeMarks_5 (by decide) ?_
    cases h
    exact J_2 _ _ _ hP hD hS (lv_sub hl [0, 1] rfl)
abbrev rm_X0_numberIn : Room := { frames := 0, cells := 0, slots := 0, locals := 0 }
set_option maxHeartbeats 4000000 in
set_option maxRecDepth 100000 in
theorem c_X0_numberIn (l : Launch) (D : va_G) (cI cB cZ : ClassId) (x0 : Int32) (x1 : Int32) (x2 : Int32) (F : Nat) {r : Int32} (h : pm_X0_numberIn F x0 x1 x2 = some r) : MI l yX0_numberIn cX0_numberIn 3 (some .int) rm_X0_numberIn [.int x0, .int x1, .int x2] D cI cB cZ [] (fun u : Unit => []) (r, ()) := by
  refine ent_i (by decide) (Nat.le_of_ble_eq_true rfl) ?_
  intro p e s m args below meth c A ls Q hQ hx hb hr hml hown hts hlk hnm hK hA hP hD hS hl
  have hl : lv_has ls 3 [(0, .int x0), (1, .int x1), (2, .int x2)] := hl
  rw [pm_X0_numberIn] at h
  refine lv_iload_n hx hb dX0_numberIn_0 rfl (lv_at hl 1 rfl) ?_
  refine lv_if_lt (tgt := 18) hx hb dX0_numberIn_1 (by decide) (fun cb => ?_) (fun cb => ?_)
  · replace h := pm_pos cb h
    refine lv_iconst (v := (-1 : Int32)) hx hb dX0_numberIn_18 (by decide) ?_
    refine lv_goto (tgt := 27) hx hb dX0_numberIn_19 (by decide) ?_
    exact rt_i (u := ()) hQ hx hb hr hlk (un_i h) hP hD hS dX0_numberIn_27
  · replace h := pm_neg cb h
    refine lv_iload_n hx hb dX0_numberIn_4 rfl (lv_at hl 1 rfl) ?_
    refine lv_iload_n hx hb dX0_numberIn_5 rfl (lv_at hl 0 rfl) ?_
    refine lv_icmp_ge (tgt := 18) hx hb dX0_numberIn_6 (by decide) (fun cb => ?_) (fun cb => ?_)
    · replace h := pm_pos cb h
      refine lv_iconst (v := (-1 : Int32)) hx hb dX0_numberIn_18 (by decide) ?_
      refine lv_goto (tgt := 27) hx hb dX0_numberIn_19 (by decide) ?_
      exact rt_i (u := ()) hQ hx hb hr hlk (un_i h) hP hD hS dX0_numberIn_27
    · replace h := pm_neg cb h
      refine lv_iload_n hx hb dX0_numberIn_9 rfl (lv_at hl 2 rfl) ?_
      refine lv_if_lt (tgt := 18) hx hb dX0_numberIn_10 (by decide) (fun cb => ?_) (fun cb => ?_)
      · replace h := pm_pos cb h
        refine lv_iconst (v := (-1 : Int32)) hx hb dX0_numberIn_18 (by decide) ?_
        refine lv_goto (tgt := 27) hx hb dX0_numberIn_19 (by decide) ?_
        exact rt_i (u := ()) hQ hx hb hr hlk (un_i h) hP hD hS dX0_numberIn_27
      · replace h := pm_neg cb h
        refine lv_iload_n hx hb dX0_numberIn_13 rfl (lv_at hl 2 rfl) ?_
        refine lv_iload_n hx hb dX0_numberIn_14 rfl (lv_at hl 0 rfl) ?_
        refine lv_icmp_lt (tgt := 22) hx hb dX0_numberIn_15 (by decide) (fun cb => ?_) (fun cb => ?_)
        · replace h := pm_pos cb h
          refine lv_iload_n hx hb dX0_numberIn_22 rfl (lv_at hl 0 rfl) ?_
          refine lv_iload_n hx hb dX0_numberIn_23 rfl (lv_at hl 2 rfl) ?_
          refine lv_imul hx hb dX0_numberIn_24 ?_
          refine lv_iload_n hx hb dX0_numberIn_25 rfl (lv_at hl 1 rfl) ?_
          refine lv_iadd hx hb dX0_numberIn_26 ?_
          exact rt_i (u := ()) hQ hx hb hr hlk (un_i h) hP hD hS dX0_numberIn_27
        · replace h := pm_neg cb h
          refine lv_iconst (v := (-1 : Int32)) hx hb dX0_numberIn_18 (by decide) ?_
          refine lv_goto (tgt := 27) hx hb dX0_numberIn_19 (by decide) ?_
          exact rt_i (u := ()) hQ hx hb hr hlk (un_i h) hP hD hS dX0_numberIn_27
abbrev rm_X0_numberOf : Room := { frames := 1, cells := 0, slots := 0, locals := 22 }
set_option maxHeartbeats 4000000 in
set_option maxRecDepth 100000 in
theorem c_X0_numberOf (l : Launch) (D : va_G) (cI cB cZ : ClassId) (q_this : Nat) (q_stones : Nat) (q_near : Nat) (q_edges : Nat) (q_marks : Nat) (q_stack : Nat) (v_size : Int32) (x1 : Int32) (x2 : Int32) (F : Nat) {r : Int32} (h : pm_X0_numberOf F v_size x1 x2 = some r) : MI l yX0_numberOf cX0_numberOf 3 (some .int) rm_X0_numberOf [.ref q_this, .int x1, .int x2] D cI cB cZ [(q_this, .inr (0, [.int v_size, .ref q_stones, .ref q_near, .ref q_edges, .ref q_marks, .ref q_stack]))] (fun u : Unit => [(q_this, .inr (0, [.int v_size, .ref q_stones, .ref q_near, .ref q_edges, .ref q_marks, .ref q_stack]))]) (r, ()) := by
  refine ent_i (by decide) (Nat.le_of_ble_eq_true rfl) ?_
  intro p e s m args below meth c A ls Q hQ hx hb hr hml hown hts hlk hnm hK hA hP hD hS hl
  have hl : lv_has ls 3 [(0, .ref q_this), (1, .int x1), (2, .int x2)] := hl
  rw [pm_X0_numberOf] at h
  refine lv_aload_n hx hb dX0_numberOf_0 rfl (lv_at hl 0 rfl) ?_
  refine va_get (D := D) (ci := 0) (v := .int v_size) (C := "HexTable$Board") (T := TX0) (N := 6) hx hb hts inX0 hown hK.1 hP 0 rfl rfl 0 (by decide) (hts _ wd_1_42) (fun _ h9 => h9) rfl dX0_numberOf_1 ?_
  refine lv_iload_n hx hb dX0_numberOf_4 rfl (lv_at hl 1 rfl) ?_
  refine lv_iload_n hx hb dX0_numberOf_5 rfl (lv_at hl 2 rfl) ?_
  obtain ⟨r_1, hc, h⟩ := bd1_s h
  refine aft_i (wr := [(q_this, .inr (0, [.int v_size, .ref q_stones, .ref q_near, .ref q_edges, .ref q_marks, .ref q_stack]))]) (wc := []) hP hD hS hA [] [0] rfl rfl (by decide) (by decide) (rn_S (As := [.int v_size, .int x1, .int x2]) (rest := []) (n := 3) hx hb hml hown hts (c_X0_numberIn l D cI cB cZ v_size x1 x2 F hc _) (pre_S hK hP hD [] rfl (by decide)) wd_1_39 wd_1_40 wd_1_3 wd_1_41 (by decide +kernel) ⟨Nat.le_of_ble_eq_true rfl, Nat.le_of_ble_eq_true rfl⟩ ⟨Nat.le_of_ble_eq_true rfl, Nat.le_of_ble_eq_true rfl⟩ rfl hl.1 rfl (Nat.le_of_ble_eq_true rfl) dX0_numberOf_6) (fun H locs hP hD hS => ?_)
  have hP : va_P D vwCl [(q_this, .inr (0, [.int v_size, .ref q_stones, .ref q_near, .ref q_edges, .ref q_marks, .ref q_stack]))] H := hP.sub [0] rfl
  have hD : va_D A [(q_this, .inr (0, [.int v_size, .ref q_stones, .ref q_near, .ref q_edges, .ref q_marks, .ref q_stack]))] := hD.sub [0] (by decide) rfl
  exact rt_i (u := ()) hQ hx hb hr hlk (un_i h) hP hD hS dX0_numberOf_9
abbrev rm_X0_has : Room := { frames := 0, cells := 0, slots := 0, locals := 0 }
set_option maxHeartbeats 4000000 in
set_option maxRecDepth 100000 in
theorem c_X0_has (l : Launch) (D : va_G) (cI cB cZ : ClassId) (q_this : Nat) (q_stones : Nat) (q_near : Nat) (q_edges : Nat) (q_marks : Nat) (q_stack : Nat) (v_size : Int32) (n_stones : Nat) (v_stones : Nat → Int32) (x1 : Int32) (F : Nat) {r : Int32} (h : pm_X0_has F n_stones x1 = some r) : MI l yX0_has cX0_has 2 (some .boolean) rm_X0_has [.ref q_this, .int x1] D cI cB cZ [(q_this, .inr (0, [.int v_size, .ref q_stones, .ref q_near, .ref q_edges, .ref q_marks, .ref q_stack])), (q_stones, .inl (cI, n_stones, .inl v_stones))] (fun u : Unit => [(q_this, .inr (0, [.int v_size, .ref q_stones, .ref q_near, .ref q_edges, .ref q_marks, .ref q_stack])), (q_stones, .inl (cI, n_stones, .inl v_stones))]) (r, ()) := by
  refine ent_i (by decide) (Nat.le_of_ble_eq_true rfl) ?_
  intro p e s m args below meth c A ls Q hQ hx hb hr hml hown hts hlk hnm hK hA hP hD hS hl
  have hl : lv_has ls 2 [(0, .ref q_this), (1, .int x1)] := hl
  rw [pm_X0_has] at h
  refine lv_iload_n hx hb dX0_has_0 rfl (lv_at hl 1 rfl) ?_
  refine lv_if_lt (tgt := 17) hx hb dX0_has_1 (by decide) (fun cb => ?_) (fun cb => ?_)
  · replace h := pm_pos cb h
    refine lv_iconst (v := (0 : Int32)) hx hb dX0_has_17 (by decide) ?_
    exact rt_z (u := ()) (Or.inl rfl) hQ hx hb hr hlk (un_i h) hP hD hS dX0_has_18
  · replace h := pm_neg cb h
    refine lv_iload_n hx hb dX0_has_4 rfl (lv_at hl 1 rfl) ?_
    refine lv_aload_n hx hb dX0_has_5 rfl (lv_at hl 0 rfl) ?_
    refine va_get (D := D) (ci := 0) (v := .ref q_stones) (C := "HexTable$Board") (T := TX0) (N := 6) hx hb hts inX0 hown hK.1 hP 0 rfl rfl 1 (by decide) (hts _ wd_1_44) (fun _ h9 => h9) rfl dX0_has_6 ?_
    refine va_alen hx hb hK.1 hP 1 0 rfl rfl (v := nI n_stones) rfl dX0_has_9 ?_
    refine lv_icmp_ge (tgt := 17) hx hb dX0_has_10 (by decide) (fun cb => ?_) (fun cb => ?_)
    · replace h := pm_pos cb h
      refine lv_iconst (v := (0 : Int32)) hx hb dX0_has_17 (by decide) ?_
      exact rt_z (u := ()) (Or.inl rfl) hQ hx hb hr hlk (un_i h) hP hD hS dX0_has_18
    · replace h := pm_neg cb h
      refine lv_iconst (v := (1 : Int32)) hx hb dX0_has_13 (by decide) ?_
      refine lv_goto (tgt := 18) hx hb dX0_has_14 (by decide) ?_
      exact rt_z (u := ()) (Or.inr rfl) hQ hx hb hr hlk (un_i h) hP hD hS dX0_has_18
abbrev rm_X0_isEmpty : Room := { frames := 0, cells := 0, slots := 0, locals := 0 }
set_option maxHeartbeats 4000000 in
set_option maxRecDepth 100000 in
theorem c_X0_isEmpty (l : Launch) (D : va_G) (cI cB cZ : ClassId) (q_this : Nat) (q_stones : Nat) (q_near : Nat) (q_edges : Nat) (q_marks : Nat) (q_stack : Nat) (v_size : Int32) (n_stones : Nat) (v_stones : Nat → Int32) (x1 : Int32) (F : Nat) {r : Int32} (h : pm_X0_isEmpty F n_stones v_stones x1 = some r) : MI l yX0_isEmpty cX0_isEmpty 2 (some .boolean) rm_X0_isEmpty [.ref q_this, .int x1] D cI cB cZ [(q_this, .inr (0, [.int v_size, .ref q_stones, .ref q_near, .ref q_edges, .ref q_marks, .ref q_stack])), (q_stones, .inl (cI, n_stones, .inl v_stones))] (fun u : Unit => [(q_this, .inr (0, [.int v_size, .ref q_stones, .ref q_near, .ref q_edges, .ref q_marks, .ref q_stack])), (q_stones, .inl (cI, n_stones, .inl v_stones))]) (r, ()) := by
  refine ent_i (by decide) (Nat.le_of_ble_eq_true rfl) ?_
  intro p e s m args below meth c A ls Q hQ hx hb hr hml hown hts hlk hnm hK hA hP hD hS hl
  have hl : lv_has ls 2 [(0, .ref q_this), (1, .int x1)] := hl
  rw [pm_X0_isEmpty] at h
  refine lv_iload_n hx hb dX0_isEmpty_0 rfl (lv_at hl 1 rfl) ?_
  refine lv_if_lt (tgt := 26) hx hb dX0_isEmpty_1 (by decide) (fun cb => ?_) (fun cb => ?_)
  · replace h := pm_pos cb h
    refine lv_iconst (v := (0 : Int32)) hx hb dX0_isEmpty_26 (by decide) ?_
    exact rt_z (u := ()) (Or.inl rfl) hQ hx hb hr hlk (un_i h) hP hD hS dX0_isEmpty_27
  · replace h := pm_neg cb h
    refine lv_iload_n hx hb dX0_isEmpty_4 rfl (lv_at hl 1 rfl) ?_
    refine lv_aload_n hx hb dX0_isEmpty_5 rfl (lv_at hl 0 rfl) ?_
    refine va_get (D := D) (ci := 0) (v := .ref q_stones) (C := "HexTable$Board") (T := TX0) (N := 6) hx hb hts inX0 hown hK.1 hP 0 rfl rfl 1 (by decide) (hts _ wd_1_44) (fun _ h9 => h9) rfl dX0_isEmpty_6 ?_
    refine va_alen hx hb hK.1 hP 1 0 rfl rfl (v := nI n_stones) rfl dX0_isEmpty_9 ?_
    refine lv_icmp_ge (tgt := 26) hx hb dX0_isEmpty_10 (by decide) (fun cb => ?_) (fun cb => ?_)
    · replace h := pm_pos cb h
      refine lv_iconst (v := (0 : Int32)) hx hb dX0_isEmpty_26 (by decide) ?_
      exact rt_z (u := ()) (Or.inl rfl) hQ hx hb hr hlk (un_i h) hP hD hS dX0_isEmpty_27
    · replace h := pm_neg cb h
      refine lv_aload_n hx hb dX0_isEmpty_13 rfl (lv_at hl 0 rfl) ?_
      refine va_get (D := D) (ci := 0) (v := .ref q_stones) (C := "HexTable$Board") (T := TX0) (N := 6) hx hb hts inX0 hown hK.1 hP 0 rfl rfl 1 (by decide) (hts _ wd_1_44) (fun _ h9 => h9) rfl dX0_isEmpty_14 ?_
      refine lv_iload_n hx hb dX0_isEmpty_17 rfl (lv_at hl 1 rfl) ?_
      obtain ⟨b_1, h⟩ := pm_in h
      refine va_iald hx hb hK.1 hP 1 0 rfl rfl b_1 dX0_isEmpty_18 ?_
      refine lv_if_ne (tgt := 26) hx hb dX0_isEmpty_19 (by decide) (fun cb => ?_) (fun cb => ?_)
      · replace h := pm_neg cb h
        refine lv_iconst (v := (0 : Int32)) hx hb dX0_isEmpty_26 (by decide) ?_
        exact rt_z (u := ()) (Or.inl rfl) hQ hx hb hr hlk (un_i h) hP hD hS dX0_isEmpty_27
      · replace h := pm_pos cb h
        refine lv_iconst (v := (1 : Int32)) hx hb dX0_isEmpty_22 (by decide) ?_
        refine lv_goto (tgt := 27) hx hb dX0_isEmpty_23 (by decide) ?_
        exact rt_z (u := ()) (Or.inr rfl) hQ hx hb hr hlk (un_i h) hP hD hS dX0_isEmpty_27
abbrev rm_X0_stoneAt : Room := { frames := 1, cells := 0, slots := 0, locals := 21 }
set_option maxHeartbeats 4000000 in
set_option maxRecDepth 100000 in
theorem c_X0_stoneAt (l : Launch) (D : va_G) (cI cB cZ : ClassId) (q_this : Nat) (q_stones : Nat) (q_near : Nat) (q_edges : Nat) (q_marks : Nat) (q_stack : Nat) (v_size : Int32) (n_stones : Nat) (v_stones : Nat → Int32) (x1 : Int32) (F : Nat) {r : Int32} (h : pm_X0_stoneAt F n_stones v_stones x1 = some r) : MI l yX0_stoneAt cX0_stoneAt 2 (some .int) rm_X0_stoneAt [.ref q_this, .int x1] D cI cB cZ [(q_this, .inr (0, [.int v_size, .ref q_stones, .ref q_near, .ref q_edges, .ref q_marks, .ref q_stack])), (q_stones, .inl (cI, n_stones, .inl v_stones))] (fun u : Unit => [(q_this, .inr (0, [.int v_size, .ref q_stones, .ref q_near, .ref q_edges, .ref q_marks, .ref q_stack])), (q_stones, .inl (cI, n_stones, .inl v_stones))]) (r, ()) := by
  refine ent_i (by decide) (Nat.le_of_ble_eq_true rfl) ?_
  intro p e s m args below meth c A ls Q hQ hx hb hr hml hown hts hlk hnm hK hA hP hD hS hl
  have hl : lv_has ls 2 [(0, .ref q_this), (1, .int x1)] := hl
  rw [pm_X0_stoneAt] at h
  refine lv_aload_n hx hb dX0_stoneAt_0 rfl (lv_at hl 0 rfl) ?_
  refine lv_iload_n hx hb dX0_stoneAt_1 rfl (lv_at hl 1 rfl) ?_
  obtain ⟨r_1, hc, h⟩ := bd1_s h
  refine aft_i (wr := []) (wc := [(q_this, .inr (0, [.int v_size, .ref q_stones, .ref q_near, .ref q_edges, .ref q_marks, .ref q_stack])), (q_stones, .inl (cI, n_stones, .inl v_stones))]) hP hD hS hA [0, 1] [] rfl rfl (by decide) (by decide) (rn_V (As := [.int x1]) (rest := []) (n := 1) hx hb hml hown hts (c_X0_has l D cI cB cZ q_this q_stones q_near q_edges q_marks q_stack v_size n_stones v_stones x1 F hc _) (pre_V hK hP hD [0, 1] rfl (by decide) (ci := 0) (q0 := 0) rfl rfl) wd_2_10 wd_2_11 wd_2_12 wd_1_3 wd_2_13 (by decide +kernel) ⟨Nat.le_of_ble_eq_true rfl, Nat.le_of_ble_eq_true rfl⟩ ⟨Nat.le_of_ble_eq_true rfl, Nat.le_of_ble_eq_true rfl⟩ rfl hl.1 rfl (Nat.le_of_ble_eq_true rfl) dX0_stoneAt_2) (fun H locs hP hD hS => ?_)
  have hP : va_P D vwCl [(q_this, .inr (0, [.int v_size, .ref q_stones, .ref q_near, .ref q_edges, .ref q_marks, .ref q_stack])), (q_stones, .inl (cI, n_stones, .inl v_stones))] H := hP.sub [0, 1] rfl
  have hD : va_D A [(q_this, .inr (0, [.int v_size, .ref q_stones, .ref q_near, .ref q_edges, .ref q_marks, .ref q_stack])), (q_stones, .inl (cI, n_stones, .inl v_stones))] := hD.sub [0, 1] (by decide) rfl
  refine lv_if_eq (tgt := 17) hx hb dX0_stoneAt_5 (by decide) (fun cb => ?_) (fun cb => ?_)
  · replace h := pm_pos cb h
    refine lv_iconst (v := (0 : Int32)) hx hb dX0_stoneAt_17 (by decide) ?_
    exact rt_i (u := ()) hQ hx hb hr hlk (un_i h) hP hD hS dX0_stoneAt_18
  · replace h := pm_neg cb h
    refine lv_aload_n hx hb dX0_stoneAt_8 rfl (lv_at hl 0 rfl) ?_
    refine va_get (D := D) (ci := 0) (v := .ref q_stones) (C := "HexTable$Board") (T := TX0) (N := 6) hx hb hts inX0 hown hK.1 hP 0 rfl rfl 1 (by decide) (hts _ wd_1_44) (fun _ h9 => h9) rfl dX0_stoneAt_9 ?_
    refine lv_iload_n hx hb dX0_stoneAt_12 rfl (lv_at hl 1 rfl) ?_
    obtain ⟨b_2, h⟩ := pm_in h
    refine va_iald hx hb hK.1 hP 1 0 rfl rfl b_2 dX0_stoneAt_13 ?_
    refine lv_goto (tgt := 18) hx hb dX0_stoneAt_14 (by decide) ?_
    exact rt_i (u := ()) hQ hx hb hr hlk (un_i h) hP hD hS dX0_stoneAt_18
abbrev rm_X0_put : Room := { frames := 1, cells := 0, slots := 0, locals := 21 }
set_option maxHeartbeats 4000000 in
set_option maxRecDepth 100000 in
theorem c_X0_put (l : Launch) (D : va_G) (cI cB cZ : ClassId) (q_this : Nat) (q_stones : Nat) (q_near : Nat) (q_edges : Nat) (q_marks : Nat) (q_stack : Nat) (v_size : Int32) (n_stones : Nat) (v_stones : Nat → Int32) (x1 : Int32) (x2 : Int32) (F : Nat) {u : (Nat → Int32)} (h : pm_X0_put F n_stones v_stones x1 x2 = some u) : MV l yX0_put cX0_put 3 none rm_X0_put [.ref q_this, .int x1, .int x2] D cI cB cZ [(q_this, .inr (0, [.int v_size, .ref q_stones, .ref q_near, .ref q_edges, .ref q_marks, .ref q_stack])), (q_stones, .inl (cI, n_stones, .inl v_stones))] (fun u : (Nat → Int32) => [(q_this, .inr (0, [.int v_size, .ref q_stones, .ref q_near, .ref q_edges, .ref q_marks, .ref q_stack])), (q_stones, .inl (cI, n_stones, .inl u))]) u := by
  refine ent_v (by decide) (Nat.le_of_ble_eq_true rfl) ?_
  intro p e s m args below meth c A ls Q hQ hx hb hr hml hown hts hlk hnm hK hA hP hD hS hl
  have hl : lv_has ls 3 [(0, .ref q_this), (1, .int x1), (2, .int x2)] := hl
  rw [pm_X0_put] at h
  refine lv_aload_n hx hb dX0_put_0 rfl (lv_at hl 0 rfl) ?_
  refine lv_iload_n hx hb dX0_put_1 rfl (lv_at hl 1 rfl) ?_
  obtain ⟨r_1, hc, h⟩ := bd1_s h
  refine aft_i (wr := []) (wc := [(q_this, .inr (0, [.int v_size, .ref q_stones, .ref q_near, .ref q_edges, .ref q_marks, .ref q_stack])), (q_stones, .inl (cI, n_stones, .inl v_stones))]) hP hD hS hA [0, 1] [] rfl rfl (by decide) (by decide) (rn_V (As := [.int x1]) (rest := []) (n := 1) hx hb hml hown hts (c_X0_has l D cI cB cZ q_this q_stones q_near q_edges q_marks q_stack v_size n_stones v_stones x1 F hc _) (pre_V hK hP hD [0, 1] rfl (by decide) (ci := 0) (q0 := 0) rfl rfl) wd_2_10 wd_2_11 wd_2_12 wd_1_3 wd_2_13 (by decide +kernel) ⟨Nat.le_of_ble_eq_true rfl, Nat.le_of_ble_eq_true rfl⟩ ⟨Nat.le_of_ble_eq_true rfl, Nat.le_of_ble_eq_true rfl⟩ rfl hl.1 rfl (Nat.le_of_ble_eq_true rfl) dX0_put_2) (fun H locs hP hD hS => ?_)
  have hP : va_P D vwCl [(q_this, .inr (0, [.int v_size, .ref q_stones, .ref q_near, .ref q_edges, .ref q_marks, .ref q_stack])), (q_stones, .inl (cI, n_stones, .inl v_stones))] H := hP.sub [0, 1] rfl
  have hD : va_D A [(q_this, .inr (0, [.int v_size, .ref q_stones, .ref q_near, .ref q_edges, .ref q_marks, .ref q_stack])), (q_stones, .inl (cI, n_stones, .inl v_stones))] := hD.sub [0, 1] (by decide) rfl
  refine lv_if_eq (tgt := 15) hx hb dX0_put_5 (by decide) (fun cb => ?_) (fun cb => ?_)
  · replace h := pm_pos cb h
    exact rt_v (u := v_stones) hQ hx hb hr hlk h hP hD hS dX0_put_15
  · replace h := pm_neg cb h
    refine lv_aload_n hx hb dX0_put_8 rfl (lv_at hl 0 rfl) ?_
    refine va_get (D := D) (ci := 0) (v := .ref q_stones) (C := "HexTable$Board") (T := TX0) (N := 6) hx hb hts inX0 hown hK.1 hP 0 rfl rfl 1 (by decide) (hts _ wd_1_44) (fun _ h9 => h9) rfl dX0_put_9 ?_
    refine lv_iload_n hx hb dX0_put_12 rfl (lv_at hl 1 rfl) ?_
    refine lv_iload_n hx hb dX0_put_13 rfl (lv_at hl 2 rfl) ?_
    obtain ⟨b_2, h⟩ := pm_in h
    refine va_iast hx hb hK.1 hP hD hS 1 0 rfl rfl b_2 dX0_put_14 (fun H locs hP hD hS => ?_)
    have hP : va_P D vwCl [(q_this, .inr (0, [.int v_size, .ref q_stones, .ref q_near, .ref q_edges, .ref q_marks, .ref q_stack])), (q_stones, .inl (cI, n_stones, .inl (upd v_stones x1.toNatClampNeg x2)))] H := hP
    have hD : va_D A [(q_this, .inr (0, [.int v_size, .ref q_stones, .ref q_near, .ref q_edges, .ref q_marks, .ref q_stack])), (q_stones, .inl (cI, n_stones, .inl (upd v_stones x1.toNatClampNeg x2)))] := hD
    exact rt_v (u := upd v_stones x1.toNatClampNeg x2) hQ hx hb hr hlk h hP hD hS dX0_put_15
abbrev rm_X0_copyStones : Room := { frames := 1, cells := 0, slots := 0, locals := 60 }
set_option maxHeartbeats 4000000 in
set_option maxRecDepth 100000 in
theorem c_X0_copyStones (l : Launch) (D : va_G) (cI cB cZ : ClassId) (q_this : Nat) (q_stones : Nat) (q_near : Nat) (q_edges : Nat) (q_marks : Nat) (q_stack : Nat) (q_p1 : Nat) (q_p1_stones : Nat) (q_p1_near : Nat) (q_p1_edges : Nat) (q_p1_marks : Nat) (q_p1_stack : Nat) (v_size : Int32) (n_stones : Nat) (v_stones : Nat → Int32) (v_p1_size : Int32) (n_p1_stones : Nat) (v_p1_stones : Nat → Int32) (F : Nat) {u : (Nat → Int32)} (h : pm_X0_copyStones F n_stones v_stones n_p1_stones v_p1_stones = some u) : MV l yX0_copyStones cX0_copyStones 2 none rm_X0_copyStones [.ref q_this, .ref q_p1] D cI cB cZ [(q_this, .inr (0, [.int v_size, .ref q_stones, .ref q_near, .ref q_edges, .ref q_marks, .ref q_stack])), (q_stones, .inl (cI, n_stones, .inl v_stones)), (q_p1, .inr (0, [.int v_p1_size, .ref q_p1_stones, .ref q_p1_near, .ref q_p1_edges, .ref q_p1_marks, .ref q_p1_stack])), (q_p1_stones, .inl (cI, n_p1_stones, .inl v_p1_stones))] (fun u : (Nat → Int32) => [(q_this, .inr (0, [.int v_size, .ref q_stones, .ref q_near, .ref q_edges, .ref q_marks, .ref q_stack])), (q_stones, .inl (cI, n_stones, .inl u)), (q_p1, .inr (0, [.int v_p1_size, .ref q_p1_stones, .ref q_p1_near, .ref q_p1_edges, .ref q_p1_marks, .ref q_p1_stack])), (q_p1_stones, .inl (cI, n_p1_stones, .inl v_p1_stones))]) u := by
  refine ent_v (by decide) (Nat.le_of_ble_eq_true rfl) ?_
  intro p e s m args below meth c A ls Q hQ hx hb hr hml hown hts hlk hnm hK hA hP hD hS hl
  have hl : lv_has ls 2 [(0, .ref q_this), (1, .ref q_p1)] := hl
  rw [pm_X0_copyStones] at h
  refine lv_aload_n hx hb dX0_copyStones_0 rfl (lv_at hl 1 rfl) ?_
  refine va_get (D := D) (ci := 0) (v := .ref q_p1_stones) (C := "HexTable$Board") (T := TX0) (N := 6) hx hb hts inX0 hown hK.1 hP 2 rfl rfl 1 (by decide) (hts _ wd_1_44) (fun _ h9 => h9) rfl dX0_copyStones_1 ?_
  refine lv_iconst (v := (0 : Int32)) hx hb dX0_copyStones_4 (by decide) ?_
  refine lv_aload_n hx hb dX0_copyStones_5 rfl (lv_at hl 0 rfl) ?_
  refine va_get (D := D) (ci := 0) (v := .ref q_stones) (C := "HexTable$Board") (T := TX0) (N := 6) hx hb hts inX0 hown hK.1 hP 0 rfl rfl 1 (by decide) (hts _ wd_1_44) (fun _ h9 => h9) rfl dX0_copyStones_6 ?_
  refine lv_iconst (v := (0 : Int32)) hx hb dX0_copyStones_9 (by decide) ?_
  refine lv_aload_n hx hb dX0_copyStones_10 rfl (lv_at hl 1 rfl) ?_
  refine va_get (D := D) (ci := 0) (v := .ref q_p1_stones) (C := "HexTable$Board") (T := TX0) (N := 6) hx hb hts inX0 hown hK.1 hP 2 rfl rfl 1 (by decide) (hts _ wd_1_44) (fun _ h9 => h9) rfl dX0_copyStones_11 ?_
  refine va_alen hx hb hK.1 hP 3 0 rfl rfl (v := nI n_p1_stones) rfl dX0_copyStones_14 ?_
  refine lv_aload_n hx hb dX0_copyStones_15 rfl (lv_at hl 0 rfl) ?_
  refine va_get (D := D) (ci := 0) (v := .ref q_stones) (C := "HexTable$Board") (T := TX0) (N := 6) hx hb hts inX0 hown hK.1 hP 0 rfl rfl 1 (by decide) (hts _ wd_1_44) (fun _ h9 => h9) rfl dX0_copyStones_16 ?_
  refine va_alen hx hb hK.1 hP 1 0 rfl rfl (v := nI n_stones) rfl dX0_copyStones_19 ?_
  refine va_mmin hx hb (hml.trans hl.1.symm) hown (hts _ wd_2_128) (hts _ wd_1_21) (hts _ wd_1_2) (hts _ wd_1_22) (Nat.le_of_ble_eq_true rfl) (Nat.le_of_ble_eq_true rfl) (Nat.le_of_ble_eq_true rfl) (Nat.le_of_ble_eq_true rfl) dX0_copyStones_20 ?_
  obtain ⟨hz, h⟩ := pm_nc h
  obtain ⟨z1, z2, z3, z4, z5⟩ := ac_ok hz
  refine va_copyi hx hb (hml.trans hl.1.symm) hown (hts _ wd_2_129) (hts _ wd_2_131) (hts _ wd_2_130) (hts _ wd_1_11) hK.1 hP hD hS 3 1 0 0 rfl rfl rfl rfl rfl z1 z2 z3 z4 z5 (fun _ _ => rfl) (Nat.le_of_ble_eq_true rfl) (by decide +kernel) dX0_copyStones_23 (fun H locs hP hD hS => ?_)
  have hP : va_P D vwCl [(q_this, .inr (0, [.int v_size, .ref q_stones, .ref q_near, .ref q_edges, .ref q_marks, .ref q_stack])), (q_stones, .inl (cI, n_stones, .inl (va_cpy v_p1_stones v_stones (0 : Int32).toNatClampNeg (0 : Int32).toNatClampNeg (if (nI n_stones) < (nI n_p1_stones) then (nI n_stones) else (nI n_p1_stones)).toNatClampNeg))), (q_p1, .inr (0, [.int v_p1_size, .ref q_p1_stones, .ref q_p1_near, .ref q_p1_edges, .ref q_p1_marks, .ref q_p1_stack])), (q_p1_stones, .inl (cI, n_p1_stones, .inl v_p1_stones))] H := hP
  have hD : va_D A [(q_this, .inr (0, [.int v_size, .ref q_stones, .ref q_near, .ref q_edges, .ref q_marks, .ref q_stack])), (q_stones, .inl (cI, n_stones, .inl (va_cpy v_p1_stones v_stones (0 : Int32).toNatClampNeg (0 : Int32).toNatClampNeg (if (nI n_stones) < (nI n_p1_stones) then (nI n_stones) else (nI n_p1_stones)).toNatClampNeg))), (q_p1, .inr (0, [.int v_p1_size, .ref q_p1_stones, .ref q_p1_near, .ref q_p1_edges, .ref q_p1_marks, .ref q_p1_stack])), (q_p1_stones, .inl (cI, n_p1_stones, .inl v_p1_stones))] := hD
  exact rt_v (u := va_cpy v_p1_stones v_stones (0 : Int32).toNatClampNeg (0 : Int32).toNatClampNeg (if (nI n_stones) < (nI n_p1_stones) then (nI n_stones) else (nI n_p1_stones)).toNatClampNeg) hQ hx hb hr hlk h hP hD hS dX0_copyStones_26
abbrev rm_X0_countEmpty : Room := { frames := 0, cells := 0, slots := 0, locals := 0 }
set_option maxHeartbeats 4000000 in
set_option maxRecDepth 100000 in
theorem c_X0_countEmpty (l : Launch) (D : va_G) (cI cB cZ : ClassId) (q_this : Nat) (q_stones : Nat) (q_near : Nat) (q_edges : Nat) (q_marks : Nat) (q_stack : Nat) (v_size : Int32) (n_stones : Nat) (v_stones : Nat → Int32) (F : Nat) {r : Int32} (h : pm_X0_countEmpty F n_stones v_stones = some r) : MI l yX0_countEmpty cX0_countEmpty 6 (some .int) rm_X0_countEmpty [.ref q_this] D cI cB cZ [(q_this, .inr (0, [.int v_size, .ref q_stones, .ref q_near, .ref q_edges, .ref q_marks, .ref q_stack])), (q_stones, .inl (cI, n_stones, .inl v_stones))] (fun u : Unit => [(q_this, .inr (0, [.int v_size, .ref q_stones, .ref q_near, .ref q_edges, .ref q_marks, .ref q_stack])), (q_stones, .inl (cI, n_stones, .inl v_stones))]) (r, ()) := by
  refine ent_i (by decide) (Nat.le_of_ble_eq_true rfl) ?_
  intro p e s m args below meth c A ls Q hQ hx hb hr hml hown hts hlk hnm hK hA hP hD hS hl
  have hl : lv_has ls 6 [(0, .ref q_this)] := hl
  rw [pm_X0_countEmpty] at h
  refine lv_iconst (v := (0 : Int32)) hx hb dX0_countEmpty_0 (by decide) ?_
  refine lv_istore_n (lv' := [(1, .int (0 : Int32)), (0, .ref q_this)]) hx hb dX0_countEmpty_1 rfl hl (by decide) rfl (fun ls hl => ?_)
  refine lv_aload_n hx hb dX0_countEmpty_2 rfl (lv_at hl 1 rfl) ?_
  refine va_get (D := D) (ci := 0) (v := .ref q_stones) (C := "HexTable$Board") (T := TX0) (N := 6) hx hb hts inX0 hown hK.1 hP 0 rfl rfl 1 (by decide) (hts _ wd_1_44) (fun _ h9 => h9) rfl dX0_countEmpty_3 ?_
  refine lv_astore_n (lv' := [(2, .ref q_stones), (1, .int (0 : Int32)), (0, .ref q_this)]) hx hb dX0_countEmpty_6 rfl hl (by decide) rfl (fun ls hl => ?_)
  refine lv_aload_n hx hb dX0_countEmpty_7 rfl (lv_at hl 0 rfl) ?_
  refine va_alen hx hb hK.1 hP 1 0 rfl rfl (v := nI n_stones) rfl dX0_countEmpty_8 ?_
  refine lv_istore_n (lv' := [(3, .int (nI n_stones)), (2, .ref q_stones), (1, .int (0 : Int32)), (0, .ref q_this)]) hx hb dX0_countEmpty_9 rfl hl (by decide) rfl (fun ls hl => ?_)
  refine lv_iconst (v := (0 : Int32)) hx hb dX0_countEmpty_10 (by decide) ?_
  refine lv_istore (lv' := [(4, .int (0 : Int32)), (3, .int (nI n_stones)), (2, .ref q_stones), (1, .int (0 : Int32)), (0, .ref q_this)]) hx hb dX0_countEmpty_11 hl (by decide) rfl (fun ls hl => ?_)
  obtain ⟨x1_1, hw, h⟩ := bd1_s h
  have J_2 : ∀ (H : Heap) (locs : List Loc) (ls : Array Slot), va_P D vwCl [(q_this, .inr (0, [.int v_size, .ref q_stones, .ref q_near, .ref q_edges, .ref q_marks, .ref q_stack])), (q_stones, .inl (cI, n_stones, .inl v_stones))] H → va_D A [(q_this, .inr (0, [.int v_size, .ref q_stones, .ref q_near, .ref q_edges, .ref q_marks, .ref q_stack])), (q_stones, .inl (cI, n_stones, .inl v_stones))] → va_S A s.heap H locs → lv_has ls 6 [(1, .int x1_1)] → W p l e rm_X0_countEmpty s m args below meth c H locs 0 0 Q (F0 m 39 ls []) := by
    intro H locs ls hP hD hS hl
    refine lv_iload_n hx hb dX0_countEmpty_39 rfl (lv_at hl 0 rfl) ?_
    exact rt_i (u := ()) hQ hx hb hr hlk (un_i h) hP hD hS dX0_countEmpty_40
  replace h := hw
  have L : ∀ (k : Nat) (x1_3 : Int32) (x4_4 : Int32) (H : Heap) (locs : List Loc) (ls : Array Slot), va_P D vwCl [(q_this, .inr (0, [.int v_size, .ref q_stones, .ref q_near, .ref q_edges, .ref q_marks, .ref q_stack])), (q_stones, .inl (cI, n_stones, .inl v_stones))] H → va_D A [(q_this, .inr (0, [.int v_size, .ref q_stones, .ref q_near, .ref q_edges, .ref q_marks, .ref q_stack])), (q_stones, .inl (cI, n_stones, .inl v_stones))] → va_S A s.heap H locs → lv_has ls 6 [(1, .int x1_3), (2, .ref q_stones), (3, .int (nI n_stones)), (4, .int x4_4)] → pm_X0_countEmpty_L13 F n_stones v_stones k x1_3 x4_4 = some x1_1 → W p l e rm_X0_countEmpty s m args below meth c H locs 0 0 Q (F0 m 13 ls []) := by
    intro k
    induction k with
    | zero =>
      intro x1_3 x4_4 H locs ls hP hD hS hl h
      rw [pm_X0_countEmpty_L13] at h
      cases h
    | succ k ih =>
      intro x1_3 x4_4 H locs ls hP hD hS hl h
      rw [pm_X0_countEmpty_L13] at h
      refine lv_iload hx hb dX0_countEmpty_13 (lv_at hl 3 rfl) ?_
      refine lv_iload_n hx hb dX0_countEmpty_15 rfl (lv_at hl 2 rfl) ?_
      refine lv_icmp_ge (tgt := 39) hx hb dX0_countEmpty_16 (by decide) (fun cb => ?_) (fun cb => ?_)
      · replace h := pm_pos cb h
        cases h
        exact J_2 _ _ _ hP hD hS (lv_sub hl [0] rfl)
      · replace h := pm_neg cb h
        refine lv_aload_n hx hb dX0_countEmpty_19 rfl (lv_at hl 1 rfl) ?_
        refine lv_iload hx hb dX0_countEmpty_20 (lv_at hl 3 rfl) ?_
        obtain ⟨b_5, h⟩ := pm_in h
        refine va_iald hx hb hK.1 hP 1 0 rfl rfl b_5 dX0_countEmpty_22 ?_
        refine lv_istore (lv' := [(5, .int (v_stones x4_4.toNatClampNeg)), (1, .int x1_3), (2, .ref q_stones), (3, .int (nI n_stones)), (4, .int x4_4)]) hx hb dX0_countEmpty_23 hl (by decide) rfl (fun ls hl => ?_)
        refine lv_iload hx hb dX0_countEmpty_25 (lv_at hl 0 rfl) ?_
        refine lv_if_ne (tgt := 33) hx hb dX0_countEmpty_27 (by decide) (fun cb => ?_) (fun cb => ?_)
        · replace h := pm_neg cb h
          refine lv_iinc (v := x4_4 + (1 : Int32)) (lv' := [(4, .int (x4_4 + (1 : Int32))), (5, .int (v_stones x4_4.toNatClampNeg)), (1, .int x1_3), (2, .ref q_stones), (3, .int (nI n_stones))]) hx hb dX0_countEmpty_33 hl (k := 4) rfl rfl (by decide) rfl (fun ls hl => ?_)
          refine lv_goto (tgt := 13) hx hb dX0_countEmpty_36 (by decide) ?_
          exact ih x1_3 (x4_4 + (1 : Int32)) _ _ _ hP hD hS (lv_sub hl [2, 3, 4, 0] rfl) h
        · replace h := pm_pos cb h
          refine lv_iinc (v := x1_3 + (1 : Int32)) (lv' := [(1, .int (x1_3 + (1 : Int32))), (5, .int (v_stones x4_4.toNatClampNeg)), (2, .ref q_stones), (3, .int (nI n_stones)), (4, .int x4_4)]) hx hb dX0_countEmpty_30 hl (k := 1) rfl rfl (by decide) rfl (fun ls hl => ?_)
          refine lv_iinc (v := x4_4 + (1 : Int32)) (lv' := [(4, .int (x4_4 + (1 : Int32))), (1, .int (x1_3 + (1 : Int32))), (5, .int (v_stones x4_4.toNatClampNeg)), (2, .ref q_stones), (3, .int (nI n_stones))]) hx hb dX0_countEmpty_33 hl (k := 4) rfl rfl (by decide) rfl (fun ls hl => ?_)
          refine lv_goto (tgt := 13) hx hb dX0_countEmpty_36 (by decide) ?_
          exact ih (x1_3 + (1 : Int32)) (x4_4 + (1 : Int32)) _ _ _ hP hD hS (lv_sub hl [1, 3, 4, 0] rfl) h
  exact L F (0 : Int32) (0 : Int32) _ _ _ hP hD hS (lv_sub hl [3, 2, 1, 0] rfl) h
abbrev rm_X0_sideAt : Room := { frames := 2, cells := 0, slots := 0, locals := 44 }
set_option maxHeartbeats 4000000 in
set_option maxRecDepth 100000 in
theorem c_X0_sideAt (l : Launch) (D : va_G) (cI cB cZ : ClassId) (q_this : Nat) (q_stones : Nat) (q_near : Nat) (q_edges : Nat) (q_marks : Nat) (q_stack : Nat) (v_size : Int32) (n_stones : Nat) (v_stones : Nat → Int32) (x1 : Int32) (x2 : Int32) (F : Nat) {r : Int32} (h : pm_X0_sideAt F v_size n_stones v_stones x1 x2 = some r) : MI l yX0_sideAt cX0_sideAt 4 (some .int) rm_X0_sideAt [.ref q_this, .int x1, .int x2] D cI cB cZ [(q_this, .inr (0, [.int v_size, .ref q_stones, .ref q_near, .ref q_edges, .ref q_marks, .ref q_stack])), (q_stones, .inl (cI, n_stones, .inl v_stones))] (fun u : Unit => [(q_this, .inr (0, [.int v_size, .ref q_stones, .ref q_near, .ref q_edges, .ref q_marks, .ref q_stack])), (q_stones, .inl (cI, n_stones, .inl v_stones))]) (r, ()) := by
  refine ent_i (by decide) (Nat.le_of_ble_eq_true rfl) ?_
  intro p e s m args below meth c A ls Q hQ hx hb hr hml hown hts hlk hnm hK hA hP hD hS hl
  have hl : lv_has ls 4 [(0, .ref q_this), (1, .int x1), (2, .int x2)] := hl
  rw [pm_X0_sideAt] at h
  refine lv_aload_n hx hb dX0_sideAt_0 rfl (lv_at hl 0 rfl) ?_
  refine lv_iload_n hx hb dX0_sideAt_1 rfl (lv_at hl 1 rfl) ?_
  refine lv_iload_n hx hb dX0_sideAt_2 rfl (lv_at hl 2 rfl) ?_
  obtain ⟨r_1, hc, h⟩ := bd1_s h
  refine aft_i (wr := [(q_stones, .inl (cI, n_stones, .inl v_stones))]) (wc := [(q_this, .inr (0, [.int v_size, .ref q_stones, .ref q_near, .ref q_edges, .ref q_marks, .ref q_stack]))]) hP hD hS hA [0] [1] rfl rfl (by decide) (by decide) (rn_V (As := [.int x1, .int x2]) (rest := []) (n := 2) hx hb hml hown hts (c_X0_numberOf l D cI cB cZ q_this q_stones q_near q_edges q_marks q_stack v_size x1 x2 F hc _) (pre_V hK hP hD [0] rfl (by decide) (ci := 0) (q0 := 0) rfl rfl) wd_2_111 wd_2_3 wd_2_4 wd_1_3 wd_2_5 (by decide +kernel) ⟨Nat.le_of_ble_eq_true rfl, Nat.le_of_ble_eq_true rfl⟩ ⟨Nat.le_of_ble_eq_true rfl, Nat.le_of_ble_eq_true rfl⟩ rfl hl.1 rfl (Nat.le_of_ble_eq_true rfl) dX0_sideAt_3) (fun H locs hP hD hS => ?_)
  have hP : va_P D vwCl [(q_this, .inr (0, [.int v_size, .ref q_stones, .ref q_near, .ref q_edges, .ref q_marks, .ref q_stack])), (q_stones, .inl (cI, n_stones, .inl v_stones))] H := hP.sub [1, 0] rfl
  have hD : va_D A [(q_this, .inr (0, [.int v_size, .ref q_stones, .ref q_near, .ref q_edges, .ref q_marks, .ref q_stack])), (q_stones, .inl (cI, n_stones, .inl v_stones))] := hD.sub [1, 0] (by decide) rfl
  refine lv_istore_n (lv' := [(3, .int r_1), (0, .ref q_this), (1, .int x1), (2, .int x2)]) hx hb dX0_sideAt_6 rfl hl (by decide) rfl (fun ls hl => ?_)
  refine lv_iload_n hx hb dX0_sideAt_7 rfl (lv_at hl 0 rfl) ?_
  refine lv_iconst (v := (-1 : Int32)) hx hb dX0_sideAt_8 (by decide) ?_
  refine lv_icmp_eq (tgt := 19) hx hb dX0_sideAt_9 (by decide) (fun cb => ?_) (fun cb => ?_)
  · replace h := pm_pos cb h
    refine lv_iload_n hx hb dX0_sideAt_19 rfl (lv_at hl 2 rfl) ?_
    refine lv_iconst (v := (-1 : Int32)) hx hb dX0_sideAt_20 (by decide) ?_
    refine lv_icmp_lt (tgt := 45) hx hb dX0_sideAt_21 (by decide) (fun cb => ?_) (fun cb => ?_)
    · replace h := pm_pos cb h
      refine lv_iconst (v := (0 : Int32)) hx hb dX0_sideAt_45 (by decide) ?_
      exact rt_i (u := ()) hQ hx hb hr hlk (un_i h) hP hD hS dX0_sideAt_46
    · replace h := pm_neg cb h
      refine lv_iload_n hx hb dX0_sideAt_24 rfl (lv_at hl 2 rfl) ?_
      refine lv_aload_n hx hb dX0_sideAt_25 rfl (lv_at hl 1 rfl) ?_
      refine va_get (D := D) (ci := 0) (v := .int v_size) (C := "HexTable$Board") (T := TX0) (N := 6) hx hb hts inX0 hown hK.1 hP 0 rfl rfl 0 (by decide) (hts _ wd_1_42) (fun _ h9 => h9) rfl dX0_sideAt_26 ?_
      refine lv_icmp_gt (tgt := 45) hx hb dX0_sideAt_29 (by decide) (fun cb => ?_) (fun cb => ?_)
      · replace h := pm_pos cb h
        refine lv_iconst (v := (0 : Int32)) hx hb dX0_sideAt_45 (by decide) ?_
        exact rt_i (u := ()) hQ hx hb hr hlk (un_i h) hP hD hS dX0_sideAt_46
      · replace h := pm_neg cb h
        refine lv_iload_n hx hb dX0_sideAt_32 rfl (lv_at hl 3 rfl) ?_
        refine lv_iconst (v := (-1 : Int32)) hx hb dX0_sideAt_33 (by decide) ?_
        refine lv_icmp_lt (tgt := 45) hx hb dX0_sideAt_34 (by decide) (fun cb => ?_) (fun cb => ?_)
        · replace h := pm_pos cb h
          refine lv_iconst (v := (0 : Int32)) hx hb dX0_sideAt_45 (by decide) ?_
          exact rt_i (u := ()) hQ hx hb hr hlk (un_i h) hP hD hS dX0_sideAt_46
        · replace h := pm_neg cb h
          refine lv_iload_n hx hb dX0_sideAt_37 rfl (lv_at hl 3 rfl) ?_
          refine lv_aload_n hx hb dX0_sideAt_38 rfl (lv_at hl 1 rfl) ?_
          refine va_get (D := D) (ci := 0) (v := .int v_size) (C := "HexTable$Board") (T := TX0) (N := 6) hx hb hts inX0 hown hK.1 hP 0 rfl rfl 0 (by decide) (hts _ wd_1_42) (fun _ h9 => h9) rfl dX0_sideAt_39 ?_
          refine lv_icmp_le (tgt := 47) hx hb dX0_sideAt_42 (by decide) (fun cb => ?_) (fun cb => ?_)
          · replace h := pm_pos cb h
            refine lv_iload_n hx hb dX0_sideAt_47 rfl (lv_at hl 3 rfl) ?_
            refine lv_iconst (v := (-1 : Int32)) hx hb dX0_sideAt_48 (by decide) ?_
            refine lv_icmp_eq (tgt := 60) hx hb dX0_sideAt_49 (by decide) (fun cb => ?_) (fun cb => ?_)
            · replace h := pm_pos cb h
              refine lv_iload_n hx hb dX0_sideAt_60 rfl (lv_at hl 2 rfl) ?_
              refine lv_iload_n hx hb dX0_sideAt_61 rfl (lv_at hl 3 rfl) ?_
              refine lv_icmp_ne (tgt := 69) hx hb dX0_sideAt_62 (by decide) (fun cb => ?_) (fun cb => ?_)
              · replace h := pm_neg cb h
                refine lv_iconst (v := (1 : Int32)) hx hb dX0_sideAt_69 (by decide) ?_
                exact rt_i (u := ()) hQ hx hb hr hlk (un_i h) hP hD hS dX0_sideAt_70
              · replace h := pm_pos cb h
                refine lv_iconst (v := (0 : Int32)) hx hb dX0_sideAt_65 (by decide) ?_
                refine lv_goto (tgt := 70) hx hb dX0_sideAt_66 (by decide) ?_
                exact rt_i (u := ()) hQ hx hb hr hlk (un_i h) hP hD hS dX0_sideAt_70
            · replace h := pm_neg cb h
              refine lv_iload_n hx hb dX0_sideAt_52 rfl (lv_at hl 3 rfl) ?_
              refine lv_aload_n hx hb dX0_sideAt_53 rfl (lv_at hl 1 rfl) ?_
              refine va_get (D := D) (ci := 0) (v := .int v_size) (C := "HexTable$Board") (T := TX0) (N := 6) hx hb hts inX0 hown hK.1 hP 0 rfl rfl 0 (by decide) (hts _ wd_1_42) (fun _ h9 => h9) rfl dX0_sideAt_54 ?_
              refine lv_icmp_ne (tgt := 71) hx hb dX0_sideAt_57 (by decide) (fun cb => ?_) (fun cb => ?_)
              · replace h := pm_neg cb h
                refine lv_iconst (v := (2 : Int32)) hx hb dX0_sideAt_71 (by decide) ?_
                exact rt_i (u := ()) hQ hx hb hr hlk (un_i h) hP hD hS dX0_sideAt_72
              · replace h := pm_pos cb h
                refine lv_iload_n hx hb dX0_sideAt_60 rfl (lv_at hl 2 rfl) ?_
                refine lv_iload_n hx hb dX0_sideAt_61 rfl (lv_at hl 3 rfl) ?_
                refine lv_icmp_ne (tgt := 69) hx hb dX0_sideAt_62 (by decide) (fun cb => ?_) (fun cb => ?_)
                · replace h := pm_neg cb h
                  refine lv_iconst (v := (1 : Int32)) hx hb dX0_sideAt_69 (by decide) ?_
                  exact rt_i (u := ()) hQ hx hb hr hlk (un_i h) hP hD hS dX0_sideAt_70
                · replace h := pm_pos cb h
                  refine lv_iconst (v := (0 : Int32)) hx hb dX0_sideAt_65 (by decide) ?_
                  refine lv_goto (tgt := 70) hx hb dX0_sideAt_66 (by decide) ?_
                  exact rt_i (u := ()) hQ hx hb hr hlk (un_i h) hP hD hS dX0_sideAt_70
          · replace h := pm_neg cb h
            refine lv_iconst (v := (0 : Int32)) hx hb dX0_sideAt_45 (by decide) ?_
            exact rt_i (u := ()) hQ hx hb hr hlk (un_i h) hP hD hS dX0_sideAt_46
  · replace h := pm_neg cb h
    refine lv_aload_n hx hb dX0_sideAt_12 rfl (lv_at hl 1 rfl) ?_
    refine va_get (D := D) (ci := 0) (v := .ref q_stones) (C := "HexTable$Board") (T := TX0) (N := 6) hx hb hts inX0 hown hK.1 hP 0 rfl rfl 1 (by decide) (hts _ wd_1_44) (fun _ h9 => h9) rfl dX0_sideAt_13 ?_
    refine lv_iload_n hx hb dX0_sideAt_16 rfl (lv_at hl 0 rfl) ?_
    obtain ⟨b_2, h⟩ := pm_in h
    refine va_iald hx hb hK.1 hP 1 0 rfl rfl b_2 dX0_sideAt_17 ?_
    exact rt_i (u := ()) hQ hx hb hr hlk (un_i h) hP hD hS dX0_sideAt_18
abbrev rm_J7_fill_53178 : Room := { frames := 0, cells := 0, slots := 0, locals := 0 }
set_option maxHeartbeats 4000000 in
set_option maxRecDepth 100000 in
theorem c_J7_fill_53178 (l : Launch) (D : va_G) (cI cB cZ : ClassId) (q_p0 : Nat) (n_p0 : Nat) (v_p0 : Nat → Int32) (x1 : Int32) (F : Nat) {u : (Nat → Int32)} (h : pm_J7_fill_53178 F n_p0 v_p0 x1 = some u) : MV l yJ7_fill_53178 cJ7_fill_53178 4 none rm_J7_fill_53178 [.ref q_p0, .int x1] D cI cB cZ [(q_p0, .inl (cI, n_p0, .inl v_p0))] (fun u : (Nat → Int32) => [(q_p0, .inl (cI, n_p0, .inl u))]) u := by
  refine ent_v (by decide) (Nat.le_of_ble_eq_true rfl) ?_
  intro p e s m args below meth c A ls Q hQ hx hb hr hml hown hts hlk hnm hK hA hP hD hS hl
  have hl : lv_has ls 4 [(0, .ref q_p0), (1, .int x1)] := hl
  rw [pm_J7_fill_53178] at h
  refine lv_iconst (v := (0 : Int32)) hx hb dJ7_fill_53178_0 (by decide) ?_
  refine lv_istore_n (lv' := [(2, .int (0 : Int32)), (0, .ref q_p0), (1, .int x1)]) hx hb dJ7_fill_53178_1 rfl hl (by decide) rfl (fun ls hl => ?_)
  refine lv_aload_n hx hb dJ7_fill_53178_2 rfl (lv_at hl 1 rfl) ?_
  refine va_alen hx hb hK.1 hP 0 0 rfl rfl (v := nI n_p0) rfl dJ7_fill_53178_3 ?_
  refine lv_istore_n (lv' := [(3, .int (nI n_p0)), (2, .int (0 : Int32)), (0, .ref q_p0), (1, .int x1)]) hx hb dJ7_fill_53178_4 rfl hl (by decide) rfl (fun ls hl => ?_)
  obtain ⟨v_p0_1, hw, h⟩ := bd1_s h
  have J_2 : ∀ (H : Heap) (locs : List Loc) (ls : Array Slot), va_P D vwCl [(q_p0, .inl (cI, n_p0, .inl v_p0_1))] H → va_D A [(q_p0, .inl (cI, n_p0, .inl v_p0_1))] → va_S A s.heap H locs → lv_has ls 4 [] → W p l e rm_J7_fill_53178 s m args below meth c H locs 0 0 Q (F0 m 20 ls []) := by
    intro H locs ls hP hD hS hl
    exact rt_v (u := v_p0_1) hQ hx hb hr hlk h hP hD hS dJ7_fill_53178_20
  replace h := hw
  have L : ∀ (k : Nat) (x2_3 : Int32) (v_p0_4 : Nat → Int32) (H : Heap) (locs : List Loc) (ls : Array Slot), va_P D vwCl [(q_p0, .inl (cI, n_p0, .inl v_p0_4))] H → va_D A [(q_p0, .inl (cI, n_p0, .inl v_p0_4))] → va_S A s.heap H locs → lv_has ls 4 [(0, .ref q_p0), (1, .int x1), (2, .int x2_3), (3, .int (nI n_p0))] → pm_J7_fill_53178_L5 F n_p0 x1 k x2_3 v_p0_4 = some v_p0_1 → W p l e rm_J7_fill_53178 s m args below meth c H locs 0 0 Q (F0 m 5 ls []) := by
    intro k
    induction k with
    | zero =>
      intro x2_3 v_p0_4 H locs ls hP hD hS hl h
      rw [pm_J7_fill_53178_L5] at h
      cases h
    | succ k ih =>
      intro x2_3 v_p0_4 H locs ls hP hD hS hl h
      rw [pm_J7_fill_53178_L5] at h
      refine lv_iload_n hx hb dJ7_fill_53178_5 rfl (lv_at hl 2 rfl) ?_
      refine lv_iload_n hx hb dJ7_fill_53178_6 rfl (lv_at hl 3 rfl) ?_
      refine lv_icmp_ge (tgt := 20) hx hb dJ7_fill_53178_7 (by decide) (fun cb => ?_) (fun cb => ?_)
      · replace h := pm_pos cb h
        cases h
        exact J_2 _ _ _ hP hD hS (lv_sub hl [] rfl)
      · replace h := pm_neg cb h
        refine lv_aload_n hx hb dJ7_fill_53178_10 rfl (lv_at hl 0 rfl) ?_
        refine lv_iload_n hx hb dJ7_fill_53178_11 rfl (lv_at hl 2 rfl) ?_
        refine lv_iload_n hx hb dJ7_fill_53178_12 rfl (lv_at hl 1 rfl) ?_
        obtain ⟨b_5, h⟩ := pm_in h
        refine va_iast hx hb hK.1 hP hD hS 0 0 rfl rfl b_5 dJ7_fill_53178_13 (fun H locs hP hD hS => ?_)
        have hP : va_P D vwCl [(q_p0, .inl (cI, n_p0, .inl (upd v_p0_4 x2_3.toNatClampNeg x1)))] H := hP
        have hD : va_D A [(q_p0, .inl (cI, n_p0, .inl (upd v_p0_4 x2_3.toNatClampNeg x1)))] := hD
        refine lv_iinc (v := x2_3 + (1 : Int32)) (lv' := [(2, .int (x2_3 + (1 : Int32))), (0, .ref q_p0), (1, .int x1), (3, .int (nI n_p0))]) hx hb dJ7_fill_53178_14 hl (k := 2) rfl rfl (by decide) rfl (fun ls hl => ?_)
        refine lv_goto (tgt := 5) hx hb dJ7_fill_53178_17 (by decide) ?_
        exact ih (x2_3 + (1 : Int32)) (upd v_p0_4 x2_3.toNatClampNeg x1) _ _ _ hP hD hS (lv_sub hl [1, 2, 0, 3] rfl) h
  exact L F (0 : Int32) v_p0 _ _ _ hP hD hS (lv_sub hl [2, 3, 1, 0] rfl) h
abbrev rm_X0_clearMarks : Room := { frames := 1, cells := 0, slots := 0, locals := 23 }
set_option maxHeartbeats 4000000 in
set_option maxRecDepth 100000 in
theorem c_X0_clearMarks (l : Launch) (D : va_G) (cI cB cZ : ClassId) (q_this : Nat) (q_stones : Nat) (q_near : Nat) (q_edges : Nat) (q_marks : Nat) (q_stack : Nat) (v_size : Int32) (n_marks : Nat) (v_marks : Nat → Int32) (F : Nat) {u : (Nat → Int32)} (h : pm_X0_clearMarks F n_marks v_marks = some u) : MV l yX0_clearMarks cX0_clearMarks 1 none rm_X0_clearMarks [.ref q_this] D cI cB cZ [(q_this, .inr (0, [.int v_size, .ref q_stones, .ref q_near, .ref q_edges, .ref q_marks, .ref q_stack])), (q_marks, .inl (cI, n_marks, .inl v_marks))] (fun u : (Nat → Int32) => [(q_this, .inr (0, [.int v_size, .ref q_stones, .ref q_near, .ref q_edges, .ref q_marks, .ref q_stack])), (q_marks, .inl (cI, n_marks, .inl u))]) u := by
  refine ent_v (by decide) (Nat.le_of_ble_eq_true rfl) ?_
  intro p e s m args below meth c A ls Q hQ hx hb hr hml hown hts hlk hnm hK hA hP hD hS hl
  have hl : lv_has ls 1 [(0, .ref q_this)] := hl
  rw [pm_X0_clearMarks] at h
  refine lv_aload_n hx hb dX0_clearMarks_0 rfl (lv_at hl 0 rfl) ?_
  refine va_get (D := D) (ci := 0) (v := .ref q_marks) (C := "HexTable$Board") (T := TX0) (N := 6) hx hb hts inX0 hown hK.1 hP 0 rfl rfl 4 (by decide) (hts _ wd_1_49) (fun _ h9 => h9) rfl dX0_clearMarks_1 ?_
  refine lv_iconst (v := (0 : Int32)) hx hb dX0_clearMarks_4 (by decide) ?_
  obtain ⟨v_marks_1, hc, h⟩ := bd1_s h
  refine aft_v (wr := [(q_this, .inr (0, [.int v_size, .ref q_stones, .ref q_near, .ref q_edges, .ref q_marks, .ref q_stack]))]) (wc := [(q_marks, .inl (cI, n_marks, .inl v_marks))]) hP hD hS hA [1] [0] rfl rfl (by decide) (by decide) (rn_S (As := [.ref q_marks, .int (0 : Int32)]) (rest := []) (n := 2) hx hb hml hown hts (c_J7_fill_53178 l D cI cB cZ q_marks n_marks v_marks (0 : Int32) F hc _) (pre_S hK hP hD [1] rfl (by decide)) wd_2_45 wd_2_46 wd_1_10 wd_2_47 (by decide +kernel) ⟨Nat.le_of_ble_eq_true rfl, Nat.le_of_ble_eq_true rfl⟩ ⟨Nat.le_of_ble_eq_true rfl, Nat.le_of_ble_eq_true rfl⟩ rfl hl.1 rfl (Nat.le_of_ble_eq_true rfl) dX0_clearMarks_5) (fun H locs hP hD hS => ?_)
  have hP : va_P D vwCl [(q_this, .inr (0, [.int v_size, .ref q_stones, .ref q_near, .ref q_edges, .ref q_marks, .ref q_stack])), (q_marks, .inl (cI, n_marks, .inl v_marks_1))] H := hP.sub [0, 1] rfl
  have hD : va_D A [(q_this, .inr (0, [.int v_size, .ref q_stones, .ref q_near, .ref q_edges, .ref q_marks, .ref q_stack])), (q_marks, .inl (cI, n_marks, .inl v_marks_1))] := hD.sub [0, 1] (by decide) rfl
  exact rt_v (u := v_marks_1) hQ hx hb hr hlk h hP hD hS dX0_clearMarks_8
abbrev rm_X0_markEmpty : Room := { frames := 1, cells := 0, slots := 0, locals := 21 }
set_option maxHeartbeats 4000000 in
set_option maxRecDepth 100000 in
theorem c_X0_markEmpty (l : Launch) (D : va_G) (cI cB cZ : ClassId) (q_this : Nat) (q_stones : Nat) (q_near : Nat) (q_edges : Nat) (q_marks : Nat) (q_stack : Nat) (v_size : Int32) (n_stones : Nat) (v_stones : Nat → Int32) (n_marks : Nat) (v_marks : Nat → Int32) (x1 : Int32) (F : Nat) {r : Int32} {u : (Nat → Int32)} (h : pm_X0_markEmpty F n_stones v_stones n_marks v_marks x1 = some (r, u)) : MI l yX0_markEmpty cX0_markEmpty 2 (some .boolean) rm_X0_markEmpty [.ref q_this, .int x1] D cI cB cZ [(q_this, .inr (0, [.int v_size, .ref q_stones, .ref q_near, .ref q_edges, .ref q_marks, .ref q_stack])), (q_stones, .inl (cI, n_stones, .inl v_stones)), (q_marks, .inl (cI, n_marks, .inl v_marks))] (fun u : (Nat → Int32) => [(q_this, .inr (0, [.int v_size, .ref q_stones, .ref q_near, .ref q_edges, .ref q_marks, .ref q_stack])), (q_stones, .inl (cI, n_stones, .inl v_stones)), (q_marks, .inl (cI, n_marks, .inl u))]) (r, u) := by
  refine ent_i (by decide) (Nat.le_of_ble_eq_true rfl) ?_
  intro p e s m args below meth c A ls Q hQ hx hb hr hml hown hts hlk hnm hK hA hP hD hS hl
  have hl : lv_has ls 2 [(0, .ref q_this), (1, .int x1)] := hl
  rw [pm_X0_markEmpty] at h
  refine lv_aload_n hx hb dX0_markEmpty_0 rfl (lv_at hl 0 rfl) ?_
  refine lv_iload_n hx hb dX0_markEmpty_1 rfl (lv_at hl 1 rfl) ?_
  obtain ⟨r_1, hc, h⟩ := bd1_s h
  refine aft_i (wr := [(q_marks, .inl (cI, n_marks, .inl v_marks))]) (wc := [(q_this, .inr (0, [.int v_size, .ref q_stones, .ref q_near, .ref q_edges, .ref q_marks, .ref q_stack])), (q_stones, .inl (cI, n_stones, .inl v_stones))]) hP hD hS hA [0, 1] [2] rfl rfl (by decide) (by decide) (rn_V (As := [.int x1]) (rest := []) (n := 1) hx hb hml hown hts (c_X0_isEmpty l D cI cB cZ q_this q_stones q_near q_edges q_marks q_stack v_size n_stones v_stones x1 F hc _) (pre_V hK hP hD [0, 1] rfl (by decide) (ci := 0) (q0 := 0) rfl rfl) wd_3_50 wd_2_26 wd_2_27 wd_1_3 wd_2_28 (by decide +kernel) ⟨Nat.le_of_ble_eq_true rfl, Nat.le_of_ble_eq_true rfl⟩ ⟨Nat.le_of_ble_eq_true rfl, Nat.le_of_ble_eq_true rfl⟩ rfl hl.1 rfl (Nat.le_of_ble_eq_true rfl) dX0_markEmpty_2) (fun H locs hP hD hS => ?_)
  have hP : va_P D vwCl [(q_this, .inr (0, [.int v_size, .ref q_stones, .ref q_near, .ref q_edges, .ref q_marks, .ref q_stack])), (q_stones, .inl (cI, n_stones, .inl v_stones)), (q_marks, .inl (cI, n_marks, .inl v_marks))] H := hP.sub [1, 2, 0] rfl
  have hD : va_D A [(q_this, .inr (0, [.int v_size, .ref q_stones, .ref q_near, .ref q_edges, .ref q_marks, .ref q_stack])), (q_stones, .inl (cI, n_stones, .inl v_stones)), (q_marks, .inl (cI, n_marks, .inl v_marks))] := hD.sub [1, 2, 0] (by decide) rfl
  refine lv_if_eq (tgt := 17) hx hb dX0_markEmpty_5 (by decide) (fun cb => ?_) (fun cb => ?_)
  · replace h := pm_pos cb h
    refine lv_iconst (v := (0 : Int32)) hx hb dX0_markEmpty_17 (by decide) ?_
    exact rt_z (u := v_marks) (Or.inl rfl) hQ hx hb hr hlk h hP hD hS dX0_markEmpty_18
  · replace h := pm_neg cb h
    refine lv_aload_n hx hb dX0_markEmpty_8 rfl (lv_at hl 0 rfl) ?_
    refine va_get (D := D) (ci := 0) (v := .ref q_marks) (C := "HexTable$Board") (T := TX0) (N := 6) hx hb hts inX0 hown hK.1 hP 0 rfl rfl 4 (by decide) (hts _ wd_1_49) (fun _ h9 => h9) rfl dX0_markEmpty_9 ?_
    refine lv_iload_n hx hb dX0_markEmpty_12 rfl (lv_at hl 1 rfl) ?_
    obtain ⟨b_2, h⟩ := pm_in h
    refine va_iald hx hb hK.1 hP 2 0 rfl rfl b_2 dX0_markEmpty_13 ?_
    refine lv_if_eq (tgt := 19) hx hb dX0_markEmpty_14 (by decide) (fun cb => ?_) (fun cb => ?_)
    · replace h := pm_pos cb h
      refine lv_aload_n hx hb dX0_markEmpty_19 rfl (lv_at hl 0 rfl) ?_
      refine va_get (D := D) (ci := 0) (v := .ref q_marks) (C := "HexTable$Board") (T := TX0) (N := 6) hx hb hts inX0 hown hK.1 hP 0 rfl rfl 4 (by decide) (hts _ wd_1_49) (fun _ h9 => h9) rfl dX0_markEmpty_20 ?_
      refine lv_iload_n hx hb dX0_markEmpty_23 rfl (lv_at hl 1 rfl) ?_
      refine lv_iconst (v := (1 : Int32)) hx hb dX0_markEmpty_24 (by decide) ?_
      refine va_iast hx hb hK.1 hP hD hS 2 0 rfl rfl b_2 dX0_markEmpty_25 (fun H locs hP hD hS => ?_)
      have hP : va_P D vwCl [(q_this, .inr (0, [.int v_size, .ref q_stones, .ref q_near, .ref q_edges, .ref q_marks, .ref q_stack])), (q_stones, .inl (cI, n_stones, .inl v_stones)), (q_marks, .inl (cI, n_marks, .inl (upd v_marks x1.toNatClampNeg (1 : Int32))))] H := hP
      have hD : va_D A [(q_this, .inr (0, [.int v_size, .ref q_stones, .ref q_near, .ref q_edges, .ref q_marks, .ref q_stack])), (q_stones, .inl (cI, n_stones, .inl v_stones)), (q_marks, .inl (cI, n_marks, .inl (upd v_marks x1.toNatClampNeg (1 : Int32))))] := hD
      refine lv_iconst (v := (1 : Int32)) hx hb dX0_markEmpty_26 (by decide) ?_
      exact rt_z (u := upd v_marks x1.toNatClampNeg (1 : Int32)) (Or.inr rfl) hQ hx hb hr hlk h hP hD hS dX0_markEmpty_27
    · replace h := pm_neg cb h
      refine lv_iconst (v := (0 : Int32)) hx hb dX0_markEmpty_17 (by decide) ?_
      exact rt_z (u := v_marks) (Or.inl rfl) hQ hx hb hr hlk h hP hD hS dX0_markEmpty_18
abbrev rm_X0_openAround : Room := { frames := 0, cells := 0, slots := 0, locals := 0 }
set_option maxHeartbeats 4000000 in
set_option maxRecDepth 100000 in
theorem c_X0_openAround (l : Launch) (D : va_G) (cI cB cZ : ClassId) (q_this : Nat) (q_stones : Nat) (q_near : Nat) (q_edges : Nat) (q_marks : Nat) (q_stack : Nat) (v_size : Int32) (n_stones : Nat) (v_stones : Nat → Int32) (n_near : Nat) (v_near : Nat → Int32) (n_marks : Nat) (v_marks : Nat → Int32) (n_stack : Nat) (v_stack : Nat → Int32) (x1 : Int32) (x2 : Int32) (x3 : Int32) (F : Nat) {r : Int32} {u : (Nat → Int32) × (Nat → Int32)} (h : pm_X0_openAround F n_stones v_stones n_near v_near n_marks v_marks n_stack v_stack x1 x2 x3 = some (r, u)) : MI l yX0_openAround cX0_openAround 7 (some .int) rm_X0_openAround [.ref q_this, .int x1, .int x2, .int x3] D cI cB cZ [(q_this, .inr (0, [.int v_size, .ref q_stones, .ref q_near, .ref q_edges, .ref q_marks, .ref q_stack])), (q_stones, .inl (cI, n_stones, .inl v_stones)), (q_near, .inl (cI, n_near, .inl v_near)), (q_marks, .inl (cI, n_marks, .inl v_marks)), (q_stack, .inl (cI, n_stack, .inl v_stack))] (fun u : (Nat → Int32) × (Nat → Int32) => [(q_this, .inr (0, [.int v_size, .ref q_stones, .ref q_near, .ref q_edges, .ref q_marks, .ref q_stack])), (q_stones, .inl (cI, n_stones, .inl v_stones)), (q_near, .inl (cI, n_near, .inl v_near)), (q_marks, .inl (cI, n_marks, .inl u.1)), (q_stack, .inl (cI, n_stack, .inl u.2))]) (r, u) := by
  refine ent_i (by decide) (Nat.le_of_ble_eq_true rfl) ?_
  intro p e s m args below meth c A ls Q hQ hx hb hr hml hown hts hlk hnm hK hA hP hD hS hl
  have hl : lv_has ls 7 [(0, .ref q_this), (1, .int x1), (2, .int x2), (3, .int x3)] := hl
  rw [pm_X0_openAround] at h
  refine lv_iload_n hx hb dX0_openAround_0 rfl (lv_at hl 3 rfl) ?_
  refine lv_istore (lv' := [(4, .int x3), (0, .ref q_this), (1, .int x1), (2, .int x2), (3, .int x3)]) hx hb dX0_openAround_1 hl (by decide) rfl (fun ls hl => ?_)
  refine lv_iconst (v := (0 : Int32)) hx hb dX0_openAround_3 (by decide) ?_
  refine lv_istore (lv' := [(5, .int (0 : Int32)), (4, .int x3), (0, .ref q_this), (1, .int x1), (2, .int x2), (3, .int x3)]) hx hb dX0_openAround_4 hl (by decide) rfl (fun ls hl => ?_)
  obtain ⟨x4_1, v_marks_2, v_stack_3, hw, h⟩ := bd3_s h
  have J_4 : ∀ (H : Heap) (locs : List Loc) (ls : Array Slot), va_P D vwCl [(q_this, .inr (0, [.int v_size, .ref q_stones, .ref q_near, .ref q_edges, .ref q_marks, .ref q_stack])), (q_stones, .inl (cI, n_stones, .inl v_stones)), (q_near, .inl (cI, n_near, .inl v_near)), (q_marks, .inl (cI, n_marks, .inl v_marks_2)), (q_stack, .inl (cI, n_stack, .inl v_stack_3))] H → va_D A [(q_this, .inr (0, [.int v_size, .ref q_stones, .ref q_near, .ref q_edges, .ref q_marks, .ref q_stack])), (q_stones, .inl (cI, n_stones, .inl v_stones)), (q_near, .inl (cI, n_near, .inl v_near)), (q_marks, .inl (cI, n_marks, .inl v_marks_2)), (q_stack, .inl (cI, n_stack, .inl v_stack_3))] → va_S A s.heap H locs → lv_has ls 7 [(4, .int x4_1)] → W p l e rm_X0_openAround s m args below meth c H locs 0 0 Q (F0 m 101 ls []) := by
    intro H locs ls hP hD hS hl
    refine lv_iload hx hb dX0_openAround_101 (lv_at hl 0 rfl) ?_
    exact rt_i (u := (v_marks_2, v_stack_3)) hQ hx hb hr hlk h hP hD hS dX0_openAround_103
  replace h := hw
  have L : ∀ (k : Nat) (x4_5 : Int32) (x5_6 : Int32) (v_marks_7 : Nat → Int32) (v_stack_8 : Nat → Int32) (H : Heap) (locs : List Loc) (ls : Array Slot), va_P D vwCl [(q_this, .inr (0, [.int v_size, .ref q_stones, .ref q_near, .ref q_edges, .ref q_marks, .ref q_stack])), (q_stones, .inl (cI, n_stones, .inl v_stones)), (q_near, .inl (cI, n_near, .inl v_near)), (q_marks, .inl (cI, n_marks, .inl v_marks_7)), (q_stack, .inl (cI, n_stack, .inl v_stack_8))] H → va_D A [(q_this, .inr (0, [.int v_size, .ref q_stones, .ref q_near, .ref q_edges, .ref q_marks, .ref q_stack])), (q_stones, .inl (cI, n_stones, .inl v_stones)), (q_near, .inl (cI, n_near, .inl v_near)), (q_marks, .inl (cI, n_marks, .inl v_marks_7)), (q_stack, .inl (cI, n_stack, .inl v_stack_8))] → va_S A s.heap H locs → lv_has ls 7 [(0, .ref q_this), (1, .int x1), (2, .int x2), (4, .int x4_5), (5, .int x5_6)] → pm_X0_openAround_L6 F n_stones v_stones n_near v_near n_marks n_stack x1 x2 k x4_5 x5_6 v_marks_7 v_stack_8 = some (x4_1, v_marks_2, v_stack_3) → W p l e rm_X0_openAround s m args below meth c H locs 0 0 Q (F0 m 6 ls []) := by
    intro k
    induction k with
    | zero =>
      intro x4_5 x5_6 v_marks_7 v_stack_8 H locs ls hP hD hS hl h
      rw [pm_X0_openAround_L6] at h
      cases h
    | succ k ih =>
      intro x4_5 x5_6 v_marks_7 v_stack_8 H locs ls hP hD hS hl h
      rw [pm_X0_openAround_L6] at h
      refine lv_iload hx hb dX0_openAround_6 (lv_at hl 4 rfl) ?_
      refine lv_bipush (v := (6 : Int32)) hx hb dX0_openAround_8 (by decide) ?_
      refine lv_icmp_ge (tgt := 101) hx hb dX0_openAround_10 (by decide) (fun cb => ?_) (fun cb => ?_)
      · replace h := pm_pos cb h
        cases h
        exact J_4 _ _ _ hP hD hS (lv_sub hl [3] rfl)
      · replace h := pm_neg cb h
        refine lv_aload_n hx hb dX0_openAround_13 rfl (lv_at hl 0 rfl) ?_
        refine va_get (D := D) (ci := 0) (v := .ref q_near) (C := "HexTable$Board") (T := TX0) (N := 6) hx hb hts inX0 hown hK.1 hP 0 rfl rfl 2 (by decide) (hts _ wd_1_47) (fun _ h9 => h9) rfl dX0_openAround_14 ?_
        refine lv_bipush (v := (6 : Int32)) hx hb dX0_openAround_17 (by decide) ?_
        refine lv_iload_n hx hb dX0_openAround_19 rfl (lv_at hl 1 rfl) ?_
        refine lv_imul hx hb dX0_openAround_20 ?_
        refine lv_iload hx hb dX0_openAround_21 (lv_at hl 4 rfl) ?_
        refine lv_iadd hx hb dX0_openAround_23 ?_
        obtain ⟨b_9, h⟩ := pm_in h
        refine va_iald hx hb hK.1 hP 2 0 rfl rfl b_9 dX0_openAround_24 ?_
        refine lv_istore (lv' := [(6, .int (v_near (((6 : Int32) * x1) + x5_6).toNatClampNeg)), (0, .ref q_this), (1, .int x1), (2, .int x2), (4, .int x4_5), (5, .int x5_6)]) hx hb dX0_openAround_25 hl (by decide) rfl (fun ls hl => ?_)
        refine lv_iload hx hb dX0_openAround_27 (lv_at hl 0 rfl) ?_
        refine lv_iconst (v := (-1 : Int32)) hx hb dX0_openAround_29 (by decide) ?_
        refine lv_icmp_eq (tgt := 95) hx hb dX0_openAround_30 (by decide) (fun cb => ?_) (fun cb => ?_)
        · replace h := pm_pos cb h
          refine lv_iinc (v := x5_6 + (1 : Int32)) (lv' := [(5, .int (x5_6 + (1 : Int32))), (6, .int (v_near (((6 : Int32) * x1) + x5_6).toNatClampNeg)), (0, .ref q_this), (1, .int x1), (2, .int x2), (4, .int x4_5)]) hx hb dX0_openAround_95 hl (k := 5) rfl rfl (by decide) rfl (fun ls hl => ?_)
          refine lv_goto (tgt := 6) hx hb dX0_openAround_98 (by decide) ?_
          exact ih x4_5 (x5_6 + (1 : Int32)) v_marks_7 v_stack_8 _ _ _ hP hD hS (lv_sub hl [2, 3, 4, 5, 0] rfl) h
        · replace h := pm_neg cb h
          refine lv_aload_n hx hb dX0_openAround_33 rfl (lv_at hl 1 rfl) ?_
          refine va_get (D := D) (ci := 0) (v := .ref q_stones) (C := "HexTable$Board") (T := TX0) (N := 6) hx hb hts inX0 hown hK.1 hP 0 rfl rfl 1 (by decide) (hts _ wd_1_44) (fun _ h9 => h9) rfl dX0_openAround_34 ?_
          refine lv_iload hx hb dX0_openAround_37 (lv_at hl 0 rfl) ?_
          obtain ⟨b_10, h⟩ := pm_in h
          refine va_iald hx hb hK.1 hP 1 0 rfl rfl b_10 dX0_openAround_39 ?_
          refine lv_aload_n hx hb dX0_openAround_40 rfl (lv_at hl 1 rfl) ?_
          refine va_get (D := D) (ci := 0) (v := .ref q_stones) (C := "HexTable$Board") (T := TX0) (N := 6) hx hb hts inX0 hown hK.1 hP 0 rfl rfl 1 (by decide) (hts _ wd_1_44) (fun _ h9 => h9) rfl dX0_openAround_41 ?_
          refine lv_iload_n hx hb dX0_openAround_44 rfl (lv_at hl 2 rfl) ?_
          obtain ⟨b_11, h⟩ := pm_in h
          refine va_iald hx hb hK.1 hP 1 0 rfl rfl b_11 dX0_openAround_45 ?_
          refine lv_icmp_ne (tgt := 95) hx hb dX0_openAround_46 (by decide) (fun cb => ?_) (fun cb => ?_)
          · replace h := pm_neg cb h
            refine lv_iinc (v := x5_6 + (1 : Int32)) (lv' := [(5, .int (x5_6 + (1 : Int32))), (6, .int (v_near (((6 : Int32) * x1) + x5_6).toNatClampNeg)), (0, .ref q_this), (1, .int x1), (2, .int x2), (4, .int x4_5)]) hx hb dX0_openAround_95 hl (k := 5) rfl rfl (by decide) rfl (fun ls hl => ?_)
            refine lv_goto (tgt := 6) hx hb dX0_openAround_98 (by decide) ?_
            exact ih x4_5 (x5_6 + (1 : Int32)) v_marks_7 v_stack_8 _ _ _ hP hD hS (lv_sub hl [2, 3, 4, 5, 0] rfl) h
          · replace h := pm_pos cb h
            refine lv_aload_n hx hb dX0_openAround_49 rfl (lv_at hl 1 rfl) ?_
            refine va_get (D := D) (ci := 0) (v := .ref q_marks) (C := "HexTable$Board") (T := TX0) (N := 6) hx hb hts inX0 hown hK.1 hP 0 rfl rfl 4 (by decide) (hts _ wd_1_49) (fun _ h9 => h9) rfl dX0_openAround_50 ?_
            refine lv_iload hx hb dX0_openAround_53 (lv_at hl 0 rfl) ?_
            obtain ⟨b_12, h⟩ := pm_in h
            refine va_iald hx hb hK.1 hP 3 0 rfl rfl b_12 dX0_openAround_55 ?_
            refine lv_iload_n hx hb dX0_openAround_56 rfl (lv_at hl 3 rfl) ?_
            refine lv_iand hx hb dX0_openAround_57 ?_
            refine lv_iload_n hx hb dX0_openAround_58 rfl (lv_at hl 3 rfl) ?_
            refine lv_icmp_eq (tgt := 95) hx hb dX0_openAround_59 (by decide) (fun cb => ?_) (fun cb => ?_)
            · replace h := pm_pos cb h
              refine lv_iinc (v := x5_6 + (1 : Int32)) (lv' := [(5, .int (x5_6 + (1 : Int32))), (6, .int (v_near (((6 : Int32) * x1) + x5_6).toNatClampNeg)), (0, .ref q_this), (1, .int x1), (2, .int x2), (4, .int x4_5)]) hx hb dX0_openAround_95 hl (k := 5) rfl rfl (by decide) rfl (fun ls hl => ?_)
              refine lv_goto (tgt := 6) hx hb dX0_openAround_98 (by decide) ?_
              exact ih x4_5 (x5_6 + (1 : Int32)) v_marks_7 v_stack_8 _ _ _ hP hD hS (lv_sub hl [2, 3, 4, 5, 0] rfl) h
            · replace h := pm_neg cb h
              refine lv_iload hx hb dX0_openAround_62 (lv_at hl 4 rfl) ?_
              refine lv_aload_n hx hb dX0_openAround_64 rfl (lv_at hl 1 rfl) ?_
              refine va_get (D := D) (ci := 0) (v := .ref q_stack) (C := "HexTable$Board") (T := TX0) (N := 6) hx hb hts inX0 hown hK.1 hP 0 rfl rfl 5 (by decide) (hts _ wd_1_50) (fun _ h9 => h9) rfl dX0_openAround_65 ?_
              refine va_alen hx hb hK.1 hP 4 0 rfl rfl (v := nI n_stack) rfl dX0_openAround_68 ?_
              refine lv_icmp_ge (tgt := 95) hx hb dX0_openAround_69 (by decide) (fun cb => ?_) (fun cb => ?_)
              · replace h := pm_pos cb h
                refine lv_iinc (v := x5_6 + (1 : Int32)) (lv' := [(5, .int (x5_6 + (1 : Int32))), (6, .int (v_near (((6 : Int32) * x1) + x5_6).toNatClampNeg)), (0, .ref q_this), (1, .int x1), (2, .int x2), (4, .int x4_5)]) hx hb dX0_openAround_95 hl (k := 5) rfl rfl (by decide) rfl (fun ls hl => ?_)
                refine lv_goto (tgt := 6) hx hb dX0_openAround_98 (by decide) ?_
                exact ih x4_5 (x5_6 + (1 : Int32)) v_marks_7 v_stack_8 _ _ _ hP hD hS (lv_sub hl [2, 3, 4, 5, 0] rfl) h
              · replace h := pm_neg cb h
                refine lv_aload_n hx hb dX0_openAround_72 rfl (lv_at hl 1 rfl) ?_
                refine va_get (D := D) (ci := 0) (v := .ref q_marks) (C := "HexTable$Board") (T := TX0) (N := 6) hx hb hts inX0 hown hK.1 hP 0 rfl rfl 4 (by decide) (hts _ wd_1_49) (fun _ h9 => h9) rfl dX0_openAround_73 ?_
                refine lv_iload hx hb dX0_openAround_76 (lv_at hl 0 rfl) ?_
                refine lv_dup2_11 hx hb dX0_openAround_78 rfl rfl ?_
                refine va_iald hx hb hK.1 hP 3 0 rfl rfl b_12 dX0_openAround_79 ?_
                refine lv_iload_n hx hb dX0_openAround_80 rfl (lv_at hl 3 rfl) ?_
                refine lv_ior hx hb dX0_openAround_81 ?_
                refine va_iast hx hb hK.1 hP hD hS 3 0 rfl rfl b_12 dX0_openAround_82 (fun H locs hP hD hS => ?_)
                have hP : va_P D vwCl [(q_this, .inr (0, [.int v_size, .ref q_stones, .ref q_near, .ref q_edges, .ref q_marks, .ref q_stack])), (q_stones, .inl (cI, n_stones, .inl v_stones)), (q_near, .inl (cI, n_near, .inl v_near)), (q_marks, .inl (cI, n_marks, .inl (upd v_marks_7 (v_near (((6 : Int32) * x1) + x5_6).toNatClampNeg).toNatClampNeg ((v_marks_7 (v_near (((6 : Int32) * x1) + x5_6).toNatClampNeg).toNatClampNeg) ||| x2)))), (q_stack, .inl (cI, n_stack, .inl v_stack_8))] H := hP
                have hD : va_D A [(q_this, .inr (0, [.int v_size, .ref q_stones, .ref q_near, .ref q_edges, .ref q_marks, .ref q_stack])), (q_stones, .inl (cI, n_stones, .inl v_stones)), (q_near, .inl (cI, n_near, .inl v_near)), (q_marks, .inl (cI, n_marks, .inl (upd v_marks_7 (v_near (((6 : Int32) * x1) + x5_6).toNatClampNeg).toNatClampNeg ((v_marks_7 (v_near (((6 : Int32) * x1) + x5_6).toNatClampNeg).toNatClampNeg) ||| x2)))), (q_stack, .inl (cI, n_stack, .inl v_stack_8))] := hD
                refine lv_aload_n hx hb dX0_openAround_83 rfl (lv_at hl 1 rfl) ?_
                refine va_get (D := D) (ci := 0) (v := .ref q_stack) (C := "HexTable$Board") (T := TX0) (N := 6) hx hb hts inX0 hown hK.1 hP 0 rfl rfl 5 (by decide) (hts _ wd_1_50) (fun _ h9 => h9) rfl dX0_openAround_84 ?_
                refine lv_iload hx hb dX0_openAround_87 (lv_at hl 4 rfl) ?_
                refine lv_iload hx hb dX0_openAround_89 (lv_at hl 0 rfl) ?_
                obtain ⟨b_13, h⟩ := pm_in h
                refine va_iast hx hb hK.1 hP hD hS 4 0 rfl rfl b_13 dX0_openAround_91 (fun H locs hP hD hS => ?_)
                have hP : va_P D vwCl [(q_this, .inr (0, [.int v_size, .ref q_stones, .ref q_near, .ref q_edges, .ref q_marks, .ref q_stack])), (q_stones, .inl (cI, n_stones, .inl v_stones)), (q_near, .inl (cI, n_near, .inl v_near)), (q_marks, .inl (cI, n_marks, .inl (upd v_marks_7 (v_near (((6 : Int32) * x1) + x5_6).toNatClampNeg).toNatClampNeg ((v_marks_7 (v_near (((6 : Int32) * x1) + x5_6).toNatClampNeg).toNatClampNeg) ||| x2)))), (q_stack, .inl (cI, n_stack, .inl (upd v_stack_8 x4_5.toNatClampNeg (v_near (((6 : Int32) * x1) + x5_6).toNatClampNeg))))] H := hP
                have hD : va_D A [(q_this, .inr (0, [.int v_size, .ref q_stones, .ref q_near, .ref q_edges, .ref q_marks, .ref q_stack])), (q_stones, .inl (cI, n_stones, .inl v_stones)), (q_near, .inl (cI, n_near, .inl v_near)), (q_marks, .inl (cI, n_marks, .inl (upd v_marks_7 (v_near (((6 : Int32) * x1) + x5_6).toNatClampNeg).toNatClampNeg ((v_marks_7 (v_near (((6 : Int32) * x1) + x5_6).toNatClampNeg).toNatClampNeg) ||| x2)))), (q_stack, .inl (cI, n_stack, .inl (upd v_stack_8 x4_5.toNatClampNeg (v_near (((6 : Int32) * x1) + x5_6).toNatClampNeg))))] := hD
                refine lv_iinc (v := x4_5 + (1 : Int32)) (lv' := [(4, .int (x4_5 + (1 : Int32))), (6, .int (v_near (((6 : Int32) * x1) + x5_6).toNatClampNeg)), (0, .ref q_this), (1, .int x1), (2, .int x2), (5, .int x5_6)]) hx hb dX0_openAround_92 hl (k := 4) rfl rfl (by decide) rfl (fun ls hl => ?_)
                refine lv_iinc (v := x5_6 + (1 : Int32)) (lv' := [(5, .int (x5_6 + (1 : Int32))), (4, .int (x4_5 + (1 : Int32))), (6, .int (v_near (((6 : Int32) * x1) + x5_6).toNatClampNeg)), (0, .ref q_this), (1, .int x1), (2, .int x2)]) hx hb dX0_openAround_95 hl (k := 5) rfl rfl (by decide) rfl (fun ls hl => ?_)
                refine lv_goto (tgt := 6) hx hb dX0_openAround_98 (by decide) ?_
                exact ih (x4_5 + (1 : Int32)) (x5_6 + (1 : Int32)) (upd v_marks_7 (v_near (((6 : Int32) * x1) + x5_6).toNatClampNeg).toNatClampNeg ((v_marks_7 (v_near (((6 : Int32) * x1) + x5_6).toNatClampNeg).toNatClampNeg) ||| x2)) (upd v_stack_8 x4_5.toNatClampNeg (v_near (((6 : Int32) * x1) + x5_6).toNatClampNeg)) _ _ _ hP hD hS (lv_sub hl [3, 4, 5, 1, 0] rfl) h
  exact L F x3 (0 : Int32) v_marks v_stack _ _ _ hP hD hS (lv_sub hl [2, 3, 4, 1, 0] rfl) h
abbrev rm_X0_markChain : Room := { frames := 1, cells := 0, slots := 0, locals := 26 }
set_option maxHeartbeats 4000000 in
set_option maxRecDepth 100000 in
theorem c_X0_markChain (l : Launch) (D : va_G) (cI cB cZ : ClassId) (q_this : Nat) (q_stones : Nat) (q_near : Nat) (q_edges : Nat) (q_marks : Nat) (q_stack : Nat) (v_size : Int32) (n_stones : Nat) (v_stones : Nat → Int32) (n_near : Nat) (v_near : Nat → Int32) (n_marks : Nat) (v_marks : Nat → Int32) (n_stack : Nat) (v_stack : Nat → Int32) (x1 : Int32) (x2 : Int32) (F : Nat) {u : (Nat → Int32) × (Nat → Int32)} (h : pm_X0_markChain F n_stones v_stones n_near v_near n_marks v_marks n_stack v_stack x1 x2 = some u) : MV l yX0_markChain cX0_markChain 5 none rm_X0_markChain [.ref q_this, .int x1, .int x2] D cI cB cZ [(q_this, .inr (0, [.int v_size, .ref q_stones, .ref q_near, .ref q_edges, .ref q_marks, .ref q_stack])), (q_stones, .inl (cI, n_stones, .inl v_stones)), (q_near, .inl (cI, n_near, .inl v_near)), (q_marks, .inl (cI, n_marks, .inl v_marks)), (q_stack, .inl (cI, n_stack, .inl v_stack))] (fun u : (Nat → Int32) × (Nat → Int32) => [(q_this, .inr (0, [.int v_size, .ref q_stones, .ref q_near, .ref q_edges, .ref q_marks, .ref q_stack])), (q_stones, .inl (cI, n_stones, .inl v_stones)), (q_near, .inl (cI, n_near, .inl v_near)), (q_marks, .inl (cI, n_marks, .inl u.1)), (q_stack, .inl (cI, n_stack, .inl u.2))]) u := by
  refine ent_v (by decide) (Nat.le_of_ble_eq_true rfl) ?_
  intro p e s m args below meth c A ls Q hQ hx hb hr hml hown hts hlk hnm hK hA hP hD hS hl
  have hl : lv_has ls 5 [(0, .ref q_this), (1, .int x1), (2, .int x2)] := hl
  rw [pm_X0_markChain] at h
  refine lv_aload_n hx hb dX0_markChain_0 rfl (lv_at hl 0 rfl) ?_
  refine va_get (D := D) (ci := 0) (v := .ref q_marks) (C := "HexTable$Board") (T := TX0) (N := 6) hx hb hts inX0 hown hK.1 hP 0 rfl rfl 4 (by decide) (hts _ wd_1_49) (fun _ h9 => h9) rfl dX0_markChain_1 ?_
  refine lv_iload_n hx hb dX0_markChain_4 rfl (lv_at hl 1 rfl) ?_
  obtain ⟨b_1, h⟩ := pm_in h
  refine va_iald hx hb hK.1 hP 3 0 rfl rfl b_1 dX0_markChain_5 ?_
  refine lv_iload_n hx hb dX0_markChain_6 rfl (lv_at hl 2 rfl) ?_
  refine lv_iand hx hb dX0_markChain_7 ?_
  refine lv_iload_n hx hb dX0_markChain_8 rfl (lv_at hl 2 rfl) ?_
  refine lv_icmp_ne (tgt := 13) hx hb dX0_markChain_9 (by decide) (fun cb => ?_) (fun cb => ?_)
  · replace h := pm_neg cb h
    refine lv_aload_n hx hb dX0_markChain_13 rfl (lv_at hl 0 rfl) ?_
    refine va_get (D := D) (ci := 0) (v := .ref q_marks) (C := "HexTable$Board") (T := TX0) (N := 6) hx hb hts inX0 hown hK.1 hP 0 rfl rfl 4 (by decide) (hts _ wd_1_49) (fun _ h9 => h9) rfl dX0_markChain_14 ?_
    refine lv_iload_n hx hb dX0_markChain_17 rfl (lv_at hl 1 rfl) ?_
    refine lv_dup2_11 hx hb dX0_markChain_18 rfl rfl ?_
    refine va_iald hx hb hK.1 hP 3 0 rfl rfl b_1 dX0_markChain_19 ?_
    refine lv_iload_n hx hb dX0_markChain_20 rfl (lv_at hl 2 rfl) ?_
    refine lv_ior hx hb dX0_markChain_21 ?_
    refine va_iast hx hb hK.1 hP hD hS 3 0 rfl rfl b_1 dX0_markChain_22 (fun H locs hP hD hS => ?_)
    have hP : va_P D vwCl [(q_this, .inr (0, [.int v_size, .ref q_stones, .ref q_near, .ref q_edges, .ref q_marks, .ref q_stack])), (q_stones, .inl (cI, n_stones, .inl v_stones)), (q_near, .inl (cI, n_near, .inl v_near)), (q_marks, .inl (cI, n_marks, .inl (upd v_marks x1.toNatClampNeg ((v_marks x1.toNatClampNeg) ||| x2)))), (q_stack, .inl (cI, n_stack, .inl v_stack))] H := hP
    have hD : va_D A [(q_this, .inr (0, [.int v_size, .ref q_stones, .ref q_near, .ref q_edges, .ref q_marks, .ref q_stack])), (q_stones, .inl (cI, n_stones, .inl v_stones)), (q_near, .inl (cI, n_near, .inl v_near)), (q_marks, .inl (cI, n_marks, .inl (upd v_marks x1.toNatClampNeg ((v_marks x1.toNatClampNeg) ||| x2)))), (q_stack, .inl (cI, n_stack, .inl v_stack))] := hD
    refine lv_aload_n hx hb dX0_markChain_23 rfl (lv_at hl 0 rfl) ?_
    refine va_get (D := D) (ci := 0) (v := .ref q_stack) (C := "HexTable$Board") (T := TX0) (N := 6) hx hb hts inX0 hown hK.1 hP 0 rfl rfl 5 (by decide) (hts _ wd_1_50) (fun _ h9 => h9) rfl dX0_markChain_24 ?_
    refine lv_iconst (v := (0 : Int32)) hx hb dX0_markChain_27 (by decide) ?_
    refine lv_iload_n hx hb dX0_markChain_28 rfl (lv_at hl 1 rfl) ?_
    obtain ⟨b_2, h⟩ := pm_in h
    refine va_iast hx hb hK.1 hP hD hS 4 0 rfl rfl b_2 dX0_markChain_29 (fun H locs hP hD hS => ?_)
    have hP : va_P D vwCl [(q_this, .inr (0, [.int v_size, .ref q_stones, .ref q_near, .ref q_edges, .ref q_marks, .ref q_stack])), (q_stones, .inl (cI, n_stones, .inl v_stones)), (q_near, .inl (cI, n_near, .inl v_near)), (q_marks, .inl (cI, n_marks, .inl (upd v_marks x1.toNatClampNeg ((v_marks x1.toNatClampNeg) ||| x2)))), (q_stack, .inl (cI, n_stack, .inl (upd v_stack (0 : Int32).toNatClampNeg x1)))] H := hP
    have hD : va_D A [(q_this, .inr (0, [.int v_size, .ref q_stones, .ref q_near, .ref q_edges, .ref q_marks, .ref q_stack])), (q_stones, .inl (cI, n_stones, .inl v_stones)), (q_near, .inl (cI, n_near, .inl v_near)), (q_marks, .inl (cI, n_marks, .inl (upd v_marks x1.toNatClampNeg ((v_marks x1.toNatClampNeg) ||| x2)))), (q_stack, .inl (cI, n_stack, .inl (upd v_stack (0 : Int32).toNatClampNeg x1)))] := hD
    refine lv_iconst (v := (1 : Int32)) hx hb dX0_markChain_30 (by decide) ?_
    refine lv_istore_n (lv' := [(3, .int (1 : Int32)), (0, .ref q_this), (1, .int x1), (2, .int x2)]) hx hb dX0_markChain_31 rfl hl (by decide) rfl (fun ls hl => ?_)
    refine lv_iconst (v := (0 : Int32)) hx hb dX0_markChain_32 (by decide) ?_
    refine lv_istore (lv' := [(4, .int (0 : Int32)), (3, .int (1 : Int32)), (0, .ref q_this), (1, .int x1), (2, .int x2)]) hx hb dX0_markChain_33 hl (by decide) rfl (fun ls hl => ?_)
    obtain ⟨v_marks_3, v_stack_4, hw, h⟩ := bd2_s h
    have J_5 : ∀ (H : Heap) (locs : List Loc) (ls : Array Slot), va_P D vwCl [(q_this, .inr (0, [.int v_size, .ref q_stones, .ref q_near, .ref q_edges, .ref q_marks, .ref q_stack])), (q_stones, .inl (cI, n_stones, .inl v_stones)), (q_near, .inl (cI, n_near, .inl v_near)), (q_marks, .inl (cI, n_marks, .inl v_marks_3)), (q_stack, .inl (cI, n_stack, .inl v_stack_4))] H → va_D A [(q_this, .inr (0, [.int v_size, .ref q_stones, .ref q_near, .ref q_edges, .ref q_marks, .ref q_stack])), (q_stones, .inl (cI, n_stones, .inl v_stones)), (q_near, .inl (cI, n_near, .inl v_near)), (q_marks, .inl (cI, n_marks, .inl v_marks_3)), (q_stack, .inl (cI, n_stack, .inl v_stack_4))] → va_S A s.heap H locs → lv_has ls 5 [] → W p l e rm_X0_markChain s m args below meth c H locs 0 0 Q (F0 m 71 ls []) := by
      intro H locs ls hP hD hS hl
      exact rt_v (u := (v_marks_3, v_stack_4)) hQ hx hb hr hlk h hP hD hS dX0_markChain_71
    replace h := hw
    have L : ∀ (k : Nat) (x3_6 : Int32) (x4_7 : Int32) (v_marks_8 : Nat → Int32) (v_stack_9 : Nat → Int32) (H : Heap) (locs : List Loc) (ls : Array Slot), va_P D vwCl [(q_this, .inr (0, [.int v_size, .ref q_stones, .ref q_near, .ref q_edges, .ref q_marks, .ref q_stack])), (q_stones, .inl (cI, n_stones, .inl v_stones)), (q_near, .inl (cI, n_near, .inl v_near)), (q_marks, .inl (cI, n_marks, .inl v_marks_8)), (q_stack, .inl (cI, n_stack, .inl v_stack_9))] H → va_D A [(q_this, .inr (0, [.int v_size, .ref q_stones, .ref q_near, .ref q_edges, .ref q_marks, .ref q_stack])), (q_stones, .inl (cI, n_stones, .inl v_stones)), (q_near, .inl (cI, n_near, .inl v_near)), (q_marks, .inl (cI, n_marks, .inl v_marks_8)), (q_stack, .inl (cI, n_stack, .inl v_stack_9))] → va_S A s.heap H locs → lv_has ls 5 [(0, .ref q_this), (2, .int x2), (3, .int x3_6), (4, .int x4_7)] → pm_X0_markChain_L35 F n_stones v_stones n_near v_near n_marks n_stack x2 k x3_6 x4_7 v_marks_8 v_stack_9 = some (v_marks_3, v_stack_4) → W p l e rm_X0_markChain s m args below meth c H locs 0 0 Q (F0 m 35 ls []) := by
      intro k
      induction k with
      | zero =>
        intro x3_6 x4_7 v_marks_8 v_stack_9 H locs ls hP hD hS hl h
        rw [pm_X0_markChain_L35] at h
        cases h
      | succ k ih =>
        intro x3_6 x4_7 v_marks_8 v_stack_9 H locs ls hP hD hS hl h
        rw [pm_X0_markChain_L35] at h
        refine lv_iload hx hb dX0_markChain_35 (lv_at hl 3 rfl) ?_
        refine lv_aload_n hx hb dX0_markChain_37 rfl (lv_at hl 0 rfl) ?_
        refine va_get (D := D) (ci := 0) (v := .ref q_stack) (C := "HexTable$Board") (T := TX0) (N := 6) hx hb hts inX0 hown hK.1 hP 0 rfl rfl 5 (by decide) (hts _ wd_1_50) (fun _ h9 => h9) rfl dX0_markChain_38 ?_
        refine va_alen hx hb hK.1 hP 4 0 rfl rfl (v := nI n_stack) rfl dX0_markChain_41 ?_
        refine lv_icmp_ge (tgt := 71) hx hb dX0_markChain_42 (by decide) (fun cb => ?_) (fun cb => ?_)
        · replace h := pm_pos cb h
          cases h
          exact J_5 _ _ _ hP hD hS (lv_sub hl [] rfl)
        · replace h := pm_neg cb h
          refine lv_iload_n hx hb dX0_markChain_45 rfl (lv_at hl 2 rfl) ?_
          refine lv_if_le (tgt := 71) hx hb dX0_markChain_46 (by decide) (fun cb => ?_) (fun cb => ?_)
          · replace h := pm_pos cb h
            cases h
            exact J_5 _ _ _ hP hD hS (lv_sub hl [] rfl)
          · replace h := pm_neg cb h
            refine lv_iinc (v := x3_6 + (-1 : Int32)) (lv' := [(3, .int (x3_6 + (-1 : Int32))), (0, .ref q_this), (2, .int x2), (4, .int x4_7)]) hx hb dX0_markChain_49 hl (k := 2) rfl rfl (by decide) rfl (fun ls hl => ?_)
            refine lv_aload_n hx hb dX0_markChain_52 rfl (lv_at hl 1 rfl) ?_
            refine lv_aload_n hx hb dX0_markChain_53 rfl (lv_at hl 1 rfl) ?_
            refine va_get (D := D) (ci := 0) (v := .ref q_stack) (C := "HexTable$Board") (T := TX0) (N := 6) hx hb hts inX0 hown hK.1 hP 0 rfl rfl 5 (by decide) (hts _ wd_1_50) (fun _ h9 => h9) rfl dX0_markChain_54 ?_
            refine lv_iload_n hx hb dX0_markChain_57 rfl (lv_at hl 0 rfl) ?_
            obtain ⟨b_10, h⟩ := pm_in h
            refine va_iald hx hb hK.1 hP 4 0 rfl rfl b_10 dX0_markChain_58 ?_
            refine lv_iload_n hx hb dX0_markChain_59 rfl (lv_at hl 2 rfl) ?_
            refine lv_iload_n hx hb dX0_markChain_60 rfl (lv_at hl 0 rfl) ?_
            obtain ⟨r_11, v_marks_12, v_stack_13, hc, h⟩ := bd3_s h
            refine aft_i (wr := []) (wc := [(q_this, .inr (0, [.int v_size, .ref q_stones, .ref q_near, .ref q_edges, .ref q_marks, .ref q_stack])), (q_stones, .inl (cI, n_stones, .inl v_stones)), (q_near, .inl (cI, n_near, .inl v_near)), (q_marks, .inl (cI, n_marks, .inl v_marks_8)), (q_stack, .inl (cI, n_stack, .inl v_stack_9))]) hP hD hS hA [0, 1, 2, 3, 4] [] rfl rfl (by decide) (by decide) (rn_V (As := [.int (v_stack_9 (x3_6 + (-1 : Int32)).toNatClampNeg), .int x2, .int (x3_6 + (-1 : Int32))]) (rest := []) (n := 3) hx hb hml hown hts (c_X0_openAround l D cI cB cZ q_this q_stones q_near q_edges q_marks q_stack v_size n_stones v_stones n_near v_near n_marks v_marks_8 n_stack v_stack_9 (v_stack_9 (x3_6 + (-1 : Int32)).toNatClampNeg) x2 (x3_6 + (-1 : Int32)) F hc _) (pre_V hK hP hD [0, 1, 2, 3, 4] rfl (by decide) (ci := 0) (q0 := 0) rfl rfl) wd_2_56 wd_2_58 wp_2 wd_1_3 wd_2_59 (by decide +kernel) ⟨Nat.le_of_ble_eq_true rfl, Nat.le_of_ble_eq_true rfl⟩ ⟨Nat.le_of_ble_eq_true rfl, Nat.le_of_ble_eq_true rfl⟩ rfl hl.1 rfl (Nat.le_of_ble_eq_true rfl) dX0_markChain_61) (fun H locs hP hD hS => ?_)
            have hP : va_P D vwCl [(q_this, .inr (0, [.int v_size, .ref q_stones, .ref q_near, .ref q_edges, .ref q_marks, .ref q_stack])), (q_stones, .inl (cI, n_stones, .inl v_stones)), (q_near, .inl (cI, n_near, .inl v_near)), (q_marks, .inl (cI, n_marks, .inl v_marks_12)), (q_stack, .inl (cI, n_stack, .inl v_stack_13))] H := hP.sub [0, 1, 2, 3, 4] rfl
            have hD : va_D A [(q_this, .inr (0, [.int v_size, .ref q_stones, .ref q_near, .ref q_edges, .ref q_marks, .ref q_stack])), (q_stones, .inl (cI, n_stones, .inl v_stones)), (q_near, .inl (cI, n_near, .inl v_near)), (q_marks, .inl (cI, n_marks, .inl v_marks_12)), (q_stack, .inl (cI, n_stack, .inl v_stack_13))] := hD.sub [0, 1, 2, 3, 4] (by decide) rfl
            refine lv_istore_n (lv' := [(3, .int r_11), (0, .ref q_this), (2, .int x2), (4, .int x4_7)]) hx hb dX0_markChain_64 rfl hl (by decide) rfl (fun ls hl => ?_)
            refine lv_iinc (v := x4_7 + (1 : Int32)) (lv' := [(4, .int (x4_7 + (1 : Int32))), (3, .int r_11), (0, .ref q_this), (2, .int x2)]) hx hb dX0_markChain_65 hl (k := 3) rfl rfl (by decide) rfl (fun ls hl => ?_)
            refine lv_goto (tgt := 35) hx hb dX0_markChain_68 (by decide) ?_
            exact ih r_11 (x4_7 + (1 : Int32)) v_marks_12 v_stack_13 _ _ _ hP hD hS (lv_sub hl [2, 3, 1, 0] rfl) h
    exact L F (1 : Int32) (0 : Int32) (upd v_marks x1.toNatClampNeg ((v_marks x1.toNatClampNeg) ||| x2)) (upd v_stack (0 : Int32).toNatClampNeg x1) _ _ _ hP hD hS (lv_sub hl [2, 4, 1, 0] rfl) h
  · replace h := pm_pos cb h
    exact rt_v (u := (v_marks, v_stack)) hQ hx hb hr hlk h hP hD hS dX0_markChain_12
abbrev rm_X0_chainName : Room := { frames := 2, cells := 0, slots := 0, locals := 50 }
set_option maxHeartbeats 4000000 in
set_option maxRecDepth 100000 in
theorem c_X0_chainName (l : Launch) (D : va_G) (cI cB cZ : ClassId) (q_this : Nat) (q_stones : Nat) (q_near : Nat) (q_edges : Nat) (q_marks : Nat) (q_stack : Nat) (v_size : Int32) (n_stones : Nat) (v_stones : Nat → Int32) (n_near : Nat) (v_near : Nat → Int32) (n_marks : Nat) (v_marks : Nat → Int32) (n_stack : Nat) (v_stack : Nat → Int32) (x1 : Int32) (F : Nat) {r : Int32} {u : (Nat → Int32) × (Nat → Int32)} (h : pm_X0_chainName F n_stones v_stones n_near v_near n_marks v_marks n_stack v_stack x1 = some (r, u)) : MI l yX0_chainName cX0_chainName 3 (some .int) rm_X0_chainName [.ref q_this, .int x1] D cI cB cZ [(q_this, .inr (0, [.int v_size, .ref q_stones, .ref q_near, .ref q_edges, .ref q_marks, .ref q_stack])), (q_stones, .inl (cI, n_stones, .inl v_stones)), (q_near, .inl (cI, n_near, .inl v_near)), (q_marks, .inl (cI, n_marks, .inl v_marks)), (q_stack, .inl (cI, n_stack, .inl v_stack))] (fun u : (Nat → Int32) × (Nat → Int32) => [(q_this, .inr (0, [.int v_size, .ref q_stones, .ref q_near, .ref q_edges, .ref q_marks, .ref q_stack])), (q_stones, .inl (cI, n_stones, .inl v_stones)), (q_near, .inl (cI, n_near, .inl v_near)), (q_marks, .inl (cI, n_marks, .inl u.1)), (q_stack, .inl (cI, n_stack, .inl u.2))]) (r, u) := by
  refine ent_i (by decide) (Nat.le_of_ble_eq_true rfl) ?_
  intro p e s m args below meth c A ls Q hQ hx hb hr hml hown hts hlk hnm hK hA hP hD hS hl
  have hl : lv_has ls 3 [(0, .ref q_this), (1, .int x1)] := hl
  rw [pm_X0_chainName] at h
  refine lv_aload_n hx hb dX0_chainName_0 rfl (lv_at hl 0 rfl) ?_
  refine lv_iload_n hx hb dX0_chainName_1 rfl (lv_at hl 1 rfl) ?_
  obtain ⟨r_1, hc, h⟩ := bd1_s h
  refine aft_i (wr := [(q_near, .inl (cI, n_near, .inl v_near)), (q_marks, .inl (cI, n_marks, .inl v_marks)), (q_stack, .inl (cI, n_stack, .inl v_stack))]) (wc := [(q_this, .inr (0, [.int v_size, .ref q_stones, .ref q_near, .ref q_edges, .ref q_marks, .ref q_stack])), (q_stones, .inl (cI, n_stones, .inl v_stones))]) hP hD hS hA [0, 1] [2, 3, 4] rfl rfl (by decide) (by decide) (rn_V (As := [.int x1]) (rest := []) (n := 1) hx hb hml hown hts (c_X0_has l D cI cB cZ q_this q_stones q_near q_edges q_marks q_stack v_size n_stones v_stones x1 F hc _) (pre_V hK hP hD [0, 1] rfl (by decide) (ci := 0) (q0 := 0) rfl rfl) wd_2_10 wd_2_11 wd_2_12 wd_1_3 wd_2_13 (by decide +kernel) ⟨Nat.le_of_ble_eq_true rfl, Nat.le_of_ble_eq_true rfl⟩ ⟨Nat.le_of_ble_eq_true rfl, Nat.le_of_ble_eq_true rfl⟩ rfl hl.1 rfl (Nat.le_of_ble_eq_true rfl) dX0_chainName_2) (fun H locs hP hD hS => ?_)
  have hP : va_P D vwCl [(q_this, .inr (0, [.int v_size, .ref q_stones, .ref q_near, .ref q_edges, .ref q_marks, .ref q_stack])), (q_stones, .inl (cI, n_stones, .inl v_stones)), (q_near, .inl (cI, n_near, .inl v_near)), (q_marks, .inl (cI, n_marks, .inl v_marks)), (q_stack, .inl (cI, n_stack, .inl v_stack))] H := hP.sub [3, 4, 0, 1, 2] rfl
  have hD : va_D A [(q_this, .inr (0, [.int v_size, .ref q_stones, .ref q_near, .ref q_edges, .ref q_marks, .ref q_stack])), (q_stones, .inl (cI, n_stones, .inl v_stones)), (q_near, .inl (cI, n_near, .inl v_near)), (q_marks, .inl (cI, n_marks, .inl v_marks)), (q_stack, .inl (cI, n_stack, .inl v_stack))] := hD.sub [3, 4, 0, 1, 2] (by decide) rfl
  refine lv_if_eq (tgt := 17) hx hb dX0_chainName_5 (by decide) (fun cb => ?_) (fun cb => ?_)
  · replace h := pm_pos cb h
    refine lv_iconst (v := (-1 : Int32)) hx hb dX0_chainName_17 (by decide) ?_
    exact rt_i (u := (v_marks, v_stack)) hQ hx hb hr hlk h hP hD hS dX0_chainName_18
  · replace h := pm_neg cb h
    refine lv_aload_n hx hb dX0_chainName_8 rfl (lv_at hl 0 rfl) ?_
    refine va_get (D := D) (ci := 0) (v := .ref q_stones) (C := "HexTable$Board") (T := TX0) (N := 6) hx hb hts inX0 hown hK.1 hP 0 rfl rfl 1 (by decide) (hts _ wd_1_44) (fun _ h9 => h9) rfl dX0_chainName_9 ?_
    refine lv_iload_n hx hb dX0_chainName_12 rfl (lv_at hl 1 rfl) ?_
    obtain ⟨b_2, h⟩ := pm_in h
    refine va_iald hx hb hK.1 hP 1 0 rfl rfl b_2 dX0_chainName_13 ?_
    refine lv_if_ne (tgt := 19) hx hb dX0_chainName_14 (by decide) (fun cb => ?_) (fun cb => ?_)
    · replace h := pm_neg cb h
      refine lv_aload_n hx hb dX0_chainName_19 rfl (lv_at hl 0 rfl) ?_
      obtain ⟨v_marks_3, hc, h⟩ := bd1_s h
      refine aft_v (wr := [(q_stones, .inl (cI, n_stones, .inl v_stones)), (q_near, .inl (cI, n_near, .inl v_near)), (q_stack, .inl (cI, n_stack, .inl v_stack))]) (wc := [(q_this, .inr (0, [.int v_size, .ref q_stones, .ref q_near, .ref q_edges, .ref q_marks, .ref q_stack])), (q_marks, .inl (cI, n_marks, .inl v_marks))]) hP hD hS hA [0, 3] [1, 2, 4] rfl rfl (by decide) (by decide) (rn_V (As := []) (rest := []) (n := 0) hx hb hml hown hts (c_X0_clearMarks l D cI cB cZ q_this q_stones q_near q_edges q_marks q_stack v_size n_marks v_marks F hc _) (pre_V hK hP hD [0, 3] rfl (by decide) (ci := 0) (q0 := 0) rfl rfl) wd_2_41 wd_2_42 wd_2_43 wd_1_3 wd_2_44 (by decide +kernel) ⟨Nat.le_of_ble_eq_true rfl, Nat.le_of_ble_eq_true rfl⟩ ⟨Nat.le_of_ble_eq_true rfl, Nat.le_of_ble_eq_true rfl⟩ rfl hl.1 rfl (Nat.le_of_ble_eq_true rfl) dX0_chainName_20) (fun H locs hP hD hS => ?_)
      have hP : va_P D vwCl [(q_this, .inr (0, [.int v_size, .ref q_stones, .ref q_near, .ref q_edges, .ref q_marks, .ref q_stack])), (q_stones, .inl (cI, n_stones, .inl v_stones)), (q_near, .inl (cI, n_near, .inl v_near)), (q_marks, .inl (cI, n_marks, .inl v_marks_3)), (q_stack, .inl (cI, n_stack, .inl v_stack))] H := hP.sub [3, 0, 1, 4, 2] rfl
      have hD : va_D A [(q_this, .inr (0, [.int v_size, .ref q_stones, .ref q_near, .ref q_edges, .ref q_marks, .ref q_stack])), (q_stones, .inl (cI, n_stones, .inl v_stones)), (q_near, .inl (cI, n_near, .inl v_near)), (q_marks, .inl (cI, n_marks, .inl v_marks_3)), (q_stack, .inl (cI, n_stack, .inl v_stack))] := hD.sub [3, 0, 1, 4, 2] (by decide) rfl
      refine lv_aload_n hx hb dX0_chainName_23 rfl (lv_at hl 0 rfl) ?_
      refine lv_iload_n hx hb dX0_chainName_24 rfl (lv_at hl 1 rfl) ?_
      refine lv_iconst (v := (1 : Int32)) hx hb dX0_chainName_25 (by decide) ?_
      obtain ⟨v_marks_4, v_stack_5, hc, h⟩ := bd2_s h
      refine aft_v (wr := []) (wc := [(q_this, .inr (0, [.int v_size, .ref q_stones, .ref q_near, .ref q_edges, .ref q_marks, .ref q_stack])), (q_stones, .inl (cI, n_stones, .inl v_stones)), (q_near, .inl (cI, n_near, .inl v_near)), (q_marks, .inl (cI, n_marks, .inl v_marks_3)), (q_stack, .inl (cI, n_stack, .inl v_stack))]) hP hD hS hA [0, 1, 2, 3, 4] [] rfl rfl (by decide) (by decide) (rn_V (As := [.int x1, .int (1 : Int32)]) (rest := []) (n := 2) hx hb hml hown hts (c_X0_markChain l D cI cB cZ q_this q_stones q_near q_edges q_marks q_stack v_size n_stones v_stones n_near v_near n_marks v_marks_3 n_stack v_stack x1 (1 : Int32) F hc _) (pre_V hK hP hD [0, 1, 2, 3, 4] rfl (by decide) (ci := 0) (q0 := 0) rfl rfl) wd_2_52 wd_2_54 wp_1 wd_1_3 wd_2_55 (by decide +kernel) ⟨Nat.le_of_ble_eq_true rfl, Nat.le_of_ble_eq_true rfl⟩ ⟨Nat.le_of_ble_eq_true rfl, Nat.le_of_ble_eq_true rfl⟩ rfl hl.1 rfl (Nat.le_of_ble_eq_true rfl) dX0_chainName_26) (fun H locs hP hD hS => ?_)
      have hP : va_P D vwCl [(q_this, .inr (0, [.int v_size, .ref q_stones, .ref q_near, .ref q_edges, .ref q_marks, .ref q_stack])), (q_stones, .inl (cI, n_stones, .inl v_stones)), (q_near, .inl (cI, n_near, .inl v_near)), (q_marks, .inl (cI, n_marks, .inl v_marks_4)), (q_stack, .inl (cI, n_stack, .inl v_stack_5))] H := hP.sub [0, 1, 2, 3, 4] rfl
      have hD : va_D A [(q_this, .inr (0, [.int v_size, .ref q_stones, .ref q_near, .ref q_edges, .ref q_marks, .ref q_stack])), (q_stones, .inl (cI, n_stones, .inl v_stones)), (q_near, .inl (cI, n_near, .inl v_near)), (q_marks, .inl (cI, n_marks, .inl v_marks_4)), (q_stack, .inl (cI, n_stack, .inl v_stack_5))] := hD.sub [0, 1, 2, 3, 4] (by decide) rfl
      refine lv_iconst (v := (0 : Int32)) hx hb dX0_chainName_29 (by decide) ?_
      refine lv_istore_n (lv' := [(2, .int (0 : Int32)), (0, .ref q_this), (1, .int x1)]) hx hb dX0_chainName_30 rfl hl (by decide) rfl (fun ls hl => ?_)
      have L : ∀ (k : Nat) (x2_6 : Int32) (H : Heap) (locs : List Loc) (ls : Array Slot), va_P D vwCl [(q_this, .inr (0, [.int v_size, .ref q_stones, .ref q_near, .ref q_edges, .ref q_marks, .ref q_stack])), (q_stones, .inl (cI, n_stones, .inl v_stones)), (q_near, .inl (cI, n_near, .inl v_near)), (q_marks, .inl (cI, n_marks, .inl v_marks_4)), (q_stack, .inl (cI, n_stack, .inl v_stack_5))] H → va_D A [(q_this, .inr (0, [.int v_size, .ref q_stones, .ref q_near, .ref q_edges, .ref q_marks, .ref q_stack])), (q_stones, .inl (cI, n_stones, .inl v_stones)), (q_near, .inl (cI, n_near, .inl v_near)), (q_marks, .inl (cI, n_marks, .inl v_marks_4)), (q_stack, .inl (cI, n_stack, .inl v_stack_5))] → va_S A s.heap H locs → lv_has ls 3 [(0, .ref q_this), (1, .int x1), (2, .int x2_6)] → pm_X0_chainName_L31 F n_marks x1 v_marks_4 v_stack_5 k x2_6 = some (r, u) → W p l e rm_X0_chainName s m args below meth c H locs 0 0 Q (F0 m 31 ls []) := by
        intro k
        induction k with
        | zero =>
          intro x2_6 H locs ls hP hD hS hl h
          rw [pm_X0_chainName_L31] at h
          cases h
        | succ k ih =>
          intro x2_6 H locs ls hP hD hS hl h
          rw [pm_X0_chainName_L31] at h
          refine lv_iload_n hx hb dX0_chainName_31 rfl (lv_at hl 2 rfl) ?_
          refine lv_iload_n hx hb dX0_chainName_32 rfl (lv_at hl 1 rfl) ?_
          refine lv_icmp_ge (tgt := 53) hx hb dX0_chainName_33 (by decide) (fun cb => ?_) (fun cb => ?_)
          · replace h := pm_pos cb h
            refine lv_iload_n hx hb dX0_chainName_53 rfl (lv_at hl 1 rfl) ?_
            exact rt_i (u := (v_marks_4, v_stack_5)) hQ hx hb hr hlk h hP hD hS dX0_chainName_54
          · replace h := pm_neg cb h
            refine lv_aload_n hx hb dX0_chainName_36 rfl (lv_at hl 0 rfl) ?_
            refine va_get (D := D) (ci := 0) (v := .ref q_marks) (C := "HexTable$Board") (T := TX0) (N := 6) hx hb hts inX0 hown hK.1 hP 0 rfl rfl 4 (by decide) (hts _ wd_1_49) (fun _ h9 => h9) rfl dX0_chainName_37 ?_
            refine lv_iload_n hx hb dX0_chainName_40 rfl (lv_at hl 2 rfl) ?_
            obtain ⟨b_7, h⟩ := pm_in h
            refine va_iald hx hb hK.1 hP 3 0 rfl rfl b_7 dX0_chainName_41 ?_
            refine lv_if_eq (tgt := 47) hx hb dX0_chainName_42 (by decide) (fun cb => ?_) (fun cb => ?_)
            · replace h := pm_pos cb h
              refine lv_iinc (v := x2_6 + (1 : Int32)) (lv' := [(2, .int (x2_6 + (1 : Int32))), (0, .ref q_this), (1, .int x1)]) hx hb dX0_chainName_47 hl (k := 2) rfl rfl (by decide) rfl (fun ls hl => ?_)
              refine lv_goto (tgt := 31) hx hb dX0_chainName_50 (by decide) ?_
              exact ih (x2_6 + (1 : Int32)) _ _ _ hP hD hS (lv_sub hl [1, 2, 0] rfl) h
            · replace h := pm_neg cb h
              refine lv_iload_n hx hb dX0_chainName_45 rfl (lv_at hl 2 rfl) ?_
              exact rt_i (u := (v_marks_4, v_stack_5)) hQ hx hb hr hlk h hP hD hS dX0_chainName_46
      exact L F (0 : Int32) _ _ _ hP hD hS (lv_sub hl [1, 2, 0] rfl) h
    · replace h := pm_pos cb h
      refine lv_iconst (v := (-1 : Int32)) hx hb dX0_chainName_17 (by decide) ?_
      exact rt_i (u := (v_marks, v_stack)) hQ hx hb hr hlk h hP hD hS dX0_chainName_18
abbrev rm_X0_countChains : Room := { frames := 2, cells := 0, slots := 0, locals := 50 }
set_option maxHeartbeats 4000000 in
set_option maxRecDepth 100000 in
theorem c_X0_countChains (l : Launch) (D : va_G) (cI cB cZ : ClassId) (q_this : Nat) (q_stones : Nat) (q_near : Nat) (q_edges : Nat) (q_marks : Nat) (q_stack : Nat) (v_size : Int32) (n_stones : Nat) (v_stones : Nat → Int32) (n_near : Nat) (v_near : Nat → Int32) (n_marks : Nat) (v_marks : Nat → Int32) (n_stack : Nat) (v_stack : Nat → Int32) (F : Nat) {r : Int32} {u : (Nat → Int32) × (Nat → Int32)} (h : pm_X0_countChains F n_stones v_stones n_near v_near n_marks v_marks n_stack v_stack = some (r, u)) : MI l yX0_countChains cX0_countChains 3 (some .int) rm_X0_countChains [.ref q_this] D cI cB cZ [(q_this, .inr (0, [.int v_size, .ref q_stones, .ref q_near, .ref q_edges, .ref q_marks, .ref q_stack])), (q_stones, .inl (cI, n_stones, .inl v_stones)), (q_near, .inl (cI, n_near, .inl v_near)), (q_marks, .inl (cI, n_marks, .inl v_marks)), (q_stack, .inl (cI, n_stack, .inl v_stack))] (fun u : (Nat → Int32) × (Nat → Int32) => [(q_this, .inr (0, [.int v_size, .ref q_stones, .ref q_near, .ref q_edges, .ref q_marks, .ref q_stack])), (q_stones, .inl (cI, n_stones, .inl v_stones)), (q_near, .inl (cI, n_near, .inl v_near)), (q_marks, .inl (cI, n_marks, .inl u.1)), (q_stack, .inl (cI, n_stack, .inl u.2))]) (r, u) := by
  refine ent_i (by decide) (Nat.le_of_ble_eq_true rfl) ?_
  intro p e s m args below meth c A ls Q hQ hx hb hr hml hown hts hlk hnm hK hA hP hD hS hl
  have hl : lv_has ls 3 [(0, .ref q_this)] := hl
  rw [pm_X0_countChains] at h
  refine lv_iconst (v := (0 : Int32)) hx hb dX0_countChains_0 (by decide) ?_
  refine lv_istore_n (lv' := [(1, .int (0 : Int32)), (0, .ref q_this)]) hx hb dX0_countChains_1 rfl hl (by decide) rfl (fun ls hl => ?_)
  refine lv_aload_n hx hb dX0_countChains_2 rfl (lv_at hl 1 rfl) ?_
  obtain ⟨v_marks_1, hc, h⟩ := bd1_s h
  refine aft_v (wr := [(q_stones, .inl (cI, n_stones, .inl v_stones)), (q_near, .inl (cI, n_near, .inl v_near)), (q_stack, .inl (cI, n_stack, .inl v_stack))]) (wc := [(q_this, .inr (0, [.int v_size, .ref q_stones, .ref q_near, .ref q_edges, .ref q_marks, .ref q_stack])), (q_marks, .inl (cI, n_marks, .inl v_marks))]) hP hD hS hA [0, 3] [1, 2, 4] rfl rfl (by decide) (by decide) (rn_V (As := []) (rest := []) (n := 0) hx hb hml hown hts (c_X0_clearMarks l D cI cB cZ q_this q_stones q_near q_edges q_marks q_stack v_size n_marks v_marks F hc _) (pre_V hK hP hD [0, 3] rfl (by decide) (ci := 0) (q0 := 0) rfl rfl) wd_2_41 wd_2_42 wd_2_43 wd_1_3 wd_2_44 (by decide +kernel) ⟨Nat.le_of_ble_eq_true rfl, Nat.le_of_ble_eq_true rfl⟩ ⟨Nat.le_of_ble_eq_true rfl, Nat.le_of_ble_eq_true rfl⟩ rfl hl.1 rfl (Nat.le_of_ble_eq_true rfl) dX0_countChains_3) (fun H locs hP hD hS => ?_)
  have hP : va_P D vwCl [(q_this, .inr (0, [.int v_size, .ref q_stones, .ref q_near, .ref q_edges, .ref q_marks, .ref q_stack])), (q_stones, .inl (cI, n_stones, .inl v_stones)), (q_near, .inl (cI, n_near, .inl v_near)), (q_marks, .inl (cI, n_marks, .inl v_marks_1)), (q_stack, .inl (cI, n_stack, .inl v_stack))] H := hP.sub [3, 0, 1, 4, 2] rfl
  have hD : va_D A [(q_this, .inr (0, [.int v_size, .ref q_stones, .ref q_near, .ref q_edges, .ref q_marks, .ref q_stack])), (q_stones, .inl (cI, n_stones, .inl v_stones)), (q_near, .inl (cI, n_near, .inl v_near)), (q_marks, .inl (cI, n_marks, .inl v_marks_1)), (q_stack, .inl (cI, n_stack, .inl v_stack))] := hD.sub [3, 0, 1, 4, 2] (by decide) rfl
  refine lv_iconst (v := (0 : Int32)) hx hb dX0_countChains_6 (by decide) ?_
  refine lv_istore_n (lv' := [(2, .int (0 : Int32)), (1, .int (0 : Int32)), (0, .ref q_this)]) hx hb dX0_countChains_7 rfl hl (by decide) rfl (fun ls hl => ?_)
  obtain ⟨x1_2, v_marks_3, v_stack_4, hw, h⟩ := bd3_s h
  have J_5 : ∀ (H : Heap) (locs : List Loc) (ls : Array Slot), va_P D vwCl [(q_this, .inr (0, [.int v_size, .ref q_stones, .ref q_near, .ref q_edges, .ref q_marks, .ref q_stack])), (q_stones, .inl (cI, n_stones, .inl v_stones)), (q_near, .inl (cI, n_near, .inl v_near)), (q_marks, .inl (cI, n_marks, .inl v_marks_3)), (q_stack, .inl (cI, n_stack, .inl v_stack_4))] H → va_D A [(q_this, .inr (0, [.int v_size, .ref q_stones, .ref q_near, .ref q_edges, .ref q_marks, .ref q_stack])), (q_stones, .inl (cI, n_stones, .inl v_stones)), (q_near, .inl (cI, n_near, .inl v_near)), (q_marks, .inl (cI, n_marks, .inl v_marks_3)), (q_stack, .inl (cI, n_stack, .inl v_stack_4))] → va_S A s.heap H locs → lv_has ls 3 [(1, .int x1_2)] → W p l e rm_X0_countChains s m args below meth c H locs 0 0 Q (F0 m 50 ls []) := by
    intro H locs ls hP hD hS hl
    refine lv_iload_n hx hb dX0_countChains_50 rfl (lv_at hl 0 rfl) ?_
    exact rt_i (u := (v_marks_3, v_stack_4)) hQ hx hb hr hlk h hP hD hS dX0_countChains_51
  replace h := hw
  have L : ∀ (k : Nat) (x1_6 : Int32) (x2_7 : Int32) (v_marks_8 : Nat → Int32) (v_stack_9 : Nat → Int32) (H : Heap) (locs : List Loc) (ls : Array Slot), va_P D vwCl [(q_this, .inr (0, [.int v_size, .ref q_stones, .ref q_near, .ref q_edges, .ref q_marks, .ref q_stack])), (q_stones, .inl (cI, n_stones, .inl v_stones)), (q_near, .inl (cI, n_near, .inl v_near)), (q_marks, .inl (cI, n_marks, .inl v_marks_8)), (q_stack, .inl (cI, n_stack, .inl v_stack_9))] H → va_D A [(q_this, .inr (0, [.int v_size, .ref q_stones, .ref q_near, .ref q_edges, .ref q_marks, .ref q_stack])), (q_stones, .inl (cI, n_stones, .inl v_stones)), (q_near, .inl (cI, n_near, .inl v_near)), (q_marks, .inl (cI, n_marks, .inl v_marks_8)), (q_stack, .inl (cI, n_stack, .inl v_stack_9))] → va_S A s.heap H locs → lv_has ls 3 [(0, .ref q_this), (1, .int x1_6), (2, .int x2_7)] → pm_X0_countChains_L8 F n_stones v_stones n_near v_near n_marks n_stack k x1_6 x2_7 v_marks_8 v_stack_9 = some (x1_2, v_marks_3, v_stack_4) → W p l e rm_X0_countChains s m args below meth c H locs 0 0 Q (F0 m 8 ls []) := by
    intro k
    induction k with
    | zero =>
      intro x1_6 x2_7 v_marks_8 v_stack_9 H locs ls hP hD hS hl h
      rw [pm_X0_countChains_L8] at h
      cases h
    | succ k ih =>
      intro x1_6 x2_7 v_marks_8 v_stack_9 H locs ls hP hD hS hl h
      rw [pm_X0_countChains_L8] at h
      refine lv_iload_n hx hb dX0_countChains_8 rfl (lv_at hl 2 rfl) ?_
      refine lv_aload_n hx hb dX0_countChains_9 rfl (lv_at hl 0 rfl) ?_
      refine va_get (D := D) (ci := 0) (v := .ref q_stones) (C := "HexTable$Board") (T := TX0) (N := 6) hx hb hts inX0 hown hK.1 hP 0 rfl rfl 1 (by decide) (hts _ wd_1_44) (fun _ h9 => h9) rfl dX0_countChains_10 ?_
      refine va_alen hx hb hK.1 hP 1 0 rfl rfl (v := nI n_stones) rfl dX0_countChains_13 ?_
      refine lv_icmp_ge (tgt := 50) hx hb dX0_countChains_14 (by decide) (fun cb => ?_) (fun cb => ?_)
      · replace h := pm_pos cb h
        cases h
        exact J_5 _ _ _ hP hD hS (lv_sub hl [1] rfl)
      · replace h := pm_neg cb h
        refine lv_aload_n hx hb dX0_countChains_17 rfl (lv_at hl 0 rfl) ?_
        refine va_get (D := D) (ci := 0) (v := .ref q_stones) (C := "HexTable$Board") (T := TX0) (N := 6) hx hb hts inX0 hown hK.1 hP 0 rfl rfl 1 (by decide) (hts _ wd_1_44) (fun _ h9 => h9) rfl dX0_countChains_18 ?_
        refine lv_iload_n hx hb dX0_countChains_21 rfl (lv_at hl 2 rfl) ?_
        obtain ⟨b_10, h⟩ := pm_in h
        refine va_iald hx hb hK.1 hP 1 0 rfl rfl b_10 dX0_countChains_22 ?_
        refine lv_if_eq (tgt := 44) hx hb dX0_countChains_23 (by decide) (fun cb => ?_) (fun cb => ?_)
        · replace h := pm_pos cb h
          refine lv_iinc (v := x2_7 + (1 : Int32)) (lv' := [(2, .int (x2_7 + (1 : Int32))), (0, .ref q_this), (1, .int x1_6)]) hx hb dX0_countChains_44 hl (k := 2) rfl rfl (by decide) rfl (fun ls hl => ?_)
          refine lv_goto (tgt := 8) hx hb dX0_countChains_47 (by decide) ?_
          exact ih x1_6 (x2_7 + (1 : Int32)) v_marks_8 v_stack_9 _ _ _ hP hD hS (lv_sub hl [1, 2, 0] rfl) h
        · replace h := pm_neg cb h
          refine lv_aload_n hx hb dX0_countChains_26 rfl (lv_at hl 0 rfl) ?_
          refine va_get (D := D) (ci := 0) (v := .ref q_marks) (C := "HexTable$Board") (T := TX0) (N := 6) hx hb hts inX0 hown hK.1 hP 0 rfl rfl 4 (by decide) (hts _ wd_1_49) (fun _ h9 => h9) rfl dX0_countChains_27 ?_
          refine lv_iload_n hx hb dX0_countChains_30 rfl (lv_at hl 2 rfl) ?_
          obtain ⟨b_11, h⟩ := pm_in h
          refine va_iald hx hb hK.1 hP 3 0 rfl rfl b_11 dX0_countChains_31 ?_
          refine lv_if_ne (tgt := 44) hx hb dX0_countChains_32 (by decide) (fun cb => ?_) (fun cb => ?_)
          · replace h := pm_neg cb h
            refine lv_iinc (v := x2_7 + (1 : Int32)) (lv' := [(2, .int (x2_7 + (1 : Int32))), (0, .ref q_this), (1, .int x1_6)]) hx hb dX0_countChains_44 hl (k := 2) rfl rfl (by decide) rfl (fun ls hl => ?_)
            refine lv_goto (tgt := 8) hx hb dX0_countChains_47 (by decide) ?_
            exact ih x1_6 (x2_7 + (1 : Int32)) v_marks_8 v_stack_9 _ _ _ hP hD hS (lv_sub hl [1, 2, 0] rfl) h
          · replace h := pm_pos cb h
            refine lv_aload_n hx hb dX0_countChains_35 rfl (lv_at hl 0 rfl) ?_
            refine lv_iload_n hx hb dX0_countChains_36 rfl (lv_at hl 2 rfl) ?_
            refine lv_iconst (v := (1 : Int32)) hx hb dX0_countChains_37 (by decide) ?_
            obtain ⟨v_marks_12, v_stack_13, hc, h⟩ := bd2_s h
            refine aft_v (wr := []) (wc := [(q_this, .inr (0, [.int v_size, .ref q_stones, .ref q_near, .ref q_edges, .ref q_marks, .ref q_stack])), (q_stones, .inl (cI, n_stones, .inl v_stones)), (q_near, .inl (cI, n_near, .inl v_near)), (q_marks, .inl (cI, n_marks, .inl v_marks_8)), (q_stack, .inl (cI, n_stack, .inl v_stack_9))]) hP hD hS hA [0, 1, 2, 3, 4] [] rfl rfl (by decide) (by decide) (rn_V (As := [.int x2_7, .int (1 : Int32)]) (rest := []) (n := 2) hx hb hml hown hts (c_X0_markChain l D cI cB cZ q_this q_stones q_near q_edges q_marks q_stack v_size n_stones v_stones n_near v_near n_marks v_marks_8 n_stack v_stack_9 x2_7 (1 : Int32) F hc _) (pre_V hK hP hD [0, 1, 2, 3, 4] rfl (by decide) (ci := 0) (q0 := 0) rfl rfl) wd_2_52 wd_2_54 wp_1 wd_1_3 wd_2_55 (by decide +kernel) ⟨Nat.le_of_ble_eq_true rfl, Nat.le_of_ble_eq_true rfl⟩ ⟨Nat.le_of_ble_eq_true rfl, Nat.le_of_ble_eq_true rfl⟩ rfl hl.1 rfl (Nat.le_of_ble_eq_true rfl) dX0_countChains_38) (fun H locs hP hD hS => ?_)
            have hP : va_P D vwCl [(q_this, .inr (0, [.int v_size, .ref q_stones, .ref q_near, .ref q_edges, .ref q_marks, .ref q_stack])), (q_stones, .inl (cI, n_stones, .inl v_stones)), (q_near, .inl (cI, n_near, .inl v_near)), (q_marks, .inl (cI, n_marks, .inl v_marks_12)), (q_stack, .inl (cI, n_stack, .inl v_stack_13))] H := hP.sub [0, 1, 2, 3, 4] rfl
            have hD : va_D A [(q_this, .inr (0, [.int v_size, .ref q_stones, .ref q_near, .ref q_edges, .ref q_marks, .ref q_stack])), (q_stones, .inl (cI, n_stones, .inl v_stones)), (q_near, .inl (cI, n_near, .inl v_near)), (q_marks, .inl (cI, n_marks, .inl v_marks_12)), (q_stack, .inl (cI, n_stack, .inl v_stack_13))] := hD.sub [0, 1, 2, 3, 4] (by decide) rfl
            refine lv_iinc (v := x1_6 + (1 : Int32)) (lv' := [(1, .int (x1_6 + (1 : Int32))), (0, .ref q_this), (2, .int x2_7)]) hx hb dX0_countChains_41 hl (k := 1) rfl rfl (by decide) rfl (fun ls hl => ?_)
            refine lv_iinc (v := x2_7 + (1 : Int32)) (lv' := [(2, .int (x2_7 + (1 : Int32))), (1, .int (x1_6 + (1 : Int32))), (0, .ref q_this)]) hx hb dX0_countChains_44 hl (k := 2) rfl rfl (by decide) rfl (fun ls hl => ?_)
            refine lv_goto (tgt := 8) hx hb dX0_countChains_47 (by decide) ?_
            exact ih (x1_6 + (1 : Int32)) (x2_7 + (1 : Int32)) v_marks_12 v_stack_13 _ _ _ hP hD hS (lv_sub hl [2, 1, 0] rfl) h
  exact L F (0 : Int32) (0 : Int32) v_marks_1 v_stack _ _ _ hP hD hS (lv_sub hl [2, 1, 0] rfl) h
abbrev rm_X0_edgesOf : Room := { frames := 0, cells := 0, slots := 0, locals := 0 }
set_option maxHeartbeats 4000000 in
set_option maxRecDepth 100000 in
theorem c_X0_edgesOf (l : Launch) (D : va_G) (cI cB cZ : ClassId) (q_this : Nat) (q_stones : Nat) (q_near : Nat) (q_edges : Nat) (q_marks : Nat) (q_stack : Nat) (v_size : Int32) (n_edges : Nat) (v_edges : Nat → Int32) (x1 : Int32) (x2 : Int32) (F : Nat) {r : Int32} (h : pm_X0_edgesOf F n_edges v_edges x1 x2 = some r) : MI l yX0_edgesOf cX0_edgesOf 3 (some .int) rm_X0_edgesOf [.ref q_this, .int x1, .int x2] D cI cB cZ [(q_this, .inr (0, [.int v_size, .ref q_stones, .ref q_near, .ref q_edges, .ref q_marks, .ref q_stack])), (q_edges, .inl (cI, n_edges, .inl v_edges))] (fun u : Unit => [(q_this, .inr (0, [.int v_size, .ref q_stones, .ref q_near, .ref q_edges, .ref q_marks, .ref q_stack])), (q_edges, .inl (cI, n_edges, .inl v_edges))]) (r, ()) := by
  refine ent_i (by decide) (Nat.le_of_ble_eq_true rfl) ?_
  intro p e s m args below meth c A ls Q hQ hx hb hr hml hown hts hlk hnm hK hA hP hD hS hl
  have hl : lv_has ls 3 [(0, .ref q_this), (1, .int x1), (2, .int x2)] := hl
  rw [pm_X0_edgesOf] at h
  refine lv_iload_n hx hb dX0_edgesOf_0 rfl (lv_at hl 1 rfl) ?_
  refine lv_iconst (v := (1 : Int32)) hx hb dX0_edgesOf_1 (by decide) ?_
  refine lv_icmp_ne (tgt := 16) hx hb dX0_edgesOf_2 (by decide) (fun cb => ?_) (fun cb => ?_)
  · replace h := pm_neg cb h
    refine lv_aload_n hx hb dX0_edgesOf_16 rfl (lv_at hl 0 rfl) ?_
    refine va_get (D := D) (ci := 0) (v := .ref q_edges) (C := "HexTable$Board") (T := TX0) (N := 6) hx hb hts inX0 hown hK.1 hP 0 rfl rfl 3 (by decide) (hts _ wd_1_48) (fun _ h9 => h9) rfl dX0_edgesOf_17 ?_
    refine lv_iload_n hx hb dX0_edgesOf_20 rfl (lv_at hl 2 rfl) ?_
    obtain ⟨b_1, h⟩ := pm_in h
    refine va_iald hx hb hK.1 hP 1 0 rfl rfl b_1 dX0_edgesOf_21 ?_
    refine lv_iconst (v := (2 : Int32)) hx hb dX0_edgesOf_22 (by decide) ?_
    refine lv_ishr hx hb dX0_edgesOf_23 ?_
    exact rt_i (u := ()) hQ hx hb hr hlk (un_i h) hP hD hS dX0_edgesOf_24
  · replace h := pm_pos cb h
    refine lv_aload_n hx hb dX0_edgesOf_5 rfl (lv_at hl 0 rfl) ?_
    refine va_get (D := D) (ci := 0) (v := .ref q_edges) (C := "HexTable$Board") (T := TX0) (N := 6) hx hb hts inX0 hown hK.1 hP 0 rfl rfl 3 (by decide) (hts _ wd_1_48) (fun _ h9 => h9) rfl dX0_edgesOf_6 ?_
    refine lv_iload_n hx hb dX0_edgesOf_9 rfl (lv_at hl 2 rfl) ?_
    obtain ⟨b_2, h⟩ := pm_in h
    refine va_iald hx hb hK.1 hP 1 0 rfl rfl b_2 dX0_edgesOf_10 ?_
    refine lv_iconst (v := (3 : Int32)) hx hb dX0_edgesOf_11 (by decide) ?_
    refine lv_iand hx hb dX0_edgesOf_12 ?_
    refine lv_goto (tgt := 24) hx hb dX0_edgesOf_13 (by decide) ?_
    exact rt_i (u := ()) hQ hx hb hr hlk (un_i h) hP hD hS dX0_edgesOf_24
abbrev rm_X0_markFromEdges : Room := { frames := 2, cells := 0, slots := 0, locals := 50 }
set_option maxHeartbeats 4000000 in
set_option maxRecDepth 100000 in
theorem c_X0_markFromEdges (l : Launch) (D : va_G) (cI cB cZ : ClassId) (q_this : Nat) (q_stones : Nat) (q_near : Nat) (q_edges : Nat) (q_marks : Nat) (q_stack : Nat) (v_size : Int32) (n_stones : Nat) (v_stones : Nat → Int32) (n_near : Nat) (v_near : Nat → Int32) (n_edges : Nat) (v_edges : Nat → Int32) (n_marks : Nat) (v_marks : Nat → Int32) (n_stack : Nat) (v_stack : Nat → Int32) (x1 : Int32) (F : Nat) {u : (Nat → Int32) × (Nat → Int32)} (h : pm_X0_markFromEdges F n_stones v_stones n_near v_near n_edges v_edges n_marks v_marks n_stack v_stack x1 = some u) : MV l yX0_markFromEdges cX0_markFromEdges 3 none rm_X0_markFromEdges [.ref q_this, .int x1] D cI cB cZ [(q_this, .inr (0, [.int v_size, .ref q_stones, .ref q_near, .ref q_edges, .ref q_marks, .ref q_stack])), (q_stones, .inl (cI, n_stones, .inl v_stones)), (q_near, .inl (cI, n_near, .inl v_near)), (q_edges, .inl (cI, n_edges, .inl v_edges)), (q_marks, .inl (cI, n_marks, .inl v_marks)), (q_stack, .inl (cI, n_stack, .inl v_stack))] (fun u : (Nat → Int32) × (Nat → Int32) => [(q_this, .inr (0, [.int v_size, .ref q_stones, .ref q_near, .ref q_edges, .ref q_marks, .ref q_stack])), (q_stones, .inl (cI, n_stones, .inl v_stones)), (q_near, .inl (cI, n_near, .inl v_near)), (q_edges, .inl (cI, n_edges, .inl v_edges)), (q_marks, .inl (cI, n_marks, .inl u.1)), (q_stack, .inl (cI, n_stack, .inl u.2))]) u := by
  refine ent_v (by decide) (Nat.le_of_ble_eq_true rfl) ?_
  intro p e s m args below meth c A ls Q hQ hx hb hr hml hown hts hlk hnm hK hA hP hD hS hl
  have hl : lv_has ls 3 [(0, .ref q_this), (1, .int x1)] := hl
  rw [pm_X0_markFromEdges] at h
  refine lv_aload_n hx hb dX0_markFromEdges_0 rfl (lv_at hl 0 rfl) ?_
  obtain ⟨v_marks_1, hc, h⟩ := bd1_s h
  refine aft_v (wr := [(q_stones, .inl (cI, n_stones, .inl v_stones)), (q_near, .inl (cI, n_near, .inl v_near)), (q_edges, .inl (cI, n_edges, .inl v_edges)), (q_stack, .inl (cI, n_stack, .inl v_stack))]) (wc := [(q_this, .inr (0, [.int v_size, .ref q_stones, .ref q_near, .ref q_edges, .ref q_marks, .ref q_stack])), (q_marks, .inl (cI, n_marks, .inl v_marks))]) hP hD hS hA [0, 4] [1, 2, 3, 5] rfl rfl (by decide) (by decide) (rn_V (As := []) (rest := []) (n := 0) hx hb hml hown hts (c_X0_clearMarks l D cI cB cZ q_this q_stones q_near q_edges q_marks q_stack v_size n_marks v_marks F hc _) (pre_V hK hP hD [0, 4] rfl (by decide) (ci := 0) (q0 := 0) rfl rfl) wd_2_41 wd_2_42 wd_2_43 wd_1_3 wd_2_44 (by decide +kernel) ⟨Nat.le_of_ble_eq_true rfl, Nat.le_of_ble_eq_true rfl⟩ ⟨Nat.le_of_ble_eq_true rfl, Nat.le_of_ble_eq_true rfl⟩ rfl hl.1 rfl (Nat.le_of_ble_eq_true rfl) dX0_markFromEdges_1) (fun H locs hP hD hS => ?_)
  have hP : va_P D vwCl [(q_this, .inr (0, [.int v_size, .ref q_stones, .ref q_near, .ref q_edges, .ref q_marks, .ref q_stack])), (q_stones, .inl (cI, n_stones, .inl v_stones)), (q_near, .inl (cI, n_near, .inl v_near)), (q_edges, .inl (cI, n_edges, .inl v_edges)), (q_marks, .inl (cI, n_marks, .inl v_marks_1)), (q_stack, .inl (cI, n_stack, .inl v_stack))] H := hP.sub [4, 0, 1, 2, 5, 3] rfl
  have hD : va_D A [(q_this, .inr (0, [.int v_size, .ref q_stones, .ref q_near, .ref q_edges, .ref q_marks, .ref q_stack])), (q_stones, .inl (cI, n_stones, .inl v_stones)), (q_near, .inl (cI, n_near, .inl v_near)), (q_edges, .inl (cI, n_edges, .inl v_edges)), (q_marks, .inl (cI, n_marks, .inl v_marks_1)), (q_stack, .inl (cI, n_stack, .inl v_stack))] := hD.sub [4, 0, 1, 2, 5, 3] (by decide) rfl
  refine lv_iconst (v := (0 : Int32)) hx hb dX0_markFromEdges_4 (by decide) ?_
  refine lv_istore_n (lv' := [(2, .int (0 : Int32)), (0, .ref q_this), (1, .int x1)]) hx hb dX0_markFromEdges_5 rfl hl (by decide) rfl (fun ls hl => ?_)
  obtain ⟨v_marks_2, v_stack_3, hw, h⟩ := bd2_s h
  have J_4 : ∀ (H : Heap) (locs : List Loc) (ls : Array Slot), va_P D vwCl [(q_this, .inr (0, [.int v_size, .ref q_stones, .ref q_near, .ref q_edges, .ref q_marks, .ref q_stack])), (q_stones, .inl (cI, n_stones, .inl v_stones)), (q_near, .inl (cI, n_near, .inl v_near)), (q_edges, .inl (cI, n_edges, .inl v_edges)), (q_marks, .inl (cI, n_marks, .inl v_marks_2)), (q_stack, .inl (cI, n_stack, .inl v_stack_3))] H → va_D A [(q_this, .inr (0, [.int v_size, .ref q_stones, .ref q_near, .ref q_edges, .ref q_marks, .ref q_stack])), (q_stones, .inl (cI, n_stones, .inl v_stones)), (q_near, .inl (cI, n_near, .inl v_near)), (q_edges, .inl (cI, n_edges, .inl v_edges)), (q_marks, .inl (cI, n_marks, .inl v_marks_2)), (q_stack, .inl (cI, n_stack, .inl v_stack_3))] → va_S A s.heap H locs → lv_has ls 3 [] → W p l e rm_X0_markFromEdges s m args below meth c H locs 0 0 Q (F0 m 42 ls []) := by
    intro H locs ls hP hD hS hl
    exact rt_v (u := (v_marks_2, v_stack_3)) hQ hx hb hr hlk h hP hD hS dX0_markFromEdges_42
  replace h := hw
  have L : ∀ (k : Nat) (x2_5 : Int32) (v_marks_6 : Nat → Int32) (v_stack_7 : Nat → Int32) (H : Heap) (locs : List Loc) (ls : Array Slot), va_P D vwCl [(q_this, .inr (0, [.int v_size, .ref q_stones, .ref q_near, .ref q_edges, .ref q_marks, .ref q_stack])), (q_stones, .inl (cI, n_stones, .inl v_stones)), (q_near, .inl (cI, n_near, .inl v_near)), (q_edges, .inl (cI, n_edges, .inl v_edges)), (q_marks, .inl (cI, n_marks, .inl v_marks_6)), (q_stack, .inl (cI, n_stack, .inl v_stack_7))] H → va_D A [(q_this, .inr (0, [.int v_size, .ref q_stones, .ref q_near, .ref q_edges, .ref q_marks, .ref q_stack])), (q_stones, .inl (cI, n_stones, .inl v_stones)), (q_near, .inl (cI, n_near, .inl v_near)), (q_edges, .inl (cI, n_edges, .inl v_edges)), (q_marks, .inl (cI, n_marks, .inl v_marks_6)), (q_stack, .inl (cI, n_stack, .inl v_stack_7))] → va_S A s.heap H locs → lv_has ls 3 [(0, .ref q_this), (1, .int x1), (2, .int x2_5)] → pm_X0_markFromEdges_L6 F n_stones v_stones n_near v_near n_edges v_edges n_marks n_stack x1 k x2_5 v_marks_6 v_stack_7 = some (v_marks_2, v_stack_3) → W p l e rm_X0_markFromEdges s m args below meth c H locs 0 0 Q (F0 m 6 ls []) := by
    intro k
    induction k with
    | zero =>
      intro x2_5 v_marks_6 v_stack_7 H locs ls hP hD hS hl h
      rw [pm_X0_markFromEdges_L6] at h
      cases h
    | succ k ih =>
      intro x2_5 v_marks_6 v_stack_7 H locs ls hP hD hS hl h
      rw [pm_X0_markFromEdges_L6] at h
      refine lv_iload_n hx hb dX0_markFromEdges_6 rfl (lv_at hl 2 rfl) ?_
      refine lv_aload_n hx hb dX0_markFromEdges_7 rfl (lv_at hl 0 rfl) ?_
      refine va_get (D := D) (ci := 0) (v := .ref q_stones) (C := "HexTable$Board") (T := TX0) (N := 6) hx hb hts inX0 hown hK.1 hP 0 rfl rfl 1 (by decide) (hts _ wd_1_44) (fun _ h9 => h9) rfl dX0_markFromEdges_8 ?_
      refine va_alen hx hb hK.1 hP 1 0 rfl rfl (v := nI n_stones) rfl dX0_markFromEdges_11 ?_
      refine lv_icmp_ge (tgt := 42) hx hb dX0_markFromEdges_12 (by decide) (fun cb => ?_) (fun cb => ?_)
      · replace h := pm_pos cb h
        cases h
        exact J_4 _ _ _ hP hD hS (lv_sub hl [] rfl)
      · replace h := pm_neg cb h
        refine lv_aload_n hx hb dX0_markFromEdges_15 rfl (lv_at hl 0 rfl) ?_
        refine va_get (D := D) (ci := 0) (v := .ref q_stones) (C := "HexTable$Board") (T := TX0) (N := 6) hx hb hts inX0 hown hK.1 hP 0 rfl rfl 1 (by decide) (hts _ wd_1_44) (fun _ h9 => h9) rfl dX0_markFromEdges_16 ?_
        refine lv_iload_n hx hb dX0_markFromEdges_19 rfl (lv_at hl 2 rfl) ?_
        obtain ⟨b_8, h⟩ := pm_in h
        refine va_iald hx hb hK.1 hP 1 0 rfl rfl b_8 dX0_markFromEdges_20 ?_
        refine lv_iload_n hx hb dX0_markFromEdges_21 rfl (lv_at hl 1 rfl) ?_
        refine lv_icmp_ne (tgt := 36) hx hb dX0_markFromEdges_22 (by decide) (fun cb => ?_) (fun cb => ?_)
        · replace h := pm_neg cb h
          refine lv_iinc (v := x2_5 + (1 : Int32)) (lv' := [(2, .int (x2_5 + (1 : Int32))), (0, .ref q_this), (1, .int x1)]) hx hb dX0_markFromEdges_36 hl (k := 2) rfl rfl (by decide) rfl (fun ls hl => ?_)
          refine lv_goto (tgt := 6) hx hb dX0_markFromEdges_39 (by decide) ?_
          exact ih (x2_5 + (1 : Int32)) v_marks_6 v_stack_7 _ _ _ hP hD hS (lv_sub hl [1, 2, 0] rfl) h
        · replace h := pm_pos cb h
          refine lv_aload_n hx hb dX0_markFromEdges_25 rfl (lv_at hl 0 rfl) ?_
          refine lv_iload_n hx hb dX0_markFromEdges_26 rfl (lv_at hl 2 rfl) ?_
          refine lv_aload_n hx hb dX0_markFromEdges_27 rfl (lv_at hl 0 rfl) ?_
          refine lv_iload_n hx hb dX0_markFromEdges_28 rfl (lv_at hl 1 rfl) ?_
          refine lv_iload_n hx hb dX0_markFromEdges_29 rfl (lv_at hl 2 rfl) ?_
          obtain ⟨r_9, hc, h⟩ := bd1_s h
          refine aft_i (wr := [(q_stones, .inl (cI, n_stones, .inl v_stones)), (q_near, .inl (cI, n_near, .inl v_near)), (q_marks, .inl (cI, n_marks, .inl v_marks_6)), (q_stack, .inl (cI, n_stack, .inl v_stack_7))]) (wc := [(q_this, .inr (0, [.int v_size, .ref q_stones, .ref q_near, .ref q_edges, .ref q_marks, .ref q_stack])), (q_edges, .inl (cI, n_edges, .inl v_edges))]) hP hD hS hA [0, 3] [1, 2, 4, 5] rfl rfl (by decide) (by decide) (rn_V (As := [.int x1, .int x2_5]) (rest := [.int x2_5, .ref q_this]) (n := 2) hx hb hml hown hts (c_X0_edgesOf l D cI cB cZ q_this q_stones q_near q_edges q_marks q_stack v_size n_edges v_edges x1 x2_5 F hc _) (pre_V hK hP hD [0, 3] rfl (by decide) (ci := 0) (q0 := 0) rfl rfl) wd_2_48 wd_2_50 wp_0 wd_1_3 wd_2_51 (by decide +kernel) ⟨Nat.le_of_ble_eq_true rfl, Nat.le_of_ble_eq_true rfl⟩ ⟨Nat.le_of_ble_eq_true rfl, Nat.le_of_ble_eq_true rfl⟩ rfl hl.1 rfl (Nat.le_of_ble_eq_true rfl) dX0_markFromEdges_30) (fun H locs hP hD hS => ?_)
          have hP : va_P D vwCl [(q_this, .inr (0, [.int v_size, .ref q_stones, .ref q_near, .ref q_edges, .ref q_marks, .ref q_stack])), (q_stones, .inl (cI, n_stones, .inl v_stones)), (q_near, .inl (cI, n_near, .inl v_near)), (q_edges, .inl (cI, n_edges, .inl v_edges)), (q_marks, .inl (cI, n_marks, .inl v_marks_6)), (q_stack, .inl (cI, n_stack, .inl v_stack_7))] H := hP.sub [4, 0, 1, 5, 2, 3] rfl
          have hD : va_D A [(q_this, .inr (0, [.int v_size, .ref q_stones, .ref q_near, .ref q_edges, .ref q_marks, .ref q_stack])), (q_stones, .inl (cI, n_stones, .inl v_stones)), (q_near, .inl (cI, n_near, .inl v_near)), (q_edges, .inl (cI, n_edges, .inl v_edges)), (q_marks, .inl (cI, n_marks, .inl v_marks_6)), (q_stack, .inl (cI, n_stack, .inl v_stack_7))] := hD.sub [4, 0, 1, 5, 2, 3] (by decide) rfl
          obtain ⟨v_marks_10, v_stack_11, hc, h⟩ := bd2_s h
          refine aft_v (wr := [(q_edges, .inl (cI, n_edges, .inl v_edges))]) (wc := [(q_this, .inr (0, [.int v_size, .ref q_stones, .ref q_near, .ref q_edges, .ref q_marks, .ref q_stack])), (q_stones, .inl (cI, n_stones, .inl v_stones)), (q_near, .inl (cI, n_near, .inl v_near)), (q_marks, .inl (cI, n_marks, .inl v_marks_6)), (q_stack, .inl (cI, n_stack, .inl v_stack_7))]) hP hD hS hA [0, 1, 2, 4, 5] [3] rfl rfl (by decide) (by decide) (rn_V (As := [.int x2_5, .int r_9]) (rest := []) (n := 2) hx hb hml hown hts (c_X0_markChain l D cI cB cZ q_this q_stones q_near q_edges q_marks q_stack v_size n_stones v_stones n_near v_near n_marks v_marks_6 n_stack v_stack_7 x2_5 r_9 F hc _) (pre_V hK hP hD [0, 1, 2, 4, 5] rfl (by decide) (ci := 0) (q0 := 0) rfl rfl) wd_2_52 wd_2_54 wp_1 wd_1_3 wd_2_55 (by decide +kernel) ⟨Nat.le_of_ble_eq_true rfl, Nat.le_of_ble_eq_true rfl⟩ ⟨Nat.le_of_ble_eq_true rfl, Nat.le_of_ble_eq_true rfl⟩ rfl hl.1 rfl (Nat.le_of_ble_eq_true rfl) dX0_markFromEdges_33) (fun H locs hP hD hS => ?_)
          have hP : va_P D vwCl [(q_this, .inr (0, [.int v_size, .ref q_stones, .ref q_near, .ref q_edges, .ref q_marks, .ref q_stack])), (q_stones, .inl (cI, n_stones, .inl v_stones)), (q_near, .inl (cI, n_near, .inl v_near)), (q_edges, .inl (cI, n_edges, .inl v_edges)), (q_marks, .inl (cI, n_marks, .inl v_marks_10)), (q_stack, .inl (cI, n_stack, .inl v_stack_11))] H := hP.sub [1, 2, 3, 0, 4, 5] rfl
          have hD : va_D A [(q_this, .inr (0, [.int v_size, .ref q_stones, .ref q_near, .ref q_edges, .ref q_marks, .ref q_stack])), (q_stones, .inl (cI, n_stones, .inl v_stones)), (q_near, .inl (cI, n_near, .inl v_near)), (q_edges, .inl (cI, n_edges, .inl v_edges)), (q_marks, .inl (cI, n_marks, .inl v_marks_10)), (q_stack, .inl (cI, n_stack, .inl v_stack_11))] := hD.sub [1, 2, 3, 0, 4, 5] (by decide) rfl
          refine lv_iinc (v := x2_5 + (1 : Int32)) (lv' := [(2, .int (x2_5 + (1 : Int32))), (0, .ref q_this), (1, .int x1)]) hx hb dX0_markFromEdges_36 hl (k := 2) rfl rfl (by decide) rfl (fun ls hl => ?_)
          refine lv_goto (tgt := 6) hx hb dX0_markFromEdges_39 (by decide) ?_
          exact ih (x2_5 + (1 : Int32)) v_marks_10 v_stack_11 _ _ _ hP hD hS (lv_sub hl [1, 2, 0] rfl) h
  exact L F (0 : Int32) v_marks_1 v_stack _ _ _ hP hD hS (lv_sub hl [1, 2, 0] rfl) h
abbrev rm_X0_wins : Room := { frames := 3, cells := 0, slots := 0, locals := 72 }
set_option maxHeartbeats 4000000 in
set_option maxRecDepth 100000 in
theorem c_X0_wins (l : Launch) (D : va_G) (cI cB cZ : ClassId) (q_this : Nat) (q_stones : Nat) (q_near : Nat) (q_edges : Nat) (q_marks : Nat) (q_stack : Nat) (v_size : Int32) (n_stones : Nat) (v_stones : Nat → Int32) (n_near : Nat) (v_near : Nat → Int32) (n_edges : Nat) (v_edges : Nat → Int32) (n_marks : Nat) (v_marks : Nat → Int32) (n_stack : Nat) (v_stack : Nat → Int32) (x1 : Int32) (F : Nat) {r : Int32} {u : (Nat → Int32) × (Nat → Int32)} (h : pm_X0_wins F n_stones v_stones n_near v_near n_edges v_edges n_marks v_marks n_stack v_stack x1 = some (r, u)) : MI l yX0_wins cX0_wins 6 (some .boolean) rm_X0_wins [.ref q_this, .int x1] D cI cB cZ [(q_this, .inr (0, [.int v_size, .ref q_stones, .ref q_near, .ref q_edges, .ref q_marks, .ref q_stack])), (q_stones, .inl (cI, n_stones, .inl v_stones)), (q_near, .inl (cI, n_near, .inl v_near)), (q_edges, .inl (cI, n_edges, .inl v_edges)), (q_marks, .inl (cI, n_marks, .inl v_marks)), (q_stack, .inl (cI, n_stack, .inl v_stack))] (fun u : (Nat → Int32) × (Nat → Int32) => [(q_this, .inr (0, [.int v_size, .ref q_stones, .ref q_near, .ref q_edges, .ref q_marks, .ref q_stack])), (q_stones, .inl (cI, n_stones, .inl v_stones)), (q_near, .inl (cI, n_near, .inl v_near)), (q_edges, .inl (cI, n_edges, .inl v_edges)), (q_marks, .inl (cI, n_marks, .inl u.1)), (q_stack, .inl (cI, n_stack, .inl u.2))]) (r, u) := by
  refine ent_i (by decide) (Nat.le_of_ble_eq_true rfl) ?_
  intro p e s m args below meth c A ls Q hQ hx hb hr hml hown hts hlk hnm hK hA hP hD hS hl
  have hl : lv_has ls 6 [(0, .ref q_this), (1, .int x1)] := hl
  rw [pm_X0_wins] at h
  refine lv_aload_n hx hb dX0_wins_0 rfl (lv_at hl 0 rfl) ?_
  refine lv_iload_n hx hb dX0_wins_1 rfl (lv_at hl 1 rfl) ?_
  obtain ⟨v_marks_1, v_stack_2, hc, h⟩ := bd2_s h
  refine aft_v (wr := []) (wc := [(q_this, .inr (0, [.int v_size, .ref q_stones, .ref q_near, .ref q_edges, .ref q_marks, .ref q_stack])), (q_stones, .inl (cI, n_stones, .inl v_stones)), (q_near, .inl (cI, n_near, .inl v_near)), (q_edges, .inl (cI, n_edges, .inl v_edges)), (q_marks, .inl (cI, n_marks, .inl v_marks)), (q_stack, .inl (cI, n_stack, .inl v_stack))]) hP hD hS hA [0, 1, 2, 3, 4, 5] [] rfl rfl (by decide) (by decide) (rn_V (As := [.int x1]) (rest := []) (n := 1) hx hb hml hown hts (c_X0_markFromEdges l D cI cB cZ q_this q_stones q_near q_edges q_marks q_stack v_size n_stones v_stones n_near v_near n_edges v_edges n_marks v_marks n_stack v_stack x1 F hc _) (pre_V hK hP hD [0, 1, 2, 3, 4, 5] rfl (by decide) (ci := 0) (q0 := 0) rfl rfl) wd_2_37 wd_2_38 wd_2_39 wd_1_3 wd_2_40 (by decide +kernel) ⟨Nat.le_of_ble_eq_true rfl, Nat.le_of_ble_eq_true rfl⟩ ⟨Nat.le_of_ble_eq_true rfl, Nat.le_of_ble_eq_true rfl⟩ rfl hl.1 rfl (Nat.le_of_ble_eq_true rfl) dX0_wins_2) (fun H locs hP hD hS => ?_)
  have hP : va_P D vwCl [(q_this, .inr (0, [.int v_size, .ref q_stones, .ref q_near, .ref q_edges, .ref q_marks, .ref q_stack])), (q_stones, .inl (cI, n_stones, .inl v_stones)), (q_near, .inl (cI, n_near, .inl v_near)), (q_edges, .inl (cI, n_edges, .inl v_edges)), (q_marks, .inl (cI, n_marks, .inl v_marks_1)), (q_stack, .inl (cI, n_stack, .inl v_stack_2))] H := hP.sub [0, 1, 2, 3, 4, 5] rfl
  have hD : va_D A [(q_this, .inr (0, [.int v_size, .ref q_stones, .ref q_near, .ref q_edges, .ref q_marks, .ref q_stack])), (q_stones, .inl (cI, n_stones, .inl v_stones)), (q_near, .inl (cI, n_near, .inl v_near)), (q_edges, .inl (cI, n_edges, .inl v_edges)), (q_marks, .inl (cI, n_marks, .inl v_marks_1)), (q_stack, .inl (cI, n_stack, .inl v_stack_2))] := hD.sub [0, 1, 2, 3, 4, 5] (by decide) rfl
  refine lv_aload_n hx hb dX0_wins_5 rfl (lv_at hl 0 rfl) ?_
  refine va_get (D := D) (ci := 0) (v := .ref q_marks) (C := "HexTable$Board") (T := TX0) (N := 6) hx hb hts inX0 hown hK.1 hP 0 rfl rfl 4 (by decide) (hts _ wd_1_49) (fun _ h9 => h9) rfl dX0_wins_6 ?_
  refine lv_astore_n (lv' := [(2, .ref q_marks), (0, .ref q_this), (1, .int x1)]) hx hb dX0_wins_9 rfl hl (by decide) rfl (fun ls hl => ?_)
  refine lv_aload_n hx hb dX0_wins_10 rfl (lv_at hl 0 rfl) ?_
  refine va_alen hx hb hK.1 hP 4 0 rfl rfl (v := nI n_marks) rfl dX0_wins_11 ?_
  refine lv_istore_n (lv' := [(3, .int (nI n_marks)), (2, .ref q_marks), (0, .ref q_this), (1, .int x1)]) hx hb dX0_wins_12 rfl hl (by decide) rfl (fun ls hl => ?_)
  refine lv_iconst (v := (0 : Int32)) hx hb dX0_wins_13 (by decide) ?_
  refine lv_istore (lv' := [(4, .int (0 : Int32)), (3, .int (nI n_marks)), (2, .ref q_marks), (0, .ref q_this), (1, .int x1)]) hx hb dX0_wins_14 hl (by decide) rfl (fun ls hl => ?_)
  have L : ∀ (k : Nat) (x4_3 : Int32) (H : Heap) (locs : List Loc) (ls : Array Slot), va_P D vwCl [(q_this, .inr (0, [.int v_size, .ref q_stones, .ref q_near, .ref q_edges, .ref q_marks, .ref q_stack])), (q_stones, .inl (cI, n_stones, .inl v_stones)), (q_near, .inl (cI, n_near, .inl v_near)), (q_edges, .inl (cI, n_edges, .inl v_edges)), (q_marks, .inl (cI, n_marks, .inl v_marks_1)), (q_stack, .inl (cI, n_stack, .inl v_stack_2))] H → va_D A [(q_this, .inr (0, [.int v_size, .ref q_stones, .ref q_near, .ref q_edges, .ref q_marks, .ref q_stack])), (q_stones, .inl (cI, n_stones, .inl v_stones)), (q_near, .inl (cI, n_near, .inl v_near)), (q_edges, .inl (cI, n_edges, .inl v_edges)), (q_marks, .inl (cI, n_marks, .inl v_marks_1)), (q_stack, .inl (cI, n_stack, .inl v_stack_2))] → va_S A s.heap H locs → lv_has ls 6 [(2, .ref q_marks), (3, .int (nI n_marks)), (4, .int x4_3)] → pm_X0_wins_L16 F n_marks v_marks_1 v_stack_2 k x4_3 = some (r, u) → W p l e rm_X0_wins s m args below meth c H locs 0 0 Q (F0 m 16 ls []) := by
    intro k
    induction k with
    | zero =>
      intro x4_3 H locs ls hP hD hS hl h
      rw [pm_X0_wins_L16] at h
      cases h
    | succ k ih =>
      intro x4_3 H locs ls hP hD hS hl h
      rw [pm_X0_wins_L16] at h
      refine lv_iload hx hb dX0_wins_16 (lv_at hl 2 rfl) ?_
      refine lv_iload_n hx hb dX0_wins_18 rfl (lv_at hl 1 rfl) ?_
      refine lv_icmp_ge (tgt := 42) hx hb dX0_wins_19 (by decide) (fun cb => ?_) (fun cb => ?_)
      · replace h := pm_pos cb h
        refine lv_iconst (v := (0 : Int32)) hx hb dX0_wins_42 (by decide) ?_
        exact rt_z (u := (v_marks_1, v_stack_2)) (Or.inl rfl) hQ hx hb hr hlk h hP hD hS dX0_wins_43
      · replace h := pm_neg cb h
        refine lv_aload_n hx hb dX0_wins_22 rfl (lv_at hl 0 rfl) ?_
        refine lv_iload hx hb dX0_wins_23 (lv_at hl 2 rfl) ?_
        obtain ⟨b_4, h⟩ := pm_in h
        refine va_iald hx hb hK.1 hP 4 0 rfl rfl b_4 dX0_wins_25 ?_
        refine lv_istore (lv' := [(5, .int (v_marks_1 x4_3.toNatClampNeg)), (2, .ref q_marks), (3, .int (nI n_marks)), (4, .int x4_3)]) hx hb dX0_wins_26 hl (by decide) rfl (fun ls hl => ?_)
        refine lv_iload hx hb dX0_wins_28 (lv_at hl 0 rfl) ?_
        refine lv_iconst (v := (3 : Int32)) hx hb dX0_wins_30 (by decide) ?_
        refine lv_icmp_ne (tgt := 36) hx hb dX0_wins_31 (by decide) (fun cb => ?_) (fun cb => ?_)
        · replace h := pm_neg cb h
          refine lv_iinc (v := x4_3 + (1 : Int32)) (lv' := [(4, .int (x4_3 + (1 : Int32))), (5, .int (v_marks_1 x4_3.toNatClampNeg)), (2, .ref q_marks), (3, .int (nI n_marks))]) hx hb dX0_wins_36 hl (k := 3) rfl rfl (by decide) rfl (fun ls hl => ?_)
          refine lv_goto (tgt := 16) hx hb dX0_wins_39 (by decide) ?_
          exact ih (x4_3 + (1 : Int32)) _ _ _ hP hD hS (lv_sub hl [2, 3, 0] rfl) h
        · replace h := pm_pos cb h
          refine lv_iconst (v := (1 : Int32)) hx hb dX0_wins_34 (by decide) ?_
          exact rt_z (u := (v_marks_1, v_stack_2)) (Or.inr rfl) hQ hx hb hr hlk h hP hD hS dX0_wins_35
  exact L F (0 : Int32) _ _ _ hP hD hS (lv_sub hl [2, 1, 0] rfl) h
abbrev rm_X0_winner : Room := { frames := 4, cells := 0, slots := 0, locals := 97 }
set_option maxHeartbeats 4000000 in
set_option maxRecDepth 100000 in
theorem c_X0_winner (l : Launch) (D : va_G) (cI cB cZ : ClassId) (q_this : Nat) (q_stones : Nat) (q_near : Nat) (q_edges : Nat) (q_marks : Nat) (q_stack : Nat) (v_size : Int32) (n_stones : Nat) (v_stones : Nat → Int32) (n_near : Nat) (v_near : Nat → Int32) (n_edges : Nat) (v_edges : Nat → Int32) (n_marks : Nat) (v_marks : Nat → Int32) (n_stack : Nat) (v_stack : Nat → Int32) (F : Nat) {r : Int32} {u : (Nat → Int32) × (Nat → Int32)} (h : pm_X0_winner F n_stones v_stones n_near v_near n_edges v_edges n_marks v_marks n_stack v_stack = some (r, u)) : MI l yX0_winner cX0_winner 1 (some .int) rm_X0_winner [.ref q_this] D cI cB cZ [(q_this, .inr (0, [.int v_size, .ref q_stones, .ref q_near, .ref q_edges, .ref q_marks, .ref q_stack])), (q_stones, .inl (cI, n_stones, .inl v_stones)), (q_near, .inl (cI, n_near, .inl v_near)), (q_edges, .inl (cI, n_edges, .inl v_edges)), (q_marks, .inl (cI, n_marks, .inl v_marks)), (q_stack, .inl (cI, n_stack, .inl v_stack))] (fun u : (Nat → Int32) × (Nat → Int32) => [(q_this, .inr (0, [.int v_size, .ref q_stones, .ref q_near, .ref q_edges, .ref q_marks, .ref q_stack])), (q_stones, .inl (cI, n_stones, .inl v_stones)), (q_near, .inl (cI, n_near, .inl v_near)), (q_edges, .inl (cI, n_edges, .inl v_edges)), (q_marks, .inl (cI, n_marks, .inl u.1)), (q_stack, .inl (cI, n_stack, .inl u.2))]) (r, u) := by
  refine ent_i (by decide) (Nat.le_of_ble_eq_true rfl) ?_
  intro p e s m args below meth c A ls Q hQ hx hb hr hml hown hts hlk hnm hK hA hP hD hS hl
  have hl : lv_has ls 1 [(0, .ref q_this)] := hl
  rw [pm_X0_winner] at h
  refine lv_aload_n hx hb dX0_winner_0 rfl (lv_at hl 0 rfl) ?_
  refine lv_iconst (v := (1 : Int32)) hx hb dX0_winner_1 (by decide) ?_
  obtain ⟨r_1, v_marks_2, v_stack_3, hc, h⟩ := bd3_s h
  refine aft_i (wr := []) (wc := [(q_this, .inr (0, [.int v_size, .ref q_stones, .ref q_near, .ref q_edges, .ref q_marks, .ref q_stack])), (q_stones, .inl (cI, n_stones, .inl v_stones)), (q_near, .inl (cI, n_near, .inl v_near)), (q_edges, .inl (cI, n_edges, .inl v_edges)), (q_marks, .inl (cI, n_marks, .inl v_marks)), (q_stack, .inl (cI, n_stack, .inl v_stack))]) hP hD hS hA [0, 1, 2, 3, 4, 5] [] rfl rfl (by decide) (by decide) (rn_V (As := [.int (1 : Int32)]) (rest := []) (n := 1) hx hb hml hown hts (c_X0_wins l D cI cB cZ q_this q_stones q_near q_edges q_marks q_stack v_size n_stones v_stones n_near v_near n_edges v_edges n_marks v_marks n_stack v_stack (1 : Int32) F hc _) (pre_V hK hP hD [0, 1, 2, 3, 4, 5] rfl (by decide) (ci := 0) (q0 := 0) rfl rfl) wd_2_33 wd_2_34 wd_2_35 wd_1_3 wd_2_36 (by decide +kernel) ⟨Nat.le_of_ble_eq_true rfl, Nat.le_of_ble_eq_true rfl⟩ ⟨Nat.le_of_ble_eq_true rfl, Nat.le_of_ble_eq_true rfl⟩ rfl hl.1 rfl (Nat.le_of_ble_eq_true rfl) dX0_winner_2) (fun H locs hP hD hS => ?_)
  have hP : va_P D vwCl [(q_this, .inr (0, [.int v_size, .ref q_stones, .ref q_near, .ref q_edges, .ref q_marks, .ref q_stack])), (q_stones, .inl (cI, n_stones, .inl v_stones)), (q_near, .inl (cI, n_near, .inl v_near)), (q_edges, .inl (cI, n_edges, .inl v_edges)), (q_marks, .inl (cI, n_marks, .inl v_marks_2)), (q_stack, .inl (cI, n_stack, .inl v_stack_3))] H := hP.sub [0, 1, 2, 3, 4, 5] rfl
  have hD : va_D A [(q_this, .inr (0, [.int v_size, .ref q_stones, .ref q_near, .ref q_edges, .ref q_marks, .ref q_stack])), (q_stones, .inl (cI, n_stones, .inl v_stones)), (q_near, .inl (cI, n_near, .inl v_near)), (q_edges, .inl (cI, n_edges, .inl v_edges)), (q_marks, .inl (cI, n_marks, .inl v_marks_2)), (q_stack, .inl (cI, n_stack, .inl v_stack_3))] := hD.sub [0, 1, 2, 3, 4, 5] (by decide) rfl
  refine lv_if_eq (tgt := 10) hx hb dX0_winner_5 (by decide) (fun cb => ?_) (fun cb => ?_)
  · replace h := pm_pos cb h
    refine lv_aload_n hx hb dX0_winner_10 rfl (lv_at hl 0 rfl) ?_
    refine lv_iconst (v := (2 : Int32)) hx hb dX0_winner_11 (by decide) ?_
    obtain ⟨r_4, v_marks_5, v_stack_6, hc, h⟩ := bd3_s h
    refine aft_i (wr := []) (wc := [(q_this, .inr (0, [.int v_size, .ref q_stones, .ref q_near, .ref q_edges, .ref q_marks, .ref q_stack])), (q_stones, .inl (cI, n_stones, .inl v_stones)), (q_near, .inl (cI, n_near, .inl v_near)), (q_edges, .inl (cI, n_edges, .inl v_edges)), (q_marks, .inl (cI, n_marks, .inl v_marks_2)), (q_stack, .inl (cI, n_stack, .inl v_stack_3))]) hP hD hS hA [0, 1, 2, 3, 4, 5] [] rfl rfl (by decide) (by decide) (rn_V (As := [.int (2 : Int32)]) (rest := []) (n := 1) hx hb hml hown hts (c_X0_wins l D cI cB cZ q_this q_stones q_near q_edges q_marks q_stack v_size n_stones v_stones n_near v_near n_edges v_edges n_marks v_marks_2 n_stack v_stack_3 (2 : Int32) F hc _) (pre_V hK hP hD [0, 1, 2, 3, 4, 5] rfl (by decide) (ci := 0) (q0 := 0) rfl rfl) wd_2_33 wd_2_34 wd_2_35 wd_1_3 wd_2_36 (by decide +kernel) ⟨Nat.le_of_ble_eq_true rfl, Nat.le_of_ble_eq_true rfl⟩ ⟨Nat.le_of_ble_eq_true rfl, Nat.le_of_ble_eq_true rfl⟩ rfl hl.1 rfl (Nat.le_of_ble_eq_true rfl) dX0_winner_12) (fun H locs hP hD hS => ?_)
    have hP : va_P D vwCl [(q_this, .inr (0, [.int v_size, .ref q_stones, .ref q_near, .ref q_edges, .ref q_marks, .ref q_stack])), (q_stones, .inl (cI, n_stones, .inl v_stones)), (q_near, .inl (cI, n_near, .inl v_near)), (q_edges, .inl (cI, n_edges, .inl v_edges)), (q_marks, .inl (cI, n_marks, .inl v_marks_5)), (q_stack, .inl (cI, n_stack, .inl v_stack_6))] H := hP.sub [0, 1, 2, 3, 4, 5] rfl
    have hD : va_D A [(q_this, .inr (0, [.int v_size, .ref q_stones, .ref q_near, .ref q_edges, .ref q_marks, .ref q_stack])), (q_stones, .inl (cI, n_stones, .inl v_stones)), (q_near, .inl (cI, n_near, .inl v_near)), (q_edges, .inl (cI, n_edges, .inl v_edges)), (q_marks, .inl (cI, n_marks, .inl v_marks_5)), (q_stack, .inl (cI, n_stack, .inl v_stack_6))] := hD.sub [0, 1, 2, 3, 4, 5] (by decide) rfl
    refine lv_if_eq (tgt := 22) hx hb dX0_winner_15 (by decide) (fun cb => ?_) (fun cb => ?_)
    · replace h := pm_pos cb h
      refine lv_iconst (v := (0 : Int32)) hx hb dX0_winner_22 (by decide) ?_
      exact rt_i (u := (v_marks_5, v_stack_6)) hQ hx hb hr hlk h hP hD hS dX0_winner_23
    · replace h := pm_neg cb h
      refine lv_iconst (v := (2 : Int32)) hx hb dX0_winner_18 (by decide) ?_
      refine lv_goto (tgt := 23) hx hb dX0_winner_19 (by decide) ?_
      exact rt_i (u := (v_marks_5, v_stack_6)) hQ hx hb hr hlk h hP hD hS dX0_winner_23
  · replace h := pm_neg cb h
    refine lv_iconst (v := (1 : Int32)) hx hb dX0_winner_8 (by decide) ?_
    exact rt_i (u := (v_marks_2, v_stack_3)) hQ hx hb hr hlk h hP hD hS dX0_winner_9
abbrev rm_X0_wouldWin : Room := { frames := 1, cells := 0, slots := 0, locals := 22 }
set_option maxHeartbeats 4000000 in
set_option maxRecDepth 100000 in
theorem c_X0_wouldWin (l : Launch) (D : va_G) (cI cB cZ : ClassId) (q_this : Nat) (q_stones : Nat) (q_near : Nat) (q_edges : Nat) (q_marks : Nat) (q_stack : Nat) (v_size : Int32) (n_stones : Nat) (v_stones : Nat → Int32) (n_near : Nat) (v_near : Nat → Int32) (n_edges : Nat) (v_edges : Nat → Int32) (n_marks : Nat) (v_marks : Nat → Int32) (x1 : Int32) (x2 : Int32) (F : Nat) {r : Int32} (h : pm_X0_wouldWin F n_stones n_near v_near n_edges v_edges n_marks v_marks x1 x2 = some r) : MI l yX0_wouldWin cX0_wouldWin 6 (some .boolean) rm_X0_wouldWin [.ref q_this, .int x1, .int x2] D cI cB cZ [(q_this, .inr (0, [.int v_size, .ref q_stones, .ref q_near, .ref q_edges, .ref q_marks, .ref q_stack])), (q_stones, .inl (cI, n_stones, .inl v_stones)), (q_near, .inl (cI, n_near, .inl v_near)), (q_edges, .inl (cI, n_edges, .inl v_edges)), (q_marks, .inl (cI, n_marks, .inl v_marks))] (fun u : Unit => [(q_this, .inr (0, [.int v_size, .ref q_stones, .ref q_near, .ref q_edges, .ref q_marks, .ref q_stack])), (q_stones, .inl (cI, n_stones, .inl v_stones)), (q_near, .inl (cI, n_near, .inl v_near)), (q_edges, .inl (cI, n_edges, .inl v_edges)), (q_marks, .inl (cI, n_marks, .inl v_marks))]) (r, ()) := by
  refine ent_i (by decide) (Nat.le_of_ble_eq_true rfl) ?_
  intro p e s m args below meth c A ls Q hQ hx hb hr hml hown hts hlk hnm hK hA hP hD hS hl
  have hl : lv_has ls 6 [(0, .ref q_this), (1, .int x1), (2, .int x2)] := hl
  rw [pm_X0_wouldWin] at h
  refine lv_aload_n hx hb dX0_wouldWin_0 rfl (lv_at hl 0 rfl) ?_
  refine lv_iload_n hx hb dX0_wouldWin_1 rfl (lv_at hl 2 rfl) ?_
  obtain ⟨r_1, hc, h⟩ := bd1_s h
  refine aft_i (wr := [(q_near, .inl (cI, n_near, .inl v_near)), (q_edges, .inl (cI, n_edges, .inl v_edges)), (q_marks, .inl (cI, n_marks, .inl v_marks))]) (wc := [(q_this, .inr (0, [.int v_size, .ref q_stones, .ref q_near, .ref q_edges, .ref q_marks, .ref q_stack])), (q_stones, .inl (cI, n_stones, .inl v_stones))]) hP hD hS hA [0, 1] [2, 3, 4] rfl rfl (by decide) (by decide) (rn_V (As := [.int x2]) (rest := []) (n := 1) hx hb hml hown hts (c_X0_has l D cI cB cZ q_this q_stones q_near q_edges q_marks q_stack v_size n_stones v_stones x2 F hc _) (pre_V hK hP hD [0, 1] rfl (by decide) (ci := 0) (q0 := 0) rfl rfl) wd_2_10 wd_2_11 wd_2_12 wd_1_3 wd_2_13 (by decide +kernel) ⟨Nat.le_of_ble_eq_true rfl, Nat.le_of_ble_eq_true rfl⟩ ⟨Nat.le_of_ble_eq_true rfl, Nat.le_of_ble_eq_true rfl⟩ rfl hl.1 rfl (Nat.le_of_ble_eq_true rfl) dX0_wouldWin_2) (fun H locs hP hD hS => ?_)
  have hP : va_P D vwCl [(q_this, .inr (0, [.int v_size, .ref q_stones, .ref q_near, .ref q_edges, .ref q_marks, .ref q_stack])), (q_stones, .inl (cI, n_stones, .inl v_stones)), (q_near, .inl (cI, n_near, .inl v_near)), (q_edges, .inl (cI, n_edges, .inl v_edges)), (q_marks, .inl (cI, n_marks, .inl v_marks))] H := hP.sub [3, 4, 0, 1, 2] rfl
  have hD : va_D A [(q_this, .inr (0, [.int v_size, .ref q_stones, .ref q_near, .ref q_edges, .ref q_marks, .ref q_stack])), (q_stones, .inl (cI, n_stones, .inl v_stones)), (q_near, .inl (cI, n_near, .inl v_near)), (q_edges, .inl (cI, n_edges, .inl v_edges)), (q_marks, .inl (cI, n_marks, .inl v_marks))] := hD.sub [3, 4, 0, 1, 2] (by decide) rfl
  refine lv_if_ne (tgt := 10) hx hb dX0_wouldWin_5 (by decide) (fun cb => ?_) (fun cb => ?_)
  · replace h := pm_neg cb h
    refine lv_aload_n hx hb dX0_wouldWin_10 rfl (lv_at hl 0 rfl) ?_
    refine lv_iload_n hx hb dX0_wouldWin_11 rfl (lv_at hl 1 rfl) ?_
    refine lv_iload_n hx hb dX0_wouldWin_12 rfl (lv_at hl 2 rfl) ?_
    obtain ⟨r_2, hc, h⟩ := bd1_s h
    refine aft_i (wr := [(q_stones, .inl (cI, n_stones, .inl v_stones)), (q_near, .inl (cI, n_near, .inl v_near)), (q_marks, .inl (cI, n_marks, .inl v_marks))]) (wc := [(q_this, .inr (0, [.int v_size, .ref q_stones, .ref q_near, .ref q_edges, .ref q_marks, .ref q_stack])), (q_edges, .inl (cI, n_edges, .inl v_edges))]) hP hD hS hA [0, 3] [1, 2, 4] rfl rfl (by decide) (by decide) (rn_V (As := [.int x1, .int x2]) (rest := []) (n := 2) hx hb hml hown hts (c_X0_edgesOf l D cI cB cZ q_this q_stones q_near q_edges q_marks q_stack v_size n_edges v_edges x1 x2 F hc _) (pre_V hK hP hD [0, 3] rfl (by decide) (ci := 0) (q0 := 0) rfl rfl) wd_2_48 wd_2_50 wp_0 wd_1_3 wd_2_51 (by decide +kernel) ⟨Nat.le_of_ble_eq_true rfl, Nat.le_of_ble_eq_true rfl⟩ ⟨Nat.le_of_ble_eq_true rfl, Nat.le_of_ble_eq_true rfl⟩ rfl hl.1 rfl (Nat.le_of_ble_eq_true rfl) dX0_wouldWin_13) (fun H locs hP hD hS => ?_)
    have hP : va_P D vwCl [(q_this, .inr (0, [.int v_size, .ref q_stones, .ref q_near, .ref q_edges, .ref q_marks, .ref q_stack])), (q_stones, .inl (cI, n_stones, .inl v_stones)), (q_near, .inl (cI, n_near, .inl v_near)), (q_edges, .inl (cI, n_edges, .inl v_edges)), (q_marks, .inl (cI, n_marks, .inl v_marks))] H := hP.sub [3, 0, 1, 4, 2] rfl
    have hD : va_D A [(q_this, .inr (0, [.int v_size, .ref q_stones, .ref q_near, .ref q_edges, .ref q_marks, .ref q_stack])), (q_stones, .inl (cI, n_stones, .inl v_stones)), (q_near, .inl (cI, n_near, .inl v_near)), (q_edges, .inl (cI, n_edges, .inl v_edges)), (q_marks, .inl (cI, n_marks, .inl v_marks))] := hD.sub [3, 0, 1, 4, 2] (by decide) rfl
    refine lv_istore_n (lv' := [(3, .int r_2), (0, .ref q_this), (1, .int x1), (2, .int x2)]) hx hb dX0_wouldWin_16 rfl hl (by decide) rfl (fun ls hl => ?_)
    refine lv_iconst (v := (0 : Int32)) hx hb dX0_wouldWin_17 (by decide) ?_
    refine lv_istore (lv' := [(4, .int (0 : Int32)), (3, .int r_2), (0, .ref q_this), (1, .int x1), (2, .int x2)]) hx hb dX0_wouldWin_18 hl (by decide) rfl (fun ls hl => ?_)
    obtain ⟨x3_3, hw, h⟩ := bd1_s h
    have J_4 : ∀ (H : Heap) (locs : List Loc) (ls : Array Slot), va_P D vwCl [(q_this, .inr (0, [.int v_size, .ref q_stones, .ref q_near, .ref q_edges, .ref q_marks, .ref q_stack])), (q_stones, .inl (cI, n_stones, .inl v_stones)), (q_near, .inl (cI, n_near, .inl v_near)), (q_edges, .inl (cI, n_edges, .inl v_edges)), (q_marks, .inl (cI, n_marks, .inl v_marks))] H → va_D A [(q_this, .inr (0, [.int v_size, .ref q_stones, .ref q_near, .ref q_edges, .ref q_marks, .ref q_stack])), (q_stones, .inl (cI, n_stones, .inl v_stones)), (q_near, .inl (cI, n_near, .inl v_near)), (q_edges, .inl (cI, n_edges, .inl v_edges)), (q_marks, .inl (cI, n_marks, .inl v_marks))] → va_S A s.heap H locs → lv_has ls 6 [(3, .int x3_3)] → W p l e rm_X0_wouldWin s m args below meth c H locs 0 0 Q (F0 m 63 ls []) := by
      intro H locs ls hP hD hS hl
      refine lv_iload_n hx hb dX0_wouldWin_63 rfl (lv_at hl 0 rfl) ?_
      refine lv_iconst (v := (3 : Int32)) hx hb dX0_wouldWin_64 (by decide) ?_
      refine lv_icmp_ne (tgt := 72) hx hb dX0_wouldWin_65 (by decide) (fun cb => ?_) (fun cb => ?_)
      · replace h := pm_neg cb h
        refine lv_iconst (v := (0 : Int32)) hx hb dX0_wouldWin_72 (by decide) ?_
        exact rt_z (u := ()) (Or.inl rfl) hQ hx hb hr hlk (un_i h) hP hD hS dX0_wouldWin_73
      · replace h := pm_pos cb h
        refine lv_iconst (v := (1 : Int32)) hx hb dX0_wouldWin_68 (by decide) ?_
        refine lv_goto (tgt := 73) hx hb dX0_wouldWin_69 (by decide) ?_
        exact rt_z (u := ()) (Or.inr rfl) hQ hx hb hr hlk (un_i h) hP hD hS dX0_wouldWin_73
    replace h := hw
    have L : ∀ (k : Nat) (x3_5 : Int32) (x4_6 : Int32) (H : Heap) (locs : List Loc) (ls : Array Slot), va_P D vwCl [(q_this, .inr (0, [.int v_size, .ref q_stones, .ref q_near, .ref q_edges, .ref q_marks, .ref q_stack])), (q_stones, .inl (cI, n_stones, .inl v_stones)), (q_near, .inl (cI, n_near, .inl v_near)), (q_edges, .inl (cI, n_edges, .inl v_edges)), (q_marks, .inl (cI, n_marks, .inl v_marks))] H → va_D A [(q_this, .inr (0, [.int v_size, .ref q_stones, .ref q_near, .ref q_edges, .ref q_marks, .ref q_stack])), (q_stones, .inl (cI, n_stones, .inl v_stones)), (q_near, .inl (cI, n_near, .inl v_near)), (q_edges, .inl (cI, n_edges, .inl v_edges)), (q_marks, .inl (cI, n_marks, .inl v_marks))] → va_S A s.heap H locs → lv_has ls 6 [(0, .ref q_this), (2, .int x2), (3, .int x3_5), (4, .int x4_6)] → pm_X0_wouldWin_L20 F n_near v_near n_marks v_marks x2 k x3_5 x4_6 = some x3_3 → W p l e rm_X0_wouldWin s m args below meth c H locs 0 0 Q (F0 m 20 ls []) := by
      intro k
      induction k with
      | zero =>
        intro x3_5 x4_6 H locs ls hP hD hS hl h
        rw [pm_X0_wouldWin_L20] at h
        cases h
      | succ k ih =>
        intro x3_5 x4_6 H locs ls hP hD hS hl h
        rw [pm_X0_wouldWin_L20] at h
        refine lv_iload hx hb dX0_wouldWin_20 (lv_at hl 3 rfl) ?_
        refine lv_bipush (v := (6 : Int32)) hx hb dX0_wouldWin_22 (by decide) ?_
        refine lv_icmp_ge (tgt := 63) hx hb dX0_wouldWin_24 (by decide) (fun cb => ?_) (fun cb => ?_)
        · replace h := pm_pos cb h
          cases h
          exact J_4 _ _ _ hP hD hS (lv_sub hl [2] rfl)
        · replace h := pm_neg cb h
          refine lv_aload_n hx hb dX0_wouldWin_27 rfl (lv_at hl 0 rfl) ?_
          refine va_get (D := D) (ci := 0) (v := .ref q_near) (C := "HexTable$Board") (T := TX0) (N := 6) hx hb hts inX0 hown hK.1 hP 0 rfl rfl 2 (by decide) (hts _ wd_1_47) (fun _ h9 => h9) rfl dX0_wouldWin_28 ?_
          refine lv_bipush (v := (6 : Int32)) hx hb dX0_wouldWin_31 (by decide) ?_
          refine lv_iload_n hx hb dX0_wouldWin_33 rfl (lv_at hl 1 rfl) ?_
          refine lv_imul hx hb dX0_wouldWin_34 ?_
          refine lv_iload hx hb dX0_wouldWin_35 (lv_at hl 3 rfl) ?_
          refine lv_iadd hx hb dX0_wouldWin_37 ?_
          obtain ⟨b_7, h⟩ := pm_in h
          refine va_iald hx hb hK.1 hP 2 0 rfl rfl b_7 dX0_wouldWin_38 ?_
          refine lv_istore (lv' := [(5, .int (v_near (((6 : Int32) * x2) + x4_6).toNatClampNeg)), (0, .ref q_this), (2, .int x2), (3, .int x3_5), (4, .int x4_6)]) hx hb dX0_wouldWin_39 hl (by decide) rfl (fun ls hl => ?_)
          refine lv_iload hx hb dX0_wouldWin_41 (lv_at hl 0 rfl) ?_
          refine lv_iconst (v := (-1 : Int32)) hx hb dX0_wouldWin_43 (by decide) ?_
          refine lv_icmp_eq (tgt := 57) hx hb dX0_wouldWin_44 (by decide) (fun cb => ?_) (fun cb => ?_)
          · replace h := pm_pos cb h
            refine lv_iinc (v := x4_6 + (1 : Int32)) (lv' := [(4, .int (x4_6 + (1 : Int32))), (5, .int (v_near (((6 : Int32) * x2) + x4_6).toNatClampNeg)), (0, .ref q_this), (2, .int x2), (3, .int x3_5)]) hx hb dX0_wouldWin_57 hl (k := 4) rfl rfl (by decide) rfl (fun ls hl => ?_)
            refine lv_goto (tgt := 20) hx hb dX0_wouldWin_60 (by decide) ?_
            exact ih x3_5 (x4_6 + (1 : Int32)) _ _ _ hP hD hS (lv_sub hl [2, 3, 4, 0] rfl) h
          · replace h := pm_neg cb h
            refine lv_iload_n hx hb dX0_wouldWin_47 rfl (lv_at hl 3 rfl) ?_
            refine lv_aload_n hx hb dX0_wouldWin_48 rfl (lv_at hl 1 rfl) ?_
            refine va_get (D := D) (ci := 0) (v := .ref q_marks) (C := "HexTable$Board") (T := TX0) (N := 6) hx hb hts inX0 hown hK.1 hP 0 rfl rfl 4 (by decide) (hts _ wd_1_49) (fun _ h9 => h9) rfl dX0_wouldWin_49 ?_
            refine lv_iload hx hb dX0_wouldWin_52 (lv_at hl 0 rfl) ?_
            obtain ⟨b_8, h⟩ := pm_in h
            refine va_iald hx hb hK.1 hP 4 0 rfl rfl b_8 dX0_wouldWin_54 ?_
            refine lv_ior hx hb dX0_wouldWin_55 ?_
            refine lv_istore_n (lv' := [(3, .int (x3_5 ||| (v_marks (v_near (((6 : Int32) * x2) + x4_6).toNatClampNeg).toNatClampNeg))), (5, .int (v_near (((6 : Int32) * x2) + x4_6).toNatClampNeg)), (0, .ref q_this), (2, .int x2), (4, .int x4_6)]) hx hb dX0_wouldWin_56 rfl hl (by decide) rfl (fun ls hl => ?_)
            refine lv_iinc (v := x4_6 + (1 : Int32)) (lv' := [(4, .int (x4_6 + (1 : Int32))), (3, .int (x3_5 ||| (v_marks (v_near (((6 : Int32) * x2) + x4_6).toNatClampNeg).toNatClampNeg))), (5, .int (v_near (((6 : Int32) * x2) + x4_6).toNatClampNeg)), (0, .ref q_this), (2, .int x2)]) hx hb dX0_wouldWin_57 hl (k := 4) rfl rfl (by decide) rfl (fun ls hl => ?_)
            refine lv_goto (tgt := 20) hx hb dX0_wouldWin_60 (by decide) ?_
            exact ih (x3_5 ||| (v_marks (v_near (((6 : Int32) * x2) + x4_6).toNatClampNeg).toNatClampNeg)) (x4_6 + (1 : Int32)) _ _ _ hP hD hS (lv_sub hl [3, 4, 1, 0] rfl) h
    exact L F r_2 (0 : Int32) _ _ _ hP hD hS (lv_sub hl [2, 4, 1, 0] rfl) h
  · replace h := pm_pos cb h
    refine lv_iconst (v := (0 : Int32)) hx hb dX0_wouldWin_8 (by decide) ?_
    exact rt_z (u := ()) (Or.inl rfl) hQ hx hb hr hlk (un_i h) hP hD hS dX0_wouldWin_9
