abbrev rm_X2_copyEntries (g wg : Nat) : Room := { frames := 3, cells := g - wg, slots := g - wg, locals := 105 }
set_option maxHeartbeats 4000000 in
set_option maxRecDepth 100000 in
theorem c_X2_copyEntries (l : Launch) (D : va_G) (cI cB cZ : ClassId) (q_this : Nat) (q_ahead : Nat) (q_cells : Nat) (q_p1 : Nat) (q_p1_ahead : Nat) (q_p1_cells : Nat) (v_count : Int32) (n_ahead : Nat) (v_ahead : Nat → Int32) (n_cells : Nat) (v_cells : Nat → Int32) (v_p1_count : Int32) (n_p1_ahead : Nat) (v_p1_ahead : Nat → Int32) (n_p1_cells : Nat) (v_p1_cells : Nat → Int32) (g : Nat) (F : Nat) {w0 : Int32} {w1 : Nat} {w2 : Nat → Int32} {w3 : Nat} {w4 : Nat → Int32} {wg : Nat} (h : pm_X2_copyEntries F g n_ahead v_ahead n_cells v_cells v_p1_count n_p1_ahead v_p1_ahead n_p1_cells v_p1_cells = some (w0, w1, w2, w3, w4, wg)) : MVX none l yX2_copyEntries cX2_copyEntries 3 none (rm_X2_copyEntries g wg) [.ref q_this, .ref q_p1] D cI cB cZ [(q_this, .inr (2, [.ref q_ahead, .ref q_cells, .int v_count])), (q_ahead, .inl (cI, n_ahead, .inl v_ahead)), (q_cells, .inl (cI, n_cells, .inl v_cells)), (q_p1, .inr (2, [.ref q_p1_ahead, .ref q_p1_cells, .int v_p1_count])), (q_p1_ahead, .inl (cI, n_p1_ahead, .inl v_p1_ahead)), (q_p1_cells, .inl (cI, n_p1_cells, .inl v_p1_cells))] (fun (u : Int32 × Nat × (Nat → Int32) × Nat × (Nat → Int32) × Nat) (a : Nat × Nat) => [(q_this, .inr (2, [.ref a.1, .ref a.2, .int u.1])), (a.1, .inl (cI, u.2.1, .inl u.2.2.1)), (a.2, .inl (cI, u.2.2.2.1, .inl u.2.2.2.2.1)), (q_p1, .inr (2, [.ref q_p1_ahead, .ref q_p1_cells, .int v_p1_count])), (q_p1_ahead, .inl (cI, n_p1_ahead, .inl v_p1_ahead)), (q_p1_cells, .inl (cI, n_p1_cells, .inl v_p1_cells))]) (w0, w1, w2, w3, w4, wg) := by
  refine ent_vx (by decide) (Nat.le_of_ble_eq_true rfl) ?_
  intro p e s m args below meth c A ls Q hQ hx hb hr hml hown hts hlk hnm hK hA hP hD hS hZ hl
  have hl : lv_has ls 3 [(0, .ref q_this), (1, .ref q_p1)] := hl
  have hg : g ≤ g := Nat.le_refl g
  have hm : wg ≤ g := mono_X2_copyEntries h
  rw [pm_X2_copyEntries] at h
  refine W.widen (k := g - g) (n := g - g) (Nat.zero_le _) (Nat.zero_le _) ?_
  refine lv_aload_n hx hb dX2_copyEntries_0 rfl (lv_at hl 0 rfl) ?_
  refine lv_iconst (v := (0 : Int32)) hx hb dX2_copyEntries_1 (by decide) ?_
  refine va_put (D := D) (ci := 2) (v := .int (0 : Int32)) (ty := .int) (C := "HexTable$Entries") (T := TX2) (N := 3) hx hb hts inX2 tyX2 tyX2_ok nmX2 hown hK.1 hP hD hS 0 rfl rfl 2 (by decide) (hts _ wd_1_154) (fun _ h9 => h9) rfl (by decide +kernel) rfl rfl (Nat.le_of_ble_eq_true rfl) dX2_copyEntries_2 (fun H locs hP hD hS => ?_)
  have hP : va_P D vwCl [(q_this, .inr (2, [.ref q_ahead, .ref q_cells, .int (0 : Int32)])), (q_ahead, .inl (cI, n_ahead, .inl v_ahead)), (q_cells, .inl (cI, n_cells, .inl v_cells)), (q_p1, .inr (2, [.ref q_p1_ahead, .ref q_p1_cells, .int v_p1_count])), (q_p1_ahead, .inl (cI, n_p1_ahead, .inl v_p1_ahead)), (q_p1_cells, .inl (cI, n_p1_cells, .inl v_p1_cells))] H := hP
  have hD : va_D A [(q_this, .inr (2, [.ref q_ahead, .ref q_cells, .int (0 : Int32)])), (q_ahead, .inl (cI, n_ahead, .inl v_ahead)), (q_cells, .inl (cI, n_cells, .inl v_cells)), (q_p1, .inr (2, [.ref q_p1_ahead, .ref q_p1_cells, .int v_p1_count])), (q_p1_ahead, .inl (cI, n_p1_ahead, .inl v_p1_ahead)), (q_p1_cells, .inl (cI, n_p1_cells, .inl v_p1_cells))] := hD
  refine lv_iconst (v := (0 : Int32)) hx hb dX2_copyEntries_5 (by decide) ?_
  refine lv_istore_n (lv' := [(2, .int (0 : Int32)), (0, .ref q_this), (1, .ref q_p1)]) hx hb dX2_copyEntries_6 rfl hl (by decide) rfl (fun ls hl => ?_)
  obtain ⟨v_count_3, n_ahead_4, v_ahead_5, n_cells_6, v_cells_7, g_8, hw, h⟩ := bd6_s h
  have hme_J_9 : wg ≤ g_8 := by
    have hle : g_8 ≤ g_8 := Nat.le_refl _
    exact le_last ((Prod.mk.inj ((Prod.mk.inj ((Prod.mk.inj ((Prod.mk.inj ((Prod.mk.inj (Option.some.inj h)).2)).2)).2)).2)).2) hle
  have J_9 : ∀ (y1 : Int32) (y2 : Nat) (y3 : Nat → Int32) (y4 : Nat) (y5 : Nat → Int32) (y6 : Nat), some (v_count_3, n_ahead_4, v_ahead_5, n_cells_6, v_cells_7, g_8) = some (y1, y2, y3, y4, y5, y6) → ∀ (q_ahead_1 q_cells_2 : Nat) (H : Heap) (locs : List Loc) (ls : Array Slot), va_P D vwCl [(q_this, .inr (2, [.ref q_ahead_1, .ref q_cells_2, .int y1])), (q_ahead_1, .inl (cI, y2, .inl y3)), (q_cells_2, .inl (cI, y4, .inl y5)), (q_p1, .inr (2, [.ref q_p1_ahead, .ref q_p1_cells, .int v_p1_count])), (q_p1_ahead, .inl (cI, n_p1_ahead, .inl v_p1_ahead)), (q_p1_cells, .inl (cI, n_p1_cells, .inl v_p1_cells))] H → va_D A [(q_this, .inr (2, [.ref q_ahead_1, .ref q_cells_2, .int y1])), (q_ahead_1, .inl (cI, y2, .inl y3)), (q_cells_2, .inl (cI, y4, .inl y5)), (q_p1, .inr (2, [.ref q_p1_ahead, .ref q_p1_cells, .int v_p1_count])), (q_p1_ahead, .inl (cI, n_p1_ahead, .inl v_p1_ahead)), (q_p1_cells, .inl (cI, n_p1_cells, .inl v_p1_cells))] → va_S A s.heap H locs → lv_has ls 3 [] → y6 ≤ g → W p l e (rm_X2_copyEntries g wg) s m args below meth c H locs (g - y6) (g - y6) Q (F0 m 38 ls []) := by
    intro y1 y2 y3 y4 y5 y6 hy
    cases hy
    intro q_ahead_1 q_cells_2 H locs ls hP hD hS hl hg
    have hm := hme_J_9
    refine W.widen (k := g - wg) (n := g - wg) (ca_3 hm) (ca_3 hm) ?_
    exact rt_vx (u := (v_count_3, n_ahead_4, v_ahead_5, n_cells_6, v_cells_7, g_8)) (q_ahead_1, q_cells_2) hQ hx hb hr hlk h hP hD hS dX2_copyEntries_38
  replace h := hw
  have L : ∀ (k : Nat) (x2_12 : Int32) (v_count_13 : Int32) (n_ahead_14 : Nat) (v_ahead_15 : Nat → Int32) (n_cells_16 : Nat) (v_cells_17 : Nat → Int32) (g_18 : Nat) (q_ahead_10 q_cells_11 : Nat) (H : Heap) (locs : List Loc) (ls : Array Slot), va_P D vwCl [(q_this, .inr (2, [.ref q_ahead_10, .ref q_cells_11, .int v_count_13])), (q_ahead_10, .inl (cI, n_ahead_14, .inl v_ahead_15)), (q_cells_11, .inl (cI, n_cells_16, .inl v_cells_17)), (q_p1, .inr (2, [.ref q_p1_ahead, .ref q_p1_cells, .int v_p1_count])), (q_p1_ahead, .inl (cI, n_p1_ahead, .inl v_p1_ahead)), (q_p1_cells, .inl (cI, n_p1_cells, .inl v_p1_cells))] H → va_D A [(q_this, .inr (2, [.ref q_ahead_10, .ref q_cells_11, .int v_count_13])), (q_ahead_10, .inl (cI, n_ahead_14, .inl v_ahead_15)), (q_cells_11, .inl (cI, n_cells_16, .inl v_cells_17)), (q_p1, .inr (2, [.ref q_p1_ahead, .ref q_p1_cells, .int v_p1_count])), (q_p1_ahead, .inl (cI, n_p1_ahead, .inl v_p1_ahead)), (q_p1_cells, .inl (cI, n_p1_cells, .inl v_p1_cells))] → va_S A s.heap H locs → lv_has ls 3 [(0, .ref q_this), (1, .ref q_p1), (2, .int x2_12)] → g_18 ≤ g → pm_X2_copyEntries_L7 F v_p1_count n_p1_ahead v_p1_ahead n_p1_cells v_p1_cells k x2_12 v_count_13 n_ahead_14 v_ahead_15 n_cells_16 v_cells_17 g_18 = some (v_count_3, n_ahead_4, v_ahead_5, n_cells_6, v_cells_7, g_8) → W p l e (rm_X2_copyEntries g wg) s m args below meth c H locs (g - g_18) (g - g_18) Q (F0 m 7 ls []) := by
    intro k
    induction k with
    | zero =>
      intro x2_12 v_count_13 n_ahead_14 v_ahead_15 n_cells_16 v_cells_17 g_18 q_ahead_10 q_cells_11 H locs ls hP hD hS hl hg h
      rw [pm_X2_copyEntries_L7] at h
      cases h
    | succ k ih =>
      intro x2_12 v_count_13 n_ahead_14 v_ahead_15 n_cells_16 v_cells_17 g_18 q_ahead_10 q_cells_11 H locs ls hP hD hS hl hg h
      have mo := mono_X2_copyEntries_L7 h
      have hm : wg ≤ g_18 := by omega
      rw [pm_X2_copyEntries_L7] at h
      refine lv_iload_n hx hb dX2_copyEntries_7 rfl (lv_at hl 2 rfl) ?_
      refine lv_aload_n hx hb dX2_copyEntries_8 rfl (lv_at hl 1 rfl) ?_
      refine va_get (D := D) (ci := 2) (v := .int v_p1_count) (C := "HexTable$Entries") (T := TX2) (N := 3) hx hb hts inX2 hown hK.1 hP 3 rfl rfl 2 (by decide) (hts _ wd_1_154) (fun _ h9 => h9) rfl dX2_copyEntries_9 ?_
      refine lv_icmp_ge (tgt := 38) hx hb dX2_copyEntries_12 (by decide) (fun cb => ?_) (fun cb => ?_)
      · replace h := pm_pos cb h
        exact J_9 _ _ _ _ _ _ h.symm q_ahead_10 q_cells_11 _ _ _ hP hD hS (lv_sub hl [] rfl) hg
      · replace h := pm_neg cb h
        refine lv_aload_n hx hb dX2_copyEntries_15 rfl (lv_at hl 0 rfl) ?_
        refine lv_aload_n hx hb dX2_copyEntries_16 rfl (lv_at hl 1 rfl) ?_
        refine va_get (D := D) (ci := 2) (v := .ref q_p1_ahead) (C := "HexTable$Entries") (T := TX2) (N := 3) hx hb hts inX2 hown hK.1 hP 3 rfl rfl 0 (by decide) (hts _ wd_1_147) (fun _ h9 => h9) rfl dX2_copyEntries_17 ?_
        refine lv_iload_n hx hb dX2_copyEntries_20 rfl (lv_at hl 2 rfl) ?_
        obtain ⟨b_19, h⟩ := pm_in h
        refine va_iald hx hb hK.1 hP 4 0 rfl rfl b_19 dX2_copyEntries_21 ?_
        refine lv_aload_n hx hb dX2_copyEntries_22 rfl (lv_at hl 1 rfl) ?_
        refine va_get (D := D) (ci := 2) (v := .ref q_p1_cells) (C := "HexTable$Entries") (T := TX2) (N := 3) hx hb hts inX2 hown hK.1 hP 3 rfl rfl 1 (by decide) (hts _ wd_1_151) (fun _ h9 => h9) rfl dX2_copyEntries_23 ?_
        refine lv_iload_n hx hb dX2_copyEntries_26 rfl (lv_at hl 2 rfl) ?_
        obtain ⟨b_20, h⟩ := pm_in h
        refine va_iald hx hb hK.1 hP 5 0 rfl rfl b_20 dX2_copyEntries_27 ?_
        obtain ⟨r_21, v_count_22, n_ahead_23, v_ahead_24, n_cells_25, v_cells_26, g_27, hc, h⟩ := bd7_s h
        have mo := mono_X2_add hc
        have hg0 := hg
        have hg : g_27 ≤ g := Nat.le_trans mo hg
        have hm : wg ≤ g_27 := by
          have hh : g_8 ≤ g_27 := by
            have hle : g_27 ≤ g_27 := Nat.le_refl _
            exact Nat.le_trans (mono_X2_copyEntries_L7 h) hle
          omega
        refine aft_ix (wr := [(q_p1, .inr (2, [.ref q_p1_ahead, .ref q_p1_cells, .int v_p1_count])), (q_p1_ahead, .inl (cI, n_p1_ahead, .inl v_p1_ahead)), (q_p1_cells, .inl (cI, n_p1_cells, .inl v_p1_cells))]) (wc := [(q_this, .inr (2, [.ref q_ahead_10, .ref q_cells_11, .int v_count_13])), (q_ahead_10, .inl (cI, n_ahead_14, .inl v_ahead_15)), (q_cells_11, .inl (cI, n_cells_16, .inl v_cells_17))]) hP hD hS hA [0, 1, 2] [3, 4, 5] rfl rfl (by decide) (by decide) (rn_V (As := [.int (v_p1_ahead x2_12.toNatClampNeg), .int (v_p1_cells x2_12.toNatClampNeg)]) (rest := []) (n := 2) hx hb hml hown hts (c_X2_add l D cI cB cZ q_this q_ahead_10 q_cells_11 v_count_13 n_ahead_14 v_ahead_15 n_cells_16 v_cells_17 (v_p1_ahead x2_12.toNatClampNeg) (v_p1_cells x2_12.toNatClampNeg) g_18 F hc _) (pre_VZ (z := none) trivial hS hA hK hP hD [0, 1, 2] rfl (by decide) (ci := 2) (q0 := 0) rfl rfl) wd_3_10 wd_2_216 wd_2_217 wd_1_7 wd_2_218 (by decide +kernel) ⟨Nat.le_of_ble_eq_true rfl, Nat.le_of_ble_eq_true rfl⟩ ⟨ca_1 mo hg0 hm, ca_1 mo hg0 hm⟩ rfl hl.1 rfl (Nat.le_of_ble_eq_true rfl) dX2_copyEntries_28) (fun x H locs hP hD hS => ?_)
        obtain ⟨q_new_28, q_new_29⟩ := x
        have hP : va_P D vwCl [(q_p1, .inr (2, [.ref q_p1_ahead, .ref q_p1_cells, .int v_p1_count])), (q_p1_ahead, .inl (cI, n_p1_ahead, .inl v_p1_ahead)), (q_p1_cells, .inl (cI, n_p1_cells, .inl v_p1_cells)), (q_this, .inr (2, [.ref q_new_28, .ref q_new_29, .int v_count_22])), (q_new_28, .inl (cI, n_ahead_23, .inl v_ahead_24)), (q_new_29, .inl (cI, n_cells_25, .inl v_cells_26))] H := hP
        have hD : va_D A [(q_p1, .inr (2, [.ref q_p1_ahead, .ref q_p1_cells, .int v_p1_count])), (q_p1_ahead, .inl (cI, n_p1_ahead, .inl v_p1_ahead)), (q_p1_cells, .inl (cI, n_p1_cells, .inl v_p1_cells)), (q_this, .inr (2, [.ref q_new_28, .ref q_new_29, .int v_count_22])), (q_new_28, .inl (cI, n_ahead_23, .inl v_ahead_24)), (q_new_29, .inl (cI, n_cells_25, .inl v_cells_26))] := hD
        refine W.widen (k := g - g_27) (n := g - g_27) (ca_2 mo hg0) (ca_2 mo hg0) ?_
        refine lv_pop hx hb dX2_copyEntries_31 rfl ?_
        refine lv_iinc (v := x2_12 + (1 : Int32)) (lv' := [(2, .int (x2_12 + (1 : Int32))), (0, .ref q_this), (1, .ref q_p1)]) hx hb dX2_copyEntries_32 hl (k := 2) rfl rfl (by decide) rfl (fun ls hl => ?_)
        refine lv_goto (tgt := 7) hx hb dX2_copyEntries_35 (by decide) ?_
        have hP : va_P D vwCl [(q_this, .inr (2, [.ref q_new_28, .ref q_new_29, .int v_count_22])), (q_new_28, .inl (cI, n_ahead_23, .inl v_ahead_24)), (q_new_29, .inl (cI, n_cells_25, .inl v_cells_26)), (q_p1, .inr (2, [.ref q_p1_ahead, .ref q_p1_cells, .int v_p1_count])), (q_p1_ahead, .inl (cI, n_p1_ahead, .inl v_p1_ahead)), (q_p1_cells, .inl (cI, n_p1_cells, .inl v_p1_cells))] H := hP.sub [3, 4, 5, 0, 1, 2] rfl
        have hD : va_D A [(q_this, .inr (2, [.ref q_new_28, .ref q_new_29, .int v_count_22])), (q_new_28, .inl (cI, n_ahead_23, .inl v_ahead_24)), (q_new_29, .inl (cI, n_cells_25, .inl v_cells_26)), (q_p1, .inr (2, [.ref q_p1_ahead, .ref q_p1_cells, .int v_p1_count])), (q_p1_ahead, .inl (cI, n_p1_ahead, .inl v_p1_ahead)), (q_p1_cells, .inl (cI, n_p1_cells, .inl v_p1_cells))] := hD.sub [3, 4, 5, 0, 1, 2] (by decide) rfl
        exact ih (x2_12 + (1 : Int32)) v_count_22 n_ahead_23 v_ahead_24 n_cells_25 v_cells_26 g_27 q_new_28 q_new_29 _ _ _ hP hD hS (lv_sub hl [1, 2, 0] rfl) hg h
  exact L F (0 : Int32) (0 : Int32) n_ahead v_ahead n_cells v_cells g q_ahead q_cells _ _ _ hP hD hS (lv_sub hl [1, 2, 0] rfl) hg h
