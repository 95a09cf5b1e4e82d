abbrev rm_X2_add (g wg : Nat) : Room := { frames := 2, cells := g - wg, slots := g - wg, locals := 82 }
set_option maxHeartbeats 4000000 in
set_option maxRecDepth 100000 in
theorem c_X2_add (l : Launch) (D : va_G) (cI cB cZ : ClassId) (q_this : Nat) (q_ahead : Nat) (q_cells : Nat) (v_count : Int32) (n_ahead : Nat) (v_ahead : Nat → Int32) (n_cells : Nat) (v_cells : Nat → Int32) (x1 : Int32) (x2 : Int32) (g : Nat) (F : Nat) {r : Int32} {w0 : Int32} {w1 : Nat} {w2 : Nat → Int32} {w3 : Nat} {w4 : Nat → Int32} {wg : Nat} (h : pm_X2_add F g v_count n_ahead v_ahead n_cells v_cells x1 x2 = some (r, w0, w1, w2, w3, w4, wg)) : MIX none l yX2_add cX2_add 4 (some .int) (rm_X2_add g wg) [.ref q_this, .int x1, .int x2] D cI cB cZ [(q_this, .inr (2, [.ref q_ahead, .ref q_cells, .int v_count])), (q_ahead, .inl (cI, n_ahead, .inl v_ahead)), (q_cells, .inl (cI, n_cells, .inl v_cells))] (fun (u : Int32 × Nat × (Nat → Int32) × Nat × (Nat → Int32) × Nat) (a : Nat × Nat) => [(q_this, .inr (2, [.ref a.1, .ref a.2, .int u.1])), (a.1, .inl (cI, u.2.1, .inl u.2.2.1)), (a.2, .inl (cI, u.2.2.2.1, .inl u.2.2.2.2.1))]) (r, (w0, w1, w2, w3, w4, wg)) := by
  refine ent_ix (by decide) (Nat.le_of_ble_eq_true rfl) ?_
  intro p e s m args below meth c A ls Q hQ hx hb hr hml hown hts hlk hnm hK hA hP hD hS hZ hl
  have hl : lv_has ls 4 [(0, .ref q_this), (1, .int x1), (2, .int x2)] := hl
  have hg : g ≤ g := Nat.le_refl g
  have hm : wg ≤ g := mono_X2_add h
  rw [pm_X2_add] at h
  refine W.widen (k := g - g) (n := g - g) (Nat.zero_le _) (Nat.zero_le _) ?_
  refine lv_aload_n hx hb dX2_add_0 rfl (lv_at hl 0 rfl) ?_
  refine va_get (D := D) (ci := 2) (v := .int v_count) (C := "HexTable$Entries") (T := TX2) (N := 3) hx hb hts inX2 hown hK.1 hP 0 rfl rfl 2 (by decide) (hts _ wd_1_154) (fun _ h9 => h9) rfl dX2_add_1 ?_
  refine lv_sipush (v := (8000 : Int32)) hx hb dX2_add_4 (by decide) ?_
  refine lv_icmp_lt (tgt := 12) hx hb dX2_add_7 (by decide) (fun cb => ?_) (fun cb => ?_)
  · replace h := pm_pos cb h
    refine lv_aload_n hx hb dX2_add_12 rfl (lv_at hl 0 rfl) ?_
    refine va_get (D := D) (ci := 2) (v := .int v_count) (C := "HexTable$Entries") (T := TX2) (N := 3) hx hb hts inX2 hown hK.1 hP 0 rfl rfl 2 (by decide) (hts _ wd_1_154) (fun _ h9 => h9) rfl dX2_add_13 ?_
    refine lv_aload_n hx hb dX2_add_16 rfl (lv_at hl 0 rfl) ?_
    refine va_get (D := D) (ci := 2) (v := .ref q_ahead) (C := "HexTable$Entries") (T := TX2) (N := 3) hx hb hts inX2 hown hK.1 hP 0 rfl rfl 0 (by decide) (hts _ wd_1_147) (fun _ h9 => h9) rfl dX2_add_17 ?_
    refine va_alen hx hb hK.1 hP 1 0 rfl rfl (v := nI n_ahead) rfl dX2_add_20 ?_
    obtain ⟨n_ahead_3, v_ahead_4, n_cells_5, v_cells_6, g_7, hw, h⟩ := bd5_s h
    have hme_J_8 : wg ≤ g_7 := by
      have hle : g_7 ≤ g_7 := Nat.le_refl _
      obtain ⟨b_9, h⟩ := pm_in h
      obtain ⟨b_10, h⟩ := pm_in h
      exact le_last ((Prod.mk.inj ((Prod.mk.inj ((Prod.mk.inj ((Prod.mk.inj ((Prod.mk.inj ((Prod.mk.inj (Option.some.inj h)).2)).2)).2)).2)).2)).2) hle
    have J_8 : ∀ (y1 : Nat) (y2 : Nat → Int32) (y3 : Nat) (y4 : Nat → Int32) (y5 : Nat), some (n_ahead_3, v_ahead_4, n_cells_5, v_cells_6, g_7) = some (y1, y2, y3, y4, y5) → ∀ (q_ahead_1 q_cells_2 : Nat) (H : Heap) (locs : List Loc) (ls : Array Slot), va_P D vwCl [(q_this, .inr (2, [.ref q_ahead_1, .ref q_cells_2, .int v_count])), (q_ahead_1, .inl (cI, y1, .inl y2)), (q_cells_2, .inl (cI, y3, .inl y4))] H → va_D A [(q_this, .inr (2, [.ref q_ahead_1, .ref q_cells_2, .int v_count])), (q_ahead_1, .inl (cI, y1, .inl y2)), (q_cells_2, .inl (cI, y3, .inl y4))] → va_S A s.heap H locs → lv_has ls 4 [(0, .ref q_this), (1, .int x1), (2, .int x2)] → y5 ≤ g → W p l e (rm_X2_add g wg) s m args below meth c H locs (g - y5) (g - y5) Q (F0 m 57 ls []) := by
      intro y1 y2 y3 y4 y5 hy
      cases hy
      intro q_ahead_1 q_cells_2 H locs ls hP hD hS hl hg
      have hm := hme_J_8
      refine lv_aload_n hx hb dX2_add_57 rfl (lv_at hl 0 rfl) ?_
      refine va_get (D := D) (ci := 2) (v := .ref q_ahead_1) (C := "HexTable$Entries") (T := TX2) (N := 3) hx hb hts inX2 hown hK.1 hP 0 rfl rfl 0 (by decide) (hts _ wd_1_147) (fun _ h9 => h9) rfl dX2_add_58 ?_
      refine lv_aload_n hx hb dX2_add_61 rfl (lv_at hl 0 rfl) ?_
      refine va_get (D := D) (ci := 2) (v := .int v_count) (C := "HexTable$Entries") (T := TX2) (N := 3) hx hb hts inX2 hown hK.1 hP 0 rfl rfl 2 (by decide) (hts _ wd_1_154) (fun _ h9 => h9) rfl dX2_add_62 ?_
      refine lv_iload_n hx hb dX2_add_65 rfl (lv_at hl 1 rfl) ?_
      obtain ⟨b_9, h⟩ := pm_in h
      refine va_iast hx hb hK.1 hP hD hS 1 0 rfl rfl b_9 dX2_add_66 (fun H locs hP hD hS => ?_)
      have hP : va_P D vwCl [(q_this, .inr (2, [.ref q_ahead_1, .ref q_cells_2, .int v_count])), (q_ahead_1, .inl (cI, n_ahead_3, .inl (upd v_ahead_4 v_count.toNatClampNeg x1))), (q_cells_2, .inl (cI, n_cells_5, .inl v_cells_6))] H := hP
      have hD : va_D A [(q_this, .inr (2, [.ref q_ahead_1, .ref q_cells_2, .int v_count])), (q_ahead_1, .inl (cI, n_ahead_3, .inl (upd v_ahead_4 v_count.toNatClampNeg x1))), (q_cells_2, .inl (cI, n_cells_5, .inl v_cells_6))] := hD
      refine lv_aload_n hx hb dX2_add_67 rfl (lv_at hl 0 rfl) ?_
      refine va_get (D := D) (ci := 2) (v := .ref q_cells_2) (C := "HexTable$Entries") (T := TX2) (N := 3) hx hb hts inX2 hown hK.1 hP 0 rfl rfl 1 (by decide) (hts _ wd_1_151) (fun _ h9 => h9) rfl dX2_add_68 ?_
      refine lv_aload_n hx hb dX2_add_71 rfl (lv_at hl 0 rfl) ?_
      refine va_get (D := D) (ci := 2) (v := .int v_count) (C := "HexTable$Entries") (T := TX2) (N := 3) hx hb hts inX2 hown hK.1 hP 0 rfl rfl 2 (by decide) (hts _ wd_1_154) (fun _ h9 => h9) rfl dX2_add_72 ?_
      refine lv_iload_n hx hb dX2_add_75 rfl (lv_at hl 2 rfl) ?_
      obtain ⟨b_10, h⟩ := pm_in h
      refine va_iast hx hb hK.1 hP hD hS 2 0 rfl rfl b_10 dX2_add_76 (fun H locs hP hD hS => ?_)
      have hP : va_P D vwCl [(q_this, .inr (2, [.ref q_ahead_1, .ref q_cells_2, .int v_count])), (q_ahead_1, .inl (cI, n_ahead_3, .inl (upd v_ahead_4 v_count.toNatClampNeg x1))), (q_cells_2, .inl (cI, n_cells_5, .inl (upd v_cells_6 v_count.toNatClampNeg x2)))] H := hP
      have hD : va_D A [(q_this, .inr (2, [.ref q_ahead_1, .ref q_cells_2, .int v_count])), (q_ahead_1, .inl (cI, n_ahead_3, .inl (upd v_ahead_4 v_count.toNatClampNeg x1))), (q_cells_2, .inl (cI, n_cells_5, .inl (upd v_cells_6 v_count.toNatClampNeg x2)))] := hD
      refine lv_aload_n hx hb dX2_add_77 rfl (lv_at hl 0 rfl) ?_
      refine lv_dup hx hb dX2_add_78 rfl ?_
      refine va_get (D := D) (ci := 2) (v := .int v_count) (C := "HexTable$Entries") (T := TX2) (N := 3) hx hb hts inX2 hown hK.1 hP 0 rfl rfl 2 (by decide) (hts _ wd_1_154) (fun _ h9 => h9) rfl dX2_add_79 ?_
      refine lv_iconst (v := (1 : Int32)) hx hb dX2_add_82 (by decide) ?_
      refine lv_iadd hx hb dX2_add_83 ?_
      refine va_put (D := D) (ci := 2) (v := .int (v_count + (1 : Int32))) (ty := .int) (C := "HexTable$Entries") (T := TX2) (N := 3) hx hb hts inX2 tyX2 tyX2_ok nmX2 hown hK.1 hP hD hS 0 rfl rfl 2 (by decide) (hts _ wd_1_154) (fun _ h9 => h9) rfl (by decide +kernel) rfl rfl (Nat.le_of_ble_eq_true rfl) dX2_add_84 (fun H locs hP hD hS => ?_)
      have hP : va_P D vwCl [(q_this, .inr (2, [.ref q_ahead_1, .ref q_cells_2, .int (v_count + (1 : Int32))])), (q_ahead_1, .inl (cI, n_ahead_3, .inl (upd v_ahead_4 v_count.toNatClampNeg x1))), (q_cells_2, .inl (cI, n_cells_5, .inl (upd v_cells_6 v_count.toNatClampNeg x2)))] H := hP
      have hD : va_D A [(q_this, .inr (2, [.ref q_ahead_1, .ref q_cells_2, .int (v_count + (1 : Int32))])), (q_ahead_1, .inl (cI, n_ahead_3, .inl (upd v_ahead_4 v_count.toNatClampNeg x1))), (q_cells_2, .inl (cI, n_cells_5, .inl (upd v_cells_6 v_count.toNatClampNeg x2)))] := hD
      refine lv_aload_n hx hb dX2_add_87 rfl (lv_at hl 0 rfl) ?_
      refine va_get (D := D) (ci := 2) (v := .int (v_count + (1 : Int32))) (C := "HexTable$Entries") (T := TX2) (N := 3) hx hb hts inX2 hown hK.1 hP 0 rfl rfl 2 (by decide) (hts _ wd_1_154) (fun _ h9 => h9) rfl dX2_add_88 ?_
      refine lv_iconst (v := (1 : Int32)) hx hb dX2_add_91 (by decide) ?_
      refine lv_isub hx hb dX2_add_92 ?_
      refine W.widen (k := g - wg) (n := g - wg) (ca_3 hm) (ca_3 hm) ?_
      exact rt_ix (u := (v_count + (1 : Int32), n_ahead_3, upd v_ahead_4 v_count.toNatClampNeg x1, n_cells_5, upd v_cells_6 v_count.toNatClampNeg x2, g_7)) (q_ahead_1, q_cells_2) hQ hx hb hr hlk h hP hD hS dX2_add_93
    replace h := hw
    refine lv_icmp_lt (tgt := 57) hx hb dX2_add_21 (by decide) (fun cb => ?_) (fun cb => ?_)
    · replace h := pm_pos cb h
      exact J_8 _ _ _ _ _ h.symm q_ahead q_cells _ _ _ hP hD hS (lv_sub hl [0, 1, 2] rfl) hg
    · replace h := pm_neg cb h
      refine lv_aload_n hx hb dX2_add_24 rfl (lv_at hl 0 rfl) ?_
      refine va_get (D := D) (ci := 2) (v := .ref q_ahead) (C := "HexTable$Entries") (T := TX2) (N := 3) hx hb hts inX2 hown hK.1 hP 0 rfl rfl 0 (by decide) (hts _ wd_1_147) (fun _ h9 => h9) rfl dX2_add_25 ?_
      refine va_alen hx hb hK.1 hP 1 0 rfl rfl (v := nI n_ahead) rfl dX2_add_28 ?_
      obtain ⟨r_11, hc, h⟩ := bd1_s h
      refine aft_i (wr := [(q_this, .inr (2, [.ref q_ahead, .ref q_cells, .int v_count])), (q_ahead, .inl (cI, n_ahead, .inl v_ahead)), (q_cells, .inl (cI, n_cells, .inl v_cells))]) (wc := []) hP hD hS hA [] [0, 1, 2] rfl rfl (by decide) (by decide) (rn_N (As := [.int (nI n_ahead)]) (rest := []) (n := 1) hx hb hml hown hts (c_X6_roomierLength l D cI cB cZ (nI n_ahead) F hc _) (pre_S hK hP hD [] rfl (by decide)) (hK.2.2 _ nw_29) wd_2_145 wd_1_1 wd_2_146 (by decide +kernel) ⟨Nat.le_of_ble_eq_true rfl, Nat.le_of_ble_eq_true rfl⟩ ⟨ca_0 hg hm, ca_0 hg hm⟩ rfl hl.1 rfl (Nat.le_of_ble_eq_true rfl) dX2_add_29) (fun H locs hP hD hS => ?_)
      have hP : va_P D vwCl [(q_this, .inr (2, [.ref q_ahead, .ref q_cells, .int v_count])), (q_ahead, .inl (cI, n_ahead, .inl v_ahead)), (q_cells, .inl (cI, n_cells, .inl v_cells))] H := hP
      have hD : va_D A [(q_this, .inr (2, [.ref q_ahead, .ref q_cells, .int v_count])), (q_ahead, .inl (cI, n_ahead, .inl v_ahead)), (q_cells, .inl (cI, n_cells, .inl v_cells))] := hD
      refine W.widen (k := g - g) (n := g - g) (Nat.le_refl _) (Nat.le_refl _) ?_
      refine lv_istore_n (lv' := [(3, .int r_11), (0, .ref q_this), (1, .int x1), (2, .int x2)]) hx hb dX2_add_32 rfl hl (by decide) rfl (fun ls hl => ?_)
      refine lv_aload_n hx hb dX2_add_33 rfl (lv_at hl 1 rfl) ?_
      refine lv_aload_n hx hb dX2_add_34 rfl (lv_at hl 1 rfl) ?_
      refine va_get (D := D) (ci := 2) (v := .ref q_ahead) (C := "HexTable$Entries") (T := TX2) (N := 3) hx hb hts inX2 hown hK.1 hP 0 rfl rfl 0 (by decide) (hts _ wd_1_147) (fun _ h9 => h9) rfl dX2_add_35 ?_
      refine lv_iload_n hx hb dX2_add_38 rfl (lv_at hl 0 rfl) ?_
      obtain ⟨n_ret_12, v_ret_13, g_14, hc, h⟩ := bd3_s h
      have mo := mono_J7_copyOf_59c91 hc
      have hg0 := hg
      have hg : g_14 ≤ g := Nat.le_trans mo hg
      have hm : wg ≤ g_14 := by
        have hh : g_7 ≤ g_14 := by
          have hle : g_14 ≤ g_14 := Nat.le_refl _
          obtain ⟨n_ret_16, v_ret_17, g_18, hc, h⟩ := bd3_s h
          have mo := mono_J7_copyOf_59c91 hc
          have hle := Nat.le_trans mo hle
          exact le_last ((Prod.mk.inj ((Prod.mk.inj ((Prod.mk.inj ((Prod.mk.inj (Option.some.inj h)).2)).2)).2)).2) hle
        omega
      refine aft_rx (wr := [(q_this, .inr (2, [.ref q_ahead, .ref q_cells, .int v_count])), (q_cells, .inl (cI, n_cells, .inl v_cells))]) (wc := [(q_ahead, .inl (cI, n_ahead, .inl v_ahead))]) hP hD hS hA [1] [0, 2] rfl rfl (by decide) (by decide) (rn_S (As := [.ref q_ahead, .int r_11]) (rest := [.ref q_this]) (n := 2) hx hb hml hown hts (c_J7_copyOf_59c91 l D cI cB cZ q_ahead n_ahead v_ahead r_11 g F hc _) (pre_SZ (z := none) trivial hS hA hK hP hD [1] rfl (by decide)) wd_2_220 wd_2_148 wd_1_10 wd_2_149 (by decide +kernel) ⟨Nat.le_of_ble_eq_true rfl, Nat.le_of_ble_eq_true rfl⟩ ⟨ca_1 mo hg0 hm, ca_1 mo hg0 hm⟩ rfl hl.1 rfl (Nat.le_of_ble_eq_true rfl) dX2_add_39) (fun q_new_15 H locs hP hD hS => ?_)
      have hP : va_P D vwCl [(q_this, .inr (2, [.ref q_ahead, .ref q_cells, .int v_count])), (q_cells, .inl (cI, n_cells, .inl v_cells)), (q_ahead, .inl (cI, n_ahead, .inl v_ahead)), (q_new_15, .inl (cI, n_ret_12, .inl v_ret_13))] H := hP
      have hD : va_D A [(q_this, .inr (2, [.ref q_ahead, .ref q_cells, .int v_count])), (q_cells, .inl (cI, n_cells, .inl v_cells)), (q_ahead, .inl (cI, n_ahead, .inl v_ahead)), (q_new_15, .inl (cI, n_ret_12, .inl v_ret_13))] := hD
      refine W.widen (k := g - g_14) (n := g - g_14) (ca_2 mo hg0) (ca_2 mo hg0) ?_
      refine va_put (D := D) (ci := 2) (v := .ref q_new_15) (ty := (tyX2 0)) (C := "HexTable$Entries") (T := TX2) (N := 3) hx hb hts inX2 tyX2 tyX2_ok nmX2 hown hK.1 hP hD hS 0 rfl rfl 0 (by decide) (hts _ wd_1_147) (fun _ h9 => h9) rfl (by decide +kernel) rfl rfl (Nat.le_of_ble_eq_true rfl) dX2_add_42 (fun H locs hP hD hS => ?_)
      have hP : va_P D vwCl [(q_this, .inr (2, [.ref q_new_15, .ref q_cells, .int v_count])), (q_cells, .inl (cI, n_cells, .inl v_cells)), (q_ahead, .inl (cI, n_ahead, .inl v_ahead)), (q_new_15, .inl (cI, n_ret_12, .inl v_ret_13))] H := hP
      have hD : va_D A [(q_this, .inr (2, [.ref q_new_15, .ref q_cells, .int v_count])), (q_cells, .inl (cI, n_cells, .inl v_cells)), (q_ahead, .inl (cI, n_ahead, .inl v_ahead)), (q_new_15, .inl (cI, n_ret_12, .inl v_ret_13))] := hD
      refine lv_aload_n hx hb dX2_add_45 rfl (lv_at hl 1 rfl) ?_
      refine lv_aload_n hx hb dX2_add_46 rfl (lv_at hl 1 rfl) ?_
      refine va_get (D := D) (ci := 2) (v := .ref q_cells) (C := "HexTable$Entries") (T := TX2) (N := 3) hx hb hts inX2 hown hK.1 hP 0 rfl rfl 1 (by decide) (hts _ wd_1_151) (fun _ h9 => h9) rfl dX2_add_47 ?_
      refine lv_iload_n hx hb dX2_add_50 rfl (lv_at hl 0 rfl) ?_
      obtain ⟨n_ret_16, v_ret_17, g_18, hc, h⟩ := bd3_s h
      have mo := mono_J7_copyOf_59c91 hc
      have hg0 := hg
      have hg : g_18 ≤ g := Nat.le_trans mo hg
      have hm : wg ≤ g_18 := by
        have hh : g_7 ≤ g_18 := by
          have hle : g_18 ≤ g_18 := Nat.le_refl _
          exact le_last ((Prod.mk.inj ((Prod.mk.inj ((Prod.mk.inj ((Prod.mk.inj (Option.some.inj h)).2)).2)).2)).2) hle
        omega
      refine aft_rx (wr := [(q_this, .inr (2, [.ref q_new_15, .ref q_cells, .int v_count])), (q_ahead, .inl (cI, n_ahead, .inl v_ahead)), (q_new_15, .inl (cI, n_ret_12, .inl v_ret_13))]) (wc := [(q_cells, .inl (cI, n_cells, .inl v_cells))]) hP hD hS hA [1] [0, 2, 3] rfl rfl (by decide) (by decide) (rn_S (As := [.ref q_cells, .int r_11]) (rest := [.ref q_this]) (n := 2) hx hb hml hown hts (c_J7_copyOf_59c91 l D cI cB cZ q_cells n_cells v_cells r_11 g_14 F hc _) (pre_SZ (z := none) trivial hS hA hK hP hD [1] rfl (by decide)) wd_2_220 wd_2_148 wd_1_10 wd_2_149 (by decide +kernel) ⟨Nat.le_of_ble_eq_true rfl, Nat.le_of_ble_eq_true rfl⟩ ⟨ca_1 mo hg0 hm, ca_1 mo hg0 hm⟩ rfl hl.1 rfl (Nat.le_of_ble_eq_true rfl) dX2_add_51) (fun q_new_19 H locs hP hD hS => ?_)
      have hP : va_P D vwCl [(q_this, .inr (2, [.ref q_new_15, .ref q_cells, .int v_count])), (q_ahead, .inl (cI, n_ahead, .inl v_ahead)), (q_new_15, .inl (cI, n_ret_12, .inl v_ret_13)), (q_cells, .inl (cI, n_cells, .inl v_cells)), (q_new_19, .inl (cI, n_ret_16, .inl v_ret_17))] H := hP
      have hD : va_D A [(q_this, .inr (2, [.ref q_new_15, .ref q_cells, .int v_count])), (q_ahead, .inl (cI, n_ahead, .inl v_ahead)), (q_new_15, .inl (cI, n_ret_12, .inl v_ret_13)), (q_cells, .inl (cI, n_cells, .inl v_cells)), (q_new_19, .inl (cI, n_ret_16, .inl v_ret_17))] := hD
      refine W.widen (k := g - g_18) (n := g - g_18) (ca_2 mo hg0) (ca_2 mo hg0) ?_
      refine va_put (D := D) (ci := 2) (v := .ref q_new_19) (ty := (tyX2 1)) (C := "HexTable$Entries") (T := TX2) (N := 3) hx hb hts inX2 tyX2 tyX2_ok nmX2 hown hK.1 hP hD hS 0 rfl rfl 1 (by decide) (hts _ wd_1_151) (fun _ h9 => h9) rfl (by decide +kernel) rfl rfl (Nat.le_of_ble_eq_true rfl) dX2_add_54 (fun H locs hP hD hS => ?_)
      have hP : va_P D vwCl [(q_this, .inr (2, [.ref q_new_15, .ref q_new_19, .int v_count])), (q_ahead, .inl (cI, n_ahead, .inl v_ahead)), (q_new_15, .inl (cI, n_ret_12, .inl v_ret_13)), (q_cells, .inl (cI, n_cells, .inl v_cells)), (q_new_19, .inl (cI, n_ret_16, .inl v_ret_17))] H := hP
      have hD : va_D A [(q_this, .inr (2, [.ref q_new_15, .ref q_new_19, .int v_count])), (q_ahead, .inl (cI, n_ahead, .inl v_ahead)), (q_new_15, .inl (cI, n_ret_12, .inl v_ret_13)), (q_cells, .inl (cI, n_cells, .inl v_cells)), (q_new_19, .inl (cI, n_ret_16, .inl v_ret_17))] := hD
      have hP : va_P D vwCl [(q_this, .inr (2, [.ref q_new_15, .ref q_new_19, .int v_count])), (q_new_15, .inl (cI, n_ret_12, .inl v_ret_13)), (q_new_19, .inl (cI, n_ret_16, .inl v_ret_17))] H := hP.sub [0, 2, 4] rfl
      have hD : va_D A [(q_this, .inr (2, [.ref q_new_15, .ref q_new_19, .int v_count])), (q_new_15, .inl (cI, n_ret_12, .inl v_ret_13)), (q_new_19, .inl (cI, n_ret_16, .inl v_ret_17))] := hD.sub [0, 2, 4] (by decide) rfl
      exact J_8 _ _ _ _ _ h.symm q_new_15 q_new_19 _ _ _ hP hD hS (lv_sub hl [1, 2, 3] rfl) hg
  · replace h := pm_neg cb h
    refine lv_iconst (v := (-1 : Int32)) hx hb dX2_add_10 (by decide) ?_
    refine W.widen (k := g - wg) (n := g - wg) (ca_3 hm) (ca_3 hm) ?_
    exact rt_ix (u := (v_count, n_ahead, v_ahead, n_cells, v_cells, g)) (q_ahead, q_cells) hQ hx hb hr hlk h hP hD hS dX2_add_11
