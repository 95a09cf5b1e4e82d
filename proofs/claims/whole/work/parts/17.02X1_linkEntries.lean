abbrev rm_X1_linkEntries (g wg : Nat) : Room := { frames := 1, cells := g - wg, slots := g - wg, locals := 23 }
set_option maxHeartbeats 4000000 in
set_option maxRecDepth 100000 in
theorem c_X1_linkEntries (l : Launch) (D : va_G) (cI cB cZ : ClassId) (q_this : Nat) (q_bench : Nat) (q_tree : Nat) (q_behind : Nat) (q_nextOne : Nat) (q_tree_ahead : Nat) (q_tree_cells : Nat) (v_side : Int32) (v_mover : Int32) (v_tree_count : Int32) (n_tree_ahead : Nat) (v_tree_ahead : Nat → Int32) (n_behind : Nat) (v_behind : Nat → Int32) (n_nextOne : Nat) (v_nextOne : Nat → Int32) (g : Nat) (F : Nat) {w0 : Nat} {w1 : Nat → Int32} {w2 : Nat} {w3 : Nat → Int32} {wg : Nat} (h : pm_X1_linkEntries F g v_tree_count n_tree_ahead v_tree_ahead n_behind v_behind n_nextOne v_nextOne = some (w0, w1, w2, w3, wg)) : MVX none l yX1_linkEntries cX1_linkEntries 3 none (rm_X1_linkEntries g wg) [.ref q_this] D cI cB cZ [(q_this, .inr (1, [.ref q_bench, .ref q_tree, .ref q_behind, .ref q_nextOne, .int v_side, .int v_mover])), (q_tree, .inr (2, [.ref q_tree_ahead, .ref q_tree_cells, .int v_tree_count])), (q_tree_ahead, .inl (cI, n_tree_ahead, .inl v_tree_ahead)), (q_behind, .inl (cI, n_behind, .inl v_behind)), (q_nextOne, .inl (cI, n_nextOne, .inl v_nextOne))] (fun (u : Nat × (Nat → Int32) × Nat × (Nat → Int32) × Nat) (a : Nat × Nat) => [(q_this, .inr (1, [.ref q_bench, .ref q_tree, .ref a.1, .ref a.2, .int v_side, .int v_mover])), (q_tree, .inr (2, [.ref q_tree_ahead, .ref q_tree_cells, .int v_tree_count])), (q_tree_ahead, .inl (cI, n_tree_ahead, .inl v_tree_ahead)), (a.1, .inl (cI, u.1, .inl u.2.1)), (a.2, .inl (cI, u.2.2.1, .inl u.2.2.2.1))]) (w0, w1, w2, w3, wg) := by
  refine ent_vx (by decide) (Nat.le_of_ble_eq_true rfl) ?_
  intro p e s m args below meth c A ls Q hQ hx hb hr hml hown hts hlk hnm hK hA hP hD hS hZ hl
  have hl : lv_has ls 3 [(0, .ref q_this)] := hl
  have hg : g ≤ g := Nat.le_refl g
  have hm : wg ≤ g := mono_X1_linkEntries h
  rw [pm_X1_linkEntries] at h
  refine W.widen (k := g - g) (n := g - g) (Nat.zero_le _) (Nat.zero_le _) ?_
  refine lv_aload_n hx hb dX1_linkEntries_0 rfl (lv_at hl 0 rfl) ?_
  refine va_get (D := D) (ci := 1) (v := .ref q_nextOne) (C := "HexTable$Checker") (T := TX1) (N := 6) hx hb hts inX1 hown hK.1 hP 0 rfl rfl 3 (by decide) (hts _ wd_1_194) (fun _ h9 => h9) rfl dX1_linkEntries_1 ?_
  refine va_alen hx hb hK.1 hP 4 0 rfl rfl (v := nI n_nextOne) rfl dX1_linkEntries_4 ?_
  refine lv_aload_n hx hb dX1_linkEntries_5 rfl (lv_at hl 0 rfl) ?_
  refine va_get (D := D) (ci := 1) (v := .ref q_tree) (C := "HexTable$Checker") (T := TX1) (N := 6) hx hb hts inX1 hown hK.1 hP 0 rfl rfl 1 (by decide) (hts _ wd_1_192) (fun _ h9 => h9) rfl dX1_linkEntries_6 ?_
  refine va_getN (D := D) (ci := 2) (v := .int v_tree_count) (C := "HexTable$Entries") (T := TX2) (N := 3) hx hb hts inX2 hown hK.1 hP 1 rfl rfl 2 (by decide) (va_Nw.use rfl (hK.2.2 _ nw_22)) (fun _ h9 => h9) rfl dX1_linkEntries_9 ?_
  obtain ⟨n_behind_3, v_behind_4, n_nextOne_5, v_nextOne_6, g_7, hw, h⟩ := bd5_s h
  have hme_J_8 : wg ≤ g_7 := by
    have hle : g_7 ≤ g_7 := Nat.le_refl _
    obtain ⟨v_p0_9, hc, h⟩ := bd1_s h
    obtain ⟨v_behind_10, v_nextOne_11, hw, h⟩ := bd2_s h
    exact le_last ((Prod.mk.inj ((Prod.mk.inj ((Prod.mk.inj ((Prod.mk.inj (Option.some.inj h)).2)).2)).2)).2) hle
  have J_8 : ∀ (y1 : Nat) (y2 : Nat → Int32) (y3 : Nat) (y4 : Nat → Int32) (y5 : Nat), some (n_behind_3, v_behind_4, n_nextOne_5, v_nextOne_6, g_7) = some (y1, y2, y3, y4, y5) → ∀ (q_behind_1 q_nextOne_2 : Nat) (H : Heap) (locs : List Loc) (ls : Array Slot), va_P D vwCl [(q_this, .inr (1, [.ref q_bench, .ref q_tree, .ref q_behind_1, .ref q_nextOne_2, .int v_side, .int v_mover])), (q_tree, .inr (2, [.ref q_tree_ahead, .ref q_tree_cells, .int v_tree_count])), (q_tree_ahead, .inl (cI, n_tree_ahead, .inl v_tree_ahead)), (q_behind_1, .inl (cI, y1, .inl y2)), (q_nextOne_2, .inl (cI, y3, .inl y4))] H → va_D A [(q_this, .inr (1, [.ref q_bench, .ref q_tree, .ref q_behind_1, .ref q_nextOne_2, .int v_side, .int v_mover])), (q_tree, .inr (2, [.ref q_tree_ahead, .ref q_tree_cells, .int v_tree_count])), (q_tree_ahead, .inl (cI, n_tree_ahead, .inl v_tree_ahead)), (q_behind_1, .inl (cI, y1, .inl y2)), (q_nextOne_2, .inl (cI, y3, .inl y4))] → va_S A s.heap H locs → lv_has ls 3 [(0, .ref q_this)] → y5 ≤ g → W p l e (rm_X1_linkEntries g wg) s m args below meth c H locs (g - y5) (g - y5) Q (F0 m 45 ls []) := by
    intro y1 y2 y3 y4 y5 hy
    cases hy
    intro q_behind_1 q_nextOne_2 H locs ls hP hD hS hl hg
    have hm := hme_J_8
    refine lv_aload_n hx hb dX1_linkEntries_45 rfl (lv_at hl 0 rfl) ?_
    refine va_get (D := D) (ci := 1) (v := .ref q_behind_1) (C := "HexTable$Checker") (T := TX1) (N := 6) hx hb hts inX1 hown hK.1 hP 0 rfl rfl 2 (by decide) (hts _ wd_1_193) (fun _ h9 => h9) rfl dX1_linkEntries_46 ?_
    refine lv_iconst (v := (-1 : Int32)) hx hb dX1_linkEntries_49 (by decide) ?_
    obtain ⟨v_p0_9, hc, h⟩ := bd1_s h
    refine aft_v (wr := [(q_this, .inr (1, [.ref q_bench, .ref q_tree, .ref q_behind_1, .ref q_nextOne_2, .int v_side, .int v_mover])), (q_tree, .inr (2, [.ref q_tree_ahead, .ref q_tree_cells, .int v_tree_count])), (q_tree_ahead, .inl (cI, n_tree_ahead, .inl v_tree_ahead)), (q_nextOne_2, .inl (cI, n_nextOne_5, .inl v_nextOne_6))]) (wc := [(q_behind_1, .inl (cI, n_behind_3, .inl v_behind_4))]) hP hD hS hA [3] [0, 1, 2, 4] rfl rfl (by decide) (by decide) (rn_S (As := [.ref q_behind_1, .int (-1 : Int32)]) (rest := []) (n := 2) hx hb hml hown hts (c_J7_fill_53178 l D cI cB cZ q_behind_1 n_behind_3 v_behind_4 (-1 : Int32) F hc _) (pre_S hK hP hD [3] rfl (by decide)) wd_3_36 wd_2_46 wd_1_10 wd_2_47 (by decide +kernel) ⟨Nat.le_of_ble_eq_true rfl, Nat.le_of_ble_eq_true rfl⟩ ⟨ca_0 hg hm, ca_0 hg hm⟩ rfl hl.1 rfl (Nat.le_of_ble_eq_true rfl) dX1_linkEntries_50) (fun H locs hP hD hS => ?_)
    have hP : va_P D vwCl [(q_this, .inr (1, [.ref q_bench, .ref q_tree, .ref q_behind_1, .ref q_nextOne_2, .int v_side, .int v_mover])), (q_tree, .inr (2, [.ref q_tree_ahead, .ref q_tree_cells, .int v_tree_count])), (q_tree_ahead, .inl (cI, n_tree_ahead, .inl v_tree_ahead)), (q_nextOne_2, .inl (cI, n_nextOne_5, .inl v_nextOne_6)), (q_behind_1, .inl (cI, n_behind_3, .inl v_p0_9))] H := hP
    have hD : va_D A [(q_this, .inr (1, [.ref q_bench, .ref q_tree, .ref q_behind_1, .ref q_nextOne_2, .int v_side, .int v_mover])), (q_tree, .inr (2, [.ref q_tree_ahead, .ref q_tree_cells, .int v_tree_count])), (q_tree_ahead, .inl (cI, n_tree_ahead, .inl v_tree_ahead)), (q_nextOne_2, .inl (cI, n_nextOne_5, .inl v_nextOne_6)), (q_behind_1, .inl (cI, n_behind_3, .inl v_p0_9))] := hD
    refine W.widen (k := g - g_7) (n := g - g_7) (Nat.le_refl _) (Nat.le_refl _) ?_
    refine lv_aload_n hx hb dX1_linkEntries_53 rfl (lv_at hl 0 rfl) ?_
    refine va_get (D := D) (ci := 1) (v := .ref q_tree) (C := "HexTable$Checker") (T := TX1) (N := 6) hx hb hts inX1 hown hK.1 hP 0 rfl rfl 1 (by decide) (hts _ wd_1_192) (fun _ h9 => h9) rfl dX1_linkEntries_54 ?_
    refine va_getN (D := D) (ci := 2) (v := .int v_tree_count) (C := "HexTable$Entries") (T := TX2) (N := 3) hx hb hts inX2 hown hK.1 hP 1 rfl rfl 2 (by decide) (va_Nw.use rfl (hK.2.2 _ nw_22)) (fun _ h9 => h9) rfl dX1_linkEntries_57 ?_
    refine lv_iconst (v := (1 : Int32)) hx hb dX1_linkEntries_60 (by decide) ?_
    refine lv_isub hx hb dX1_linkEntries_61 ?_
    refine lv_istore_n (lv' := [(1, .int (v_tree_count - (1 : Int32))), (0, .ref q_this)]) hx hb dX1_linkEntries_62 rfl hl (by decide) rfl (fun ls hl => ?_)
    have hP : va_P D vwCl [(q_this, .inr (1, [.ref q_bench, .ref q_tree, .ref q_behind_1, .ref q_nextOne_2, .int v_side, .int v_mover])), (q_tree, .inr (2, [.ref q_tree_ahead, .ref q_tree_cells, .int v_tree_count])), (q_tree_ahead, .inl (cI, n_tree_ahead, .inl v_tree_ahead)), (q_behind_1, .inl (cI, n_behind_3, .inl v_p0_9)), (q_nextOne_2, .inl (cI, n_nextOne_5, .inl v_nextOne_6))] H := hP.sub [0, 1, 2, 4, 3] rfl
    have hD : va_D A [(q_this, .inr (1, [.ref q_bench, .ref q_tree, .ref q_behind_1, .ref q_nextOne_2, .int v_side, .int v_mover])), (q_tree, .inr (2, [.ref q_tree_ahead, .ref q_tree_cells, .int v_tree_count])), (q_tree_ahead, .inl (cI, n_tree_ahead, .inl v_tree_ahead)), (q_behind_1, .inl (cI, n_behind_3, .inl v_p0_9)), (q_nextOne_2, .inl (cI, n_nextOne_5, .inl v_nextOne_6))] := hD.sub [0, 1, 2, 4, 3] (by decide) rfl
    obtain ⟨v_behind_10, v_nextOne_11, hw, h⟩ := bd2_s h
    have J_12 : ∀ (y1 : Nat → Int32) (y2 : Nat → Int32), some (v_behind_10, v_nextOne_11) = some (y1, y2) → ∀ (H : Heap) (locs : List Loc) (ls : Array Slot), va_P D vwCl [(q_this, .inr (1, [.ref q_bench, .ref q_tree, .ref q_behind_1, .ref q_nextOne_2, .int v_side, .int v_mover])), (q_tree, .inr (2, [.ref q_tree_ahead, .ref q_tree_cells, .int v_tree_count])), (q_tree_ahead, .inl (cI, n_tree_ahead, .inl v_tree_ahead)), (q_behind_1, .inl (cI, n_behind_3, .inl y1)), (q_nextOne_2, .inl (cI, n_nextOne_5, .inl y2))] H → va_D A [(q_this, .inr (1, [.ref q_bench, .ref q_tree, .ref q_behind_1, .ref q_nextOne_2, .int v_side, .int v_mover])), (q_tree, .inr (2, [.ref q_tree_ahead, .ref q_tree_cells, .int v_tree_count])), (q_tree_ahead, .inl (cI, n_tree_ahead, .inl v_tree_ahead)), (q_behind_1, .inl (cI, n_behind_3, .inl y1)), (q_nextOne_2, .inl (cI, n_nextOne_5, .inl y2))] → va_S A s.heap H locs → lv_has ls 3 [] → g_7 ≤ g → W p l e (rm_X1_linkEntries g wg) s m args below meth c H locs (g - g_7) (g - g_7) Q (F0 m 104 ls []) := by
      intro y1 y2 hy
      cases hy
      intro H locs ls hP hD hS hl hg
      refine W.widen (k := g - wg) (n := g - wg) (ca_3 hm) (ca_3 hm) ?_
      exact rt_vx (u := (n_behind_3, v_behind_10, n_nextOne_5, v_nextOne_11, g_7)) (q_behind_1, q_nextOne_2) hQ hx hb hr hlk h hP hD hS dX1_linkEntries_104
    replace h := hw
    have L : ∀ (k : Nat) (x1_13 : Int32) (v_behind_14 : Nat → Int32) (v_nextOne_15 : Nat → Int32) (H : Heap) (locs : List Loc) (ls : Array Slot), va_P D vwCl [(q_this, .inr (1, [.ref q_bench, .ref q_tree, .ref q_behind_1, .ref q_nextOne_2, .int v_side, .int v_mover])), (q_tree, .inr (2, [.ref q_tree_ahead, .ref q_tree_cells, .int v_tree_count])), (q_tree_ahead, .inl (cI, n_tree_ahead, .inl v_tree_ahead)), (q_behind_1, .inl (cI, n_behind_3, .inl v_behind_14)), (q_nextOne_2, .inl (cI, n_nextOne_5, .inl v_nextOne_15))] H → va_D A [(q_this, .inr (1, [.ref q_bench, .ref q_tree, .ref q_behind_1, .ref q_nextOne_2, .int v_side, .int v_mover])), (q_tree, .inr (2, [.ref q_tree_ahead, .ref q_tree_cells, .int v_tree_count])), (q_tree_ahead, .inl (cI, n_tree_ahead, .inl v_tree_ahead)), (q_behind_1, .inl (cI, n_behind_3, .inl v_behind_14)), (q_nextOne_2, .inl (cI, n_nextOne_5, .inl v_nextOne_15))] → va_S A s.heap H locs → lv_has ls 3 [(0, .ref q_this), (1, .int x1_13)] → g_7 ≤ g → pm_X1_linkEntries_L63 F n_tree_ahead v_tree_ahead n_behind_3 n_nextOne_5 k x1_13 v_behind_14 v_nextOne_15 = some (v_behind_10, v_nextOne_11) → W p l e (rm_X1_linkEntries g wg) s m args below meth c H locs (g - g_7) (g - g_7) Q (F0 m 63 ls []) := by
      intro k
      induction k with
      | zero =>
        intro x1_13 v_behind_14 v_nextOne_15 H locs ls hP hD hS hl hg h
        rw [pm_X1_linkEntries_L63] at h
        cases h
      | succ k ih =>
        intro x1_13 v_behind_14 v_nextOne_15 H locs ls hP hD hS hl hg h
        rw [pm_X1_linkEntries_L63] at h
        refine lv_iload_n hx hb dX1_linkEntries_63 rfl (lv_at hl 1 rfl) ?_
        refine lv_if_lt (tgt := 104) hx hb dX1_linkEntries_64 (by decide) (fun cb => ?_) (fun cb => ?_)
        · replace h := pm_pos cb h
          exact J_12 _ _ h.symm _ _ _ hP hD hS (lv_sub hl [] rfl) hg
        · replace h := pm_neg cb h
          refine lv_aload_n hx hb dX1_linkEntries_67 rfl (lv_at hl 0 rfl) ?_
          refine va_get (D := D) (ci := 1) (v := .ref q_tree) (C := "HexTable$Checker") (T := TX1) (N := 6) hx hb hts inX1 hown hK.1 hP 0 rfl rfl 1 (by decide) (hts _ wd_1_192) (fun _ h9 => h9) rfl dX1_linkEntries_68 ?_
          refine va_getN (D := D) (ci := 2) (v := .ref q_tree_ahead) (C := "HexTable$Entries") (T := TX2) (N := 3) hx hb hts inX2 hown hK.1 hP 1 rfl rfl 0 (by decide) (va_Nw.use rfl (hK.2.2 _ nw_16)) (fun _ h9 => h9) rfl dX1_linkEntries_71 ?_
          refine lv_iload_n hx hb dX1_linkEntries_74 rfl (lv_at hl 1 rfl) ?_
          obtain ⟨b_16, h⟩ := pm_in h
          refine va_iald hx hb hK.1 hP 2 0 rfl rfl b_16 dX1_linkEntries_75 ?_
          refine lv_iconst (v := (1 : Int32)) hx hb dX1_linkEntries_76 (by decide) ?_
          refine lv_iadd hx hb dX1_linkEntries_77 ?_
          refine lv_istore_n (lv' := [(2, .int ((v_tree_ahead x1_13.toNatClampNeg) + (1 : Int32))), (0, .ref q_this), (1, .int x1_13)]) hx hb dX1_linkEntries_78 rfl hl (by decide) rfl (fun ls hl => ?_)
          refine lv_aload_n hx hb dX1_linkEntries_79 rfl (lv_at hl 1 rfl) ?_
          refine va_get (D := D) (ci := 1) (v := .ref q_nextOne_2) (C := "HexTable$Checker") (T := TX1) (N := 6) hx hb hts inX1 hown hK.1 hP 0 rfl rfl 3 (by decide) (hts _ wd_1_194) (fun _ h9 => h9) rfl dX1_linkEntries_80 ?_
          refine lv_iload_n hx hb dX1_linkEntries_83 rfl (lv_at hl 2 rfl) ?_
          refine lv_aload_n hx hb dX1_linkEntries_84 rfl (lv_at hl 1 rfl) ?_
          refine va_get (D := D) (ci := 1) (v := .ref q_behind_1) (C := "HexTable$Checker") (T := TX1) (N := 6) hx hb hts inX1 hown hK.1 hP 0 rfl rfl 2 (by decide) (hts _ wd_1_193) (fun _ h9 => h9) rfl dX1_linkEntries_85 ?_
          refine lv_iload_n hx hb dX1_linkEntries_88 rfl (lv_at hl 0 rfl) ?_
          obtain ⟨b_17, h⟩ := pm_in h
          refine va_iald hx hb hK.1 hP 3 0 rfl rfl b_17 dX1_linkEntries_89 ?_
          obtain ⟨b_18, h⟩ := pm_in h
          refine va_iast hx hb hK.1 hP hD hS 4 0 rfl rfl b_18 dX1_linkEntries_90 (fun H locs hP hD hS => ?_)
          have hP : va_P D vwCl [(q_this, .inr (1, [.ref q_bench, .ref q_tree, .ref q_behind_1, .ref q_nextOne_2, .int v_side, .int v_mover])), (q_tree, .inr (2, [.ref q_tree_ahead, .ref q_tree_cells, .int v_tree_count])), (q_tree_ahead, .inl (cI, n_tree_ahead, .inl v_tree_ahead)), (q_behind_1, .inl (cI, n_behind_3, .inl v_behind_14)), (q_nextOne_2, .inl (cI, n_nextOne_5, .inl (upd v_nextOne_15 x1_13.toNatClampNeg (v_behind_14 ((v_tree_ahead x1_13.toNatClampNeg) + (1 : Int32)).toNatClampNeg))))] H := hP
          have hD : va_D A [(q_this, .inr (1, [.ref q_bench, .ref q_tree, .ref q_behind_1, .ref q_nextOne_2, .int v_side, .int v_mover])), (q_tree, .inr (2, [.ref q_tree_ahead, .ref q_tree_cells, .int v_tree_count])), (q_tree_ahead, .inl (cI, n_tree_ahead, .inl v_tree_ahead)), (q_behind_1, .inl (cI, n_behind_3, .inl v_behind_14)), (q_nextOne_2, .inl (cI, n_nextOne_5, .inl (upd v_nextOne_15 x1_13.toNatClampNeg (v_behind_14 ((v_tree_ahead x1_13.toNatClampNeg) + (1 : Int32)).toNatClampNeg))))] := hD
          refine lv_aload_n hx hb dX1_linkEntries_91 rfl (lv_at hl 1 rfl) ?_
          refine va_get (D := D) (ci := 1) (v := .ref q_behind_1) (C := "HexTable$Checker") (T := TX1) (N := 6) hx hb hts inX1 hown hK.1 hP 0 rfl rfl 2 (by decide) (hts _ wd_1_193) (fun _ h9 => h9) rfl dX1_linkEntries_92 ?_
          refine lv_iload_n hx hb dX1_linkEntries_95 rfl (lv_at hl 0 rfl) ?_
          refine lv_iload_n hx hb dX1_linkEntries_96 rfl (lv_at hl 2 rfl) ?_
          refine va_iast hx hb hK.1 hP hD hS 3 0 rfl rfl b_17 dX1_linkEntries_97 (fun H locs hP hD hS => ?_)
          have hP : va_P D vwCl [(q_this, .inr (1, [.ref q_bench, .ref q_tree, .ref q_behind_1, .ref q_nextOne_2, .int v_side, .int v_mover])), (q_tree, .inr (2, [.ref q_tree_ahead, .ref q_tree_cells, .int v_tree_count])), (q_tree_ahead, .inl (cI, n_tree_ahead, .inl v_tree_ahead)), (q_behind_1, .inl (cI, n_behind_3, .inl (upd v_behind_14 ((v_tree_ahead x1_13.toNatClampNeg) + (1 : Int32)).toNatClampNeg x1_13))), (q_nextOne_2, .inl (cI, n_nextOne_5, .inl (upd v_nextOne_15 x1_13.toNatClampNeg (v_behind_14 ((v_tree_ahead x1_13.toNatClampNeg) + (1 : Int32)).toNatClampNeg))))] H := hP
          have hD : va_D A [(q_this, .inr (1, [.ref q_bench, .ref q_tree, .ref q_behind_1, .ref q_nextOne_2, .int v_side, .int v_mover])), (q_tree, .inr (2, [.ref q_tree_ahead, .ref q_tree_cells, .int v_tree_count])), (q_tree_ahead, .inl (cI, n_tree_ahead, .inl v_tree_ahead)), (q_behind_1, .inl (cI, n_behind_3, .inl (upd v_behind_14 ((v_tree_ahead x1_13.toNatClampNeg) + (1 : Int32)).toNatClampNeg x1_13))), (q_nextOne_2, .inl (cI, n_nextOne_5, .inl (upd v_nextOne_15 x1_13.toNatClampNeg (v_behind_14 ((v_tree_ahead x1_13.toNatClampNeg) + (1 : Int32)).toNatClampNeg))))] := hD
          refine lv_iinc (v := x1_13 + (-1 : Int32)) (lv' := [(1, .int (x1_13 + (-1 : Int32))), (2, .int ((v_tree_ahead x1_13.toNatClampNeg) + (1 : Int32))), (0, .ref q_this)]) hx hb dX1_linkEntries_98 hl (k := 2) rfl rfl (by decide) rfl (fun ls hl => ?_)
          refine lv_goto (tgt := 63) hx hb dX1_linkEntries_101 (by decide) ?_
          exact ih (x1_13 + (-1 : Int32)) (upd v_behind_14 ((v_tree_ahead x1_13.toNatClampNeg) + (1 : Int32)).toNatClampNeg x1_13) (upd v_nextOne_15 x1_13.toNatClampNeg (v_behind_14 ((v_tree_ahead x1_13.toNatClampNeg) + (1 : Int32)).toNatClampNeg)) _ _ _ hP hD hS (lv_sub hl [2, 0] rfl) hg h
    exact L F (v_tree_count - (1 : Int32)) v_p0_9 v_nextOne_6 _ _ _ hP hD hS (lv_sub hl [1, 0] rfl) hg h
  replace h := hw
  refine lv_icmp_ge (tgt := 45) hx hb dX1_linkEntries_12 (by decide) (fun cb => ?_) (fun cb => ?_)
  · replace h := pm_pos cb h
    exact J_8 _ _ _ _ _ h.symm q_behind q_nextOne _ _ _ hP hD hS (lv_sub hl [0] rfl) hg
  · replace h := pm_neg cb h
    refine lv_aload_n hx hb dX1_linkEntries_15 rfl (lv_at hl 0 rfl) ?_
    refine lv_aload_n hx hb dX1_linkEntries_16 rfl (lv_at hl 0 rfl) ?_
    refine va_get (D := D) (ci := 1) (v := .ref q_tree) (C := "HexTable$Checker") (T := TX1) (N := 6) hx hb hts inX1 hown hK.1 hP 0 rfl rfl 1 (by decide) (hts _ wd_1_192) (fun _ h9 => h9) rfl dX1_linkEntries_17 ?_
    refine va_getN (D := D) (ci := 2) (v := .ref q_tree_ahead) (C := "HexTable$Entries") (T := TX2) (N := 3) hx hb hts inX2 hown hK.1 hP 1 rfl rfl 0 (by decide) (va_Nw.use rfl (hK.2.2 _ nw_16)) (fun _ h9 => h9) rfl dX1_linkEntries_20 ?_
    refine va_alen hx hb hK.1 hP 2 0 rfl rfl (v := nI n_tree_ahead) rfl dX1_linkEntries_23 ?_
    obtain ⟨hz, h⟩ := pm_nc h
    obtain ⟨z1, z2⟩ := nb_ok hz
    obtain ⟨g_20, hgs, h⟩ := bd1_s h
    have hg0 := hg
    have hg : g_20 ≤ g := Nat.le_trans (gs_le hgs) hg
    have hm : wg ≤ g_20 := by
      have hh : g_7 ≤ g_20 := by
        have hle : g_20 ≤ g_20 := Nat.le_refl _
        obtain ⟨hz, h⟩ := pm_nc h
        obtain ⟨z1, z2⟩ := nb_ok hz
        obtain ⟨g_22, hgs, h⟩ := bd1_s h
        have hle := Nat.le_trans (gs_le hgs) hle
        exact le_last ((Prod.mk.inj ((Prod.mk.inj ((Prod.mk.inj ((Prod.mk.inj (Option.some.inj h)).2)).2)).2)).2) hle
      omega
    refine nu_newI hx hb hts hK hP hD hS hA z1 z2 (gs_c1 hgs hg0 hm) (gs_c2 hgs hg0 hm) dX1_linkEntries_24 (fun q_new_19 H hP hD hS => ?_)
    have hP : va_P D vwCl [(q_this, .inr (1, [.ref q_bench, .ref q_tree, .ref q_behind, .ref q_nextOne, .int v_side, .int v_mover])), (q_tree, .inr (2, [.ref q_tree_ahead, .ref q_tree_cells, .int v_tree_count])), (q_tree_ahead, .inl (cI, n_tree_ahead, .inl v_tree_ahead)), (q_behind, .inl (cI, n_behind, .inl v_behind)), (q_nextOne, .inl (cI, n_nextOne, .inl v_nextOne)), (q_new_19, .inl (cI, ((nI n_tree_ahead).toNatClampNeg), .inl (fun _ => 0)))] H := hP
    have hD : va_D A [(q_this, .inr (1, [.ref q_bench, .ref q_tree, .ref q_behind, .ref q_nextOne, .int v_side, .int v_mover])), (q_tree, .inr (2, [.ref q_tree_ahead, .ref q_tree_cells, .int v_tree_count])), (q_tree_ahead, .inl (cI, n_tree_ahead, .inl v_tree_ahead)), (q_behind, .inl (cI, n_behind, .inl v_behind)), (q_nextOne, .inl (cI, n_nextOne, .inl v_nextOne)), (q_new_19, .inl (cI, ((nI n_tree_ahead).toNatClampNeg), .inl (fun _ => 0)))] := hD
    refine W.widen (k := g - g_20) (n := g - g_20) (gs_c1 hgs hg0 (Nat.le_refl _)) (gs_c2 hgs hg0 (Nat.le_refl _)) ?_
    refine va_put (D := D) (ci := 1) (v := .ref q_new_19) (ty := (tyX1 3)) (C := "HexTable$Checker") (T := TX1) (N := 6) hx hb hts inX1 tyX1 tyX1_ok nmX1 hown hK.1 hP hD hS 0 rfl rfl 3 (by decide) (hts _ wd_1_194) (fun _ h9 => h9) rfl (by decide +kernel) rfl rfl (Nat.le_of_ble_eq_true rfl) dX1_linkEntries_26 (fun H locs hP hD hS => ?_)
    have hP : va_P D vwCl [(q_this, .inr (1, [.ref q_bench, .ref q_tree, .ref q_behind, .ref q_new_19, .int v_side, .int v_mover])), (q_tree, .inr (2, [.ref q_tree_ahead, .ref q_tree_cells, .int v_tree_count])), (q_tree_ahead, .inl (cI, n_tree_ahead, .inl v_tree_ahead)), (q_behind, .inl (cI, n_behind, .inl v_behind)), (q_nextOne, .inl (cI, n_nextOne, .inl v_nextOne)), (q_new_19, .inl (cI, ((nI n_tree_ahead).toNatClampNeg), .inl (fun _ => 0)))] H := hP
    have hD : va_D A [(q_this, .inr (1, [.ref q_bench, .ref q_tree, .ref q_behind, .ref q_new_19, .int v_side, .int v_mover])), (q_tree, .inr (2, [.ref q_tree_ahead, .ref q_tree_cells, .int v_tree_count])), (q_tree_ahead, .inl (cI, n_tree_ahead, .inl v_tree_ahead)), (q_behind, .inl (cI, n_behind, .inl v_behind)), (q_nextOne, .inl (cI, n_nextOne, .inl v_nextOne)), (q_new_19, .inl (cI, ((nI n_tree_ahead).toNatClampNeg), .inl (fun _ => 0)))] := hD
    refine lv_aload_n hx hb dX1_linkEntries_29 rfl (lv_at hl 0 rfl) ?_
    refine lv_aload_n hx hb dX1_linkEntries_30 rfl (lv_at hl 0 rfl) ?_
    refine va_get (D := D) (ci := 1) (v := .ref q_tree) (C := "HexTable$Checker") (T := TX1) (N := 6) hx hb hts inX1 hown hK.1 hP 0 rfl rfl 1 (by decide) (hts _ wd_1_192) (fun _ h9 => h9) rfl dX1_linkEntries_31 ?_
    refine va_getN (D := D) (ci := 2) (v := .ref q_tree_ahead) (C := "HexTable$Entries") (T := TX2) (N := 3) hx hb hts inX2 hown hK.1 hP 1 rfl rfl 0 (by decide) (va_Nw.use rfl (hK.2.2 _ nw_16)) (fun _ h9 => h9) rfl dX1_linkEntries_34 ?_
    refine va_alen hx hb hK.1 hP 2 0 rfl rfl (v := nI n_tree_ahead) rfl dX1_linkEntries_37 ?_
    refine lv_iconst (v := (1 : Int32)) hx hb dX1_linkEntries_38 (by decide) ?_
    refine lv_iadd hx hb dX1_linkEntries_39 ?_
    obtain ⟨hz, h⟩ := pm_nc h
    obtain ⟨z1, z2⟩ := nb_ok hz
    obtain ⟨g_22, hgs, h⟩ := bd1_s h
    have hg0 := hg
    have hg : g_22 ≤ g := Nat.le_trans (gs_le hgs) hg
    have hm : wg ≤ g_22 := by
      have hh : g_7 ≤ g_22 := by
        have hle : g_22 ≤ g_22 := Nat.le_refl _
        exact le_last ((Prod.mk.inj ((Prod.mk.inj ((Prod.mk.inj ((Prod.mk.inj (Option.some.inj h)).2)).2)).2)).2) hle
      omega
    refine nu_newI hx hb hts hK hP hD hS hA z1 z2 (gs_c1 hgs hg0 hm) (gs_c2 hgs hg0 hm) dX1_linkEntries_40 (fun q_new_21 H hP hD hS => ?_)
    have hP : va_P D vwCl [(q_this, .inr (1, [.ref q_bench, .ref q_tree, .ref q_behind, .ref q_new_19, .int v_side, .int v_mover])), (q_tree, .inr (2, [.ref q_tree_ahead, .ref q_tree_cells, .int v_tree_count])), (q_tree_ahead, .inl (cI, n_tree_ahead, .inl v_tree_ahead)), (q_behind, .inl (cI, n_behind, .inl v_behind)), (q_nextOne, .inl (cI, n_nextOne, .inl v_nextOne)), (q_new_19, .inl (cI, ((nI n_tree_ahead).toNatClampNeg), .inl (fun _ => 0))), (q_new_21, .inl (cI, (((nI n_tree_ahead) + (1 : Int32)).toNatClampNeg), .inl (fun _ => 0)))] H := hP
    have hD : va_D A [(q_this, .inr (1, [.ref q_bench, .ref q_tree, .ref q_behind, .ref q_new_19, .int v_side, .int v_mover])), (q_tree, .inr (2, [.ref q_tree_ahead, .ref q_tree_cells, .int v_tree_count])), (q_tree_ahead, .inl (cI, n_tree_ahead, .inl v_tree_ahead)), (q_behind, .inl (cI, n_behind, .inl v_behind)), (q_nextOne, .inl (cI, n_nextOne, .inl v_nextOne)), (q_new_19, .inl (cI, ((nI n_tree_ahead).toNatClampNeg), .inl (fun _ => 0))), (q_new_21, .inl (cI, (((nI n_tree_ahead) + (1 : Int32)).toNatClampNeg), .inl (fun _ => 0)))] := hD
    refine W.widen (k := g - g_22) (n := g - g_22) (gs_c1 hgs hg0 (Nat.le_refl _)) (gs_c2 hgs hg0 (Nat.le_refl _)) ?_
    refine va_put (D := D) (ci := 1) (v := .ref q_new_21) (ty := (tyX1 2)) (C := "HexTable$Checker") (T := TX1) (N := 6) hx hb hts inX1 tyX1 tyX1_ok nmX1 hown hK.1 hP hD hS 0 rfl rfl 2 (by decide) (hts _ wd_1_193) (fun _ h9 => h9) rfl (by decide +kernel) rfl rfl (Nat.le_of_ble_eq_true rfl) dX1_linkEntries_42 (fun H locs hP hD hS => ?_)
    have hP : va_P D vwCl [(q_this, .inr (1, [.ref q_bench, .ref q_tree, .ref q_new_21, .ref q_new_19, .int v_side, .int v_mover])), (q_tree, .inr (2, [.ref q_tree_ahead, .ref q_tree_cells, .int v_tree_count])), (q_tree_ahead, .inl (cI, n_tree_ahead, .inl v_tree_ahead)), (q_behind, .inl (cI, n_behind, .inl v_behind)), (q_nextOne, .inl (cI, n_nextOne, .inl v_nextOne)), (q_new_19, .inl (cI, ((nI n_tree_ahead).toNatClampNeg), .inl (fun _ => 0))), (q_new_21, .inl (cI, (((nI n_tree_ahead) + (1 : Int32)).toNatClampNeg), .inl (fun _ => 0)))] H := hP
    have hD : va_D A [(q_this, .inr (1, [.ref q_bench, .ref q_tree, .ref q_new_21, .ref q_new_19, .int v_side, .int v_mover])), (q_tree, .inr (2, [.ref q_tree_ahead, .ref q_tree_cells, .int v_tree_count])), (q_tree_ahead, .inl (cI, n_tree_ahead, .inl v_tree_ahead)), (q_behind, .inl (cI, n_behind, .inl v_behind)), (q_nextOne, .inl (cI, n_nextOne, .inl v_nextOne)), (q_new_19, .inl (cI, ((nI n_tree_ahead).toNatClampNeg), .inl (fun _ => 0))), (q_new_21, .inl (cI, (((nI n_tree_ahead) + (1 : Int32)).toNatClampNeg), .inl (fun _ => 0)))] := hD
    have hP : va_P D vwCl [(q_this, .inr (1, [.ref q_bench, .ref q_tree, .ref q_new_21, .ref q_new_19, .int v_side, .int v_mover])), (q_tree, .inr (2, [.ref q_tree_ahead, .ref q_tree_cells, .int v_tree_count])), (q_tree_ahead, .inl (cI, n_tree_ahead, .inl v_tree_ahead)), (q_new_21, .inl (cI, (((nI n_tree_ahead) + (1 : Int32)).toNatClampNeg), .inl (fun _ => 0))), (q_new_19, .inl (cI, ((nI n_tree_ahead).toNatClampNeg), .inl (fun _ => 0)))] H := hP.sub [0, 1, 2, 6, 5] rfl
    have hD : va_D A [(q_this, .inr (1, [.ref q_bench, .ref q_tree, .ref q_new_21, .ref q_new_19, .int v_side, .int v_mover])), (q_tree, .inr (2, [.ref q_tree_ahead, .ref q_tree_cells, .int v_tree_count])), (q_tree_ahead, .inl (cI, n_tree_ahead, .inl v_tree_ahead)), (q_new_21, .inl (cI, (((nI n_tree_ahead) + (1 : Int32)).toNatClampNeg), .inl (fun _ => 0))), (q_new_19, .inl (cI, ((nI n_tree_ahead).toNatClampNeg), .inl (fun _ => 0)))] := hD.sub [0, 1, 2, 6, 5] (by decide) rfl
    exact J_8 _ _ _ _ _ h.symm q_new_21 q_new_19 _ _ _ hP hD hS (lv_sub hl [0] rfl) hg
