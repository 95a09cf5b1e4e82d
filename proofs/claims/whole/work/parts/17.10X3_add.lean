abbrev rm_X3_add (g wg : Nat) : Room := { frames := 3, cells := g - wg, slots := g - wg, locals := 103 }
set_option maxHeartbeats 4000000 in
set_option maxRecDepth 100000 in
theorem c_X3_add (l : Launch) (D : va_G) (cI cB cZ : ClassId) (q_this : Nat) (q_cells : Nat) (q_ahead : Nat) (q_proof : Nat) (q_disproof : Nat) (q_child : Nat) (q_children : Nat) (v_count : Int32) (n_cells : Nat) (v_cells : Nat → Int32) (n_ahead : Nat) (v_ahead : Nat → Int32) (n_proof : Nat) (v_proof : Nat → Int32) (n_disproof : Nat) (v_disproof : Nat → Int32) (n_child : Nat) (v_child : Nat → Int32) (n_children : Nat) (v_children : Nat → Int32) (x1 : Int32) (x2 : Int32) (g : Nat) (F : Nat) {r : Int32} {w0 : Int32} {w1 : Nat} {w2 : Nat → Int32} {w3 : Nat} {w4 : Nat → Int32} {w5 : Nat} {w6 : Nat → Int32} {w7 : Nat} {w8 : Nat → Int32} {w9 : Nat} {w10 : Nat → Int32} {w11 : Nat} {w12 : Nat → Int32} {wg : Nat} (h : pm_X3_add F g v_count n_cells v_cells n_ahead v_ahead n_proof v_proof n_disproof v_disproof n_child v_child n_children v_children x1 x2 = some (r, w0, w1, w2, w3, w4, w5, w6, w7, w8, w9, w10, w11, w12, wg)) : MIX none l yX3_add cX3_add 3 (some .int) (rm_X3_add g wg) [.ref q_this, .int x1, .int x2] D cI cB cZ [(q_this, .inr (3, [.ref q_cells, .ref q_ahead, .ref q_proof, .ref q_disproof, .ref q_child, .ref q_children, .int v_count])), (q_cells, .inl (cI, n_cells, .inl v_cells)), (q_ahead, .inl (cI, n_ahead, .inl v_ahead)), (q_proof, .inl (cI, n_proof, .inl v_proof)), (q_disproof, .inl (cI, n_disproof, .inl v_disproof)), (q_child, .inl (cI, n_child, .inl v_child)), (q_children, .inl (cI, n_children, .inl v_children))] (fun (u : Int32 × Nat × (Nat → Int32) × Nat × (Nat → Int32) × Nat × (Nat → Int32) × Nat × (Nat → Int32) × Nat × (Nat → Int32) × Nat × (Nat → Int32) × Nat) (a : Nat × Nat × Nat × Nat × Nat × Nat) => [(q_this, .inr (3, [.ref a.1, .ref a.2.1, .ref a.2.2.1, .ref a.2.2.2.1, .ref a.2.2.2.2.1, .ref a.2.2.2.2.2, .int u.1])), (a.1, .inl (cI, u.2.1, .inl u.2.2.1)), (a.2.1, .inl (cI, u.2.2.2.1, .inl u.2.2.2.2.1)), (a.2.2.1, .inl (cI, u.2.2.2.2.2.1, .inl u.2.2.2.2.2.2.1)), (a.2.2.2.1, .inl (cI, u.2.2.2.2.2.2.2.1, .inl u.2.2.2.2.2.2.2.2.1)), (a.2.2.2.2.1, .inl (cI, u.2.2.2.2.2.2.2.2.2.1, .inl u.2.2.2.2.2.2.2.2.2.2.1)), (a.2.2.2.2.2, .inl (cI, u.2.2.2.2.2.2.2.2.2.2.2.1, .inl u.2.2.2.2.2.2.2.2.2.2.2.2.1))]) (r, (w0, w1, w2, w3, w4, w5, w6, w7, w8, w9, w10, w11, w12, wg)) := by
  refine ent_ix (by decide) (Nat.le_of_ble_eq_true rfl) ?_
  intro p e s m args below meth c A ls Q hQ hx hb hr hml hown hts hlk hnm hK hA hP hD hS hZ hl
  have hl : lv_has ls 3 [(0, .ref q_this), (1, .int x1), (2, .int x2)] := hl
  have hg : g ≤ g := Nat.le_refl g
  have hm : wg ≤ g := mono_X3_add h
  rw [pm_X3_add] at h
  refine W.widen (k := g - g) (n := g - g) (Nat.zero_le _) (Nat.zero_le _) ?_
  refine lv_aload_n hx hb dX3_add_0 rfl (lv_at hl 0 rfl) ?_
  refine va_get (D := D) (ci := 3) (v := .int v_count) (C := "HexTable$Nodes") (T := TX3) (N := 7) hx hb hts inX3 hown hK.1 hP 0 rfl rfl 6 (by decide) (hts _ wd_1_123) (fun _ h9 => h9) rfl dX3_add_1 ?_
  refine lv_sipush (v := (8000 : Int32)) hx hb dX3_add_4 (by decide) ?_
  refine lv_icmp_lt (tgt := 12) hx hb dX3_add_7 (by decide) (fun cb => ?_) (fun cb => ?_)
  · replace h := pm_pos cb h
    refine lv_aload_n hx hb dX3_add_12 rfl (lv_at hl 0 rfl) ?_
    refine va_get (D := D) (ci := 3) (v := .int v_count) (C := "HexTable$Nodes") (T := TX3) (N := 7) hx hb hts inX3 hown hK.1 hP 0 rfl rfl 6 (by decide) (hts _ wd_1_123) (fun _ h9 => h9) rfl dX3_add_13 ?_
    refine lv_aload_n hx hb dX3_add_16 rfl (lv_at hl 0 rfl) ?_
    refine va_get (D := D) (ci := 3) (v := .ref q_cells) (C := "HexTable$Nodes") (T := TX3) (N := 7) hx hb hts inX3 hown hK.1 hP 0 rfl rfl 0 (by decide) (hts _ wd_1_111) (fun _ h9 => h9) rfl dX3_add_17 ?_
    refine va_alen hx hb hK.1 hP 1 0 rfl rfl (v := nI n_cells) rfl dX3_add_20 ?_
    obtain ⟨n_cells_7, v_cells_8, n_ahead_9, v_ahead_10, n_proof_11, v_proof_12, n_disproof_13, v_disproof_14, n_child_15, v_child_16, n_children_17, v_children_18, g_19, hw, h⟩ := bd13_s h
    have hme_J_20 : wg ≤ g_19 := by
      have hle : g_19 ≤ g_19 := Nat.le_refl _
      obtain ⟨b_21, h⟩ := pm_in h
      obtain ⟨b_22, h⟩ := pm_in h
      obtain ⟨b_23, h⟩ := pm_in h
      obtain ⟨b_24, h⟩ := pm_in h
      obtain ⟨b_25, h⟩ := pm_in h
      obtain ⟨b_26, h⟩ := pm_in h
      exact le_last ((Prod.mk.inj ((Prod.mk.inj ((Prod.mk.inj ((Prod.mk.inj ((Prod.mk.inj ((Prod.mk.inj ((Prod.mk.inj ((Prod.mk.inj ((Prod.mk.inj ((Prod.mk.inj ((Prod.mk.inj ((Prod.mk.inj ((Prod.mk.inj ((Prod.mk.inj (Option.some.inj h)).2)).2)).2)).2)).2)).2)).2)).2)).2)).2)).2)).2)).2)).2) hle
    have J_20 : ∀ (y1 : Nat) (y2 : Nat → Int32) (y3 : Nat) (y4 : Nat → Int32) (y5 : Nat) (y6 : Nat → Int32) (y7 : Nat) (y8 : Nat → Int32) (y9 : Nat) (y10 : Nat → Int32) (y11 : Nat) (y12 : Nat → Int32) (y13 : Nat), some (n_cells_7, v_cells_8, n_ahead_9, v_ahead_10, n_proof_11, v_proof_12, n_disproof_13, v_disproof_14, n_child_15, v_child_16, n_children_17, v_children_18, g_19) = some (y1, y2, y3, y4, y5, y6, y7, y8, y9, y10, y11, y12, y13) → ∀ (q_cells_1 q_ahead_2 q_proof_3 q_disproof_4 q_child_5 q_children_6 : Nat) (H : Heap) (locs : List Loc) (ls : Array Slot), va_P D vwCl [(q_this, .inr (3, [.ref q_cells_1, .ref q_ahead_2, .ref q_proof_3, .ref q_disproof_4, .ref q_child_5, .ref q_children_6, .int v_count])), (q_cells_1, .inl (cI, y1, .inl y2)), (q_ahead_2, .inl (cI, y3, .inl y4)), (q_proof_3, .inl (cI, y5, .inl y6)), (q_disproof_4, .inl (cI, y7, .inl y8)), (q_child_5, .inl (cI, y9, .inl y10)), (q_children_6, .inl (cI, y11, .inl y12))] H → va_D A [(q_this, .inr (3, [.ref q_cells_1, .ref q_ahead_2, .ref q_proof_3, .ref q_disproof_4, .ref q_child_5, .ref q_children_6, .int v_count])), (q_cells_1, .inl (cI, y1, .inl y2)), (q_ahead_2, .inl (cI, y3, .inl y4)), (q_proof_3, .inl (cI, y5, .inl y6)), (q_disproof_4, .inl (cI, y7, .inl y8)), (q_child_5, .inl (cI, y9, .inl y10)), (q_children_6, .inl (cI, y11, .inl y12))] → va_S A s.heap H locs → lv_has ls 3 [(0, .ref q_this), (1, .int x1), (2, .int x2)] → y13 ≤ g → W p l e (rm_X3_add g wg) s m args below meth c H locs (g - y13) (g - y13) Q (F0 m 28 ls []) := by
      intro y1 y2 y3 y4 y5 y6 y7 y8 y9 y10 y11 y12 y13 hy
      cases hy
      intro q_cells_1 q_ahead_2 q_proof_3 q_disproof_4 q_child_5 q_children_6 H locs ls hP hD hS hl hg
      have hm := hme_J_20
      refine lv_aload_n hx hb dX3_add_28 rfl (lv_at hl 0 rfl) ?_
      refine va_get (D := D) (ci := 3) (v := .ref q_cells_1) (C := "HexTable$Nodes") (T := TX3) (N := 7) hx hb hts inX3 hown hK.1 hP 0 rfl rfl 0 (by decide) (hts _ wd_1_111) (fun _ h9 => h9) rfl dX3_add_29 ?_
      refine lv_aload_n hx hb dX3_add_32 rfl (lv_at hl 0 rfl) ?_
      refine va_get (D := D) (ci := 3) (v := .int v_count) (C := "HexTable$Nodes") (T := TX3) (N := 7) hx hb hts inX3 hown hK.1 hP 0 rfl rfl 6 (by decide) (hts _ wd_1_123) (fun _ h9 => h9) rfl dX3_add_33 ?_
      refine lv_iload_n hx hb dX3_add_36 rfl (lv_at hl 2 rfl) ?_
      obtain ⟨b_21, h⟩ := pm_in h
      refine va_iast hx hb hK.1 hP hD hS 1 0 rfl rfl b_21 dX3_add_37 (fun H locs hP hD hS => ?_)
      have hP : va_P D vwCl [(q_this, .inr (3, [.ref q_cells_1, .ref q_ahead_2, .ref q_proof_3, .ref q_disproof_4, .ref q_child_5, .ref q_children_6, .int v_count])), (q_cells_1, .inl (cI, n_cells_7, .inl (upd v_cells_8 v_count.toNatClampNeg x2))), (q_ahead_2, .inl (cI, n_ahead_9, .inl v_ahead_10)), (q_proof_3, .inl (cI, n_proof_11, .inl v_proof_12)), (q_disproof_4, .inl (cI, n_disproof_13, .inl v_disproof_14)), (q_child_5, .inl (cI, n_child_15, .inl v_child_16)), (q_children_6, .inl (cI, n_children_17, .inl v_children_18))] H := hP
      have hD : va_D A [(q_this, .inr (3, [.ref q_cells_1, .ref q_ahead_2, .ref q_proof_3, .ref q_disproof_4, .ref q_child_5, .ref q_children_6, .int v_count])), (q_cells_1, .inl (cI, n_cells_7, .inl (upd v_cells_8 v_count.toNatClampNeg x2))), (q_ahead_2, .inl (cI, n_ahead_9, .inl v_ahead_10)), (q_proof_3, .inl (cI, n_proof_11, .inl v_proof_12)), (q_disproof_4, .inl (cI, n_disproof_13, .inl v_disproof_14)), (q_child_5, .inl (cI, n_child_15, .inl v_child_16)), (q_children_6, .inl (cI, n_children_17, .inl v_children_18))] := hD
      refine lv_aload_n hx hb dX3_add_38 rfl (lv_at hl 0 rfl) ?_
      refine va_get (D := D) (ci := 3) (v := .ref q_ahead_2) (C := "HexTable$Nodes") (T := TX3) (N := 7) hx hb hts inX3 hown hK.1 hP 0 rfl rfl 1 (by decide) (hts _ wd_1_113) (fun _ h9 => h9) rfl dX3_add_39 ?_
      refine lv_aload_n hx hb dX3_add_42 rfl (lv_at hl 0 rfl) ?_
      refine va_get (D := D) (ci := 3) (v := .int v_count) (C := "HexTable$Nodes") (T := TX3) (N := 7) hx hb hts inX3 hown hK.1 hP 0 rfl rfl 6 (by decide) (hts _ wd_1_123) (fun _ h9 => h9) rfl dX3_add_43 ?_
      refine lv_iload_n hx hb dX3_add_46 rfl (lv_at hl 1 rfl) ?_
      obtain ⟨b_22, h⟩ := pm_in h
      refine va_iast hx hb hK.1 hP hD hS 2 0 rfl rfl b_22 dX3_add_47 (fun H locs hP hD hS => ?_)
      have hP : va_P D vwCl [(q_this, .inr (3, [.ref q_cells_1, .ref q_ahead_2, .ref q_proof_3, .ref q_disproof_4, .ref q_child_5, .ref q_children_6, .int v_count])), (q_cells_1, .inl (cI, n_cells_7, .inl (upd v_cells_8 v_count.toNatClampNeg x2))), (q_ahead_2, .inl (cI, n_ahead_9, .inl (upd v_ahead_10 v_count.toNatClampNeg x1))), (q_proof_3, .inl (cI, n_proof_11, .inl v_proof_12)), (q_disproof_4, .inl (cI, n_disproof_13, .inl v_disproof_14)), (q_child_5, .inl (cI, n_child_15, .inl v_child_16)), (q_children_6, .inl (cI, n_children_17, .inl v_children_18))] H := hP
      have hD : va_D A [(q_this, .inr (3, [.ref q_cells_1, .ref q_ahead_2, .ref q_proof_3, .ref q_disproof_4, .ref q_child_5, .ref q_children_6, .int v_count])), (q_cells_1, .inl (cI, n_cells_7, .inl (upd v_cells_8 v_count.toNatClampNeg x2))), (q_ahead_2, .inl (cI, n_ahead_9, .inl (upd v_ahead_10 v_count.toNatClampNeg x1))), (q_proof_3, .inl (cI, n_proof_11, .inl v_proof_12)), (q_disproof_4, .inl (cI, n_disproof_13, .inl v_disproof_14)), (q_child_5, .inl (cI, n_child_15, .inl v_child_16)), (q_children_6, .inl (cI, n_children_17, .inl v_children_18))] := hD
      refine lv_aload_n hx hb dX3_add_48 rfl (lv_at hl 0 rfl) ?_
      refine va_get (D := D) (ci := 3) (v := .ref q_proof_3) (C := "HexTable$Nodes") (T := TX3) (N := 7) hx hb hts inX3 hown hK.1 hP 0 rfl rfl 2 (by decide) (hts _ wd_1_115) (fun _ h9 => h9) rfl dX3_add_49 ?_
      refine lv_aload_n hx hb dX3_add_52 rfl (lv_at hl 0 rfl) ?_
      refine va_get (D := D) (ci := 3) (v := .int v_count) (C := "HexTable$Nodes") (T := TX3) (N := 7) hx hb hts inX3 hown hK.1 hP 0 rfl rfl 6 (by decide) (hts _ wd_1_123) (fun _ h9 => h9) rfl dX3_add_53 ?_
      refine lv_iconst (v := (1 : Int32)) hx hb dX3_add_56 (by decide) ?_
      obtain ⟨b_23, h⟩ := pm_in h
      refine va_iast hx hb hK.1 hP hD hS 3 0 rfl rfl b_23 dX3_add_57 (fun H locs hP hD hS => ?_)
      have hP : va_P D vwCl [(q_this, .inr (3, [.ref q_cells_1, .ref q_ahead_2, .ref q_proof_3, .ref q_disproof_4, .ref q_child_5, .ref q_children_6, .int v_count])), (q_cells_1, .inl (cI, n_cells_7, .inl (upd v_cells_8 v_count.toNatClampNeg x2))), (q_ahead_2, .inl (cI, n_ahead_9, .inl (upd v_ahead_10 v_count.toNatClampNeg x1))), (q_proof_3, .inl (cI, n_proof_11, .inl (upd v_proof_12 v_count.toNatClampNeg (1 : Int32)))), (q_disproof_4, .inl (cI, n_disproof_13, .inl v_disproof_14)), (q_child_5, .inl (cI, n_child_15, .inl v_child_16)), (q_children_6, .inl (cI, n_children_17, .inl v_children_18))] H := hP
      have hD : va_D A [(q_this, .inr (3, [.ref q_cells_1, .ref q_ahead_2, .ref q_proof_3, .ref q_disproof_4, .ref q_child_5, .ref q_children_6, .int v_count])), (q_cells_1, .inl (cI, n_cells_7, .inl (upd v_cells_8 v_count.toNatClampNeg x2))), (q_ahead_2, .inl (cI, n_ahead_9, .inl (upd v_ahead_10 v_count.toNatClampNeg x1))), (q_proof_3, .inl (cI, n_proof_11, .inl (upd v_proof_12 v_count.toNatClampNeg (1 : Int32)))), (q_disproof_4, .inl (cI, n_disproof_13, .inl v_disproof_14)), (q_child_5, .inl (cI, n_child_15, .inl v_child_16)), (q_children_6, .inl (cI, n_children_17, .inl v_children_18))] := hD
      refine lv_aload_n hx hb dX3_add_58 rfl (lv_at hl 0 rfl) ?_
      refine va_get (D := D) (ci := 3) (v := .ref q_disproof_4) (C := "HexTable$Nodes") (T := TX3) (N := 7) hx hb hts inX3 hown hK.1 hP 0 rfl rfl 3 (by decide) (hts _ wd_1_117) (fun _ h9 => h9) rfl dX3_add_59 ?_
      refine lv_aload_n hx hb dX3_add_62 rfl (lv_at hl 0 rfl) ?_
      refine va_get (D := D) (ci := 3) (v := .int v_count) (C := "HexTable$Nodes") (T := TX3) (N := 7) hx hb hts inX3 hown hK.1 hP 0 rfl rfl 6 (by decide) (hts _ wd_1_123) (fun _ h9 => h9) rfl dX3_add_63 ?_
      refine lv_iconst (v := (1 : Int32)) hx hb dX3_add_66 (by decide) ?_
      obtain ⟨b_24, h⟩ := pm_in h
      refine va_iast hx hb hK.1 hP hD hS 4 0 rfl rfl b_24 dX3_add_67 (fun H locs hP hD hS => ?_)
      have hP : va_P D vwCl [(q_this, .inr (3, [.ref q_cells_1, .ref q_ahead_2, .ref q_proof_3, .ref q_disproof_4, .ref q_child_5, .ref q_children_6, .int v_count])), (q_cells_1, .inl (cI, n_cells_7, .inl (upd v_cells_8 v_count.toNatClampNeg x2))), (q_ahead_2, .inl (cI, n_ahead_9, .inl (upd v_ahead_10 v_count.toNatClampNeg x1))), (q_proof_3, .inl (cI, n_proof_11, .inl (upd v_proof_12 v_count.toNatClampNeg (1 : Int32)))), (q_disproof_4, .inl (cI, n_disproof_13, .inl (upd v_disproof_14 v_count.toNatClampNeg (1 : Int32)))), (q_child_5, .inl (cI, n_child_15, .inl v_child_16)), (q_children_6, .inl (cI, n_children_17, .inl v_children_18))] H := hP
      have hD : va_D A [(q_this, .inr (3, [.ref q_cells_1, .ref q_ahead_2, .ref q_proof_3, .ref q_disproof_4, .ref q_child_5, .ref q_children_6, .int v_count])), (q_cells_1, .inl (cI, n_cells_7, .inl (upd v_cells_8 v_count.toNatClampNeg x2))), (q_ahead_2, .inl (cI, n_ahead_9, .inl (upd v_ahead_10 v_count.toNatClampNeg x1))), (q_proof_3, .inl (cI, n_proof_11, .inl (upd v_proof_12 v_count.toNatClampNeg (1 : Int32)))), (q_disproof_4, .inl (cI, n_disproof_13, .inl (upd v_disproof_14 v_count.toNatClampNeg (1 : Int32)))), (q_child_5, .inl (cI, n_child_15, .inl v_child_16)), (q_children_6, .inl (cI, n_children_17, .inl v_children_18))] := hD
      refine lv_aload_n hx hb dX3_add_68 rfl (lv_at hl 0 rfl) ?_
      refine va_get (D := D) (ci := 3) (v := .ref q_child_5) (C := "HexTable$Nodes") (T := TX3) (N := 7) hx hb hts inX3 hown hK.1 hP 0 rfl rfl 4 (by decide) (hts _ wd_1_119) (fun _ h9 => h9) rfl dX3_add_69 ?_
      refine lv_aload_n hx hb dX3_add_72 rfl (lv_at hl 0 rfl) ?_
      refine va_get (D := D) (ci := 3) (v := .int v_count) (C := "HexTable$Nodes") (T := TX3) (N := 7) hx hb hts inX3 hown hK.1 hP 0 rfl rfl 6 (by decide) (hts _ wd_1_123) (fun _ h9 => h9) rfl dX3_add_73 ?_
      refine lv_iconst (v := (-1 : Int32)) hx hb dX3_add_76 (by decide) ?_
      obtain ⟨b_25, h⟩ := pm_in h
      refine va_iast hx hb hK.1 hP hD hS 5 0 rfl rfl b_25 dX3_add_77 (fun H locs hP hD hS => ?_)
      have hP : va_P D vwCl [(q_this, .inr (3, [.ref q_cells_1, .ref q_ahead_2, .ref q_proof_3, .ref q_disproof_4, .ref q_child_5, .ref q_children_6, .int v_count])), (q_cells_1, .inl (cI, n_cells_7, .inl (upd v_cells_8 v_count.toNatClampNeg x2))), (q_ahead_2, .inl (cI, n_ahead_9, .inl (upd v_ahead_10 v_count.toNatClampNeg x1))), (q_proof_3, .inl (cI, n_proof_11, .inl (upd v_proof_12 v_count.toNatClampNeg (1 : Int32)))), (q_disproof_4, .inl (cI, n_disproof_13, .inl (upd v_disproof_14 v_count.toNatClampNeg (1 : Int32)))), (q_child_5, .inl (cI, n_child_15, .inl (upd v_child_16 v_count.toNatClampNeg (-1 : Int32)))), (q_children_6, .inl (cI, n_children_17, .inl v_children_18))] H := hP
      have hD : va_D A [(q_this, .inr (3, [.ref q_cells_1, .ref q_ahead_2, .ref q_proof_3, .ref q_disproof_4, .ref q_child_5, .ref q_children_6, .int v_count])), (q_cells_1, .inl (cI, n_cells_7, .inl (upd v_cells_8 v_count.toNatClampNeg x2))), (q_ahead_2, .inl (cI, n_ahead_9, .inl (upd v_ahead_10 v_count.toNatClampNeg x1))), (q_proof_3, .inl (cI, n_proof_11, .inl (upd v_proof_12 v_count.toNatClampNeg (1 : Int32)))), (q_disproof_4, .inl (cI, n_disproof_13, .inl (upd v_disproof_14 v_count.toNatClampNeg (1 : Int32)))), (q_child_5, .inl (cI, n_child_15, .inl (upd v_child_16 v_count.toNatClampNeg (-1 : Int32)))), (q_children_6, .inl (cI, n_children_17, .inl v_children_18))] := hD
      refine lv_aload_n hx hb dX3_add_78 rfl (lv_at hl 0 rfl) ?_
      refine va_get (D := D) (ci := 3) (v := .ref q_children_6) (C := "HexTable$Nodes") (T := TX3) (N := 7) hx hb hts inX3 hown hK.1 hP 0 rfl rfl 5 (by decide) (hts _ wd_1_121) (fun _ h9 => h9) rfl dX3_add_79 ?_
      refine lv_aload_n hx hb dX3_add_82 rfl (lv_at hl 0 rfl) ?_
      refine va_get (D := D) (ci := 3) (v := .int v_count) (C := "HexTable$Nodes") (T := TX3) (N := 7) hx hb hts inX3 hown hK.1 hP 0 rfl rfl 6 (by decide) (hts _ wd_1_123) (fun _ h9 => h9) rfl dX3_add_83 ?_
      refine lv_iconst (v := (0 : Int32)) hx hb dX3_add_86 (by decide) ?_
      obtain ⟨b_26, h⟩ := pm_in h
      refine va_iast hx hb hK.1 hP hD hS 6 0 rfl rfl b_26 dX3_add_87 (fun H locs hP hD hS => ?_)
      have hP : va_P D vwCl [(q_this, .inr (3, [.ref q_cells_1, .ref q_ahead_2, .ref q_proof_3, .ref q_disproof_4, .ref q_child_5, .ref q_children_6, .int v_count])), (q_cells_1, .inl (cI, n_cells_7, .inl (upd v_cells_8 v_count.toNatClampNeg x2))), (q_ahead_2, .inl (cI, n_ahead_9, .inl (upd v_ahead_10 v_count.toNatClampNeg x1))), (q_proof_3, .inl (cI, n_proof_11, .inl (upd v_proof_12 v_count.toNatClampNeg (1 : Int32)))), (q_disproof_4, .inl (cI, n_disproof_13, .inl (upd v_disproof_14 v_count.toNatClampNeg (1 : Int32)))), (q_child_5, .inl (cI, n_child_15, .inl (upd v_child_16 v_count.toNatClampNeg (-1 : Int32)))), (q_children_6, .inl (cI, n_children_17, .inl (upd v_children_18 v_count.toNatClampNeg (0 : Int32))))] H := hP
      have hD : va_D A [(q_this, .inr (3, [.ref q_cells_1, .ref q_ahead_2, .ref q_proof_3, .ref q_disproof_4, .ref q_child_5, .ref q_children_6, .int v_count])), (q_cells_1, .inl (cI, n_cells_7, .inl (upd v_cells_8 v_count.toNatClampNeg x2))), (q_ahead_2, .inl (cI, n_ahead_9, .inl (upd v_ahead_10 v_count.toNatClampNeg x1))), (q_proof_3, .inl (cI, n_proof_11, .inl (upd v_proof_12 v_count.toNatClampNeg (1 : Int32)))), (q_disproof_4, .inl (cI, n_disproof_13, .inl (upd v_disproof_14 v_count.toNatClampNeg (1 : Int32)))), (q_child_5, .inl (cI, n_child_15, .inl (upd v_child_16 v_count.toNatClampNeg (-1 : Int32)))), (q_children_6, .inl (cI, n_children_17, .inl (upd v_children_18 v_count.toNatClampNeg (0 : Int32))))] := hD
      refine lv_aload_n hx hb dX3_add_88 rfl (lv_at hl 0 rfl) ?_
      refine lv_dup hx hb dX3_add_89 rfl ?_
      refine va_get (D := D) (ci := 3) (v := .int v_count) (C := "HexTable$Nodes") (T := TX3) (N := 7) hx hb hts inX3 hown hK.1 hP 0 rfl rfl 6 (by decide) (hts _ wd_1_123) (fun _ h9 => h9) rfl dX3_add_90 ?_
      refine lv_iconst (v := (1 : Int32)) hx hb dX3_add_93 (by decide) ?_
      refine lv_iadd hx hb dX3_add_94 ?_
      refine va_put (D := D) (ci := 3) (v := .int (v_count + (1 : Int32))) (ty := .int) (C := "HexTable$Nodes") (T := TX3) (N := 7) hx hb hts inX3 tyX3 tyX3_ok nmX3 hown hK.1 hP hD hS 0 rfl rfl 6 (by decide) (hts _ wd_1_123) (fun _ h9 => h9) rfl (by decide +kernel) rfl rfl (Nat.le_of_ble_eq_true rfl) dX3_add_95 (fun H locs hP hD hS => ?_)
      have hP : va_P D vwCl [(q_this, .inr (3, [.ref q_cells_1, .ref q_ahead_2, .ref q_proof_3, .ref q_disproof_4, .ref q_child_5, .ref q_children_6, .int (v_count + (1 : Int32))])), (q_cells_1, .inl (cI, n_cells_7, .inl (upd v_cells_8 v_count.toNatClampNeg x2))), (q_ahead_2, .inl (cI, n_ahead_9, .inl (upd v_ahead_10 v_count.toNatClampNeg x1))), (q_proof_3, .inl (cI, n_proof_11, .inl (upd v_proof_12 v_count.toNatClampNeg (1 : Int32)))), (q_disproof_4, .inl (cI, n_disproof_13, .inl (upd v_disproof_14 v_count.toNatClampNeg (1 : Int32)))), (q_child_5, .inl (cI, n_child_15, .inl (upd v_child_16 v_count.toNatClampNeg (-1 : Int32)))), (q_children_6, .inl (cI, n_children_17, .inl (upd v_children_18 v_count.toNatClampNeg (0 : Int32))))] H := hP
      have hD : va_D A [(q_this, .inr (3, [.ref q_cells_1, .ref q_ahead_2, .ref q_proof_3, .ref q_disproof_4, .ref q_child_5, .ref q_children_6, .int (v_count + (1 : Int32))])), (q_cells_1, .inl (cI, n_cells_7, .inl (upd v_cells_8 v_count.toNatClampNeg x2))), (q_ahead_2, .inl (cI, n_ahead_9, .inl (upd v_ahead_10 v_count.toNatClampNeg x1))), (q_proof_3, .inl (cI, n_proof_11, .inl (upd v_proof_12 v_count.toNatClampNeg (1 : Int32)))), (q_disproof_4, .inl (cI, n_disproof_13, .inl (upd v_disproof_14 v_count.toNatClampNeg (1 : Int32)))), (q_child_5, .inl (cI, n_child_15, .inl (upd v_child_16 v_count.toNatClampNeg (-1 : Int32)))), (q_children_6, .inl (cI, n_children_17, .inl (upd v_children_18 v_count.toNatClampNeg (0 : Int32))))] := hD
      refine lv_aload_n hx hb dX3_add_98 rfl (lv_at hl 0 rfl) ?_
      refine va_get (D := D) (ci := 3) (v := .int (v_count + (1 : Int32))) (C := "HexTable$Nodes") (T := TX3) (N := 7) hx hb hts inX3 hown hK.1 hP 0 rfl rfl 6 (by decide) (hts _ wd_1_123) (fun _ h9 => h9) rfl dX3_add_99 ?_
      refine lv_iconst (v := (1 : Int32)) hx hb dX3_add_102 (by decide) ?_
      refine lv_isub hx hb dX3_add_103 ?_
      refine W.widen (k := g - wg) (n := g - wg) (ca_3 hm) (ca_3 hm) ?_
      exact rt_ix (u := (v_count + (1 : Int32), n_cells_7, upd v_cells_8 v_count.toNatClampNeg x2, n_ahead_9, upd v_ahead_10 v_count.toNatClampNeg x1, n_proof_11, upd v_proof_12 v_count.toNatClampNeg (1 : Int32), n_disproof_13, upd v_disproof_14 v_count.toNatClampNeg (1 : Int32), n_child_15, upd v_child_16 v_count.toNatClampNeg (-1 : Int32), n_children_17, upd v_children_18 v_count.toNatClampNeg (0 : Int32), g_19)) (q_cells_1, q_ahead_2, q_proof_3, q_disproof_4, q_child_5, q_children_6) hQ hx hb hr hlk h hP hD hS dX3_add_104
    replace h := hw
    refine lv_icmp_lt (tgt := 28) hx hb dX3_add_21 (by decide) (fun cb => ?_) (fun cb => ?_)
    · replace h := pm_pos cb h
      exact J_20 _ _ _ _ _ _ _ _ _ _ _ _ _ h.symm q_cells q_ahead q_proof q_disproof q_child q_children _ _ _ hP hD hS (lv_sub hl [0, 1, 2] rfl) hg
    · replace h := pm_neg cb h
      refine lv_aload_n hx hb dX3_add_24 rfl (lv_at hl 0 rfl) ?_
      obtain ⟨n_cells_27, v_cells_28, n_ahead_29, v_ahead_30, n_proof_31, v_proof_32, n_disproof_33, v_disproof_34, n_child_35, v_child_36, n_children_37, v_children_38, g_39, hc, h⟩ := bd13_s h
      have mo := mono_X3_lengthen hc
      have hg0 := hg
      have hg : g_39 ≤ g := Nat.le_trans mo hg
      have hm : wg ≤ g_39 := by
        have hh : g_19 ≤ g_39 := by
          have hle : g_39 ≤ g_39 := Nat.le_refl _
          exact le_last ((Prod.mk.inj ((Prod.mk.inj ((Prod.mk.inj ((Prod.mk.inj ((Prod.mk.inj ((Prod.mk.inj ((Prod.mk.inj ((Prod.mk.inj ((Prod.mk.inj ((Prod.mk.inj ((Prod.mk.inj ((Prod.mk.inj (Option.some.inj h)).2)).2)).2)).2)).2)).2)).2)).2)).2)).2)).2)).2) hle
        omega
      refine aft_vx (wr := []) (wc := [(q_this, .inr (3, [.ref q_cells, .ref q_ahead, .ref q_proof, .ref q_disproof, .ref q_child, .ref q_children, .int v_count])), (q_cells, .inl (cI, n_cells, .inl v_cells)), (q_ahead, .inl (cI, n_ahead, .inl v_ahead)), (q_proof, .inl (cI, n_proof, .inl v_proof)), (q_disproof, .inl (cI, n_disproof, .inl v_disproof)), (q_child, .inl (cI, n_child, .inl v_child)), (q_children, .inl (cI, n_children, .inl v_children))]) hP hD hS hA [0, 1, 2, 3, 4, 5, 6] [] rfl rfl (by decide) (by decide) (rn_V (As := []) (rest := []) (n := 0) hx hb hml hown hts (c_X3_lengthen l D cI cB cZ q_this q_cells q_ahead q_proof q_disproof q_child q_children v_count n_cells v_cells n_ahead v_ahead n_proof v_proof n_disproof v_disproof n_child v_child n_children v_children g F hc _) (pre_VZ (z := none) trivial hS hA hK hP hD [0, 1, 2, 3, 4, 5, 6] rfl (by decide) (ci := 3) (q0 := 0) rfl rfl) wd_2_140 wd_2_142 wp_5 wd_1_6 wd_2_143 (by decide +kernel) ⟨Nat.le_of_ble_eq_true rfl, Nat.le_of_ble_eq_true rfl⟩ ⟨ca_1 mo hg0 hm, ca_1 mo hg0 hm⟩ rfl hl.1 rfl (Nat.le_of_ble_eq_true rfl) dX3_add_25) (fun x H locs hP hD hS => ?_)
      obtain ⟨q_new_40, q_new_41, q_new_42, q_new_43, q_new_44, q_new_45⟩ := x
      have hP : va_P D vwCl [(q_this, .inr (3, [.ref q_new_40, .ref q_new_41, .ref q_new_42, .ref q_new_43, .ref q_new_44, .ref q_new_45, .int v_count])), (q_new_40, .inl (cI, n_cells_27, .inl v_cells_28)), (q_new_41, .inl (cI, n_ahead_29, .inl v_ahead_30)), (q_new_42, .inl (cI, n_proof_31, .inl v_proof_32)), (q_new_43, .inl (cI, n_disproof_33, .inl v_disproof_34)), (q_new_44, .inl (cI, n_child_35, .inl v_child_36)), (q_new_45, .inl (cI, n_children_37, .inl v_children_38))] H := hP
      have hD : va_D A [(q_this, .inr (3, [.ref q_new_40, .ref q_new_41, .ref q_new_42, .ref q_new_43, .ref q_new_44, .ref q_new_45, .int v_count])), (q_new_40, .inl (cI, n_cells_27, .inl v_cells_28)), (q_new_41, .inl (cI, n_ahead_29, .inl v_ahead_30)), (q_new_42, .inl (cI, n_proof_31, .inl v_proof_32)), (q_new_43, .inl (cI, n_disproof_33, .inl v_disproof_34)), (q_new_44, .inl (cI, n_child_35, .inl v_child_36)), (q_new_45, .inl (cI, n_children_37, .inl v_children_38))] := hD
      refine W.widen (k := g - g_39) (n := g - g_39) (ca_2 mo hg0) (ca_2 mo hg0) ?_
      exact J_20 _ _ _ _ _ _ _ _ _ _ _ _ _ h.symm q_new_40 q_new_41 q_new_42 q_new_43 q_new_44 q_new_45 _ _ _ hP hD hS (lv_sub hl [0, 1, 2] rfl) hg
  · replace h := pm_neg cb h
    refine lv_iconst (v := (-1 : Int32)) hx hb dX3_add_10 (by decide) ?_
    refine W.widen (k := g - wg) (n := g - wg) (ca_3 hm) (ca_3 hm) ?_
    exact rt_ix (u := (v_count, n_cells, v_cells, n_ahead, v_ahead, n_proof, v_proof, n_disproof, v_disproof, n_child, v_child, n_children, v_children, g)) (q_cells, q_ahead, q_proof, q_disproof, q_child, q_children) hQ hx hb hr hlk h hP hD hS dX3_add_11
