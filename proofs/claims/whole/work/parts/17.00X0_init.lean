abbrev rm_X0_init (g wg : Nat) : Room := { frames := 1, cells := g - wg, slots := g - wg, locals := 22 }
set_option maxHeartbeats 4000000 in
set_option maxRecDepth 100000 in
theorem c_X0_init (l : Launch) (D : va_G) (cI cB cZ : ClassId) (tX tY : Nat) (q_this : Nat) (x1 : Int32) (g : Nat) (F : Nat) {w0 : Int32} {w1 : Nat} {w2 : Nat → Int32} {w3 : Nat} {w4 : Nat → Int32} {w5 : Nat} {w6 : Nat → Int32} {w7 : Nat} {w8 : Nat → Int32} {w9 : Nat} {w10 : Nat → Int32} {wg : Nat} (h : pm_X0_init F g x1 = some (w0, w1, w2, w3, w4, w5, w6, w7, w8, w9, w10, wg)) : MVX (some (tX, tY)) l yX0_init cX0_init 7 none (rm_X0_init g wg) [.ref q_this, .int x1] D cI cB cZ [(q_this, .inr (0, [.int (0 : Int32), .null, .null, .null, .null, .null]))] (fun (u : Int32 × Nat × (Nat → Int32) × Nat × (Nat → Int32) × Nat × (Nat → Int32) × Nat × (Nat → Int32) × Nat × (Nat → Int32) × Nat) (a : Nat × Nat × Nat × Nat × Nat) => [(q_this, .inr (0, [.int u.1, .ref a.1, .ref a.2.1, .ref a.2.2.1, .ref a.2.2.2.1, .ref a.2.2.2.2])), (a.1, .inl (cI, u.2.1, .inl u.2.2.1)), (a.2.1, .inl (cI, u.2.2.2.1, .inl u.2.2.2.2.1)), (a.2.2.1, .inl (cI, u.2.2.2.2.2.1, .inl u.2.2.2.2.2.2.1)), (a.2.2.2.1, .inl (cI, u.2.2.2.2.2.2.2.1, .inl u.2.2.2.2.2.2.2.2.1)), (a.2.2.2.2, .inl (cI, u.2.2.2.2.2.2.2.2.2.1, .inl u.2.2.2.2.2.2.2.2.2.2.1))]) (w0, w1, w2, w3, w4, w5, w6, w7, w8, w9, w10, wg) := by
  refine ent_vx (by decide) (Nat.le_of_ble_eq_true rfl) ?_
  intro p e s m args below meth c A ls Q hQ hx hb hr hml hown hts hlk hnm hK hA hP hD hS hZ hl
  have hl : lv_has ls 7 [(0, .ref q_this), (1, .int x1)] := hl
  have hZ : SA tX tY A s s.heap := hZ
  have hg : g ≤ g := Nat.le_refl g
  have hm : wg ≤ g := mono_X0_init h
  rw [pm_X0_init] at h
  refine W.widen (k := g - g) (n := g - g) (Nat.zero_le _) (Nat.zero_le _) ?_
  refine lv_aload_n hx hb dX0_init_0 rfl (lv_at hl 0 rfl) ?_
  refine W.objInit hx hb hown (hts _ wd_1_31) (hts _ wd_1_18) (hts _ wd_1_19) rfl (hl.1.trans hml.symm) rfl dX0_init_1 (Nat.le_of_ble_eq_true rfl) (Nat.le_of_ble_eq_true rfl) ?_
  refine W.eq (g2 := F0 m 4 ls []) rfl ?_
  refine lv_iload_n hx hb dX0_init_4 rfl (lv_at hl 1 rfl) ?_
  refine lv_iload_n hx hb dX0_init_5 rfl (lv_at hl 1 rfl) ?_
  refine lv_imul hx hb dX0_init_6 ?_
  refine lv_istore_n (lv' := [(2, .int (x1 * x1)), (0, .ref q_this), (1, .int x1)]) hx hb dX0_init_7 rfl hl (by decide) rfl (fun ls hl => ?_)
  refine lv_aload_n hx hb dX0_init_8 rfl (lv_at hl 1 rfl) ?_
  refine lv_iload_n hx hb dX0_init_9 rfl (lv_at hl 2 rfl) ?_
  refine va_putF (D := D) (ci := 0) (v := .int x1) (ty := .int) (C := "HexTable$Board") (T := TX0) (N := 6) hx hb hts inX0 tyX0 tyX0_ok nmX0 hown hK.1 hP hD hS 0 rfl rfl 0 (by decide) (hts _ wd_1_42) (fun _ h9 => h9) rfl hnm rfl (by decide +kernel) rfl rfl (Nat.le_of_ble_eq_true rfl) dX0_init_10 (fun H locs hP hD hS => ?_)
  have hP : va_P D vwCl [(q_this, .inr (0, [.int x1, .null, .null, .null, .null, .null]))] H := hP
  have hD : va_D A [(q_this, .inr (0, [.int x1, .null, .null, .null, .null, .null]))] := hD
  refine lv_aload_n hx hb dX0_init_13 rfl (lv_at hl 1 rfl) ?_
  refine lv_iload_n hx hb dX0_init_14 rfl (lv_at hl 0 rfl) ?_
  obtain ⟨hz, h⟩ := pm_nc h
  obtain ⟨z1, z2⟩ := nb_ok hz
  obtain ⟨g_2, hgs, h⟩ := bd1_s h
  have hg0 := hg
  have hg : g_2 ≤ g := Nat.le_trans (gs_le hgs) hg
  have hm : wg ≤ g_2 := by
    have hle : g_2 ≤ g_2 := Nat.le_refl _
    obtain ⟨hz, h⟩ := pm_nc h
    obtain ⟨z1, z2⟩ := nb_ok hz
    obtain ⟨g_4, hgs, h⟩ := bd1_s h
    have hle := Nat.le_trans (gs_le hgs) hle
    obtain ⟨hz, h⟩ := pm_nc h
    obtain ⟨z1, z2⟩ := nb_ok hz
    obtain ⟨g_6, hgs, h⟩ := bd1_s h
    have hle := Nat.le_trans (gs_le hgs) hle
    obtain ⟨hz, h⟩ := pm_nc h
    obtain ⟨z1, z2⟩ := nb_ok hz
    obtain ⟨g_8, hgs, h⟩ := bd1_s h
    have hle := Nat.le_trans (gs_le hgs) hle
    obtain ⟨hz, h⟩ := pm_nc h
    obtain ⟨z1, z2⟩ := nb_ok hz
    obtain ⟨g_10, hgs, h⟩ := bd1_s h
    have hle := Nat.le_trans (gs_le hgs) hle
    obtain ⟨v_near_11, v_edges_12, hw, h⟩ := bd2_s h
    exact le_last ((Prod.mk.inj ((Prod.mk.inj ((Prod.mk.inj ((Prod.mk.inj ((Prod.mk.inj ((Prod.mk.inj ((Prod.mk.inj ((Prod.mk.inj ((Prod.mk.inj ((Prod.mk.inj ((Prod.mk.inj (Option.some.inj h)).2)).2)).2)).2)).2)).2)).2)).2)).2)).2)).2) hle
  refine nu_newI hx hb hts hK hP hD hS hA z1 z2 (gs_c1 hgs hg0 hm) (gs_c2 hgs hg0 hm) dX0_init_15 (fun q_new_1 H hP hD hS => ?_)
  have hP : va_P D vwCl [(q_this, .inr (0, [.int x1, .null, .null, .null, .null, .null])), (q_new_1, .inl (cI, ((x1 * x1).toNatClampNeg), .inl (fun _ => 0)))] H := hP
  have hD : va_D A [(q_this, .inr (0, [.int x1, .null, .null, .null, .null, .null])), (q_new_1, .inl (cI, ((x1 * x1).toNatClampNeg), .inl (fun _ => 0)))] := hD
  refine W.widen (k := g - g_2) (n := g - g_2) (gs_c1 hgs hg0 (Nat.le_refl _)) (gs_c2 hgs hg0 (Nat.le_refl _)) ?_
  refine va_putF (D := D) (ci := 0) (v := .ref q_new_1) (ty := (tyX0 1)) (C := "HexTable$Board") (T := TX0) (N := 6) hx hb hts inX0 tyX0 tyX0_ok nmX0 hown hK.1 hP hD hS 0 rfl rfl 1 (by decide) (hts _ wd_1_44) (fun _ h9 => h9) rfl hnm rfl (by decide +kernel) rfl rfl (Nat.le_of_ble_eq_true rfl) dX0_init_17 (fun H locs hP hD hS => ?_)
  have hP : va_P D vwCl [(q_this, .inr (0, [.int x1, .ref q_new_1, .null, .null, .null, .null])), (q_new_1, .inl (cI, ((x1 * x1).toNatClampNeg), .inl (fun _ => 0)))] H := hP
  have hD : va_D A [(q_this, .inr (0, [.int x1, .ref q_new_1, .null, .null, .null, .null])), (q_new_1, .inl (cI, ((x1 * x1).toNatClampNeg), .inl (fun _ => 0)))] := hD
  refine lv_aload_n hx hb dX0_init_20 rfl (lv_at hl 1 rfl) ?_
  refine lv_iload_n hx hb dX0_init_21 rfl (lv_at hl 0 rfl) ?_
  refine lv_bipush (v := (6 : Int32)) hx hb dX0_init_22 (by decide) ?_
  refine lv_imul hx hb dX0_init_24 ?_
  obtain ⟨hz, h⟩ := pm_nc h
  obtain ⟨z1, z2⟩ := nb_ok hz
  obtain ⟨g_4, hgs, h⟩ := bd1_s h
  have hg0 := hg
  have hg : g_4 ≤ g := Nat.le_trans (gs_le hgs) hg
  have hm : wg ≤ g_4 := by
    have hle : g_4 ≤ g_4 := Nat.le_refl _
    obtain ⟨hz, h⟩ := pm_nc h
    obtain ⟨z1, z2⟩ := nb_ok hz
    obtain ⟨g_6, hgs, h⟩ := bd1_s h
    have hle := Nat.le_trans (gs_le hgs) hle
    obtain ⟨hz, h⟩ := pm_nc h
    obtain ⟨z1, z2⟩ := nb_ok hz
    obtain ⟨g_8, hgs, h⟩ := bd1_s h
    have hle := Nat.le_trans (gs_le hgs) hle
    obtain ⟨hz, h⟩ := pm_nc h
    obtain ⟨z1, z2⟩ := nb_ok hz
    obtain ⟨g_10, hgs, h⟩ := bd1_s h
    have hle := Nat.le_trans (gs_le hgs) hle
    obtain ⟨v_near_11, v_edges_12, hw, h⟩ := bd2_s h
    exact le_last ((Prod.mk.inj ((Prod.mk.inj ((Prod.mk.inj ((Prod.mk.inj ((Prod.mk.inj ((Prod.mk.inj ((Prod.mk.inj ((Prod.mk.inj ((Prod.mk.inj ((Prod.mk.inj ((Prod.mk.inj (Option.some.inj h)).2)).2)).2)).2)).2)).2)).2)).2)).2)).2)).2) hle
  refine nu_newI hx hb hts hK hP hD hS hA z1 z2 (gs_c1 hgs hg0 hm) (gs_c2 hgs hg0 hm) dX0_init_25 (fun q_new_3 H hP hD hS => ?_)
  have hP : va_P D vwCl [(q_this, .inr (0, [.int x1, .ref q_new_1, .null, .null, .null, .null])), (q_new_1, .inl (cI, ((x1 * x1).toNatClampNeg), .inl (fun _ => 0))), (q_new_3, .inl (cI, (((x1 * x1) * (6 : Int32)).toNatClampNeg), .inl (fun _ => 0)))] H := hP
  have hD : va_D A [(q_this, .inr (0, [.int x1, .ref q_new_1, .null, .null, .null, .null])), (q_new_1, .inl (cI, ((x1 * x1).toNatClampNeg), .inl (fun _ => 0))), (q_new_3, .inl (cI, (((x1 * x1) * (6 : Int32)).toNatClampNeg), .inl (fun _ => 0)))] := hD
  refine W.widen (k := g - g_4) (n := g - g_4) (gs_c1 hgs hg0 (Nat.le_refl _)) (gs_c2 hgs hg0 (Nat.le_refl _)) ?_
  refine va_putF (D := D) (ci := 0) (v := .ref q_new_3) (ty := (tyX0 2)) (C := "HexTable$Board") (T := TX0) (N := 6) hx hb hts inX0 tyX0 tyX0_ok nmX0 hown hK.1 hP hD hS 0 rfl rfl 2 (by decide) (hts _ wd_1_47) (fun _ h9 => h9) rfl hnm rfl (by decide +kernel) rfl rfl (Nat.le_of_ble_eq_true rfl) dX0_init_27 (fun H locs hP hD hS => ?_)
  have hP : va_P D vwCl [(q_this, .inr (0, [.int x1, .ref q_new_1, .ref q_new_3, .null, .null, .null])), (q_new_1, .inl (cI, ((x1 * x1).toNatClampNeg), .inl (fun _ => 0))), (q_new_3, .inl (cI, (((x1 * x1) * (6 : Int32)).toNatClampNeg), .inl (fun _ => 0)))] H := hP
  have hD : va_D A [(q_this, .inr (0, [.int x1, .ref q_new_1, .ref q_new_3, .null, .null, .null])), (q_new_1, .inl (cI, ((x1 * x1).toNatClampNeg), .inl (fun _ => 0))), (q_new_3, .inl (cI, (((x1 * x1) * (6 : Int32)).toNatClampNeg), .inl (fun _ => 0)))] := hD
  refine lv_aload_n hx hb dX0_init_30 rfl (lv_at hl 1 rfl) ?_
  refine lv_iload_n hx hb dX0_init_31 rfl (lv_at hl 0 rfl) ?_
  obtain ⟨hz, h⟩ := pm_nc h
  obtain ⟨z1, z2⟩ := nb_ok hz
  obtain ⟨g_6, hgs, h⟩ := bd1_s h
  have hg0 := hg
  have hg : g_6 ≤ g := Nat.le_trans (gs_le hgs) hg
  have hm : wg ≤ g_6 := by
    have hle : g_6 ≤ g_6 := Nat.le_refl _
    obtain ⟨hz, h⟩ := pm_nc h
    obtain ⟨z1, z2⟩ := nb_ok hz
    obtain ⟨g_8, hgs, h⟩ := bd1_s h
    have hle := Nat.le_trans (gs_le hgs) hle
    obtain ⟨hz, h⟩ := pm_nc h
    obtain ⟨z1, z2⟩ := nb_ok hz
    obtain ⟨g_10, hgs, h⟩ := bd1_s h
    have hle := Nat.le_trans (gs_le hgs) hle
    obtain ⟨v_near_11, v_edges_12, hw, h⟩ := bd2_s h
    exact le_last ((Prod.mk.inj ((Prod.mk.inj ((Prod.mk.inj ((Prod.mk.inj ((Prod.mk.inj ((Prod.mk.inj ((Prod.mk.inj ((Prod.mk.inj ((Prod.mk.inj ((Prod.mk.inj ((Prod.mk.inj (Option.some.inj h)).2)).2)).2)).2)).2)).2)).2)).2)).2)).2)).2) hle
  refine nu_newI hx hb hts hK hP hD hS hA z1 z2 (gs_c1 hgs hg0 hm) (gs_c2 hgs hg0 hm) dX0_init_32 (fun q_new_5 H hP hD hS => ?_)
  have hP : va_P D vwCl [(q_this, .inr (0, [.int x1, .ref q_new_1, .ref q_new_3, .null, .null, .null])), (q_new_1, .inl (cI, ((x1 * x1).toNatClampNeg), .inl (fun _ => 0))), (q_new_3, .inl (cI, (((x1 * x1) * (6 : Int32)).toNatClampNeg), .inl (fun _ => 0))), (q_new_5, .inl (cI, ((x1 * x1).toNatClampNeg), .inl (fun _ => 0)))] H := hP
  have hD : va_D A [(q_this, .inr (0, [.int x1, .ref q_new_1, .ref q_new_3, .null, .null, .null])), (q_new_1, .inl (cI, ((x1 * x1).toNatClampNeg), .inl (fun _ => 0))), (q_new_3, .inl (cI, (((x1 * x1) * (6 : Int32)).toNatClampNeg), .inl (fun _ => 0))), (q_new_5, .inl (cI, ((x1 * x1).toNatClampNeg), .inl (fun _ => 0)))] := hD
  refine W.widen (k := g - g_6) (n := g - g_6) (gs_c1 hgs hg0 (Nat.le_refl _)) (gs_c2 hgs hg0 (Nat.le_refl _)) ?_
  refine va_putF (D := D) (ci := 0) (v := .ref q_new_5) (ty := (tyX0 3)) (C := "HexTable$Board") (T := TX0) (N := 6) hx hb hts inX0 tyX0 tyX0_ok nmX0 hown hK.1 hP hD hS 0 rfl rfl 3 (by decide) (hts _ wd_1_48) (fun _ h9 => h9) rfl hnm rfl (by decide +kernel) rfl rfl (Nat.le_of_ble_eq_true rfl) dX0_init_34 (fun H locs hP hD hS => ?_)
  have hP : va_P D vwCl [(q_this, .inr (0, [.int x1, .ref q_new_1, .ref q_new_3, .ref q_new_5, .null, .null])), (q_new_1, .inl (cI, ((x1 * x1).toNatClampNeg), .inl (fun _ => 0))), (q_new_3, .inl (cI, (((x1 * x1) * (6 : Int32)).toNatClampNeg), .inl (fun _ => 0))), (q_new_5, .inl (cI, ((x1 * x1).toNatClampNeg), .inl (fun _ => 0)))] H := hP
  have hD : va_D A [(q_this, .inr (0, [.int x1, .ref q_new_1, .ref q_new_3, .ref q_new_5, .null, .null])), (q_new_1, .inl (cI, ((x1 * x1).toNatClampNeg), .inl (fun _ => 0))), (q_new_3, .inl (cI, (((x1 * x1) * (6 : Int32)).toNatClampNeg), .inl (fun _ => 0))), (q_new_5, .inl (cI, ((x1 * x1).toNatClampNeg), .inl (fun _ => 0)))] := hD
  refine lv_aload_n hx hb dX0_init_37 rfl (lv_at hl 1 rfl) ?_
  refine lv_iload_n hx hb dX0_init_38 rfl (lv_at hl 0 rfl) ?_
  obtain ⟨hz, h⟩ := pm_nc h
  obtain ⟨z1, z2⟩ := nb_ok hz
  obtain ⟨g_8, hgs, h⟩ := bd1_s h
  have hg0 := hg
  have hg : g_8 ≤ g := Nat.le_trans (gs_le hgs) hg
  have hm : wg ≤ g_8 := by
    have hle : g_8 ≤ g_8 := Nat.le_refl _
    obtain ⟨hz, h⟩ := pm_nc h
    obtain ⟨z1, z2⟩ := nb_ok hz
    obtain ⟨g_10, hgs, h⟩ := bd1_s h
    have hle := Nat.le_trans (gs_le hgs) hle
    obtain ⟨v_near_11, v_edges_12, hw, h⟩ := bd2_s h
    exact le_last ((Prod.mk.inj ((Prod.mk.inj ((Prod.mk.inj ((Prod.mk.inj ((Prod.mk.inj ((Prod.mk.inj ((Prod.mk.inj ((Prod.mk.inj ((Prod.mk.inj ((Prod.mk.inj ((Prod.mk.inj (Option.some.inj h)).2)).2)).2)).2)).2)).2)).2)).2)).2)).2)).2) hle
  refine nu_newI hx hb hts hK hP hD hS hA z1 z2 (gs_c1 hgs hg0 hm) (gs_c2 hgs hg0 hm) dX0_init_39 (fun q_new_7 H hP hD hS => ?_)
  have hP : va_P D vwCl [(q_this, .inr (0, [.int x1, .ref q_new_1, .ref q_new_3, .ref q_new_5, .null, .null])), (q_new_1, .inl (cI, ((x1 * x1).toNatClampNeg), .inl (fun _ => 0))), (q_new_3, .inl (cI, (((x1 * x1) * (6 : Int32)).toNatClampNeg), .inl (fun _ => 0))), (q_new_5, .inl (cI, ((x1 * x1).toNatClampNeg), .inl (fun _ => 0))), (q_new_7, .inl (cI, ((x1 * x1).toNatClampNeg), .inl (fun _ => 0)))] H := hP
  have hD : va_D A [(q_this, .inr (0, [.int x1, .ref q_new_1, .ref q_new_3, .ref q_new_5, .null, .null])), (q_new_1, .inl (cI, ((x1 * x1).toNatClampNeg), .inl (fun _ => 0))), (q_new_3, .inl (cI, (((x1 * x1) * (6 : Int32)).toNatClampNeg), .inl (fun _ => 0))), (q_new_5, .inl (cI, ((x1 * x1).toNatClampNeg), .inl (fun _ => 0))), (q_new_7, .inl (cI, ((x1 * x1).toNatClampNeg), .inl (fun _ => 0)))] := hD
  refine W.widen (k := g - g_8) (n := g - g_8) (gs_c1 hgs hg0 (Nat.le_refl _)) (gs_c2 hgs hg0 (Nat.le_refl _)) ?_
  refine va_putF (D := D) (ci := 0) (v := .ref q_new_7) (ty := (tyX0 4)) (C := "HexTable$Board") (T := TX0) (N := 6) hx hb hts inX0 tyX0 tyX0_ok nmX0 hown hK.1 hP hD hS 0 rfl rfl 4 (by decide) (hts _ wd_1_49) (fun _ h9 => h9) rfl hnm rfl (by decide +kernel) rfl rfl (Nat.le_of_ble_eq_true rfl) dX0_init_41 (fun H locs hP hD hS => ?_)
  have hP : va_P D vwCl [(q_this, .inr (0, [.int x1, .ref q_new_1, .ref q_new_3, .ref q_new_5, .ref q_new_7, .null])), (q_new_1, .inl (cI, ((x1 * x1).toNatClampNeg), .inl (fun _ => 0))), (q_new_3, .inl (cI, (((x1 * x1) * (6 : Int32)).toNatClampNeg), .inl (fun _ => 0))), (q_new_5, .inl (cI, ((x1 * x1).toNatClampNeg), .inl (fun _ => 0))), (q_new_7, .inl (cI, ((x1 * x1).toNatClampNeg), .inl (fun _ => 0)))] H := hP
  have hD : va_D A [(q_this, .inr (0, [.int x1, .ref q_new_1, .ref q_new_3, .ref q_new_5, .ref q_new_7, .null])), (q_new_1, .inl (cI, ((x1 * x1).toNatClampNeg), .inl (fun _ => 0))), (q_new_3, .inl (cI, (((x1 * x1) * (6 : Int32)).toNatClampNeg), .inl (fun _ => 0))), (q_new_5, .inl (cI, ((x1 * x1).toNatClampNeg), .inl (fun _ => 0))), (q_new_7, .inl (cI, ((x1 * x1).toNatClampNeg), .inl (fun _ => 0)))] := hD
  refine lv_aload_n hx hb dX0_init_44 rfl (lv_at hl 1 rfl) ?_
  refine lv_iload_n hx hb dX0_init_45 rfl (lv_at hl 0 rfl) ?_
  obtain ⟨hz, h⟩ := pm_nc h
  obtain ⟨z1, z2⟩ := nb_ok hz
  obtain ⟨g_10, hgs, h⟩ := bd1_s h
  have hg0 := hg
  have hg : g_10 ≤ g := Nat.le_trans (gs_le hgs) hg
  have hm : wg ≤ g_10 := by
    have hle : g_10 ≤ g_10 := Nat.le_refl _
    obtain ⟨v_near_11, v_edges_12, hw, h⟩ := bd2_s h
    exact le_last ((Prod.mk.inj ((Prod.mk.inj ((Prod.mk.inj ((Prod.mk.inj ((Prod.mk.inj ((Prod.mk.inj ((Prod.mk.inj ((Prod.mk.inj ((Prod.mk.inj ((Prod.mk.inj ((Prod.mk.inj (Option.some.inj h)).2)).2)).2)).2)).2)).2)).2)).2)).2)).2)).2) hle
  refine nu_newI hx hb hts hK hP hD hS hA z1 z2 (gs_c1 hgs hg0 hm) (gs_c2 hgs hg0 hm) dX0_init_46 (fun q_new_9 H hP hD hS => ?_)
  have hP : va_P D vwCl [(q_this, .inr (0, [.int x1, .ref q_new_1, .ref q_new_3, .ref q_new_5, .ref q_new_7, .null])), (q_new_1, .inl (cI, ((x1 * x1).toNatClampNeg), .inl (fun _ => 0))), (q_new_3, .inl (cI, (((x1 * x1) * (6 : Int32)).toNatClampNeg), .inl (fun _ => 0))), (q_new_5, .inl (cI, ((x1 * x1).toNatClampNeg), .inl (fun _ => 0))), (q_new_7, .inl (cI, ((x1 * x1).toNatClampNeg), .inl (fun _ => 0))), (q_new_9, .inl (cI, ((x1 * x1).toNatClampNeg), .inl (fun _ => 0)))] H := hP
  have hD : va_D A [(q_this, .inr (0, [.int x1, .ref q_new_1, .ref q_new_3, .ref q_new_5, .ref q_new_7, .null])), (q_new_1, .inl (cI, ((x1 * x1).toNatClampNeg), .inl (fun _ => 0))), (q_new_3, .inl (cI, (((x1 * x1) * (6 : Int32)).toNatClampNeg), .inl (fun _ => 0))), (q_new_5, .inl (cI, ((x1 * x1).toNatClampNeg), .inl (fun _ => 0))), (q_new_7, .inl (cI, ((x1 * x1).toNatClampNeg), .inl (fun _ => 0))), (q_new_9, .inl (cI, ((x1 * x1).toNatClampNeg), .inl (fun _ => 0)))] := hD
  refine W.widen (k := g - g_10) (n := g - g_10) (gs_c1 hgs hg0 (Nat.le_refl _)) (gs_c2 hgs hg0 (Nat.le_refl _)) ?_
  refine va_putF (D := D) (ci := 0) (v := .ref q_new_9) (ty := (tyX0 5)) (C := "HexTable$Board") (T := TX0) (N := 6) hx hb hts inX0 tyX0 tyX0_ok nmX0 hown hK.1 hP hD hS 0 rfl rfl 5 (by decide) (hts _ wd_1_50) (fun _ h9 => h9) rfl hnm rfl (by decide +kernel) rfl rfl (Nat.le_of_ble_eq_true rfl) dX0_init_48 (fun H locs hP hD hS => ?_)
  have hP : va_P D vwCl [(q_this, .inr (0, [.int x1, .ref q_new_1, .ref q_new_3, .ref q_new_5, .ref q_new_7, .ref q_new_9])), (q_new_1, .inl (cI, ((x1 * x1).toNatClampNeg), .inl (fun _ => 0))), (q_new_3, .inl (cI, (((x1 * x1) * (6 : Int32)).toNatClampNeg), .inl (fun _ => 0))), (q_new_5, .inl (cI, ((x1 * x1).toNatClampNeg), .inl (fun _ => 0))), (q_new_7, .inl (cI, ((x1 * x1).toNatClampNeg), .inl (fun _ => 0))), (q_new_9, .inl (cI, ((x1 * x1).toNatClampNeg), .inl (fun _ => 0)))] H := hP
  have hD : va_D A [(q_this, .inr (0, [.int x1, .ref q_new_1, .ref q_new_3, .ref q_new_5, .ref q_new_7, .ref q_new_9])), (q_new_1, .inl (cI, ((x1 * x1).toNatClampNeg), .inl (fun _ => 0))), (q_new_3, .inl (cI, (((x1 * x1) * (6 : Int32)).toNatClampNeg), .inl (fun _ => 0))), (q_new_5, .inl (cI, ((x1 * x1).toNatClampNeg), .inl (fun _ => 0))), (q_new_7, .inl (cI, ((x1 * x1).toNatClampNeg), .inl (fun _ => 0))), (q_new_9, .inl (cI, ((x1 * x1).toNatClampNeg), .inl (fun _ => 0)))] := hD
  refine lv_iconst (v := (0 : Int32)) hx hb dX0_init_51 (by decide) ?_
  refine lv_istore_n (lv' := [(3, .int (0 : Int32)), (2, .int (x1 * x1)), (0, .ref q_this), (1, .int x1)]) hx hb dX0_init_52 rfl hl (by decide) rfl (fun ls hl => ?_)
  obtain ⟨v_near_11, v_edges_12, hw, h⟩ := bd2_s h
  have J_13 : ∀ (y1 : Nat → Int32) (y2 : Nat → Int32), some (v_near_11, v_edges_12) = some (y1, y2) → ∀ (H : Heap) (locs : List Loc) (ls : Array Slot), va_P D vwCl [(q_this, .inr (0, [.int x1, .ref q_new_1, .ref q_new_3, .ref q_new_5, .ref q_new_7, .ref q_new_9])), (q_new_1, .inl (cI, ((x1 * x1).toNatClampNeg), .inl (fun _ => 0))), (q_new_3, .inl (cI, (((x1 * x1) * (6 : Int32)).toNatClampNeg), .inl y1)), (q_new_5, .inl (cI, ((x1 * x1).toNatClampNeg), .inl y2)), (q_new_7, .inl (cI, ((x1 * x1).toNatClampNeg), .inl (fun _ => 0))), (q_new_9, .inl (cI, ((x1 * x1).toNatClampNeg), .inl (fun _ => 0)))] H → va_D A [(q_this, .inr (0, [.int x1, .ref q_new_1, .ref q_new_3, .ref q_new_5, .ref q_new_7, .ref q_new_9])), (q_new_1, .inl (cI, ((x1 * x1).toNatClampNeg), .inl (fun _ => 0))), (q_new_3, .inl (cI, (((x1 * x1) * (6 : Int32)).toNatClampNeg), .inl y1)), (q_new_5, .inl (cI, ((x1 * x1).toNatClampNeg), .inl y2)), (q_new_7, .inl (cI, ((x1 * x1).toNatClampNeg), .inl (fun _ => 0))), (q_new_9, .inl (cI, ((x1 * x1).toNatClampNeg), .inl (fun _ => 0)))] → va_S A s.heap H locs → lv_has ls 7 [] → g_10 ≤ g → W p l e (rm_X0_init g wg) s m args below meth c H locs (g - g_10) (g - g_10) Q (F0 m 158 ls []) := by
    intro y1 y2 hy
    cases hy
    intro H locs ls hP hD hS hl hg
    refine W.widen (k := g - wg) (n := g - wg) (ca_3 hm) (ca_3 hm) ?_
    exact rt_vx (u := (x1, (x1 * x1).toNatClampNeg, (fun _ => 0), ((x1 * x1) * (6 : Int32)).toNatClampNeg, v_near_11, (x1 * x1).toNatClampNeg, v_edges_12, (x1 * x1).toNatClampNeg, (fun _ => 0), (x1 * x1).toNatClampNeg, (fun _ => 0), g_10)) (q_new_1, q_new_3, q_new_5, q_new_7, q_new_9) hQ hx hb hr hlk h hP hD hS dX0_init_158
  replace h := hw
  have L : ∀ (k : Nat) (x3_14 : Int32) (v_near_15 : Nat → Int32) (v_edges_16 : Nat → Int32) (H : Heap) (locs : List Loc) (ls : Array Slot), va_P D vwCl [(q_this, .inr (0, [.int x1, .ref q_new_1, .ref q_new_3, .ref q_new_5, .ref q_new_7, .ref q_new_9])), (q_new_1, .inl (cI, ((x1 * x1).toNatClampNeg), .inl (fun _ => 0))), (q_new_3, .inl (cI, (((x1 * x1) * (6 : Int32)).toNatClampNeg), .inl v_near_15)), (q_new_5, .inl (cI, ((x1 * x1).toNatClampNeg), .inl v_edges_16)), (q_new_7, .inl (cI, ((x1 * x1).toNatClampNeg), .inl (fun _ => 0))), (q_new_9, .inl (cI, ((x1 * x1).toNatClampNeg), .inl (fun _ => 0)))] H → va_D A [(q_this, .inr (0, [.int x1, .ref q_new_1, .ref q_new_3, .ref q_new_5, .ref q_new_7, .ref q_new_9])), (q_new_1, .inl (cI, ((x1 * x1).toNatClampNeg), .inl (fun _ => 0))), (q_new_3, .inl (cI, (((x1 * x1) * (6 : Int32)).toNatClampNeg), .inl v_near_15)), (q_new_5, .inl (cI, ((x1 * x1).toNatClampNeg), .inl v_edges_16)), (q_new_7, .inl (cI, ((x1 * x1).toNatClampNeg), .inl (fun _ => 0))), (q_new_9, .inl (cI, ((x1 * x1).toNatClampNeg), .inl (fun _ => 0)))] → va_S A s.heap H locs → lv_has ls 7 [(0, .ref q_this), (1, .int x1), (3, .int x3_14)] → g_10 ≤ g → pm_X0_init_L53 F x1 k x3_14 v_near_15 v_edges_16 = some (v_near_11, v_edges_12) → W p l e (rm_X0_init g wg) s m args below meth c H locs (g - g_10) (g - g_10) Q (F0 m 53 ls []) := by
    intro k
    induction k with
    | zero =>
      intro x3_14 v_near_15 v_edges_16 H locs ls hP hD hS hl hg h
      rw [pm_X0_init_L53] at h
      cases h
    | succ k ih =>
      intro x3_14 v_near_15 v_edges_16 H locs ls hP hD hS hl hg h
      rw [pm_X0_init_L53] at h
      refine lv_iload_n hx hb dX0_init_53 rfl (lv_at hl 2 rfl) ?_
      refine lv_iload_n hx hb dX0_init_54 rfl (lv_at hl 1 rfl) ?_
      refine lv_icmp_ge (tgt := 158) hx hb dX0_init_55 (by decide) (fun cb => ?_) (fun cb => ?_)
      · replace h := pm_pos cb h
        exact J_13 _ _ h.symm _ _ _ hP hD hS (lv_sub hl [] rfl) hg
      · replace h := pm_neg cb h
        refine lv_iconst (v := (0 : Int32)) hx hb dX0_init_58 (by decide) ?_
        refine lv_istore (lv' := [(4, .int (0 : Int32)), (0, .ref q_this), (1, .int x1), (3, .int x3_14)]) hx hb dX0_init_59 hl (by decide) rfl (fun ls hl => ?_)
        obtain ⟨v_near_17, v_edges_18, hw, h⟩ := bd2_s h
        have J_19 : ∀ (y1 : Nat → Int32) (y2 : Nat → Int32), some (v_near_17, v_edges_18) = some (y1, y2) → ∀ (H : Heap) (locs : List Loc) (ls : Array Slot), va_P D vwCl [(q_this, .inr (0, [.int x1, .ref q_new_1, .ref q_new_3, .ref q_new_5, .ref q_new_7, .ref q_new_9])), (q_new_1, .inl (cI, ((x1 * x1).toNatClampNeg), .inl (fun _ => 0))), (q_new_3, .inl (cI, (((x1 * x1) * (6 : Int32)).toNatClampNeg), .inl y1)), (q_new_5, .inl (cI, ((x1 * x1).toNatClampNeg), .inl y2)), (q_new_7, .inl (cI, ((x1 * x1).toNatClampNeg), .inl (fun _ => 0))), (q_new_9, .inl (cI, ((x1 * x1).toNatClampNeg), .inl (fun _ => 0)))] H → va_D A [(q_this, .inr (0, [.int x1, .ref q_new_1, .ref q_new_3, .ref q_new_5, .ref q_new_7, .ref q_new_9])), (q_new_1, .inl (cI, ((x1 * x1).toNatClampNeg), .inl (fun _ => 0))), (q_new_3, .inl (cI, (((x1 * x1) * (6 : Int32)).toNatClampNeg), .inl y1)), (q_new_5, .inl (cI, ((x1 * x1).toNatClampNeg), .inl y2)), (q_new_7, .inl (cI, ((x1 * x1).toNatClampNeg), .inl (fun _ => 0))), (q_new_9, .inl (cI, ((x1 * x1).toNatClampNeg), .inl (fun _ => 0)))] → va_S A s.heap H locs → lv_has ls 7 [(0, .ref q_this), (1, .int x1), (3, .int x3_14)] → g_10 ≤ g → W p l e (rm_X0_init g wg) s m args below meth c H locs (g - g_10) (g - g_10) Q (F0 m 152 ls []) := by
          intro y1 y2 hy
          cases hy
          intro H locs ls hP hD hS hl hg
          refine lv_iinc (v := x3_14 + (1 : Int32)) (lv' := [(3, .int (x3_14 + (1 : Int32))), (0, .ref q_this), (1, .int x1)]) hx hb dX0_init_152 hl (k := 2) rfl rfl (by decide) rfl (fun ls hl => ?_)
          refine lv_goto (tgt := 53) hx hb dX0_init_155 (by decide) ?_
          exact ih (x3_14 + (1 : Int32)) v_near_17 v_edges_18 _ _ _ hP hD hS (lv_sub hl [1, 2, 0] rfl) hg h
        replace h := hw
        have L : ∀ (k : Nat) (x4_20 : Int32) (v_near_21 : Nat → Int32) (v_edges_22 : Nat → Int32) (H : Heap) (locs : List Loc) (ls : Array Slot), va_P D vwCl [(q_this, .inr (0, [.int x1, .ref q_new_1, .ref q_new_3, .ref q_new_5, .ref q_new_7, .ref q_new_9])), (q_new_1, .inl (cI, ((x1 * x1).toNatClampNeg), .inl (fun _ => 0))), (q_new_3, .inl (cI, (((x1 * x1) * (6 : Int32)).toNatClampNeg), .inl v_near_21)), (q_new_5, .inl (cI, ((x1 * x1).toNatClampNeg), .inl v_edges_22)), (q_new_7, .inl (cI, ((x1 * x1).toNatClampNeg), .inl (fun _ => 0))), (q_new_9, .inl (cI, ((x1 * x1).toNatClampNeg), .inl (fun _ => 0)))] H → va_D A [(q_this, .inr (0, [.int x1, .ref q_new_1, .ref q_new_3, .ref q_new_5, .ref q_new_7, .ref q_new_9])), (q_new_1, .inl (cI, ((x1 * x1).toNatClampNeg), .inl (fun _ => 0))), (q_new_3, .inl (cI, (((x1 * x1) * (6 : Int32)).toNatClampNeg), .inl v_near_21)), (q_new_5, .inl (cI, ((x1 * x1).toNatClampNeg), .inl v_edges_22)), (q_new_7, .inl (cI, ((x1 * x1).toNatClampNeg), .inl (fun _ => 0))), (q_new_9, .inl (cI, ((x1 * x1).toNatClampNeg), .inl (fun _ => 0)))] → va_S A s.heap H locs → lv_has ls 7 [(0, .ref q_this), (1, .int x1), (3, .int x3_14), (4, .int x4_20)] → g_10 ≤ g → pm_X0_init_L61 F x1 x3_14 k x4_20 v_near_21 v_edges_22 = some (v_near_17, v_edges_18) → W p l e (rm_X0_init g wg) s m args below meth c H locs (g - g_10) (g - g_10) Q (F0 m 61 ls []) := by
          intro k
          induction k with
          | zero =>
            intro x4_20 v_near_21 v_edges_22 H locs ls hP hD hS hl hg h
            rw [pm_X0_init_L61] at h
            cases h
          | succ k ih =>
            intro x4_20 v_near_21 v_edges_22 H locs ls hP hD hS hl hg h
            rw [pm_X0_init_L61] at h
            refine lv_iload hx hb dX0_init_61 (lv_at hl 3 rfl) ?_
            refine lv_iload_n hx hb dX0_init_63 rfl (lv_at hl 1 rfl) ?_
            refine lv_icmp_ge (tgt := 152) hx hb dX0_init_64 (by decide) (fun cb => ?_) (fun cb => ?_)
            · replace h := pm_pos cb h
              exact J_19 _ _ h.symm _ _ _ hP hD hS (lv_sub hl [0, 1, 2] rfl) hg
            · replace h := pm_neg cb h
              refine lv_iload_n hx hb dX0_init_67 rfl (lv_at hl 1 rfl) ?_
              refine lv_iload_n hx hb dX0_init_68 rfl (lv_at hl 2 rfl) ?_
              refine lv_imul hx hb dX0_init_69 ?_
              refine lv_iload hx hb dX0_init_70 (lv_at hl 3 rfl) ?_
              refine lv_iadd hx hb dX0_init_72 ?_
              refine lv_istore (lv' := [(5, .int ((x1 * x3_14) + x4_20)), (0, .ref q_this), (1, .int x1), (3, .int x3_14), (4, .int x4_20)]) hx hb dX0_init_73 hl (by decide) rfl (fun ls hl => ?_)
              refine lv_aload_n hx hb dX0_init_75 rfl (lv_at hl 1 rfl) ?_
              refine va_get (D := D) (ci := 0) (v := .ref q_new_5) (C := "HexTable$Board") (T := TX0) (N := 6) hx hb hts inX0 hown hK.1 hP 0 rfl rfl 3 (by decide) (hts _ wd_1_48) (fun _ h9 => h9) rfl dX0_init_76 ?_
              refine lv_iload hx hb dX0_init_79 (lv_at hl 0 rfl) ?_
              refine lv_iload_n hx hb dX0_init_81 rfl (lv_at hl 3 rfl) ?_
              refine lv_iload_n hx hb dX0_init_82 rfl (lv_at hl 2 rfl) ?_
              obtain ⟨r_23, hc, h⟩ := bd1_s h
              refine aft_i (wr := [(q_this, .inr (0, [.int x1, .ref q_new_1, .ref q_new_3, .ref q_new_5, .ref q_new_7, .ref q_new_9])), (q_new_1, .inl (cI, ((x1 * x1).toNatClampNeg), .inl (fun _ => 0))), (q_new_3, .inl (cI, (((x1 * x1) * (6 : Int32)).toNatClampNeg), .inl v_near_21)), (q_new_5, .inl (cI, ((x1 * x1).toNatClampNeg), .inl v_edges_22)), (q_new_7, .inl (cI, ((x1 * x1).toNatClampNeg), .inl (fun _ => 0))), (q_new_9, .inl (cI, ((x1 * x1).toNatClampNeg), .inl (fun _ => 0)))]) (wc := []) hP hD hS hA [] [0, 1, 2, 3, 4, 5] rfl rfl (by decide) (by decide) (rn_S (As := [.int x3_14, .int x1]) (rest := [.int ((x1 * x3_14) + x4_20), .ref q_new_5]) (n := 2) hx hb hml hown hts (c_X0_edgeMarks l D cI cB cZ x3_14 x1 F hc _) (pre_S hK hP hD [] rfl (by decide)) wd_1_32 wd_1_33 wd_1_3 wd_1_34 (by decide +kernel) ⟨Nat.le_of_ble_eq_true rfl, Nat.le_of_ble_eq_true rfl⟩ ⟨ca_0 hg hm, ca_0 hg hm⟩ rfl hl.1 rfl (Nat.le_of_ble_eq_true rfl) dX0_init_83) (fun H locs hP hD hS => ?_)
              have hP : va_P D vwCl [(q_this, .inr (0, [.int x1, .ref q_new_1, .ref q_new_3, .ref q_new_5, .ref q_new_7, .ref q_new_9])), (q_new_1, .inl (cI, ((x1 * x1).toNatClampNeg), .inl (fun _ => 0))), (q_new_3, .inl (cI, (((x1 * x1) * (6 : Int32)).toNatClampNeg), .inl v_near_21)), (q_new_5, .inl (cI, ((x1 * x1).toNatClampNeg), .inl v_edges_22)), (q_new_7, .inl (cI, ((x1 * x1).toNatClampNeg), .inl (fun _ => 0))), (q_new_9, .inl (cI, ((x1 * x1).toNatClampNeg), .inl (fun _ => 0)))] H := hP
              have hD : va_D A [(q_this, .inr (0, [.int x1, .ref q_new_1, .ref q_new_3, .ref q_new_5, .ref q_new_7, .ref q_new_9])), (q_new_1, .inl (cI, ((x1 * x1).toNatClampNeg), .inl (fun _ => 0))), (q_new_3, .inl (cI, (((x1 * x1) * (6 : Int32)).toNatClampNeg), .inl v_near_21)), (q_new_5, .inl (cI, ((x1 * x1).toNatClampNeg), .inl v_edges_22)), (q_new_7, .inl (cI, ((x1 * x1).toNatClampNeg), .inl (fun _ => 0))), (q_new_9, .inl (cI, ((x1 * x1).toNatClampNeg), .inl (fun _ => 0)))] := hD
              refine W.widen (k := g - g_10) (n := g - g_10) (Nat.le_refl _) (Nat.le_refl _) ?_
              refine lv_iload hx hb dX0_init_86 (lv_at hl 4 rfl) ?_
              refine lv_iload_n hx hb dX0_init_88 rfl (lv_at hl 2 rfl) ?_
              obtain ⟨r_24, hc, h⟩ := bd1_s h
              refine aft_i (wr := [(q_this, .inr (0, [.int x1, .ref q_new_1, .ref q_new_3, .ref q_new_5, .ref q_new_7, .ref q_new_9])), (q_new_1, .inl (cI, ((x1 * x1).toNatClampNeg), .inl (fun _ => 0))), (q_new_3, .inl (cI, (((x1 * x1) * (6 : Int32)).toNatClampNeg), .inl v_near_21)), (q_new_5, .inl (cI, ((x1 * x1).toNatClampNeg), .inl v_edges_22)), (q_new_7, .inl (cI, ((x1 * x1).toNatClampNeg), .inl (fun _ => 0))), (q_new_9, .inl (cI, ((x1 * x1).toNatClampNeg), .inl (fun _ => 0)))]) (wc := []) hP hD hS hA [] [0, 1, 2, 3, 4, 5] rfl rfl (by decide) (by decide) (rn_S (As := [.int x4_20, .int x1]) (rest := [.int r_23, .int ((x1 * x3_14) + x4_20), .ref q_new_5]) (n := 2) hx hb hml hown hts (c_X0_edgeMarks l D cI cB cZ x4_20 x1 F hc _) (pre_S hK hP hD [] rfl (by decide)) wd_1_32 wd_1_33 wd_1_3 wd_1_34 (by decide +kernel) ⟨Nat.le_of_ble_eq_true rfl, Nat.le_of_ble_eq_true rfl⟩ ⟨ca_0 hg hm, ca_0 hg hm⟩ rfl hl.1 rfl (Nat.le_of_ble_eq_true rfl) dX0_init_89) (fun H locs hP hD hS => ?_)
              have hP : va_P D vwCl [(q_this, .inr (0, [.int x1, .ref q_new_1, .ref q_new_3, .ref q_new_5, .ref q_new_7, .ref q_new_9])), (q_new_1, .inl (cI, ((x1 * x1).toNatClampNeg), .inl (fun _ => 0))), (q_new_3, .inl (cI, (((x1 * x1) * (6 : Int32)).toNatClampNeg), .inl v_near_21)), (q_new_5, .inl (cI, ((x1 * x1).toNatClampNeg), .inl v_edges_22)), (q_new_7, .inl (cI, ((x1 * x1).toNatClampNeg), .inl (fun _ => 0))), (q_new_9, .inl (cI, ((x1 * x1).toNatClampNeg), .inl (fun _ => 0)))] H := hP
              have hD : va_D A [(q_this, .inr (0, [.int x1, .ref q_new_1, .ref q_new_3, .ref q_new_5, .ref q_new_7, .ref q_new_9])), (q_new_1, .inl (cI, ((x1 * x1).toNatClampNeg), .inl (fun _ => 0))), (q_new_3, .inl (cI, (((x1 * x1) * (6 : Int32)).toNatClampNeg), .inl v_near_21)), (q_new_5, .inl (cI, ((x1 * x1).toNatClampNeg), .inl v_edges_22)), (q_new_7, .inl (cI, ((x1 * x1).toNatClampNeg), .inl (fun _ => 0))), (q_new_9, .inl (cI, ((x1 * x1).toNatClampNeg), .inl (fun _ => 0)))] := hD
              refine W.widen (k := g - g_10) (n := g - g_10) (Nat.le_refl _) (Nat.le_refl _) ?_
              refine lv_iconst (v := (2 : Int32)) hx hb dX0_init_92 (by decide) ?_
              refine lv_ishl hx hb dX0_init_93 ?_
              refine lv_ior hx hb dX0_init_94 ?_
              obtain ⟨b_25, h⟩ := pm_in h
              refine va_iast hx hb hK.1 hP hD hS 3 0 rfl rfl b_25 dX0_init_95 (fun H locs hP hD hS => ?_)
              have hP : va_P D vwCl [(q_this, .inr (0, [.int x1, .ref q_new_1, .ref q_new_3, .ref q_new_5, .ref q_new_7, .ref q_new_9])), (q_new_1, .inl (cI, ((x1 * x1).toNatClampNeg), .inl (fun _ => 0))), (q_new_3, .inl (cI, (((x1 * x1) * (6 : Int32)).toNatClampNeg), .inl v_near_21)), (q_new_5, .inl (cI, ((x1 * x1).toNatClampNeg), .inl (upd v_edges_22 ((x1 * x3_14) + x4_20).toNatClampNeg (r_23 ||| (r_24 <<< ((2 : Int32) &&& 31)))))), (q_new_7, .inl (cI, ((x1 * x1).toNatClampNeg), .inl (fun _ => 0))), (q_new_9, .inl (cI, ((x1 * x1).toNatClampNeg), .inl (fun _ => 0)))] H := hP
              have hD : va_D A [(q_this, .inr (0, [.int x1, .ref q_new_1, .ref q_new_3, .ref q_new_5, .ref q_new_7, .ref q_new_9])), (q_new_1, .inl (cI, ((x1 * x1).toNatClampNeg), .inl (fun _ => 0))), (q_new_3, .inl (cI, (((x1 * x1) * (6 : Int32)).toNatClampNeg), .inl v_near_21)), (q_new_5, .inl (cI, ((x1 * x1).toNatClampNeg), .inl (upd v_edges_22 ((x1 * x3_14) + x4_20).toNatClampNeg (r_23 ||| (r_24 <<< ((2 : Int32) &&& 31)))))), (q_new_7, .inl (cI, ((x1 * x1).toNatClampNeg), .inl (fun _ => 0))), (q_new_9, .inl (cI, ((x1 * x1).toNatClampNeg), .inl (fun _ => 0)))] := hD
              refine lv_iconst (v := (0 : Int32)) hx hb dX0_init_96 (by decide) ?_
              refine lv_istore (lv' := [(6, .int (0 : Int32)), (5, .int ((x1 * x3_14) + x4_20)), (0, .ref q_this), (1, .int x1), (3, .int x3_14), (4, .int x4_20)]) hx hb dX0_init_97 hl (by decide) rfl (fun ls hl => ?_)
              obtain ⟨v_near_26, hw, h⟩ := bd1_s h
              have J_27 : ∀ (y1 : Nat → Int32), some v_near_26 = some y1 → ∀ (H : Heap) (locs : List Loc) (ls : Array Slot), va_P D vwCl [(q_this, .inr (0, [.int x1, .ref q_new_1, .ref q_new_3, .ref q_new_5, .ref q_new_7, .ref q_new_9])), (q_new_1, .inl (cI, ((x1 * x1).toNatClampNeg), .inl (fun _ => 0))), (q_new_3, .inl (cI, (((x1 * x1) * (6 : Int32)).toNatClampNeg), .inl y1)), (q_new_5, .inl (cI, ((x1 * x1).toNatClampNeg), .inl (upd v_edges_22 ((x1 * x3_14) + x4_20).toNatClampNeg (r_23 ||| (r_24 <<< ((2 : Int32) &&& 31)))))), (q_new_7, .inl (cI, ((x1 * x1).toNatClampNeg), .inl (fun _ => 0))), (q_new_9, .inl (cI, ((x1 * x1).toNatClampNeg), .inl (fun _ => 0)))] H → va_D A [(q_this, .inr (0, [.int x1, .ref q_new_1, .ref q_new_3, .ref q_new_5, .ref q_new_7, .ref q_new_9])), (q_new_1, .inl (cI, ((x1 * x1).toNatClampNeg), .inl (fun _ => 0))), (q_new_3, .inl (cI, (((x1 * x1) * (6 : Int32)).toNatClampNeg), .inl y1)), (q_new_5, .inl (cI, ((x1 * x1).toNatClampNeg), .inl (upd v_edges_22 ((x1 * x3_14) + x4_20).toNatClampNeg (r_23 ||| (r_24 <<< ((2 : Int32) &&& 31)))))), (q_new_7, .inl (cI, ((x1 * x1).toNatClampNeg), .inl (fun _ => 0))), (q_new_9, .inl (cI, ((x1 * x1).toNatClampNeg), .inl (fun _ => 0)))] → va_S A s.heap H locs → lv_has ls 7 [(0, .ref q_this), (1, .int x1), (3, .int x3_14), (4, .int x4_20)] → g_10 ≤ g → W p l e (rm_X0_init g wg) s m args below meth c H locs (g - g_10) (g - g_10) Q (F0 m 146 ls []) := by
                intro y1 hy
                cases hy
                intro H locs ls hP hD hS hl hg
                refine lv_iinc (v := x4_20 + (1 : Int32)) (lv' := [(4, .int (x4_20 + (1 : Int32))), (0, .ref q_this), (1, .int x1), (3, .int x3_14)]) hx hb dX0_init_146 hl (k := 3) rfl rfl (by decide) rfl (fun ls hl => ?_)
                refine lv_goto (tgt := 61) hx hb dX0_init_149 (by decide) ?_
                exact ih (x4_20 + (1 : Int32)) v_near_26 (upd v_edges_22 ((x1 * x3_14) + x4_20).toNatClampNeg (r_23 ||| (r_24 <<< ((2 : Int32) &&& 31)))) _ _ _ hP hD hS (lv_sub hl [1, 2, 3, 0] rfl) hg h
              replace h := hw
              have L : ∀ (k : Nat) (x6_28 : Int32) (v_near_29 : Nat → Int32) (H : Heap) (locs : List Loc) (ls : Array Slot), va_P D vwCl [(q_this, .inr (0, [.int x1, .ref q_new_1, .ref q_new_3, .ref q_new_5, .ref q_new_7, .ref q_new_9])), (q_new_1, .inl (cI, ((x1 * x1).toNatClampNeg), .inl (fun _ => 0))), (q_new_3, .inl (cI, (((x1 * x1) * (6 : Int32)).toNatClampNeg), .inl v_near_29)), (q_new_5, .inl (cI, ((x1 * x1).toNatClampNeg), .inl (upd v_edges_22 ((x1 * x3_14) + x4_20).toNatClampNeg (r_23 ||| (r_24 <<< ((2 : Int32) &&& 31)))))), (q_new_7, .inl (cI, ((x1 * x1).toNatClampNeg), .inl (fun _ => 0))), (q_new_9, .inl (cI, ((x1 * x1).toNatClampNeg), .inl (fun _ => 0)))] H → va_D A [(q_this, .inr (0, [.int x1, .ref q_new_1, .ref q_new_3, .ref q_new_5, .ref q_new_7, .ref q_new_9])), (q_new_1, .inl (cI, ((x1 * x1).toNatClampNeg), .inl (fun _ => 0))), (q_new_3, .inl (cI, (((x1 * x1) * (6 : Int32)).toNatClampNeg), .inl v_near_29)), (q_new_5, .inl (cI, ((x1 * x1).toNatClampNeg), .inl (upd v_edges_22 ((x1 * x3_14) + x4_20).toNatClampNeg (r_23 ||| (r_24 <<< ((2 : Int32) &&& 31)))))), (q_new_7, .inl (cI, ((x1 * x1).toNatClampNeg), .inl (fun _ => 0))), (q_new_9, .inl (cI, ((x1 * x1).toNatClampNeg), .inl (fun _ => 0)))] → va_S A s.heap H locs → lv_has ls 7 [(0, .ref q_this), (1, .int x1), (3, .int x3_14), (4, .int x4_20), (5, .int ((x1 * x3_14) + x4_20)), (6, .int x6_28)] → g_10 ≤ g → pm_X0_init_L99 F x1 x3_14 x4_20 k x6_28 v_near_29 = some v_near_26 → W p l e (rm_X0_init g wg) s m args below meth c H locs (g - g_10) (g - g_10) Q (F0 m 99 ls []) := by
                intro k
                induction k with
                | zero =>
                  intro x6_28 v_near_29 H locs ls hP hD hS hl hg h
                  rw [pm_X0_init_L99] at h
                  cases h
                | succ k ih =>
                  intro x6_28 v_near_29 H locs ls hP hD hS hl hg h
                  rw [pm_X0_init_L99] at h
                  refine lv_iload hx hb dX0_init_99 (lv_at hl 5 rfl) ?_
                  refine lv_bipush (v := (6 : Int32)) hx hb dX0_init_101 (by decide) ?_
                  refine lv_icmp_ge (tgt := 146) hx hb dX0_init_103 (by decide) (fun cb => ?_) (fun cb => ?_)
                  · replace h := pm_pos cb h
                    exact J_27 _ h.symm _ _ _ hP hD hS (lv_sub hl [0, 1, 2, 3] rfl) hg
                  · replace h := pm_neg cb h
                    refine lv_aload_n hx hb dX0_init_106 rfl (lv_at hl 0 rfl) ?_
                    refine va_get (D := D) (ci := 0) (v := .ref q_new_3) (C := "HexTable$Board") (T := TX0) (N := 6) hx hb hts inX0 hown hK.1 hP 0 rfl rfl 2 (by decide) (hts _ wd_1_47) (fun _ h9 => h9) rfl dX0_init_107 ?_
                    refine lv_bipush (v := (6 : Int32)) hx hb dX0_init_110 (by decide) ?_
                    refine lv_iload hx hb dX0_init_112 (lv_at hl 4 rfl) ?_
                    refine lv_imul hx hb dX0_init_114 ?_
                    refine lv_iload hx hb dX0_init_115 (lv_at hl 5 rfl) ?_
                    refine lv_iadd hx hb dX0_init_117 ?_
                    refine lv_iload_n hx hb dX0_init_118 rfl (lv_at hl 1 rfl) ?_
                    refine lv_iload hx hb dX0_init_119 (lv_at hl 3 rfl) ?_
                    refine va_gets hx hb hZ.1 hS hown (hts _ wd_1_35) (fun _ h9 => h9) dX0_init_121 ?_
                    refine lv_iload hx hb dX0_init_124 (lv_at hl 5 rfl) ?_
                    obtain ⟨b_30, h⟩ := pm_in h
                    refine va_ti hx hb hZ.2.1 hS b_30 (v := .int (sAX x6_28.toNatClampNeg)) rfl dX0_init_126 ?_
                    refine lv_iadd hx hb dX0_init_127 ?_
                    refine lv_iload_n hx hb dX0_init_128 rfl (lv_at hl 2 rfl) ?_
                    refine va_gets hx hb hZ.2.2.1 hS hown (hts _ wd_1_37) (fun _ h9 => h9) dX0_init_129 ?_
                    refine lv_iload hx hb dX0_init_132 (lv_at hl 5 rfl) ?_
                    refine va_ti hx hb hZ.2.2.2 hS b_30 (v := .int (sAY x6_28.toNatClampNeg)) rfl dX0_init_134 ?_
                    refine lv_iadd hx hb dX0_init_135 ?_
                    obtain ⟨r_31, hc, h⟩ := bd1_s h
                    refine aft_i (wr := [(q_this, .inr (0, [.int x1, .ref q_new_1, .ref q_new_3, .ref q_new_5, .ref q_new_7, .ref q_new_9])), (q_new_1, .inl (cI, ((x1 * x1).toNatClampNeg), .inl (fun _ => 0))), (q_new_3, .inl (cI, (((x1 * x1) * (6 : Int32)).toNatClampNeg), .inl v_near_29)), (q_new_5, .inl (cI, ((x1 * x1).toNatClampNeg), .inl (upd v_edges_22 ((x1 * x3_14) + x4_20).toNatClampNeg (r_23 ||| (r_24 <<< ((2 : Int32) &&& 31)))))), (q_new_7, .inl (cI, ((x1 * x1).toNatClampNeg), .inl (fun _ => 0))), (q_new_9, .inl (cI, ((x1 * x1).toNatClampNeg), .inl (fun _ => 0)))]) (wc := []) hP hD hS hA [] [0, 1, 2, 3, 4, 5] rfl rfl (by decide) (by decide) (rn_S (As := [.int x1, .int (x4_20 + (sAX x6_28.toNatClampNeg)), .int (x3_14 + (sAY x6_28.toNatClampNeg))]) (rest := [.int (((6 : Int32) * ((x1 * x3_14) + x4_20)) + x6_28), .ref q_new_3]) (n := 3) hx hb hml hown hts (c_X0_numberIn l D cI cB cZ x1 (x4_20 + (sAX x6_28.toNatClampNeg)) (x3_14 + (sAY x6_28.toNatClampNeg)) F hc _) (pre_S hK hP hD [] rfl (by decide)) wd_1_39 wd_1_40 wd_1_3 wd_1_41 (by decide +kernel) ⟨Nat.le_of_ble_eq_true rfl, Nat.le_of_ble_eq_true rfl⟩ ⟨ca_0 hg hm, ca_0 hg hm⟩ rfl hl.1 rfl (Nat.le_of_ble_eq_true rfl) dX0_init_136) (fun H locs hP hD hS => ?_)
                    have hP : va_P D vwCl [(q_this, .inr (0, [.int x1, .ref q_new_1, .ref q_new_3, .ref q_new_5, .ref q_new_7, .ref q_new_9])), (q_new_1, .inl (cI, ((x1 * x1).toNatClampNeg), .inl (fun _ => 0))), (q_new_3, .inl (cI, (((x1 * x1) * (6 : Int32)).toNatClampNeg), .inl v_near_29)), (q_new_5, .inl (cI, ((x1 * x1).toNatClampNeg), .inl (upd v_edges_22 ((x1 * x3_14) + x4_20).toNatClampNeg (r_23 ||| (r_24 <<< ((2 : Int32) &&& 31)))))), (q_new_7, .inl (cI, ((x1 * x1).toNatClampNeg), .inl (fun _ => 0))), (q_new_9, .inl (cI, ((x1 * x1).toNatClampNeg), .inl (fun _ => 0)))] H := hP
                    have hD : va_D A [(q_this, .inr (0, [.int x1, .ref q_new_1, .ref q_new_3, .ref q_new_5, .ref q_new_7, .ref q_new_9])), (q_new_1, .inl (cI, ((x1 * x1).toNatClampNeg), .inl (fun _ => 0))), (q_new_3, .inl (cI, (((x1 * x1) * (6 : Int32)).toNatClampNeg), .inl v_near_29)), (q_new_5, .inl (cI, ((x1 * x1).toNatClampNeg), .inl (upd v_edges_22 ((x1 * x3_14) + x4_20).toNatClampNeg (r_23 ||| (r_24 <<< ((2 : Int32) &&& 31)))))), (q_new_7, .inl (cI, ((x1 * x1).toNatClampNeg), .inl (fun _ => 0))), (q_new_9, .inl (cI, ((x1 * x1).toNatClampNeg), .inl (fun _ => 0)))] := hD
                    refine W.widen (k := g - g_10) (n := g - g_10) (Nat.le_refl _) (Nat.le_refl _) ?_
                    obtain ⟨b_32, h⟩ := pm_in h
                    refine va_iast hx hb hK.1 hP hD hS 2 0 rfl rfl b_32 dX0_init_139 (fun H locs hP hD hS => ?_)
                    have hP : va_P D vwCl [(q_this, .inr (0, [.int x1, .ref q_new_1, .ref q_new_3, .ref q_new_5, .ref q_new_7, .ref q_new_9])), (q_new_1, .inl (cI, ((x1 * x1).toNatClampNeg), .inl (fun _ => 0))), (q_new_3, .inl (cI, (((x1 * x1) * (6 : Int32)).toNatClampNeg), .inl (upd v_near_29 (((6 : Int32) * ((x1 * x3_14) + x4_20)) + x6_28).toNatClampNeg r_31))), (q_new_5, .inl (cI, ((x1 * x1).toNatClampNeg), .inl (upd v_edges_22 ((x1 * x3_14) + x4_20).toNatClampNeg (r_23 ||| (r_24 <<< ((2 : Int32) &&& 31)))))), (q_new_7, .inl (cI, ((x1 * x1).toNatClampNeg), .inl (fun _ => 0))), (q_new_9, .inl (cI, ((x1 * x1).toNatClampNeg), .inl (fun _ => 0)))] H := hP
                    have hD : va_D A [(q_this, .inr (0, [.int x1, .ref q_new_1, .ref q_new_3, .ref q_new_5, .ref q_new_7, .ref q_new_9])), (q_new_1, .inl (cI, ((x1 * x1).toNatClampNeg), .inl (fun _ => 0))), (q_new_3, .inl (cI, (((x1 * x1) * (6 : Int32)).toNatClampNeg), .inl (upd v_near_29 (((6 : Int32) * ((x1 * x3_14) + x4_20)) + x6_28).toNatClampNeg r_31))), (q_new_5, .inl (cI, ((x1 * x1).toNatClampNeg), .inl (upd v_edges_22 ((x1 * x3_14) + x4_20).toNatClampNeg (r_23 ||| (r_24 <<< ((2 : Int32) &&& 31)))))), (q_new_7, .inl (cI, ((x1 * x1).toNatClampNeg), .inl (fun _ => 0))), (q_new_9, .inl (cI, ((x1 * x1).toNatClampNeg), .inl (fun _ => 0)))] := hD
                    refine lv_iinc (v := x6_28 + (1 : Int32)) (lv' := [(6, .int (x6_28 + (1 : Int32))), (0, .ref q_this), (1, .int x1), (3, .int x3_14), (4, .int x4_20), (5, .int ((x1 * x3_14) + x4_20))]) hx hb dX0_init_140 hl (k := 5) rfl rfl (by decide) rfl (fun ls hl => ?_)
                    refine lv_goto (tgt := 99) hx hb dX0_init_143 (by decide) ?_
                    exact ih (x6_28 + (1 : Int32)) (upd v_near_29 (((6 : Int32) * ((x1 * x3_14) + x4_20)) + x6_28).toNatClampNeg r_31) _ _ _ hP hD hS (lv_sub hl [1, 2, 3, 4, 5, 0] rfl) hg h
              exact L F (0 : Int32) v_near_21 _ _ _ hP hD hS (lv_sub hl [2, 3, 4, 5, 1, 0] rfl) hg h
        exact L F (0 : Int32) v_near_15 v_edges_16 _ _ _ hP hD hS (lv_sub hl [1, 2, 3, 0] rfl) hg h
  exact L F (0 : Int32) (fun _ => 0) (fun _ => 0) _ _ _ hP hD hS (lv_sub hl [2, 3, 0] rfl) hg h
