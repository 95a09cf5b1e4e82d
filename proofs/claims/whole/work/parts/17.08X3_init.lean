abbrev rm_X3_init (g wg : Nat) : Room := { frames := 1, cells := g - wg, slots := g - wg, locals := 20 }
set_option maxHeartbeats 4000000 in
set_option maxRecDepth 100000 in
theorem c_X3_init (l : Launch) (D : va_G) (cI cB cZ : ClassId) (q_this : Nat) (g : Nat) (F : Nat) {w0 : Nat} {w1 : Nat → Int32} {w2 : Nat} {w3 : Nat → Int32} {w4 : Nat} {w5 : Nat → Int32} {w6 : Nat} {w7 : Nat → Int32} {w8 : Nat} {w9 : Nat → Int32} {w10 : Nat} {w11 : Nat → Int32} {wg : Nat} (h : pm_X3_init F g = some (w0, w1, w2, w3, w4, w5, w6, w7, w8, w9, w10, w11, wg)) : MVX none l yX3_init cX3_init 1 none (rm_X3_init g wg) [.ref q_this] D cI cB cZ [(q_this, .inr (3, [.null, .null, .null, .null, .null, .null, .int (0 : Int32)]))] (fun (u : Nat × (Nat → Int32) × Nat × (Nat → Int32) × Nat × (Nat → Int32) × Nat × (Nat → Int32) × Nat × (Nat → Int32) × Nat × (Nat → Int32) × Nat) (a : Nat × Nat × Nat × Nat × Nat × Nat) => [(q_this, .inr (3, [.ref a.1, .ref a.2.1, .ref a.2.2.1, .ref a.2.2.2.1, .ref a.2.2.2.2.1, .ref a.2.2.2.2.2, .int (0 : Int32)])), (a.1, .inl (cI, u.1, .inl u.2.1)), (a.2.1, .inl (cI, u.2.2.1, .inl u.2.2.2.1)), (a.2.2.1, .inl (cI, u.2.2.2.2.1, .inl u.2.2.2.2.2.1)), (a.2.2.2.1, .inl (cI, u.2.2.2.2.2.2.1, .inl u.2.2.2.2.2.2.2.1)), (a.2.2.2.2.1, .inl (cI, u.2.2.2.2.2.2.2.2.1, .inl u.2.2.2.2.2.2.2.2.2.1)), (a.2.2.2.2.2, .inl (cI, u.2.2.2.2.2.2.2.2.2.2.1, .inl u.2.2.2.2.2.2.2.2.2.2.2.1))]) (w0, w1, w2, w3, w4, w5, w6, w7, w8, w9, w10, w11, wg) := by
  refine ent_vx (by decide) (Nat.le_of_ble_eq_true rfl) ?_
  intro p e s m args below meth c A ls Q hQ hx hb hr hml hown hts hlk hnm hK hA hP hD hS hZ hl
  have hl : lv_has ls 1 [(0, .ref q_this)] := hl
  have hg : g ≤ g := Nat.le_refl g
  have hm : wg ≤ g := mono_X3_init h
  rw [pm_X3_init] at h
  refine W.widen (k := g - g) (n := g - g) (Nat.zero_le _) (Nat.zero_le _) ?_
  refine lv_aload_n hx hb dX3_init_0 rfl (lv_at hl 0 rfl) ?_
  refine W.objInit hx hb hown (hts _ wd_1_110) (hts _ wd_1_18) (hts _ wd_1_19) rfl (hl.1.trans hml.symm) rfl dX3_init_1 (Nat.le_of_ble_eq_true rfl) (Nat.le_of_ble_eq_true rfl) ?_
  refine W.eq (g2 := F0 m 4 ls []) rfl ?_
  refine lv_aload_n hx hb dX3_init_4 rfl (lv_at hl 0 rfl) ?_
  refine lv_bipush (v := (16 : Int32)) hx hb dX3_init_5 (by decide) ?_
  have z1 : ¬ (16 : Int32) < 0 := by decide
  have z2 : ¬ 100000 < (16 : Int32).toNatClampNeg := by decide
  obtain ⟨g_2, hgs, h⟩ := bd1_s h
  have hg0 := hg
  have hg : g_2 ≤ g := Nat.le_trans (gs_le hgs) hg
  have hm : wg ≤ g_2 := by
    have hle : g_2 ≤ g_2 := Nat.le_refl _
    obtain ⟨g_4, hgs, h⟩ := bd1_s h
    have hle := Nat.le_trans (gs_le hgs) hle
    obtain ⟨g_6, hgs, h⟩ := bd1_s h
    have hle := Nat.le_trans (gs_le hgs) hle
    obtain ⟨g_8, hgs, h⟩ := bd1_s h
    have hle := Nat.le_trans (gs_le hgs) hle
    obtain ⟨g_10, hgs, h⟩ := bd1_s h
    have hle := Nat.le_trans (gs_le hgs) hle
    obtain ⟨g_12, hgs, h⟩ := bd1_s h
    have hle := Nat.le_trans (gs_le hgs) hle
    exact le_last ((Prod.mk.inj ((Prod.mk.inj ((Prod.mk.inj ((Prod.mk.inj ((Prod.mk.inj ((Prod.mk.inj ((Prod.mk.inj ((Prod.mk.inj ((Prod.mk.inj ((Prod.mk.inj ((Prod.mk.inj ((Prod.mk.inj (Option.some.inj h)).2)).2)).2)).2)).2)).2)).2)).2)).2)).2)).2)).2) hle
  refine nu_newI hx hb hts hK hP hD hS hA z1 z2 (gs_c1 hgs hg0 hm) (gs_c2 hgs hg0 hm) dX3_init_7 (fun q_new_1 H hP hD hS => ?_)
  have hP : va_P D vwCl [(q_this, .inr (3, [.null, .null, .null, .null, .null, .null, .int (0 : Int32)])), (q_new_1, .inl (cI, ((16 : Int32).toNatClampNeg), .inl (fun _ => 0)))] H := hP
  have hD : va_D A [(q_this, .inr (3, [.null, .null, .null, .null, .null, .null, .int (0 : Int32)])), (q_new_1, .inl (cI, ((16 : Int32).toNatClampNeg), .inl (fun _ => 0)))] := hD
  refine W.widen (k := g - g_2) (n := g - g_2) (gs_c1 hgs hg0 (Nat.le_refl _)) (gs_c2 hgs hg0 (Nat.le_refl _)) ?_
  refine va_put (D := D) (ci := 3) (v := .ref q_new_1) (ty := (tyX3 0)) (C := "HexTable$Nodes") (T := TX3) (N := 7) hx hb hts inX3 tyX3 tyX3_ok nmX3 hown hK.1 hP hD hS 0 rfl rfl 0 (by decide) (hts _ wd_1_111) (fun _ h9 => h9) rfl (by decide +kernel) rfl rfl (Nat.le_of_ble_eq_true rfl) dX3_init_9 (fun H locs hP hD hS => ?_)
  have hP : va_P D vwCl [(q_this, .inr (3, [.ref q_new_1, .null, .null, .null, .null, .null, .int (0 : Int32)])), (q_new_1, .inl (cI, ((16 : Int32).toNatClampNeg), .inl (fun _ => 0)))] H := hP
  have hD : va_D A [(q_this, .inr (3, [.ref q_new_1, .null, .null, .null, .null, .null, .int (0 : Int32)])), (q_new_1, .inl (cI, ((16 : Int32).toNatClampNeg), .inl (fun _ => 0)))] := hD
  refine lv_aload_n hx hb dX3_init_12 rfl (lv_at hl 0 rfl) ?_
  refine lv_bipush (v := (16 : Int32)) hx hb dX3_init_13 (by decide) ?_
  have z1 : ¬ (16 : Int32) < 0 := by decide
  have z2 : ¬ 100000 < (16 : Int32).toNatClampNeg := by decide
  obtain ⟨g_4, hgs, h⟩ := bd1_s h
  have hg0 := hg
  have hg : g_4 ≤ g := Nat.le_trans (gs_le hgs) hg
  have hm : wg ≤ g_4 := by
    have hle : g_4 ≤ g_4 := Nat.le_refl _
    obtain ⟨g_6, hgs, h⟩ := bd1_s h
    have hle := Nat.le_trans (gs_le hgs) hle
    obtain ⟨g_8, hgs, h⟩ := bd1_s h
    have hle := Nat.le_trans (gs_le hgs) hle
    obtain ⟨g_10, hgs, h⟩ := bd1_s h
    have hle := Nat.le_trans (gs_le hgs) hle
    obtain ⟨g_12, hgs, h⟩ := bd1_s h
    have hle := Nat.le_trans (gs_le hgs) hle
    exact le_last ((Prod.mk.inj ((Prod.mk.inj ((Prod.mk.inj ((Prod.mk.inj ((Prod.mk.inj ((Prod.mk.inj ((Prod.mk.inj ((Prod.mk.inj ((Prod.mk.inj ((Prod.mk.inj ((Prod.mk.inj ((Prod.mk.inj (Option.some.inj h)).2)).2)).2)).2)).2)).2)).2)).2)).2)).2)).2)).2) hle
  refine nu_newI hx hb hts hK hP hD hS hA z1 z2 (gs_c1 hgs hg0 hm) (gs_c2 hgs hg0 hm) dX3_init_15 (fun q_new_3 H hP hD hS => ?_)
  have hP : va_P D vwCl [(q_this, .inr (3, [.ref q_new_1, .null, .null, .null, .null, .null, .int (0 : Int32)])), (q_new_1, .inl (cI, ((16 : Int32).toNatClampNeg), .inl (fun _ => 0))), (q_new_3, .inl (cI, ((16 : Int32).toNatClampNeg), .inl (fun _ => 0)))] H := hP
  have hD : va_D A [(q_this, .inr (3, [.ref q_new_1, .null, .null, .null, .null, .null, .int (0 : Int32)])), (q_new_1, .inl (cI, ((16 : Int32).toNatClampNeg), .inl (fun _ => 0))), (q_new_3, .inl (cI, ((16 : Int32).toNatClampNeg), .inl (fun _ => 0)))] := hD
  refine W.widen (k := g - g_4) (n := g - g_4) (gs_c1 hgs hg0 (Nat.le_refl _)) (gs_c2 hgs hg0 (Nat.le_refl _)) ?_
  refine va_put (D := D) (ci := 3) (v := .ref q_new_3) (ty := (tyX3 1)) (C := "HexTable$Nodes") (T := TX3) (N := 7) hx hb hts inX3 tyX3 tyX3_ok nmX3 hown hK.1 hP hD hS 0 rfl rfl 1 (by decide) (hts _ wd_1_113) (fun _ h9 => h9) rfl (by decide +kernel) rfl rfl (Nat.le_of_ble_eq_true rfl) dX3_init_17 (fun H locs hP hD hS => ?_)
  have hP : va_P D vwCl [(q_this, .inr (3, [.ref q_new_1, .ref q_new_3, .null, .null, .null, .null, .int (0 : Int32)])), (q_new_1, .inl (cI, ((16 : Int32).toNatClampNeg), .inl (fun _ => 0))), (q_new_3, .inl (cI, ((16 : Int32).toNatClampNeg), .inl (fun _ => 0)))] H := hP
  have hD : va_D A [(q_this, .inr (3, [.ref q_new_1, .ref q_new_3, .null, .null, .null, .null, .int (0 : Int32)])), (q_new_1, .inl (cI, ((16 : Int32).toNatClampNeg), .inl (fun _ => 0))), (q_new_3, .inl (cI, ((16 : Int32).toNatClampNeg), .inl (fun _ => 0)))] := hD
  refine lv_aload_n hx hb dX3_init_20 rfl (lv_at hl 0 rfl) ?_
  refine lv_bipush (v := (16 : Int32)) hx hb dX3_init_21 (by decide) ?_
  have z1 : ¬ (16 : Int32) < 0 := by decide
  have z2 : ¬ 100000 < (16 : Int32).toNatClampNeg := by decide
  obtain ⟨g_6, hgs, h⟩ := bd1_s h
  have hg0 := hg
  have hg : g_6 ≤ g := Nat.le_trans (gs_le hgs) hg
  have hm : wg ≤ g_6 := by
    have hle : g_6 ≤ g_6 := Nat.le_refl _
    obtain ⟨g_8, hgs, h⟩ := bd1_s h
    have hle := Nat.le_trans (gs_le hgs) hle
    obtain ⟨g_10, hgs, h⟩ := bd1_s h
    have hle := Nat.le_trans (gs_le hgs) hle
    obtain ⟨g_12, hgs, h⟩ := bd1_s h
    have hle := Nat.le_trans (gs_le hgs) hle
    exact le_last ((Prod.mk.inj ((Prod.mk.inj ((Prod.mk.inj ((Prod.mk.inj ((Prod.mk.inj ((Prod.mk.inj ((Prod.mk.inj ((Prod.mk.inj ((Prod.mk.inj ((Prod.mk.inj ((Prod.mk.inj ((Prod.mk.inj (Option.some.inj h)).2)).2)).2)).2)).2)).2)).2)).2)).2)).2)).2)).2) hle
  refine nu_newI hx hb hts hK hP hD hS hA z1 z2 (gs_c1 hgs hg0 hm) (gs_c2 hgs hg0 hm) dX3_init_23 (fun q_new_5 H hP hD hS => ?_)
  have hP : va_P D vwCl [(q_this, .inr (3, [.ref q_new_1, .ref q_new_3, .null, .null, .null, .null, .int (0 : Int32)])), (q_new_1, .inl (cI, ((16 : Int32).toNatClampNeg), .inl (fun _ => 0))), (q_new_3, .inl (cI, ((16 : Int32).toNatClampNeg), .inl (fun _ => 0))), (q_new_5, .inl (cI, ((16 : Int32).toNatClampNeg), .inl (fun _ => 0)))] H := hP
  have hD : va_D A [(q_this, .inr (3, [.ref q_new_1, .ref q_new_3, .null, .null, .null, .null, .int (0 : Int32)])), (q_new_1, .inl (cI, ((16 : Int32).toNatClampNeg), .inl (fun _ => 0))), (q_new_3, .inl (cI, ((16 : Int32).toNatClampNeg), .inl (fun _ => 0))), (q_new_5, .inl (cI, ((16 : Int32).toNatClampNeg), .inl (fun _ => 0)))] := hD
  refine W.widen (k := g - g_6) (n := g - g_6) (gs_c1 hgs hg0 (Nat.le_refl _)) (gs_c2 hgs hg0 (Nat.le_refl _)) ?_
  refine va_put (D := D) (ci := 3) (v := .ref q_new_5) (ty := (tyX3 2)) (C := "HexTable$Nodes") (T := TX3) (N := 7) hx hb hts inX3 tyX3 tyX3_ok nmX3 hown hK.1 hP hD hS 0 rfl rfl 2 (by decide) (hts _ wd_1_115) (fun _ h9 => h9) rfl (by decide +kernel) rfl rfl (Nat.le_of_ble_eq_true rfl) dX3_init_25 (fun H locs hP hD hS => ?_)
  have hP : va_P D vwCl [(q_this, .inr (3, [.ref q_new_1, .ref q_new_3, .ref q_new_5, .null, .null, .null, .int (0 : Int32)])), (q_new_1, .inl (cI, ((16 : Int32).toNatClampNeg), .inl (fun _ => 0))), (q_new_3, .inl (cI, ((16 : Int32).toNatClampNeg), .inl (fun _ => 0))), (q_new_5, .inl (cI, ((16 : Int32).toNatClampNeg), .inl (fun _ => 0)))] H := hP
  have hD : va_D A [(q_this, .inr (3, [.ref q_new_1, .ref q_new_3, .ref q_new_5, .null, .null, .null, .int (0 : Int32)])), (q_new_1, .inl (cI, ((16 : Int32).toNatClampNeg), .inl (fun _ => 0))), (q_new_3, .inl (cI, ((16 : Int32).toNatClampNeg), .inl (fun _ => 0))), (q_new_5, .inl (cI, ((16 : Int32).toNatClampNeg), .inl (fun _ => 0)))] := hD
  refine lv_aload_n hx hb dX3_init_28 rfl (lv_at hl 0 rfl) ?_
  refine lv_bipush (v := (16 : Int32)) hx hb dX3_init_29 (by decide) ?_
  have z1 : ¬ (16 : Int32) < 0 := by decide
  have z2 : ¬ 100000 < (16 : Int32).toNatClampNeg := by decide
  obtain ⟨g_8, hgs, h⟩ := bd1_s h
  have hg0 := hg
  have hg : g_8 ≤ g := Nat.le_trans (gs_le hgs) hg
  have hm : wg ≤ g_8 := by
    have hle : g_8 ≤ g_8 := Nat.le_refl _
    obtain ⟨g_10, hgs, h⟩ := bd1_s h
    have hle := Nat.le_trans (gs_le hgs) hle
    obtain ⟨g_12, hgs, h⟩ := bd1_s h
    have hle := Nat.le_trans (gs_le hgs) hle
    exact le_last ((Prod.mk.inj ((Prod.mk.inj ((Prod.mk.inj ((Prod.mk.inj ((Prod.mk.inj ((Prod.mk.inj ((Prod.mk.inj ((Prod.mk.inj ((Prod.mk.inj ((Prod.mk.inj ((Prod.mk.inj ((Prod.mk.inj (Option.some.inj h)).2)).2)).2)).2)).2)).2)).2)).2)).2)).2)).2)).2) hle
  refine nu_newI hx hb hts hK hP hD hS hA z1 z2 (gs_c1 hgs hg0 hm) (gs_c2 hgs hg0 hm) dX3_init_31 (fun q_new_7 H hP hD hS => ?_)
  have hP : va_P D vwCl [(q_this, .inr (3, [.ref q_new_1, .ref q_new_3, .ref q_new_5, .null, .null, .null, .int (0 : Int32)])), (q_new_1, .inl (cI, ((16 : Int32).toNatClampNeg), .inl (fun _ => 0))), (q_new_3, .inl (cI, ((16 : Int32).toNatClampNeg), .inl (fun _ => 0))), (q_new_5, .inl (cI, ((16 : Int32).toNatClampNeg), .inl (fun _ => 0))), (q_new_7, .inl (cI, ((16 : Int32).toNatClampNeg), .inl (fun _ => 0)))] H := hP
  have hD : va_D A [(q_this, .inr (3, [.ref q_new_1, .ref q_new_3, .ref q_new_5, .null, .null, .null, .int (0 : Int32)])), (q_new_1, .inl (cI, ((16 : Int32).toNatClampNeg), .inl (fun _ => 0))), (q_new_3, .inl (cI, ((16 : Int32).toNatClampNeg), .inl (fun _ => 0))), (q_new_5, .inl (cI, ((16 : Int32).toNatClampNeg), .inl (fun _ => 0))), (q_new_7, .inl (cI, ((16 : Int32).toNatClampNeg), .inl (fun _ => 0)))] := hD
  refine W.widen (k := g - g_8) (n := g - g_8) (gs_c1 hgs hg0 (Nat.le_refl _)) (gs_c2 hgs hg0 (Nat.le_refl _)) ?_
  refine va_put (D := D) (ci := 3) (v := .ref q_new_7) (ty := (tyX3 3)) (C := "HexTable$Nodes") (T := TX3) (N := 7) hx hb hts inX3 tyX3 tyX3_ok nmX3 hown hK.1 hP hD hS 0 rfl rfl 3 (by decide) (hts _ wd_1_117) (fun _ h9 => h9) rfl (by decide +kernel) rfl rfl (Nat.le_of_ble_eq_true rfl) dX3_init_33 (fun H locs hP hD hS => ?_)
  have hP : va_P D vwCl [(q_this, .inr (3, [.ref q_new_1, .ref q_new_3, .ref q_new_5, .ref q_new_7, .null, .null, .int (0 : Int32)])), (q_new_1, .inl (cI, ((16 : Int32).toNatClampNeg), .inl (fun _ => 0))), (q_new_3, .inl (cI, ((16 : Int32).toNatClampNeg), .inl (fun _ => 0))), (q_new_5, .inl (cI, ((16 : Int32).toNatClampNeg), .inl (fun _ => 0))), (q_new_7, .inl (cI, ((16 : Int32).toNatClampNeg), .inl (fun _ => 0)))] H := hP
  have hD : va_D A [(q_this, .inr (3, [.ref q_new_1, .ref q_new_3, .ref q_new_5, .ref q_new_7, .null, .null, .int (0 : Int32)])), (q_new_1, .inl (cI, ((16 : Int32).toNatClampNeg), .inl (fun _ => 0))), (q_new_3, .inl (cI, ((16 : Int32).toNatClampNeg), .inl (fun _ => 0))), (q_new_5, .inl (cI, ((16 : Int32).toNatClampNeg), .inl (fun _ => 0))), (q_new_7, .inl (cI, ((16 : Int32).toNatClampNeg), .inl (fun _ => 0)))] := hD
  refine lv_aload_n hx hb dX3_init_36 rfl (lv_at hl 0 rfl) ?_
  refine lv_bipush (v := (16 : Int32)) hx hb dX3_init_37 (by decide) ?_
  have z1 : ¬ (16 : Int32) < 0 := by decide
  have z2 : ¬ 100000 < (16 : Int32).toNatClampNeg := by decide
  obtain ⟨g_10, hgs, h⟩ := bd1_s h
  have hg0 := hg
  have hg : g_10 ≤ g := Nat.le_trans (gs_le hgs) hg
  have hm : wg ≤ g_10 := by
    have hle : g_10 ≤ g_10 := Nat.le_refl _
    obtain ⟨g_12, hgs, h⟩ := bd1_s h
    have hle := Nat.le_trans (gs_le hgs) hle
    exact le_last ((Prod.mk.inj ((Prod.mk.inj ((Prod.mk.inj ((Prod.mk.inj ((Prod.mk.inj ((Prod.mk.inj ((Prod.mk.inj ((Prod.mk.inj ((Prod.mk.inj ((Prod.mk.inj ((Prod.mk.inj ((Prod.mk.inj (Option.some.inj h)).2)).2)).2)).2)).2)).2)).2)).2)).2)).2)).2)).2) hle
  refine nu_newI hx hb hts hK hP hD hS hA z1 z2 (gs_c1 hgs hg0 hm) (gs_c2 hgs hg0 hm) dX3_init_39 (fun q_new_9 H hP hD hS => ?_)
  have hP : va_P D vwCl [(q_this, .inr (3, [.ref q_new_1, .ref q_new_3, .ref q_new_5, .ref q_new_7, .null, .null, .int (0 : Int32)])), (q_new_1, .inl (cI, ((16 : Int32).toNatClampNeg), .inl (fun _ => 0))), (q_new_3, .inl (cI, ((16 : Int32).toNatClampNeg), .inl (fun _ => 0))), (q_new_5, .inl (cI, ((16 : Int32).toNatClampNeg), .inl (fun _ => 0))), (q_new_7, .inl (cI, ((16 : Int32).toNatClampNeg), .inl (fun _ => 0))), (q_new_9, .inl (cI, ((16 : Int32).toNatClampNeg), .inl (fun _ => 0)))] H := hP
  have hD : va_D A [(q_this, .inr (3, [.ref q_new_1, .ref q_new_3, .ref q_new_5, .ref q_new_7, .null, .null, .int (0 : Int32)])), (q_new_1, .inl (cI, ((16 : Int32).toNatClampNeg), .inl (fun _ => 0))), (q_new_3, .inl (cI, ((16 : Int32).toNatClampNeg), .inl (fun _ => 0))), (q_new_5, .inl (cI, ((16 : Int32).toNatClampNeg), .inl (fun _ => 0))), (q_new_7, .inl (cI, ((16 : Int32).toNatClampNeg), .inl (fun _ => 0))), (q_new_9, .inl (cI, ((16 : Int32).toNatClampNeg), .inl (fun _ => 0)))] := hD
  refine W.widen (k := g - g_10) (n := g - g_10) (gs_c1 hgs hg0 (Nat.le_refl _)) (gs_c2 hgs hg0 (Nat.le_refl _)) ?_
  refine va_put (D := D) (ci := 3) (v := .ref q_new_9) (ty := (tyX3 4)) (C := "HexTable$Nodes") (T := TX3) (N := 7) hx hb hts inX3 tyX3 tyX3_ok nmX3 hown hK.1 hP hD hS 0 rfl rfl 4 (by decide) (hts _ wd_1_119) (fun _ h9 => h9) rfl (by decide +kernel) rfl rfl (Nat.le_of_ble_eq_true rfl) dX3_init_41 (fun H locs hP hD hS => ?_)
  have hP : va_P D vwCl [(q_this, .inr (3, [.ref q_new_1, .ref q_new_3, .ref q_new_5, .ref q_new_7, .ref q_new_9, .null, .int (0 : Int32)])), (q_new_1, .inl (cI, ((16 : Int32).toNatClampNeg), .inl (fun _ => 0))), (q_new_3, .inl (cI, ((16 : Int32).toNatClampNeg), .inl (fun _ => 0))), (q_new_5, .inl (cI, ((16 : Int32).toNatClampNeg), .inl (fun _ => 0))), (q_new_7, .inl (cI, ((16 : Int32).toNatClampNeg), .inl (fun _ => 0))), (q_new_9, .inl (cI, ((16 : Int32).toNatClampNeg), .inl (fun _ => 0)))] H := hP
  have hD : va_D A [(q_this, .inr (3, [.ref q_new_1, .ref q_new_3, .ref q_new_5, .ref q_new_7, .ref q_new_9, .null, .int (0 : Int32)])), (q_new_1, .inl (cI, ((16 : Int32).toNatClampNeg), .inl (fun _ => 0))), (q_new_3, .inl (cI, ((16 : Int32).toNatClampNeg), .inl (fun _ => 0))), (q_new_5, .inl (cI, ((16 : Int32).toNatClampNeg), .inl (fun _ => 0))), (q_new_7, .inl (cI, ((16 : Int32).toNatClampNeg), .inl (fun _ => 0))), (q_new_9, .inl (cI, ((16 : Int32).toNatClampNeg), .inl (fun _ => 0)))] := hD
  refine lv_aload_n hx hb dX3_init_44 rfl (lv_at hl 0 rfl) ?_
  refine lv_bipush (v := (16 : Int32)) hx hb dX3_init_45 (by decide) ?_
  have z1 : ¬ (16 : Int32) < 0 := by decide
  have z2 : ¬ 100000 < (16 : Int32).toNatClampNeg := by decide
  obtain ⟨g_12, hgs, h⟩ := bd1_s h
  have hg0 := hg
  have hg : g_12 ≤ g := Nat.le_trans (gs_le hgs) hg
  have hm : wg ≤ g_12 := by
    have hle : g_12 ≤ g_12 := Nat.le_refl _
    exact le_last ((Prod.mk.inj ((Prod.mk.inj ((Prod.mk.inj ((Prod.mk.inj ((Prod.mk.inj ((Prod.mk.inj ((Prod.mk.inj ((Prod.mk.inj ((Prod.mk.inj ((Prod.mk.inj ((Prod.mk.inj ((Prod.mk.inj (Option.some.inj h)).2)).2)).2)).2)).2)).2)).2)).2)).2)).2)).2)).2) hle
  refine nu_newI hx hb hts hK hP hD hS hA z1 z2 (gs_c1 hgs hg0 hm) (gs_c2 hgs hg0 hm) dX3_init_47 (fun q_new_11 H hP hD hS => ?_)
  have hP : va_P D vwCl [(q_this, .inr (3, [.ref q_new_1, .ref q_new_3, .ref q_new_5, .ref q_new_7, .ref q_new_9, .null, .int (0 : Int32)])), (q_new_1, .inl (cI, ((16 : Int32).toNatClampNeg), .inl (fun _ => 0))), (q_new_3, .inl (cI, ((16 : Int32).toNatClampNeg), .inl (fun _ => 0))), (q_new_5, .inl (cI, ((16 : Int32).toNatClampNeg), .inl (fun _ => 0))), (q_new_7, .inl (cI, ((16 : Int32).toNatClampNeg), .inl (fun _ => 0))), (q_new_9, .inl (cI, ((16 : Int32).toNatClampNeg), .inl (fun _ => 0))), (q_new_11, .inl (cI, ((16 : Int32).toNatClampNeg), .inl (fun _ => 0)))] H := hP
  have hD : va_D A [(q_this, .inr (3, [.ref q_new_1, .ref q_new_3, .ref q_new_5, .ref q_new_7, .ref q_new_9, .null, .int (0 : Int32)])), (q_new_1, .inl (cI, ((16 : Int32).toNatClampNeg), .inl (fun _ => 0))), (q_new_3, .inl (cI, ((16 : Int32).toNatClampNeg), .inl (fun _ => 0))), (q_new_5, .inl (cI, ((16 : Int32).toNatClampNeg), .inl (fun _ => 0))), (q_new_7, .inl (cI, ((16 : Int32).toNatClampNeg), .inl (fun _ => 0))), (q_new_9, .inl (cI, ((16 : Int32).toNatClampNeg), .inl (fun _ => 0))), (q_new_11, .inl (cI, ((16 : Int32).toNatClampNeg), .inl (fun _ => 0)))] := hD
  refine W.widen (k := g - g_12) (n := g - g_12) (gs_c1 hgs hg0 (Nat.le_refl _)) (gs_c2 hgs hg0 (Nat.le_refl _)) ?_
  refine va_put (D := D) (ci := 3) (v := .ref q_new_11) (ty := (tyX3 5)) (C := "HexTable$Nodes") (T := TX3) (N := 7) hx hb hts inX3 tyX3 tyX3_ok nmX3 hown hK.1 hP hD hS 0 rfl rfl 5 (by decide) (hts _ wd_1_121) (fun _ h9 => h9) rfl (by decide +kernel) rfl rfl (Nat.le_of_ble_eq_true rfl) dX3_init_49 (fun H locs hP hD hS => ?_)
  have hP : va_P D vwCl [(q_this, .inr (3, [.ref q_new_1, .ref q_new_3, .ref q_new_5, .ref q_new_7, .ref q_new_9, .ref q_new_11, .int (0 : Int32)])), (q_new_1, .inl (cI, ((16 : Int32).toNatClampNeg), .inl (fun _ => 0))), (q_new_3, .inl (cI, ((16 : Int32).toNatClampNeg), .inl (fun _ => 0))), (q_new_5, .inl (cI, ((16 : Int32).toNatClampNeg), .inl (fun _ => 0))), (q_new_7, .inl (cI, ((16 : Int32).toNatClampNeg), .inl (fun _ => 0))), (q_new_9, .inl (cI, ((16 : Int32).toNatClampNeg), .inl (fun _ => 0))), (q_new_11, .inl (cI, ((16 : Int32).toNatClampNeg), .inl (fun _ => 0)))] H := hP
  have hD : va_D A [(q_this, .inr (3, [.ref q_new_1, .ref q_new_3, .ref q_new_5, .ref q_new_7, .ref q_new_9, .ref q_new_11, .int (0 : Int32)])), (q_new_1, .inl (cI, ((16 : Int32).toNatClampNeg), .inl (fun _ => 0))), (q_new_3, .inl (cI, ((16 : Int32).toNatClampNeg), .inl (fun _ => 0))), (q_new_5, .inl (cI, ((16 : Int32).toNatClampNeg), .inl (fun _ => 0))), (q_new_7, .inl (cI, ((16 : Int32).toNatClampNeg), .inl (fun _ => 0))), (q_new_9, .inl (cI, ((16 : Int32).toNatClampNeg), .inl (fun _ => 0))), (q_new_11, .inl (cI, ((16 : Int32).toNatClampNeg), .inl (fun _ => 0)))] := hD
  refine lv_aload_n hx hb dX3_init_52 rfl (lv_at hl 0 rfl) ?_
  refine lv_iconst (v := (0 : Int32)) hx hb dX3_init_53 (by decide) ?_
  refine va_put (D := D) (ci := 3) (v := .int (0 : Int32)) (ty := .int) (C := "HexTable$Nodes") (T := TX3) (N := 7) hx hb hts inX3 tyX3 tyX3_ok nmX3 hown hK.1 hP hD hS 0 rfl rfl 6 (by decide) (hts _ wd_1_123) (fun _ h9 => h9) rfl (by decide +kernel) rfl rfl (Nat.le_of_ble_eq_true rfl) dX3_init_54 (fun H locs hP hD hS => ?_)
  have hP : va_P D vwCl [(q_this, .inr (3, [.ref q_new_1, .ref q_new_3, .ref q_new_5, .ref q_new_7, .ref q_new_9, .ref q_new_11, .int (0 : Int32)])), (q_new_1, .inl (cI, ((16 : Int32).toNatClampNeg), .inl (fun _ => 0))), (q_new_3, .inl (cI, ((16 : Int32).toNatClampNeg), .inl (fun _ => 0))), (q_new_5, .inl (cI, ((16 : Int32).toNatClampNeg), .inl (fun _ => 0))), (q_new_7, .inl (cI, ((16 : Int32).toNatClampNeg), .inl (fun _ => 0))), (q_new_9, .inl (cI, ((16 : Int32).toNatClampNeg), .inl (fun _ => 0))), (q_new_11, .inl (cI, ((16 : Int32).toNatClampNeg), .inl (fun _ => 0)))] H := hP
  have hD : va_D A [(q_this, .inr (3, [.ref q_new_1, .ref q_new_3, .ref q_new_5, .ref q_new_7, .ref q_new_9, .ref q_new_11, .int (0 : Int32)])), (q_new_1, .inl (cI, ((16 : Int32).toNatClampNeg), .inl (fun _ => 0))), (q_new_3, .inl (cI, ((16 : Int32).toNatClampNeg), .inl (fun _ => 0))), (q_new_5, .inl (cI, ((16 : Int32).toNatClampNeg), .inl (fun _ => 0))), (q_new_7, .inl (cI, ((16 : Int32).toNatClampNeg), .inl (fun _ => 0))), (q_new_9, .inl (cI, ((16 : Int32).toNatClampNeg), .inl (fun _ => 0))), (q_new_11, .inl (cI, ((16 : Int32).toNatClampNeg), .inl (fun _ => 0)))] := hD
  refine W.widen (k := g - wg) (n := g - wg) (ca_3 hm) (ca_3 hm) ?_
  exact rt_vx (u := ((16 : Int32).toNatClampNeg, (fun _ => 0), (16 : Int32).toNatClampNeg, (fun _ => 0), (16 : Int32).toNatClampNeg, (fun _ => 0), (16 : Int32).toNatClampNeg, (fun _ => 0), (16 : Int32).toNatClampNeg, (fun _ => 0), (16 : Int32).toNatClampNeg, (fun _ => 0), g_12)) (q_new_1, q_new_3, q_new_5, q_new_7, q_new_9, q_new_11) hQ hx hb hr hlk h hP hD hS dX3_init_57
