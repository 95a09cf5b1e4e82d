abbrev rm_X2_init (g wg : Nat) : Room := { frames := 1, cells := g - wg, slots := g - wg, locals := 20 }
set_option maxHeartbeats 4000000 in
set_option maxRecDepth 100000 in
theorem c_X2_init (l : Launch) (D : va_G) (cI cB cZ : ClassId) (q_this : Nat) (g : Nat) (F : Nat) {w0 : Nat} {w1 : Nat → Int32} {w2 : Nat} {w3 : Nat → Int32} {wg : Nat} (h : pm_X2_init F g = some (w0, w1, w2, w3, wg)) : MVX none l yX2_init cX2_init 1 none (rm_X2_init g wg) [.ref q_this] D cI cB cZ [(q_this, .inr (2, [.null, .null, .int (0 : Int32)]))] (fun (u : Nat × (Nat → Int32) × Nat × (Nat → Int32) × Nat) (a : Nat × Nat) => [(q_this, .inr (2, [.ref a.1, .ref a.2, .int (0 : Int32)])), (a.1, .inl (cI, u.1, .inl u.2.1)), (a.2, .inl (cI, u.2.2.1, .inl u.2.2.2.1))]) (w0, w1, w2, w3, wg) := by
  refine ent_vx (by decide) (Nat.le_of_ble_eq_true rfl) ?_
  intro p e s m args below meth c A ls Q hQ hx hb hr hml hown hts hlk hnm hK hA hP hD hS hZ hl
  have hl : lv_has ls 1 [(0, .ref q_this)] := hl
  have hg : g ≤ g := Nat.le_refl g
  have hm : wg ≤ g := mono_X2_init h
  rw [pm_X2_init] at h
  refine W.widen (k := g - g) (n := g - g) (Nat.zero_le _) (Nat.zero_le _) ?_
  refine lv_aload_n hx hb dX2_init_0 rfl (lv_at hl 0 rfl) ?_
  refine W.objInit hx hb hown (hts _ wd_1_146) (hts _ wd_1_18) (hts _ wd_1_19) rfl (hl.1.trans hml.symm) rfl dX2_init_1 (Nat.le_of_ble_eq_true rfl) (Nat.le_of_ble_eq_true rfl) ?_
  refine W.eq (g2 := F0 m 4 ls []) rfl ?_
  refine lv_aload_n hx hb dX2_init_4 rfl (lv_at hl 0 rfl) ?_
  refine lv_bipush (v := (16 : Int32)) hx hb dX2_init_5 (by decide) ?_
  have z1 : ¬ (16 : Int32) < 0 := by decide
  have z2 : ¬ 100000 < (16 : Int32).toNatClampNeg := by decide
  obtain ⟨g_2, hgs, h⟩ := bd1_s h
  have hg0 := hg
  have hg : g_2 ≤ g := Nat.le_trans (gs_le hgs) hg
  have hm : wg ≤ g_2 := by
    have hle : g_2 ≤ g_2 := Nat.le_refl _
    obtain ⟨g_4, hgs, h⟩ := bd1_s h
    have hle := Nat.le_trans (gs_le hgs) hle
    exact le_last ((Prod.mk.inj ((Prod.mk.inj ((Prod.mk.inj ((Prod.mk.inj (Option.some.inj h)).2)).2)).2)).2) hle
  refine nu_newI hx hb hts hK hP hD hS hA z1 z2 (gs_c1 hgs hg0 hm) (gs_c2 hgs hg0 hm) dX2_init_7 (fun q_new_1 H hP hD hS => ?_)
  have hP : va_P D vwCl [(q_this, .inr (2, [.null, .null, .int (0 : Int32)])), (q_new_1, .inl (cI, ((16 : Int32).toNatClampNeg), .inl (fun _ => 0)))] H := hP
  have hD : va_D A [(q_this, .inr (2, [.null, .null, .int (0 : Int32)])), (q_new_1, .inl (cI, ((16 : Int32).toNatClampNeg), .inl (fun _ => 0)))] := hD
  refine W.widen (k := g - g_2) (n := g - g_2) (gs_c1 hgs hg0 (Nat.le_refl _)) (gs_c2 hgs hg0 (Nat.le_refl _)) ?_
  refine va_put (D := D) (ci := 2) (v := .ref q_new_1) (ty := (tyX2 0)) (C := "HexTable$Entries") (T := TX2) (N := 3) hx hb hts inX2 tyX2 tyX2_ok nmX2 hown hK.1 hP hD hS 0 rfl rfl 0 (by decide) (hts _ wd_1_147) (fun _ h9 => h9) rfl (by decide +kernel) rfl rfl (Nat.le_of_ble_eq_true rfl) dX2_init_9 (fun H locs hP hD hS => ?_)
  have hP : va_P D vwCl [(q_this, .inr (2, [.ref q_new_1, .null, .int (0 : Int32)])), (q_new_1, .inl (cI, ((16 : Int32).toNatClampNeg), .inl (fun _ => 0)))] H := hP
  have hD : va_D A [(q_this, .inr (2, [.ref q_new_1, .null, .int (0 : Int32)])), (q_new_1, .inl (cI, ((16 : Int32).toNatClampNeg), .inl (fun _ => 0)))] := hD
  refine lv_aload_n hx hb dX2_init_12 rfl (lv_at hl 0 rfl) ?_
  refine lv_bipush (v := (16 : Int32)) hx hb dX2_init_13 (by decide) ?_
  have z1 : ¬ (16 : Int32) < 0 := by decide
  have z2 : ¬ 100000 < (16 : Int32).toNatClampNeg := by decide
  obtain ⟨g_4, hgs, h⟩ := bd1_s h
  have hg0 := hg
  have hg : g_4 ≤ g := Nat.le_trans (gs_le hgs) hg
  have hm : wg ≤ g_4 := by
    have hle : g_4 ≤ g_4 := Nat.le_refl _
    exact le_last ((Prod.mk.inj ((Prod.mk.inj ((Prod.mk.inj ((Prod.mk.inj (Option.some.inj h)).2)).2)).2)).2) hle
  refine nu_newI hx hb hts hK hP hD hS hA z1 z2 (gs_c1 hgs hg0 hm) (gs_c2 hgs hg0 hm) dX2_init_15 (fun q_new_3 H hP hD hS => ?_)
  have hP : va_P D vwCl [(q_this, .inr (2, [.ref q_new_1, .null, .int (0 : Int32)])), (q_new_1, .inl (cI, ((16 : Int32).toNatClampNeg), .inl (fun _ => 0))), (q_new_3, .inl (cI, ((16 : Int32).toNatClampNeg), .inl (fun _ => 0)))] H := hP
  have hD : va_D A [(q_this, .inr (2, [.ref q_new_1, .null, .int (0 : Int32)])), (q_new_1, .inl (cI, ((16 : Int32).toNatClampNeg), .inl (fun _ => 0))), (q_new_3, .inl (cI, ((16 : Int32).toNatClampNeg), .inl (fun _ => 0)))] := hD
  refine W.widen (k := g - g_4) (n := g - g_4) (gs_c1 hgs hg0 (Nat.le_refl _)) (gs_c2 hgs hg0 (Nat.le_refl _)) ?_
  refine va_put (D := D) (ci := 2) (v := .ref q_new_3) (ty := (tyX2 1)) (C := "HexTable$Entries") (T := TX2) (N := 3) hx hb hts inX2 tyX2 tyX2_ok nmX2 hown hK.1 hP hD hS 0 rfl rfl 1 (by decide) (hts _ wd_1_151) (fun _ h9 => h9) rfl (by decide +kernel) rfl rfl (Nat.le_of_ble_eq_true rfl) dX2_init_17 (fun H locs hP hD hS => ?_)
  have hP : va_P D vwCl [(q_this, .inr (2, [.ref q_new_1, .ref q_new_3, .int (0 : Int32)])), (q_new_1, .inl (cI, ((16 : Int32).toNatClampNeg), .inl (fun _ => 0))), (q_new_3, .inl (cI, ((16 : Int32).toNatClampNeg), .inl (fun _ => 0)))] H := hP
  have hD : va_D A [(q_this, .inr (2, [.ref q_new_1, .ref q_new_3, .int (0 : Int32)])), (q_new_1, .inl (cI, ((16 : Int32).toNatClampNeg), .inl (fun _ => 0))), (q_new_3, .inl (cI, ((16 : Int32).toNatClampNeg), .inl (fun _ => 0)))] := hD
  refine lv_aload_n hx hb dX2_init_20 rfl (lv_at hl 0 rfl) ?_
  refine lv_iconst (v := (0 : Int32)) hx hb dX2_init_21 (by decide) ?_
  refine va_put (D := D) (ci := 2) (v := .int (0 : Int32)) (ty := .int) (C := "HexTable$Entries") (T := TX2) (N := 3) hx hb hts inX2 tyX2 tyX2_ok nmX2 hown hK.1 hP hD hS 0 rfl rfl 2 (by decide) (hts _ wd_1_154) (fun _ h9 => h9) rfl (by decide +kernel) rfl rfl (Nat.le_of_ble_eq_true rfl) dX2_init_22 (fun H locs hP hD hS => ?_)
  have hP : va_P D vwCl [(q_this, .inr (2, [.ref q_new_1, .ref q_new_3, .int (0 : Int32)])), (q_new_1, .inl (cI, ((16 : Int32).toNatClampNeg), .inl (fun _ => 0))), (q_new_3, .inl (cI, ((16 : Int32).toNatClampNeg), .inl (fun _ => 0)))] H := hP
  have hD : va_D A [(q_this, .inr (2, [.ref q_new_1, .ref q_new_3, .int (0 : Int32)])), (q_new_1, .inl (cI, ((16 : Int32).toNatClampNeg), .inl (fun _ => 0))), (q_new_3, .inl (cI, ((16 : Int32).toNatClampNeg), .inl (fun _ => 0)))] := hD
  refine W.widen (k := g - wg) (n := g - wg) (ca_3 hm) (ca_3 hm) ?_
  exact rt_vx (u := ((16 : Int32).toNatClampNeg, (fun _ => 0), (16 : Int32).toNatClampNeg, (fun _ => 0), g_4)) (q_new_1, q_new_3) hQ hx hb hr hlk h hP hD hS dX2_init_25
