abbrev rm_X5_init (g wg : Nat) : Room := { frames := 1, cells := g - wg, slots := g - wg, locals := 20 }
set_option maxHeartbeats 4000000 in
set_option maxRecDepth 100000 in
theorem c_X5_init (l : Launch) (D : va_G) (cI cB cZ : ClassId) (q_this : Nat) (q_p1 : Nat) (g : Nat) (F : Nat) {wg : Nat} (h : pm_X5_init F g = some wg) : MVX none l yX5_init cX5_init 2 none (rm_X5_init g wg) [.ref q_this, .ref q_p1] D cI cB cZ [(q_this, .inr (5, [.null, .int (0 : Int32), .int (0 : Int32), .int (0 : Int32), .int (0 : Int32), .int (0 : Int32), .int (0 : Int32), .int (0 : Int32)]))] (fun (u : Nat) (a : Unit) => [(q_this, .inr (5, [.ref q_p1, .int (0 : Int32), .int (0 : Int32), .int (0 : Int32), .int (0 : Int32), .int (0 : Int32), .int (0 : Int32), .int (0 : Int32)]))]) wg := by
  refine ent_vx (by decide) (Nat.le_of_ble_eq_true rfl) ?_
  intro p e s m args below meth c A ls Q hQ hx hb hr hml hown hts hlk hnm hK hA hP hD hS hZ hl
  have hl : lv_has ls 2 [(0, .ref q_this), (1, .ref q_p1)] := hl
  have hg : g ≤ g := Nat.le_refl g
  have hm : wg ≤ g := mono_X5_init h
  rw [pm_X5_init] at h
  refine W.widen (k := g - g) (n := g - g) (Nat.zero_le _) (Nat.zero_le _) ?_
  refine lv_aload_n hx hb dX5_init_0 rfl (lv_at hl 0 rfl) ?_
  refine W.objInit hx hb hown (hts _ wd_1_70) (hts _ wd_1_18) (hts _ wd_1_19) rfl (hl.1.trans hml.symm) rfl dX5_init_1 (Nat.le_of_ble_eq_true rfl) (Nat.le_of_ble_eq_true rfl) ?_
  refine W.eq (g2 := F0 m 4 ls []) rfl ?_
  refine lv_aload_n hx hb dX5_init_4 rfl (lv_at hl 0 rfl) ?_
  refine lv_aload_n hx hb dX5_init_5 rfl (lv_at hl 1 rfl) ?_
  refine va_putF (D := D) (ci := 5) (v := .ref q_p1) (ty := (tyX5 0)) (C := "HexTable$Walker") (T := TX5) (N := 8) hx hb hts inX5 tyX5 tyX5_ok nmX5 hown hK.1 hP hD hS 0 rfl rfl 0 (by decide) (hts _ wd_1_71) (fun _ h9 => h9) rfl hnm rfl (by decide +kernel) rfl rfl (Nat.le_of_ble_eq_true rfl) dX5_init_6 (fun H locs hP hD hS => ?_)
  have hP : va_P D vwCl [(q_this, .inr (5, [.ref q_p1, .int (0 : Int32), .int (0 : Int32), .int (0 : Int32), .int (0 : Int32), .int (0 : Int32), .int (0 : Int32), .int (0 : Int32)]))] H := hP
  have hD : va_D A [(q_this, .inr (5, [.ref q_p1, .int (0 : Int32), .int (0 : Int32), .int (0 : Int32), .int (0 : Int32), .int (0 : Int32), .int (0 : Int32), .int (0 : Int32)]))] := hD
  refine W.widen (k := g - wg) (n := g - wg) (ca_3 hm) (ca_3 hm) ?_
  exact rt_vx (u := g) () hQ hx hb hr hlk h hP hD hS dX5_init_9
