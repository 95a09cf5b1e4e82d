abbrev rm_J7_copyOf_59c91 (g wg : Nat) : Room := { frames := 1, cells := g - wg, slots := g - wg, locals := 60 }
set_option maxHeartbeats 4000000 in
set_option maxRecDepth 100000 in
theorem c_J7_copyOf_59c91 (l : Launch) (D : va_G) (cI cB cZ : ClassId) (q_p0 : Nat) (n_p0 : Nat) (v_p0 : Nat → Int32) (x1 : Int32) (g : Nat) (F : Nat) {w0 : Nat} {w1 : Nat → Int32} {wg : Nat} (h : pm_J7_copyOf_59c91 F g n_p0 v_p0 x1 = some (w0, w1, wg)) : MRX none l yJ7_copyOf_59c91 cJ7_copyOf_59c91 3 (some (.array .int)) (rm_J7_copyOf_59c91 g wg) [.ref q_p0, .int x1] D cI cB cZ [(q_p0, .inl (cI, n_p0, .inl v_p0))] (fun (u : Nat × (Nat → Int32) × Nat) (a : Nat) => [(q_p0, .inl (cI, n_p0, .inl v_p0)), (a, .inl (cI, u.1, .inl u.2.1))]) (w0, w1, wg) := by
  refine ent_rx (by decide) (Nat.le_of_ble_eq_true rfl) ?_
  intro p e s m args below meth c A ls Q hQ hx hb hr hml hown hts hlk hnm hK hA hP hD hS hZ hl
  have hl : lv_has ls 3 [(0, .ref q_p0), (1, .int x1)] := hl
  have hg : g ≤ g := Nat.le_refl g
  have hm : wg ≤ g := mono_J7_copyOf_59c91 h
  rw [pm_J7_copyOf_59c91] at h
  refine W.widen (k := g - g) (n := g - g) (Nat.zero_le _) (Nat.zero_le _) ?_
  refine lv_iload_n hx hb dJ7_copyOf_59c91_0 rfl (lv_at hl 1 rfl) ?_
  refine lv_aload_n hx hb dJ7_copyOf_59c91_1 rfl (lv_at hl 0 rfl) ?_
  refine va_alen hx hb hK.1 hP 0 0 rfl rfl (v := nI n_p0) rfl dJ7_copyOf_59c91_2 ?_
  obtain ⟨cc0, h⟩ := pm_nc h
  refine lv_icmp_ne (tgt := 14) hx hb dJ7_copyOf_59c91_3 (by decide) (fun cb => ?_) (fun cb => ?_)
  · refine lv_iload_n hx hb dJ7_copyOf_59c91_14 rfl (lv_at hl 1 rfl) ?_
    obtain ⟨hz, h⟩ := pm_nc h
    obtain ⟨z1, z2⟩ := nb_ok hz
    obtain ⟨g_2, hgs, h⟩ := bd1_s h
    have hg0 := hg
    have hg : g_2 ≤ g := Nat.le_trans (gs_le hgs) hg
    have hm : wg ≤ g_2 := by
      have hle : g_2 ≤ g_2 := Nat.le_refl _
      obtain ⟨hz, h⟩ := pm_nc h
      exact le_last ((Prod.mk.inj ((Prod.mk.inj (Option.some.inj h)).2)).2) hle
    refine nu_newI hx hb hts hK hP hD hS hA z1 z2 (gs_c1 hgs hg0 hm) (gs_c2 hgs hg0 hm) dJ7_copyOf_59c91_15 (fun q_new_1 H hP hD hS => ?_)
    have hP : va_P D vwCl [(q_p0, .inl (cI, n_p0, .inl v_p0)), (q_new_1, .inl (cI, x1.toNatClampNeg, .inl (fun _ => 0)))] H := hP
    have hD : va_D A [(q_p0, .inl (cI, n_p0, .inl v_p0)), (q_new_1, .inl (cI, x1.toNatClampNeg, .inl (fun _ => 0)))] := hD
    refine W.widen (k := g - g_2) (n := g - g_2) (gs_c1 hgs hg0 (Nat.le_refl _)) (gs_c2 hgs hg0 (Nat.le_refl _)) ?_
    refine lv_astore_n (lv' := [(2, .ref q_new_1), (0, .ref q_p0), (1, .int x1)]) hx hb dJ7_copyOf_59c91_17 rfl hl (by decide) rfl (fun ls hl => ?_)
    refine lv_aload_n hx hb dJ7_copyOf_59c91_18 rfl (lv_at hl 1 rfl) ?_
    refine lv_iconst (v := (0 : Int32)) hx hb dJ7_copyOf_59c91_19 (by decide) ?_
    refine lv_aload_n hx hb dJ7_copyOf_59c91_20 rfl (lv_at hl 0 rfl) ?_
    refine lv_iconst (v := (0 : Int32)) hx hb dJ7_copyOf_59c91_21 (by decide) ?_
    refine lv_aload_n hx hb dJ7_copyOf_59c91_22 rfl (lv_at hl 1 rfl) ?_
    refine va_alen hx hb hK.1 hP 0 0 rfl rfl (v := nI n_p0) rfl dJ7_copyOf_59c91_23 ?_
    refine lv_iload_n hx hb dJ7_copyOf_59c91_24 rfl (lv_at hl 2 rfl) ?_
    refine va_mmin hx hb (hml.trans hl.1.symm) hown (hts _ wd_2_157) (hts _ wd_1_21) (hts _ wd_1_2) (hts _ wd_1_22) (Nat.le_of_ble_eq_true rfl) (Nat.le_of_ble_eq_true rfl) (ca_0 hg hm) (ca_0 hg hm) dJ7_copyOf_59c91_25 ?_
    obtain ⟨hz, h⟩ := pm_nc h
    obtain ⟨z1, z2, z3, z4, z5⟩ := ac_ok hz
    refine va_copyi hx hb (hml.trans hl.1.symm) hown (hts _ wd_2_158) (hts _ wd_2_131) (hts _ wd_2_130) (hts _ wd_1_11) hK.1 hP hD hS 0 1 0 0 rfl rfl rfl rfl rfl z1 z2 z3 z4 z5 (fun _ _ => rfl) (Nat.le_of_ble_eq_true rfl) (Nat.le_trans (show (List.map (fun v : Value => v.category) ([] : List Value)).sum + (nativeFrameWords "java/lang/System" "arraycopy" 5 + 11) ≤ 60 by decide +kernel) (Nat.le_of_ble_eq_true rfl)) dJ7_copyOf_59c91_28 (fun H locs hP hD hS => ?_)
    have hP : va_P D vwCl [(q_p0, .inl (cI, n_p0, .inl v_p0)), (q_new_1, .inl (cI, x1.toNatClampNeg, .inl (va_cpy v_p0 (fun _ => 0) (0 : Int32).toNatClampNeg (0 : Int32).toNatClampNeg (if x1 < (nI n_p0) then x1 else (nI n_p0)).toNatClampNeg)))] H := hP
    have hD : va_D A [(q_p0, .inl (cI, n_p0, .inl v_p0)), (q_new_1, .inl (cI, x1.toNatClampNeg, .inl (va_cpy v_p0 (fun _ => 0) (0 : Int32).toNatClampNeg (0 : Int32).toNatClampNeg (if x1 < (nI n_p0) then x1 else (nI n_p0)).toNatClampNeg)))] := hD
    refine lv_aload_n hx hb dJ7_copyOf_59c91_31 rfl (lv_at hl 0 rfl) ?_
    refine W.widen (k := g - wg) (n := g - wg) (ca_3 hm) (ca_3 hm) ?_
    exact rt_rx (u := (x1.toNatClampNeg, va_cpy v_p0 (fun _ => 0) (0 : Int32).toNatClampNeg (0 : Int32).toNatClampNeg (if x1 < (nI n_p0) then x1 else (nI n_p0)).toNatClampNeg, g_2)) hQ hx hb hr hlk h hP hD hS dJ7_copyOf_59c91_32
  · exact absurd cb cc0
