abbrev rm_L_cell : Room := { frames := 0, cells := 0, slots := 0, locals := 0 }
def PreC (D : va_G) (cI cB cZ : ClassId) (b L : Nat) (xs : Nat → Int32) (sz : Nat) (U : State) : Prop := Pre D cI cB cZ [] sz U ∧ va_X b L xs U U.heap ∧ b < sz
set_option maxHeartbeats 4000000 in
set_option maxRecDepth 100000 in
theorem c_L_cell (l : Launch) (D : va_G) (cI cB cZ : ClassId) (b L : Nat) (xs : Nat → Int32) (sz : Nat) : Met l yL_cell (.code yL_cell cL_cell 2 (some .int) :: gt) rm_L_cell (va_Pc [.ref b, .int 0] (PreC D cI cB cZ b L xs sz)) (va_Qi (fun r u => (r, u) = (lcell L xs (0 : Int32), ())) (Post D (fun _ : Unit => []) (va_A [] sz)) (va_A [] sz)) rm_L_cell.cells rm_L_cell.slots (va_A [] sz) := by
  refine Met.ofW (cc := cL_cell) (maxL := 2) (ret := some .int) (by decide) rfl ?_
  intro p e s m args below meth c s₁ B hml hv
  obtain ⟨rfl, ⟨hsz, hP, hK, hD0⟩, hX, hbl⟩ := hv
  have hx := B.exec
  have hb := B.bytes
  have hr := B.returns
  have hlk := B.notSynchronized
  subst hsz
  have hD := hD0.self (sz := s.heap.size)
  have hS : va_S (va_A [] s.heap.size) s.heap s.heap [] := va_S.rf
  have hbA : ¬ va_A [] s.heap.size b := by
    rintro (⟨k, e, h⟩ | h)
    · simp at h
    · omega
  rw [lg_entry_eq]
  have hl := lv_entry ([.ref b, .int 0]) (n := 2) (Nat.le_of_ble_eq_true rfl)
  generalize (lg_sl ([.ref b, .int 0]) ++ List.replicate (2 - (lg_sl ([.ref b, .int 0])).length) Slot.unset).toArray = ls at hl ⊢
  have hl : lv_has ls 2 [(0, .ref b), (1, .int 0)] := hl
  refine lv_iload_n hx hb dL_cell_0 rfl (lv_at hl 1 rfl) ?_
  refine lv_aload_n hx hb dL_cell_1 rfl (lv_at hl 0 rfl) ?_
  refine va_slen hx hb hX hbl hbA hS dL_cell_2 ?_
  refine lv_icmp_ge (tgt := 12) hx hb dL_cell_3 (by decide) (fun cb => ?_) (fun cb => ?_)
  · refine lv_iconst (v := 0) hx hb dL_cell_12 (by decide) ?_
    refine rt_i (u := ()) (R := (lcell L xs (0 : Int32), ())) rfl hx hb hr hlk ?_ hP hD hS dL_cell_13
    have e1 : lcell L xs (0 : Int32) = 0 := if_pos cb
    rw [e1]
  · have hin : vp_in 0 L := by
      rintro (h | h)
      · exact absurd h (by decide)
      · have h0 : L = 0 := by
          have : (0 : Int32).toNatClampNeg = 0 := by decide
          omega
        subst h0
        exact cb (by decide)
    refine lv_aload_n hx hb dL_cell_6 rfl (lv_at hl 0 rfl) ?_
    refine lv_iload_n hx hb dL_cell_7 rfl (lv_at hl 1 rfl) ?_
    refine va_sld hx hb hX hbl hbA hS hin dL_cell_8 ?_
    refine lv_goto (tgt := 13) hx hb dL_cell_9 (by decide) ?_
    refine rt_i (u := ()) (R := (lcell L xs (0 : Int32), ())) rfl hx hb hr hlk ?_ hP hD hS dL_cell_13
    have e1 : lcell L xs (0 : Int32) = xs (0 : Int32).toNatClampNeg := if_neg cb
    rw [e1]
theorem pre_C {D : va_G} {cI cB cZ : ClassId} {b L : Nat} {xs : Nat → Int32} {s : State} {H : Heap} {locs : List Loc} {A : Nat → Prop} (hK : KK D cI cB cZ s) (hX : va_X b L xs s s.heap) (hbl : b < s.heap.size) (hbA : ¬ A b) (hS : va_S A s.heap H locs) : PreS s H (va_Pc [.ref b, .int 0] (PreC D cI cB cZ b L xs H.size)) [.ref b, .int 0] := by
  refine ⟨?_, fun U hU hW => ⟨rfl, ⟨by rw [hU], fun k q h => by simp at h, hK.warm hW, ⟨fun i j p q h => by simp at h, fun k q h => by simp at h⟩⟩, ?_, Nat.lt_of_lt_of_le hbl hS.1⟩⟩
  · intro a U g mk h
    obtain ⟨h1, ⟨h2, h3, h4, h5⟩, ⟨scr, x1, x2, x3, x4, x5⟩, h7⟩ := h
    exact ⟨h1, ⟨h2, h3, KK.same (s := U) (U := U.calling g mk a) rfl h4, h5⟩, ⟨scr, x1, State.isArrayOf_alike (Vm.Alike.refl U.vm) x2, x3, x4, x5⟩, h7⟩
  · obtain ⟨scr, x1, x2, x3, x4, x5⟩ := hX
    exact ⟨scr, by rw [hU, hS.2.1 b hbl hbA]; exact x1, State.isArrayOf_alike hW.alike x2, x3, x4, x5⟩
