/-! PURE: search, on both sides -/
theorem write_both {F N nc nn pn g : Nat} {base : Nat → Int32} {fs wn : Int32} {Q A C K P D Z b : Nat → Nat} {xcel xah xpf xdf xch xmn mcel mah mpf mdf mch mmn zv pa pe sa sc op be : Nat → Int32} (hF : 9000 < F) (hN : N < 12) (hfs : fs = 1 ∨ fs = 2) (hwn : wn = 1 ∨ wn = 2) (hz : ZW fs wn P D Z) (h : TI N nc base fs Q A C K P D b) (hn : TN nc A C K P D b (fun _ => False)) (hx : RW nc xcel xah xpf xdf xch xmn Q A C K P D) (hm : RW nc mcel mah mpf mdf mch mmn Q A C K P D) (hnn : nc ≤ nn) (hnn2 : nn ≤ 8000) (hzv : ∀ i, i < nc → zv i = nI (Z i) ∧ Z i ≤ 1000000000) (hZ0 : Z 0 = 0) (hL : LL pn) (hg : 5 * 8000 ≤ g + 5 * pn) :
    ∃ ec' pn' pa' pe' g' sa' sc' op' be', bd1 (pm_X4_firstInPlan F nn xch nn xmn nn zv (nI 0) (og fs wn 0)) (fun r => pm_X4_writePlan_L61 F (N * N) nn xcel nn xah nn zv nn xch nn xmn (nI 0) F (og fs wn 0) (-1) r 0 0 pn pa pn pe g) = some (nI ec', pn', pa', pn', pe', g') ∧ pm_X7_gather F wn 0 fs 8000 mcel 8000 mah 8000 mpf 8000 mdf 8000 mch 8000 mmn 8000 sa 8000 sc 8200 op 8200 be = some (nI ec', sa', sc', op', be') ∧ TR ec' pn' pa' pe' sa' sc' ∧ pn ≤ pn' ∧ g + 5 * pn ≤ g' + 5 * pn' ∧ g' ≤ g := by
  have h8 := h.1
  have hA : ∀ i, 0 < i → i < nc → A i < i := fun i a b => (h.2.1 i a b).1
  have h0n : 0 < nc := h8.1
  have hp0 : PT A [] 0 := rfl
  have et0 : (0 : Int32).toNatClampNeg = 0 := by decide
  have e1m : (1 : Int32) + (-1) = nI 0 := by rw [nI_0]; decide
  have hT0 : TR 0 pn pa pe sa sc := ⟨by omega, by omega, hL, fun i hi => by omega, fun i hi => by omega⟩
  have m5 := (hm 0 h0n).2.2.2.2.1
  have m6 := (hm 0 h0n).2.2.2.2.2
  have hc0 : cnt (fun j => cl (False : Prop)) nc = 0 := cnt_none _ (fun j hj => cl_f (fun q => q))
  obtain ⟨F', rfl⟩ : ∃ F', F = F' + 1 := ⟨F - 1, by omega⟩
  rw [first_ok (Z := Z) (wn := wn) 0 hF h hx hnn hnn2 hzv h0n, bd1_e, pm_X7_gather, z_b0 (by omega), z_b0 (by omega), et0, pm_X7_gather_L16, if_neg (show ¬ (1 : Int32) ≤ 0 by decide), e1m, z_bd (show 0 < 8200 by omega) (by omega), z_bd (show 0 < 8200 by omega) (by omega), z_cl (show 0 < 2 ^ 31 by omega), u_s, u_s, if_pos (show (0 : Int32) ≤ 0 by decide), bd4_e]
  have hE0 := end_ok (F := F' + 1) hz h hm h0n hZ0
  rw [show nI 0 = (0 : Int32) from nI_0] at hE0
  rw [hE0, z_b0 (show 0 < 8000 by omega), z_b0 (show 0 < 8000 by omega), et0]
  by_cases hK : K 0 = 0
  · have hfy : fy fs wn C K Z 0 0 = -1 := if_pos hK
    rw [hfy, if_pos hK, bd1_e, if_neg (show ¬ (1 : Int32) = 0 by decide)]
    obtain ⟨F2, rfl⟩ : ∃ F2, F' = F2 + 1 := ⟨F' - 1, by omega⟩
    refine ⟨0, pn, pa, pe, g, sa, sc, upd op 0 0, upd be 0 (-1), ?_, ?_, hT0, Nat.le_refl _, Nat.le_refl _, Nat.le_refl _⟩
    · rw [pm_X4_writePlan_L61, if_pos (show (-1 : Int32) = -1 from rfl), nI_0]
      split <;> rfl
    · rw [pm_X7_gather_L16, if_pos (show nI 0 ≤ 0 by rw [nI_0]; decide), bd5_e, nI_0]
  · have hK0 : 0 < K 0 := by omega
    obtain ⟨c1, c2, c3⟩ := h.2.2.1 0 h0n hK0
    rw [if_neg hK] at m5
    have hO := isOwn_ok (F := F' + 1) (wn := wn) (fs := fs) h8.2 hA hm h0n hp0 (show 0 < F' + 1 by omega)
    rw [show nI 0 = (0 : Int32) from nI_0] at hO
    rw [if_neg hK, bd1_e, if_pos rfl, hO, bd1_e, show ([] : List Nat).length = 0 from rfl, m5, m6]
    obtain ⟨km1, km2, -⟩ := kids h hn hm h0n hp0 hK0 (fun _ _ _ q => q)
    by_cases ho : sdl fs 0 = wn
    · obtain ⟨y1, y2⟩ := amn_in (X := Z) (c := C 0) (K 0) hK0
      have hy0 := own_min hfs hz hn h0n hp0 hK0 hZ0 ho
      have hfy : fy fs wn C K Z 0 0 = nI (amn Z (C 0) (K 0)) := by
        unfold fy
        rw [if_neg hK, if_pos ho]
      have hog : og fs wn 0 = 1 := if_pos ho
      have hyA := c3 (amn Z (C 0) (K 0)) y1 y2
      have hsure := sure_L (F := F' + 1) hfs hz (show C 0 + K 0 ≤ 8000 by omega) km1 km2 y2 hy0 (fun t t1 t2 q => by
        have := amn_fst (X := Z) (c := C 0) (K 0) (t - C 0) (by omega)
        rw [show C 0 + (t - C 0) = t by omega] at this
        omega) (F' + 1) (C 0) (Nat.le_refl _) y1 (by omega)
      rw [hfy, if_neg (show ¬ og fs wn 0 = 0 by rw [hog]; decide), hsure, bd1_e, z_1]
      obtain ⟨ec', pn', pa', pe', g', sa', sc', op', be', r1, r2, r3⟩ := plan_L (F := F' + 1) hF hN hfs hwn hz h hn hx hm hnn hnn2 hzv hZ0 (F' + 1) F' (amn Z (C 0) (K 0)) [] [] (fun _ => False) 0 pn g pa pe sa sc (upd (upd op 0 0) 0 (nI (amn Z (C 0) (K 0)))) (upd (upd be 0 (-1)) 0 (-1)) 0 (by omega) (by omega) (by rw [hyA]; exact hp0) (by
        intro a ha
        cases ha with
        | head => exact hy0
        | tail _ ha => cases ha) ⟨fun q => q, fun _ _ _ q => q.elim, fun _ _ _ _ _ _ q => q, fun a ha => by cases ha⟩ hc0 hT0 hg rfl (fun e he => by cases he) rfl ⟨0, rfl, by
          have : sbs fs wn A C K [] (amn Z (C 0) (K 0)) = 0 := if_pos ho
          omega, fun j hj => by
          have : sbs fs wn A C K [] (amn Z (C 0) (K 0)) = 0 := if_pos ho
          omega⟩ u_s u_s (by omega) (by omega)
      refine ⟨ec', pn', pa', pe', g', sa', sc', op', be', ?_, ?_, r3⟩
      · rw [show nI 0 = (0 : Int32) from nI_0] at r1 ⊢
        exact r1
      · rw [show nI 0 = (0 : Int32) from nI_0] at r2
        rw [r2, bd5_e]
    · have hfy : fy fs wn C K Z 0 0 = nI (C 0) := by
        unfold fy
        rw [if_neg hK, if_neg ho]
      have hog : og fs wn 0 = 0 := if_neg ho
      have hCA := c3 (C 0) (Nat.le_refl _) (by omega)
      have hall := all_zero hfs hz hn h0n hp0 hK0 hZ0 ho
      obtain ⟨op1, be1, u1, u2, u3⟩ := push_L (F := F' + 1) (c := C 0) (m := K 0) (w := 0) (ch := mch) (v := upd op 0 0) (b := -1) (x1 := 1) (by omega) (by omega) (by omega) (by rw [e1m, z_cl (show 0 < 2 ^ 31 by omega), u_s, et0, m5]) (F' + 1) 0 (upd op 0 0) (upd be 0 (-1)) (by omega) (by omega) (fun j hj => by omega)
      have hsub : nI (C 0 + K 0) - 1 = nI (C 0 + K 0 - 1 - 0) := by
        rw [show (1 : Int32) = nI 1 from by decide, pk_sub (by omega), Nat.sub_zero]
      rw [show (0 : Nat) + 0 = 0 from rfl, ← hsub] at u1
      rw [hfy, if_pos hog, nI_add, u1, bd3_e, show 0 + K 0 = (K 0 - 1) + 1 by omega]
      have hsb : sbs fs wn A C K [] (C 0) = K 0 - 1 := by
        have : sbs fs wn A C K [] (C 0) = C (A (C 0)) + K (A (C 0)) - 1 - C 0 := if_neg ho
        rw [this, hCA]
        omega
      obtain ⟨ec', pn', pa', pe', g', sa', sc', op', be', r1, r2, r3⟩ := plan_L (F := F' + 1) hF hN hfs hwn hz h hn hx hm hnn hnn2 hzv hZ0 (F' + 1) F' (C 0) [] [] (fun _ => False) 0 pn g pa pe sa sc op1 be1 (K 0 - 1) (by omega) (by omega) (by rw [hCA]; exact hp0) (by
        intro a ha
        cases ha with
        | head => exact hall (C 0) (Nat.le_refl _) (by omega)
        | tail _ ha => cases ha) ⟨fun q => q, fun _ _ _ q => q.elim, fun _ _ _ _ _ _ q => q, fun a ha => by cases ha⟩ hc0 hT0 hg rfl (fun e he => by cases he) rfl ⟨0, rfl, by omega, fun j hj => by
          rw [hCA]
          exact u2 j (by omega)⟩ (by
          have := (u2 (K 0 - 1) (by omega)).1
          rw [show 0 + (K 0 - 1) = K 0 - 1 by omega, show C 0 + K 0 - 1 - (K 0 - 1) = C 0 by omega] at this
          exact this) (by
          have := (u2 (K 0 - 1) (by omega)).2
          rw [show 0 + (K 0 - 1) = K 0 - 1 by omega] at this
          exact this) (by omega) (by omega)
      refine ⟨ec', pn', pa', pe', g', sa', sc', op', be', ?_, ?_, r3⟩
      · rw [show nI 0 = (0 : Int32) from nI_0] at r1 ⊢
        exact r1
      · rw [show nI 0 = (0 : Int32) from nI_0] at r2
        rw [r2, bd5_e]
