/-! PURE: the strategy, on both sides -/
def tv : List Nat → Int32
  | [] => -1
  | e :: _ => nI e
theorem PP_tv {pa : Nat → Int32} {es : List Nat} {t : Int32} (h : PP pa es t) : t = tv es := by
  cases es with
  | nil => exact h
  | cons e es => exact h.1
theorem PP_congr {pa pa' : Nat → Int32} {n : Nat} (he : ∀ i, i < n → pa' i = pa i) : ∀ {es : List Nat} {t : Int32}, (∀ e, e ∈ es → e < n) → PP pa es t → PP pa' es t := by
  intro es
  induction es with
  | nil => intro t _ h; exact h
  | cons e es ih =>
    intro t hl h
    refine ⟨h.1, h.2.1, ?_⟩
    rw [he e (hl e (List.mem_cons_self ..))]
    exact ih (fun x hx => hl x (List.mem_cons_of_mem _ hx)) h.2.2
/-- how many siblings wait beside a node -/
def sbs (fs wn : Int32) (A C K : Nat → Nat) (l : List Nat) (q : Nat) : Nat := if sdl fs l.length = wn then 0 else C (A q) + K (A q) - 1 - q
/-- the reference's stack, of the places below w -/
def ST (fs wn : Int32) (A C K : Nat → Nat) (op be : Nat → Int32) : List Nat → List Nat → Nat → Prop
  | [], _, w => w = 0
  | q :: l, es, w => ∃ w', ST fs wn A C K op be l es.tail w' ∧ w = w' + sbs fs wn A C K l q ∧ ∀ j, j < sbs fs wn A C K l q → op (w' + j) = nI (C (A q) + K (A q) - 1 - j) ∧ be (w' + j) = tv es
theorem ST.congr {fs wn : Int32} {A C K : Nat → Nat} {op be op' be' : Nat → Int32} : ∀ {l es : List Nat} {w : Nat}, ST fs wn A C K op be l es w → (∀ i, i < w → op' i = op i ∧ be' i = be i) → ST fs wn A C K op' be' l es w := by
  intro l
  induction l with
  | nil => intro es w h _; exact h
  | cons q l ih =>
    rintro es w ⟨w', h1, h2, h3⟩ he
    refine ⟨w', ih h1 (fun i hi => he i (by omega)), h2, fun j hj => ?_⟩
    obtain ⟨e1, e2⟩ := he (w' + j) (by omega)
    rw [e1, e2]
    exact h3 j hj
/-- blocks of children lie behind each other along a path -/
theorem block {N nc i : Nat} {base : Nat → Int32} {fs : Int32} {Q A C K P D b : Nat → Nat} (h : TI N nc base fs Q A C K P D b) (hi : i < nc) (h0 : 0 < i) (hk : 0 < K i) : C (A i) + K (A i) ≤ C i := by
  obtain ⟨h8, h1, h2, h3, h4, h5, h6, h7⟩ := h
  obtain ⟨a1, a2, a3⟩ := h1 i h0 hi
  obtain ⟨c1, c2, c3⟩ := h2 i hi hk
  obtain ⟨d1, d2, d3⟩ := h2 (A i) (by omega) (by omega)
  rcases Nat.lt_or_ge (C i) (C (A i) + K (A i)) with q | q
  · have e1 := d3 (C i) (by omega) q
    have e2 := c3 (C i) (Nat.le_refl _) (by omega)
    omega
  · exact q
theorem ST_le {N nc : Nat} {base : Nat → Int32} {fs wn : Int32} {Q A C K P D b : Nat → Nat} {op be : Nat → Int32} (h : TI N nc base fs Q A C K P D b) : ∀ (l es : List Nat) q w, q < nc → PT A (q :: l) q → ST fs wn A C K op be (q :: l) es w → w + 1 ≤ C (A q) + K (A q) := by
  intro l
  induction l with
  | nil =>
    rintro es q w hq ⟨-, p1, p2⟩ ⟨w', s1, s2, s3⟩
    obtain ⟨a1, a2, a3⟩ := h.2.1 q p1 hq
    have : w' = 0 := s1
    unfold sbs at s2
    split at s2 <;> omega
  | cons r l ih =>
    rintro es q w hq ⟨-, p1, p2⟩ ⟨w', s1, s2, s3⟩
    obtain ⟨a1, a2, a3⟩ := h.2.1 q p1 hq
    have er : A q = r := p2.1
    have := ih es.tail r w' (by omega) (by rw [← er] at p2 ⊢; exact p2) s1
    have hb := block h (show r < nc by omega) p2.2.1 (by rw [← er]; omega)
    rw [er] at a2 a3
    unfold sbs at s2
    rw [er] at s2 ⊢
    split at s2 <;> omega
def VQ (nc : Nat) (A : Nat → Nat) (V : Nat → Prop) (L : List Nat) : Prop := (∀ j, 0 < j → j < nc → V j → A j = 0 ∨ V (A j)) ∧ (∀ a, a ∈ L → ∀ j, j < nc → a < j → A j = A a → ¬ V j) ∧ ∀ a, a ∈ L → V a
def VJ (nc : Nat) (A : Nat → Nat) (V : Nat → Prop) (l : List Nat) (x : Nat) : Prop := ¬ V x ∧ (∀ j, 0 < j → j < nc → V j → A j = 0 ∨ V (A j)) ∧ (∀ a, a ∈ x :: l → ∀ j, j < nc → a < j → A j = A a → ¬ V j) ∧ ∀ a, a ∈ l → V a
theorem VJ.visit {nc x : Nat} {A : Nat → Nat} {V : Nat → Prop} {l : List Nat} (hA : ∀ i, 0 < i → i < nc → A i < i) (hx : x < nc) (hp : PT A (x :: l) x) (h : VJ nc A V l x) : VQ nc A (fun j => V j ∨ j = x) (x :: l) := by
  obtain ⟨v1, v2, v3, v4⟩ := h
  refine ⟨?_, ?_, ?_⟩
  · rintro j j0 j1 (hv | rfl)
    · rcases v2 j j0 j1 hv with q | q
      · exact Or.inl q
      · exact Or.inr (Or.inl q)
    · rcases PT_top hp.2.2 with q | q
      · exact Or.inl q
      · exact Or.inr (Or.inl (v4 _ q))
  · rintro a ha j j1 haj e (hv | rfl)
    · exact v3 a ha j j1 haj e hv
    · have := PT_sib hA hx hp j a (List.mem_cons_self ..) ha e
      omega
  · intro a ha
    cases ha with
    | head => exact Or.inr rfl
    | tail _ ha => exact Or.inl (v4 a ha)
theorem VQ.heir {nc x y : Nat} {A : Nat → Nat} {V : Nat → Prop} {l : List Nat} (hA : ∀ i, 0 < i → i < nc → A i < i) (hx0 : 0 < x) (hy : y < nc) (hy0 : 0 < y) (hay : A y = x) (hV : VQ nc A (fun j => V j ∨ j = x) (x :: l)) (hnV : ¬ V x) (hcl : ∀ j, 0 < j → j < nc → V j → A j = 0 ∨ V (A j)) : VJ nc A (fun j => V j ∨ j = x) (x :: l) y := by
  have key : ∀ j, 0 < j → j < nc → A j = x → ¬ (V j ∨ j = x) := by
    rintro j j0 j1 e (hv | rfl)
    · rcases hcl j j0 j1 hv with q | q
      · omega
      · rw [e] at q; exact hnV q
    · have := hA j j0 j1
      omega
  refine ⟨key y hy0 hy hay, hV.1, ?_, hV.2.2⟩
  intro a ha j j1 haj e
  cases ha with
  | head => exact key j (by omega) j1 (e.trans hay)
  | tail _ ha => exact hV.2.1 a ha j j1 haj e
theorem VQ.next {nc q j : Nat} {A : Nat → Nat} {V : Nat → Prop} {L pre l : List Nat} (hj : j < nc) (hqj : q < j) (hx : A j = A q) (hL : L = pre ++ q :: l) (hV : VQ nc A V L) : VJ nc A V l j := by
  subst hL
  have mq : q ∈ pre ++ q :: l := List.mem_append_right _ (List.mem_cons_self ..)
  have ml : ∀ a, a ∈ l → a ∈ pre ++ q :: l := fun a ha => List.mem_append_right _ (List.mem_cons_of_mem _ ha)
  refine ⟨hV.2.1 q mq j hj hqj hx, hV.1, ?_, fun a ha => hV.2.2 a (ml a ha)⟩
  intro a ha i hi hai e1
  cases ha with
  | head => exact hV.2.1 q mq i hi (by omega) (e1.trans hx)
  | tail _ ha => exact hV.2.1 a (ml a ha) i hi hai e1
theorem sib_ok {F N nc nn q : Nat} {base : Nat → Int32} {fs : Int32} {Q A C K P D b : Nat → Nat} {cel ah pf df ch mn : Nat → Int32} (h : TI N nc base fs Q A C K P D b) (hw : RW nc cel ah pf df ch mn Q A C K P D) (hnn : nc ≤ nn) (hnn2 : nn ≤ 8000) (hq : q < nc) (hq0 : 0 < q) : pm_X3_nextSibling F nn ah nn ch nn mn (nI q) = some (if q + 1 < C (A q) + K (A q) then nI (q + 1) else -1) := by
  obtain ⟨a1, a2, a3⟩ := h.2.1 q hq0 hq
  obtain ⟨c1, c2, c3⟩ := h.2.2.1 (A q) (by omega) (by omega)
  have w2 := (hw q hq).2.1
  rw [if_neg (by omega)] at w2
  have w5 := (hw (A q) (by omega)).2.2.2.2.1
  have w6 := (hw (A q) (by omega)).2.2.2.2.2
  rw [if_neg (by omega)] at w5
  have bb := z_in (show A q < nn by omega) (show nn < 2 ^ 31 by omega)
  rw [pm_X3_nextSibling, z_bd (show q < nn by omega) (by omega), z_cl (show q < 2 ^ 31 by omega), w2, if_neg (nI_m1 (show A q < 2 ^ 31 by omega)), z_cl (show A q < 2 ^ 31 by omega), if_neg bb, if_neg bb, w5, w6, nI_add, z_1]
  by_cases e : q + 1 < C (A q) + K (A q)
  · rw [if_pos (nI_lt e (by omega)), if_pos e]
  · rw [if_neg (nI_nlt (by omega) (by omega)), if_neg e]
/-- the class's way up in a strategy, against the reference's stack -/
theorem planUp {F N nc nn ec pn : Nat} {base : Nat → Int32} {fs wn : Int32} {Q A C K P D Z b : Nat → Nat} {cel ah pf df ch mn pa op be : Nat → Int32} (hN : N < 12) (hfs : fs = 1 ∨ fs = 2) (hwn : wn = 1 ∨ wn = 2) (hz : ZW fs wn P D Z) (h : TI N nc base fs Q A C K P D b) (hn : TN nc A C K P D b (fun _ => False)) (hw : RW nc cel ah pf df ch mn Q A C K P D) (hnn : nc ≤ nn) (hnn2 : nn ≤ 8000) (hec : ec ≤ 8000) (hpn : ec ≤ pn) (hpn2 : pn ≤ 8000) (hZ0 : Z 0 = 0) :
    ∀ (l : List Nat) k up q e (es : List Nat) w, l.length + 1 < k → up + (l.length + 1) ≤ N * N → q < nc → PT A (q :: l) q → (∀ a, a ∈ q :: l → Z a = 0) → PP pa (e :: es) (nI e) → (∀ x, x ∈ e :: es → x < ec) → es.length = l.length → ST fs wn A C K op be (q :: l) es w →
    ∃ ow en nx, pm_X4_writePlan_L126 F (N * N) nn ah nn ch nn mn (nI 0) (nI ec) pn pa k (og fs wn (l.length + 1)) (nI q) (nI e) (-1) (nI up) = some (ow, en, nx) ∧ ((nx = -1 ∧ w = 0) ∨ ∃ q' l' es' pre w', nx = nI (q' + 1) ∧ q :: l = pre ++ q' :: l' ∧ en = tv es' ∧ ow = og fs wn (List.length l') ∧ List.length es' = List.length l' ∧ PP pa es' (tv es') ∧ (∀ x, x ∈ es' → x < ec) ∧ PT A l' (A q') ∧ w = w' + 1 ∧ op w' = nI (q' + 1) ∧ be w' = tv es' ∧ ST fs wn A C K op be ((q' + 1) :: l') es' w' ∧ q' + 1 < nc ∧ A (q' + 1) = A q' ∧ Z (q' + 1) = 0 ∧ ∀ a, a ∈ l' → Z a = 0) := by
  have hsq := sq_le hN
  have h8 := h.1
  -- a step
  have step : ∀ (l : List Nat) k up q e (es : List Nat), up + (l.length + 1) ≤ N * N → q < nc → PT A (q :: l) q → PP pa (e :: es) (nI e) → e < ec → pm_X4_writePlan_L126 F (N * N) nn ah nn ch nn mn (nI 0) (nI ec) pn pa (k + 1) (og fs wn (l.length + 1)) (nI q) (nI e) (-1) (nI up) = pm_X4_writePlan_L126 F (N * N) nn ah nn ch nn mn (nI 0) (nI ec) pn pa k (og fs wn l.length) (nI (A q)) (tv es) (if sdl fs l.length = wn then -1 else if q + 1 < C (A q) + K (A q) then nI (q + 1) else -1) (nI (up + 1)) := by
    intro l k up q e es hup hq hp hE he
    have hq0 := hp.2.1
    have w2 := (hw q hq).2.1
    rw [if_neg (by omega)] at w2
    have hpe := PP_tv hE.2.2
    have hhas : pm_X2_has F (nI ec) (nI e) = some 1 := by
      rw [pm_X2_has, if_neg (nI_neg (show e < 2 ^ 31 by omega)), z_gt he (by omega)]
    have hsb : (if og fs wn l.length = 0 then bd1 (pm_X3_nextSibling F nn ah nn ch nn mn (nI q)) fun r => some r else some (-1)) = some (if sdl fs l.length = wn then -1 else if q + 1 < C (A q) + K (A q) then nI (q + 1) else -1) := by
      unfold og
      by_cases ho : sdl fs l.length = wn
      · rw [if_pos ho, if_pos ho, if_neg (show ¬ (1 : Int32) = 0 by decide)]
      · rw [if_neg ho, if_neg ho, if_pos rfl, sib_ok h hw hnn hnn2 hq hq0, bd1_e]
    rw [pm_X4_writePlan_L126, z_gt (show up < N * N by omega) (by omega), if_pos (show (-1 : Int32) = -1 from rfl), if_neg (fun c => by have := (nI_eq (show q < 2 ^ 31 by omega) (show 0 < 2 ^ 31 by omega)).mp c; omega), og_p hfs hwn, bd1_e, hsb, bd1_e, z_bd (show q < nn by omega) (by omega), z_cl (show q < 2 ^ 31 by omega), w2, hhas, bd1_e, if_neg (show ¬ (1 : Int32) = 0 by decide), z_bd (show e < pn by omega) (by omega), z_cl (show e < 2 ^ 31 by omega), hpe, z_1]
  have stop : ∀ k (ow a en : Int32) up j, j < 8000 → pm_X4_writePlan_L126 F (N * N) nn ah nn ch nn mn (nI 0) (nI ec) pn pa (k + 1) ow a en (nI j) up = some (ow, en, nI j) := by
    intro k ow a en up j hj
    rw [pm_X4_writePlan_L126, if_neg (nI_m1 (show j < 2 ^ 31 by omega))]
    split <;> rfl
  -- a sibling waits
  have found : ∀ (l : List Nat) k up q e (es : List Nat) w, 1 < k → up + (l.length + 1) ≤ N * N → q < nc → PT A (q :: l) q → (∀ a, a ∈ q :: l → Z a = 0) → PP pa (e :: es) (nI e) → (∀ x, x ∈ e :: es → x < ec) → es.length = l.length → ST fs wn A C K op be (q :: l) es w → ¬ sdl fs l.length = wn → q + 1 < C (A q) + K (A q) → ∃ ow en nx, pm_X4_writePlan_L126 F (N * N) nn ah nn ch nn mn (nI 0) (nI ec) pn pa k (og fs wn (l.length + 1)) (nI q) (nI e) (-1) (nI up) = some (ow, en, nx) ∧ ∃ q' l' es' pre w', nx = nI (q' + 1) ∧ q :: l = pre ++ q' :: l' ∧ en = tv es' ∧ ow = og fs wn (List.length l') ∧ List.length es' = List.length l' ∧ PP pa es' (tv es') ∧ (∀ x, x ∈ es' → x < ec) ∧ PT A l' (A q') ∧ w = w' + 1 ∧ op w' = nI (q' + 1) ∧ be w' = tv es' ∧ ST fs wn A C K op be ((q' + 1) :: l') es' w' ∧ q' + 1 < nc ∧ A (q' + 1) = A q' ∧ Z (q' + 1) = 0 ∧ ∀ a, a ∈ l' → Z a = 0 := by
    intro l k up q e es w hk hup hq hp hZ hE hlt hes hS ho hsb
    obtain ⟨k', rfl⟩ : ∃ k', k = k' + 1 + 1 := ⟨k - 2, by omega⟩
    obtain ⟨a1, a2, a3⟩ := h.2.1 q hp.2.1 hq
    obtain ⟨c1, c2, c3⟩ := h.2.2.1 (A q) (by omega) (by omega)
    obtain ⟨w', s1, s2, s3⟩ := hS
    have hsn : sbs fs wn A C K l q = C (A q) + K (A q) - 1 - q := if_neg ho
    have hA1 : A (q + 1) = A q := c3 (q + 1) (by omega) hsb
    have hsn2 : sbs fs wn A C K l (q + 1) = C (A q) + K (A q) - 1 - (q + 1) := by
      unfold sbs
      rw [if_neg ho, hA1]
    rw [hsn] at s2 s3
    have hZA : Z (A q) = 0 := by
      rcases PT_top hp.2.2 with r | r
      · rw [r]; exact hZ0
      · exact hZ _ (List.mem_cons_of_mem _ r)
    refine ⟨_, _, _, ?_, q, l, es, [], w' + (C (A q) + K (A q) - 1 - (q + 1)), rfl, rfl, rfl, rfl, hes, ?_, fun x hx => hlt x (List.mem_cons_of_mem _ hx), hp.2.2, by omega, ?_, ?_, ⟨w', s1, by rw [hsn2], fun j hj => ?_⟩, by omega, hA1, ?_, fun a ha => hZ a (List.mem_cons_of_mem _ ha)⟩
    · rw [step l (k' + 1) up q e es hup hq hp hE (hlt e (List.mem_cons_self ..)), if_neg ho, if_pos hsb, stop k' _ _ _ _ _ (by omega)]
    · have := hE.2.2
      rw [PP_tv this] at this
      exact this
    · have := (s3 (C (A q) + K (A q) - 1 - (q + 1)) (by omega)).1
      rw [show C (A q) + K (A q) - 1 - (C (A q) + K (A q) - 1 - (q + 1)) = q + 1 by omega] at this
      exact this
    · exact (s3 (C (A q) + K (A q) - 1 - (q + 1)) (by omega)).2
    · rw [hsn2] at hj
      rw [hA1]
      exact s3 j (by omega)
    · exact all_zero hfs hz hn (by omega) hp.2.2 (by omega) hZA ho (q + 1) (by omega) hsb
  intro l
  induction l with
  | nil =>
    intro k up q e es w hk hup hq hp hZ hE hlt hes hS
    have hk' : 0 + 1 < k := hk
    have hup' : up + 1 ≤ N * N := hup
    by_cases hc : ¬ sdl fs ([] : List Nat).length = wn ∧ q + 1 < C (A q) + K (A q)
    · obtain ⟨ow, en, nx, f1, f2⟩ := found [] k up q e es w (by omega) hup hq hp hZ hE hlt hes hS hc.1 hc.2
      exact ⟨ow, en, nx, f1, Or.inr f2⟩
    · obtain ⟨k', rfl⟩ : ∃ k', k = k' + 1 + 1 := ⟨k - 2, by omega⟩
      have hnx : (if sdl fs ([] : List Nat).length = wn then (-1 : Int32) else if q + 1 < C (A q) + K (A q) then nI (q + 1) else -1) = -1 := by
        by_cases a : sdl fs ([] : List Nat).length = wn
        · rw [if_pos a]
        · rw [if_neg a, if_neg (fun q => hc ⟨a, q⟩)]
      have hs0 : sbs fs wn A C K [] q = 0 := by
        unfold sbs
        by_cases a : sdl fs ([] : List Nat).length = wn
        · rw [if_pos a]
        · rw [if_neg a]
          have hq2 : ¬ q + 1 < C (A q) + K (A q) := fun t => hc ⟨a, t⟩
          omega
      obtain ⟨w', s1, s2, s3⟩ := hS
      have e0 : w' = 0 := s1
      have eA : A q = 0 := hp.2.2
      refine ⟨og fs wn 0, tv es, -1, ?_, Or.inl ⟨rfl, by omega⟩⟩
      have st := step [] (k' + 1) up q e es hup hq hp hE (hlt e (List.mem_cons_self ..))
      rw [hnx, eA] at st
      rw [st, pm_X4_writePlan_L126, if_pos (show (-1 : Int32) = -1 from rfl), if_pos (show nI 0 = nI 0 from rfl)]
      split <;> rfl
  | cons r l ih =>
    intro k up q e es w hk hup hq hp hZ hE hlt hes hS
    have hk' : l.length + 1 + 1 < k := hk
    have hup' : up + (l.length + 1 + 1) ≤ N * N := hup
    by_cases hc : ¬ sdl fs (r :: l).length = wn ∧ q + 1 < C (A q) + K (A q)
    · obtain ⟨ow, en, nx, f1, f2⟩ := found (r :: l) k up q e es w (by omega) hup hq hp hZ hE hlt hes hS hc.1 hc.2
      exact ⟨ow, en, nx, f1, Or.inr f2⟩
    · obtain ⟨k', rfl⟩ : ∃ k', k = k' + 1 := ⟨k - 1, by omega⟩
      have hnx : (if sdl fs (r :: l).length = wn then (-1 : Int32) else if q + 1 < C (A q) + K (A q) then nI (q + 1) else -1) = -1 := by
        by_cases a : sdl fs (r :: l).length = wn
        · rw [if_pos a]
        · rw [if_neg a, if_neg (fun q => hc ⟨a, q⟩)]
      have hs0 : sbs fs wn A C K (r :: l) q = 0 := by
        unfold sbs
        by_cases a : sdl fs (r :: l).length = wn
        · rw [if_pos a]
        · rw [if_neg a]
          have hq2 : ¬ q + 1 < C (A q) + K (A q) := fun t => hc ⟨a, t⟩
          omega
      obtain ⟨w', s1, s2, s3⟩ := hS
      have er : A q = r := hp.2.2.1
      obtain ⟨a1, a2, a3⟩ := h.2.1 q hp.2.1 hq
      cases es with
      | nil =>
        have : 0 = l.length + 1 := hes
        omega
      | cons e2 es2 =>
        have hp2 : PT A (r :: l) r := by
          have := hp.2.2
          rw [er] at this
          exact this
        have hE2 : PP pa (e2 :: es2) (nI e2) := by
          have := hE.2.2
          rw [PP_tv this] at this
          exact this
        obtain ⟨ow, en, nx, f1, f2⟩ := ih k' (up + 1) r e2 es2 w' (by omega) (by omega) (by omega) hp2 (fun a ha => hZ a (List.mem_cons_of_mem _ ha)) hE2 (fun x hx => hlt x (List.mem_cons_of_mem _ hx)) (by have : es2.length + 1 = l.length + 1 := hes; omega) s1
        have st := step (r :: l) k' up q e (e2 :: es2) hup hq hp hE (hlt e (List.mem_cons_self ..))
        rw [hnx, er] at st
        refine ⟨ow, en, nx, st.trans f1, ?_⟩
        rcases f2 with ⟨g1, g2⟩ | ⟨q', l', es', pre, w2, b1, b2, b3, b4, b5, b6, b7, b8, b9, b10⟩
        · exact Or.inl ⟨g1, by omega⟩
        · exact Or.inr ⟨q', l', es', q :: pre, w2, b1, by rw [b2]; rfl, b3, b4, b5, b6, b7, b8, by omega, b10⟩
