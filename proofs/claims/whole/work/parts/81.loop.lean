/-! PURE: the step and the loop of the law (written by law2.py) -/
theorem L4_lt {L i : Nat} (hL : L ≤ 2049) (hi : i ≤ 2053) (h : ¬ nI L - (4 : Int32) < nI i) : i + 4 ≤ L := by
  by_cases h4 : 4 ≤ L
  · rw [show (4 : Int32) = nI 4 from by decide, pk_sub (by omega)] at h
    exact Nat.le_of_not_lt (fun q => h (nI_lt (by omega) (by omega)))
  · exfalso
    apply h
    have hp : 0 ≤ nI i := nI_pos' (by omega)
    have hn : nI L - (4 : Int32) < 0 := by
      rcases (by omega : L = 0 ∨ L = 1 ∨ L = 2 ∨ L = 3) with rfl | rfl | rfl | rfl <;> decide
    exact Int32.lt_of_lt_of_le hn hp
theorem ix_ok {L i k : Nat} {x : Int32} (hL : L ≤ 2049) (hx : x = nI k) (h : i + k < L) : ¬ (nI i + x < 0 ∨ L ≤ (nI i + x).toNatClampNeg) := by
  rw [hx, nI_add]
  exact nI_in h (by omega)
theorem dite_ind {x y : Int32} {a b r : Option Int32} (h1 : x = y → a = r) (h2 : ¬ x = y → b = r) : (if x = y then a else b) = r := by
  by_cases h : x = y
  · rw [if_pos h]; exact h1 h
  · rw [if_neg h]; exact h2 h
set_option maxRecDepth 100000 in
theorem AL_step {F L i : Nat} {S : Nat → Int32} {f : TF} (hF : 9000 < F) (hL : L ≤ 2049) (hi : i ≤ 2053) (hr : i + 4 ≤ L → AL f (nI (i + 4))) : AL (pm_L_law_step F L S f) (nI i) := by
  intro N pc nc nn ec pn tc tn nx g mv xs ms near ed bnear bed xp mp a1 a2 a3 a4 a5 a6 b1 b2 b3 b4 b5 b6 pa pe sa sc xa xc ma mc w1 w2 w3 w4 w5 w6 w7 sf smv cs cm bud wins wv y1 y2 y3 y4 y5 y6 y7 y8 fst m z bs bm bz bh ne seen wave op ob he be wave2 h
  rw [pm_L_law_step]
  by_cases he : nI L - (4 : Int32) < nI i
  · rw [if_pos he]
  have h4 := L4_lt hL hi he
  have h1 : ¬ (nI i + (1 : Int32) < 0 ∨ L ≤ (nI i + (1 : Int32)).toNatClampNeg) := ix_ok (k := 1) hL (by decide) (by omega)
  have h2 : ¬ (nI i + (2 : Int32) < 0 ∨ L ≤ (nI i + (2 : Int32)).toNatClampNeg) := ix_ok (k := 2) hL (by decide) (by omega)
  have h3 : ¬ (nI i + (3 : Int32) < 0 ∨ L ≤ (nI i + (3 : Int32)).toNatClampNeg) := ix_ok (k := 3) hL (by decide) (by omega)
  have hr4 : AL f (nI i + 4) := by
    rw [show (4 : Int32) = nI 4 from by decide, nI_add]
    exact hr h4
  rw [if_neg he, if_neg (nI_in (by omega) (by omega))]
  clear he hr
  refine dite_ind (fun e => AL_c0 hF h1 h2 h3 hr4 _ _ _ _ _ _ _ _ _ _ _ _ _ _ _ _ _ _ _ _ _ _ _ _ _ _ _ _ _ _ _ _ _ _ _ _ _ _ _ _ _ _ _ _ _ _ _ _ _ _ _ _ _ _ _ _ _ _ _ _ _ _ _ _ _ _ _ _ _ _ _ _ _ _ _ _ h) (fun _ => ?_)
  refine dite_ind (fun e => AL_c1 hF h1 hr4 _ _ _ _ _ _ _ _ _ _ _ _ _ _ _ _ _ _ _ _ _ _ _ _ _ _ _ _ _ _ _ _ _ _ _ _ _ _ _ _ _ _ _ _ _ _ _ _ _ _ _ _ _ _ _ _ _ _ _ _ _ _ _ _ _ _ _ _ _ _ _ _ _ _ _ _ h) (fun _ => ?_)
  refine dite_ind (fun e => AL_c2 hF h1 h2 hr4 _ _ _ _ _ _ _ _ _ _ _ _ _ _ _ _ _ _ _ _ _ _ _ _ _ _ _ _ _ _ _ _ _ _ _ _ _ _ _ _ _ _ _ _ _ _ _ _ _ _ _ _ _ _ _ _ _ _ _ _ _ _ _ _ _ _ _ _ _ _ _ _ _ _ _ _ h) (fun _ => ?_)
  refine dite_ind (fun e => AL_c3 hF  hr4 _ _ _ _ _ _ _ _ _ _ _ _ _ _ _ _ _ _ _ _ _ _ _ _ _ _ _ _ _ _ _ _ _ _ _ _ _ _ _ _ _ _ _ _ _ _ _ _ _ _ _ _ _ _ _ _ _ _ _ _ _ _ _ _ _ _ _ _ _ _ _ _ _ _ _ _ h) (fun _ => ?_)
  refine dite_ind (fun e => AL_c4 hF h1 h2 hr4 _ _ _ _ _ _ _ _ _ _ _ _ _ _ _ _ _ _ _ _ _ _ _ _ _ _ _ _ _ _ _ _ _ _ _ _ _ _ _ _ _ _ _ _ _ _ _ _ _ _ _ _ _ _ _ _ _ _ _ _ _ _ _ _ _ _ _ _ _ _ _ _ _ _ _ _ h) (fun _ => ?_)
  refine dite_ind (fun e => AL_c5 hF h1 h2 hr4 _ _ _ _ _ _ _ _ _ _ _ _ _ _ _ _ _ _ _ _ _ _ _ _ _ _ _ _ _ _ _ _ _ _ _ _ _ _ _ _ _ _ _ _ _ _ _ _ _ _ _ _ _ _ _ _ _ _ _ _ _ _ _ _ _ _ _ _ _ _ _ _ _ _ _ _ h) (fun _ => ?_)
  refine dite_ind (fun e => AL_c6 hF h1 hr4 _ _ _ _ _ _ _ _ _ _ _ _ _ _ _ _ _ _ _ _ _ _ _ _ _ _ _ _ _ _ _ _ _ _ _ _ _ _ _ _ _ _ _ _ _ _ _ _ _ _ _ _ _ _ _ _ _ _ _ _ _ _ _ _ _ _ _ _ _ _ _ _ _ _ _ _ h) (fun _ => ?_)
  refine dite_ind (fun e => AL_c7 hF  hr4 _ _ _ _ _ _ _ _ _ _ _ _ _ _ _ _ _ _ _ _ _ _ _ _ _ _ _ _ _ _ _ _ _ _ _ _ _ _ _ _ _ _ _ _ _ _ _ _ _ _ _ _ _ _ _ _ _ _ _ _ _ _ _ _ _ _ _ _ _ _ _ _ _ _ _ _ h) (fun _ => ?_)
  refine dite_ind (fun e => AL_c8 hF h1 h2 hr4 _ _ _ _ _ _ _ _ _ _ _ _ _ _ _ _ _ _ _ _ _ _ _ _ _ _ _ _ _ _ _ _ _ _ _ _ _ _ _ _ _ _ _ _ _ _ _ _ _ _ _ _ _ _ _ _ _ _ _ _ _ _ _ _ _ _ _ _ _ _ _ _ _ _ _ _ h) (fun _ => ?_)
  refine dite_ind (fun e => AL_c9 hF h1 hr4 _ _ _ _ _ _ _ _ _ _ _ _ _ _ _ _ _ _ _ _ _ _ _ _ _ _ _ _ _ _ _ _ _ _ _ _ _ _ _ _ _ _ _ _ _ _ _ _ _ _ _ _ _ _ _ _ _ _ _ _ _ _ _ _ _ _ _ _ _ _ _ _ _ _ _ _ h) (fun _ => ?_)
  refine dite_ind (fun e => AL_c10 hF h1 h2 hr4 _ _ _ _ _ _ _ _ _ _ _ _ _ _ _ _ _ _ _ _ _ _ _ _ _ _ _ _ _ _ _ _ _ _ _ _ _ _ _ _ _ _ _ _ _ _ _ _ _ _ _ _ _ _ _ _ _ _ _ _ _ _ _ _ _ _ _ _ _ _ _ _ _ _ _ _ h) (fun _ => ?_)
  refine dite_ind (fun e => AL_c11 hF h1 h2 hr4 _ _ _ _ _ _ _ _ _ _ _ _ _ _ _ _ _ _ _ _ _ _ _ _ _ _ _ _ _ _ _ _ _ _ _ _ _ _ _ _ _ _ _ _ _ _ _ _ _ _ _ _ _ _ _ _ _ _ _ _ _ _ _ _ _ _ _ _ _ _ _ _ _ _ _ _ h) (fun _ => ?_)
  refine dite_ind (fun e => AL_c12 hF  hr4 _ _ _ _ _ _ _ _ _ _ _ _ _ _ _ _ _ _ _ _ _ _ _ _ _ _ _ _ _ _ _ _ _ _ _ _ _ _ _ _ _ _ _ _ _ _ _ _ _ _ _ _ _ _ _ _ _ _ _ _ _ _ _ _ _ _ _ _ _ _ _ _ _ _ _ _ h) (fun _ => ?_)
  refine dite_ind (fun e => AL_c13 hF h1 h2 hr4 _ _ _ _ _ _ _ _ _ _ _ _ _ _ _ _ _ _ _ _ _ _ _ _ _ _ _ _ _ _ _ _ _ _ _ _ _ _ _ _ _ _ _ _ _ _ _ _ _ _ _ _ _ _ _ _ _ _ _ _ _ _ _ _ _ _ _ _ _ _ _ _ _ _ _ _ h) (fun _ => ?_)
  refine dite_ind (fun e => AL_c14 hF h1 h2 hr4 _ _ _ _ _ _ _ _ _ _ _ _ _ _ _ _ _ _ _ _ _ _ _ _ _ _ _ _ _ _ _ _ _ _ _ _ _ _ _ _ _ _ _ _ _ _ _ _ _ _ _ _ _ _ _ _ _ _ _ _ _ _ _ _ _ _ _ _ _ _ _ _ _ _ _ _ h) (fun _ => ?_)
  refine dite_ind (fun e => AL_c15 hF h1 hr4 _ _ _ _ _ _ _ _ _ _ _ _ _ _ _ _ _ _ _ _ _ _ _ _ _ _ _ _ _ _ _ _ _ _ _ _ _ _ _ _ _ _ _ _ _ _ _ _ _ _ _ _ _ _ _ _ _ _ _ _ _ _ _ _ _ _ _ _ _ _ _ _ _ _ _ _ h) (fun _ => ?_)
  refine dite_ind (fun e => AL_c16 hF h1 hr4 _ _ _ _ _ _ _ _ _ _ _ _ _ _ _ _ _ _ _ _ _ _ _ _ _ _ _ _ _ _ _ _ _ _ _ _ _ _ _ _ _ _ _ _ _ _ _ _ _ _ _ _ _ _ _ _ _ _ _ _ _ _ _ _ _ _ _ _ _ _ _ _ _ _ _ _ h) (fun _ => ?_)
  exact AL_cd hF hr4 _ _ _ _ _ _ _ _ _ _ _ _ _ _ _ _ _ _ _ _ _ _ _ _ _ _ _ _ _ _ _ _ _ _ _ _ _ _ _ _ _ _ _ _ _ _ _ _ _ _ _ _ _ _ _ _ _ _ _ _ _ _ _ _ _ _ _ _ _ _ _ _ _ _ _ _ h
theorem AL_loop {F L : Nat} {S : Nat → Int32} (hF : 9000 < F) (hL : L ≤ 2049) : ∀ k i, i ≤ L + 4 → L + 4 < i + 4 * k → AL (pm_L_law_L28 F L S k) (nI i) := by
  intro k
  induction k with
  | zero => intro i h1 h2; omega
  | succ k ih =>
    intro i h1 h2
    have := AL_step (S := S) hF hL (by omega : i ≤ 2053) (fun q => ih (i + 4) (by omega) (by omega))
    rw [pm_L_law_L28]
    exact this
