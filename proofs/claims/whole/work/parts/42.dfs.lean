/-! PURE: the class's marks -/
theorem and_or (x m : Int32) : (x ||| m) &&& m = m := by
  apply Int32.toBitVec_inj.mp
  show (x.toBitVec ||| m.toBitVec) &&& m.toBitVec = m.toBitVec
  apply BitVec.eq_of_getLsbD_eq
  intro i hi
  simp only [BitVec.getLsbD_and, BitVec.getLsbD_or]
  cases x.toBitVec.getLsbD i <;> cases m.toBitVec.getLsbD i <;> rfl
theorem or_of_and {x m : Int32} (h : x &&& m = m) : x ||| m = x := by
  apply Int32.toBitVec_inj.mp
  have h2 : x.toBitVec &&& m.toBitVec = m.toBitVec := congrArg Int32.toBitVec h
  show x.toBitVec ||| m.toBitVec = x.toBitVec
  apply BitVec.eq_of_getLsbD_eq
  intro i hi
  have h3 := congrArg (fun v => v.getLsbD i) h2
  simp only [BitVec.getLsbD_and, BitVec.getLsbD_or] at h3 ⊢
  revert h3
  cases x.toBitVec.getLsbD i <;> cases m.toBitVec.getLsbD i <;> simp
theorem z_b0 {β : Type} {n : Nat} {a : Option β} (h : 0 < n) : (if (0 : Int32) < 0 ∨ n ≤ (0 : Int32).toNatClampNeg then none else a) = a := by
  refine if_neg ?_
  rintro (h1 | h1)
  · exact absurd h1 (by decide)
  · have : (0 : Int32).toNatClampNeg = 0 := by decide
    omega
theorem z_in {d n : Nat} (h : d < n) (hn : n < 2 ^ 31) : ¬ (nI d < 0 ∨ n ≤ d) := by
  rintro (h1 | h1)
  · exact nI_pos (show d < 2 ^ 31 by omega) h1
  · omega
theorem nI_m1 {d : Nat} (h : d < 2 ^ 31) : ¬ nI d = (-1 : Int32) := by
  intro e
  have h1 := congrArg Int32.toInt e
  rw [nI_toInt h] at h1
  have : (-1 : Int32).toInt = -1 := by decide
  omega
def Mk (mk : Int32) (m : Nat → Int32) (c : Nat) : Bool := decide ((m c &&& mk) = mk)
def um (mk : Int32) (m : Nat → Int32) (c : Nat) : Bool := !(Mk mk m c)
theorem Mk_t {mk : Int32} {m : Nat → Int32} {c : Nat} (h : (m c &&& mk) = mk) : Mk mk m c = true := decide_eq_true h
theorem Mk_f {mk : Int32} {m : Nat → Int32} {c : Nat} (h : ¬ (m c &&& mk) = mk) : Mk mk m c = false := decide_eq_false h
/-- behind the first j directions around a -/
def OA (N : Nat) (st : Nat → Int32) (a : Nat) (mk : Int32) (m0 s0 : Nat → Int32) (o0 : Nat) (m s : Nat → Int32) (o j : Nat) : Prop :=
  (o0 ≤ o ∧ ∀ i, i < o0 → s i = s0 i) ∧ (∀ i, o0 ≤ i → i < o → ∃ d, s i = nI d ∧ adj N st a d ∧ Mk mk m d = true ∧ Mk mk m0 d = false) ∧
  (∀ c, m c = m0 c ∨ (m c = m0 c ||| mk ∧ adj N st a c ∧ Mk mk m0 c = false ∧ ∃ i, o0 ≤ i ∧ i < o ∧ s i = nI c)) ∧
  (∀ k, k < j → ∀ d, nbr N a k = some d → st d = st a → Mk mk m d = true) ∧ o + cnt (um mk m) (N * N) = o0 + cnt (um mk m0) (N * N)
theorem OA.keep {N : Nat} {st : Nat → Int32} {a : Nat} {mk : Int32} {m0 s0 : Nat → Int32} {o0 : Nat} {m s : Nat → Int32} {o j : Nat} (h : OA N st a mk m0 s0 o0 m s o j) (hj : ∀ d, nbr N a j = some d → st d = st a → Mk mk m d = true) : OA N st a mk m0 s0 o0 m s o (j + 1) := by
  refine ⟨h.1, h.2.1, h.2.2.1, fun k hk d h1 h2 => ?_, h.2.2.2.2⟩
  by_cases e : k = j
  · subst e; exact hj d h1 h2
  · exact h.2.2.2.1 k (by omega) d h1 h2
theorem openAround_L {F N : Nat} {st near : Nat → Int32} {a : Nat} {mk : Int32} {m0 s0 : Nat → Int32} {o0 : Nat} (hN : N < 12) (ha : a < N * N) (hnear : ∀ c, c < N * N → ∀ k, k < 6 → near (6 * c + k) = nbI N c k) (hcap : o0 + cnt (um mk m0) (N * N) ≤ N * N) :
    ∀ (k j : Nat) (m s : Nat → Int32) (o : Nat), j ≤ 6 → 6 < j + k → OA N st a mk m0 s0 o0 m s o j → ∃ m' s' o', pm_X0_openAround_L6 F (N * N) st (6 * (N * N)) near (N * N) (N * N) (nI a) mk k (nI o) (nI j) m s = some (nI o', m', s') ∧ OA N st a mk m0 s0 o0 m' s' o' 6 := by
  have hn : N * N ≤ 121 := by
    have : N ≤ 11 := by omega
    exact Nat.le_trans (Nat.mul_le_mul this this) (by decide)
  intro k
  induction k with
  | zero => intro j m s o h1 h2; omega
  | succ k ih =>
    intro j m s o h1 h2 hO
    rw [pm_X0_openAround_L6]
    by_cases h : j < 6
    · rw [show (6 : Int32) = nI 6 from by decide, z_gt h (by omega), pk_mul, nI_add, z_bd (show 6 * a + j < 6 * (N * N) by omega) (by omega), z_cl (show 6 * a + j < 2 ^ 31 by omega), hnear a ha j h, z_1]
      cases hb : nbr N a j with
      | none =>
        rw [show nbI N a j = -1 by unfold nbI; rw [hb], if_pos rfl]
        exact ih (j + 1) m s o h (by omega) (hO.keep (fun d h3 => by rw [hb] at h3; cases h3))
      | some d =>
        have hd := (nbr_ok hN ha h hb).1
        rw [show nbI N a j = nI d by unfold nbI; rw [hb], if_neg (nI_m1 (show d < 2 ^ 31 by omega)), z_bd hd (by omega), z_bd ha (by omega), z_cl (show d < 2 ^ 31 by omega), z_cl (show a < 2 ^ 31 by omega)]
        by_cases hs : st d = st a
        · rw [if_pos hs]
          by_cases hm : (m d &&& mk) = mk
          · rw [if_neg (z_in hd (by omega)), if_pos hm]
            exact ih (j + 1) m s o h (by omega) (hO.keep (fun d' h3 _ => by rw [hb] at h3; cases h3; exact Mk_t hm))
          · have hpos : 0 < cnt (um mk m) (N * N) := cnt_pos hd (by unfold um; rw [Mk_f hm]; rfl)
            have ho : o < N * N := by have := hO.2.2.2.2; omega
            rw [if_neg (z_in hd (by omega)), if_neg hm, z_gt ho (by omega), z_bd ho (by omega), z_1, z_cl (show o < 2 ^ 31 by omega)]
            have hadj : adj N st a d := ⟨j, h, hb, hs⟩
            have hmd : (upd m d (m d ||| mk)) d = m d ||| mk := if_pos rfl
            have hmo : ∀ c, c ≠ d → (upd m d (m d ||| mk)) c = m c := fun c hc => if_neg hc
            have hMd : Mk mk (upd m d (m d ||| mk)) d = true := Mk_t (by rw [hmd]; exact and_or _ _)
            have hMm : ∀ c, Mk mk m c = true → Mk mk (upd m d (m d ||| mk)) c = true := by
              intro c hc
              by_cases e : c = d
              · subst e; exact hMd
              · unfold Mk; rw [hmo c e]; exact hc
            have hm0 : m d = m0 d := by
              rcases hO.2.2.1 d with e | ⟨e, -⟩
              · exact e
              · exact absurd (by rw [e]; exact and_or _ _) hm
            refine ih (j + 1) _ _ (o + 1) h (by omega) ⟨⟨by have := hO.1.1; omega, fun i hi => ?_⟩, ?_, ?_, ?_, ?_⟩
            · rw [← hO.1.2 i hi]; exact if_neg (by have := hO.1.1; omega)
            · intro i h3 h4
              by_cases e : i = o
              · subst e
                exact ⟨d, if_pos rfl, hadj, hMd, by unfold Mk; rw [← hm0]; exact decide_eq_false hm⟩
              · obtain ⟨d', q1, q2, q3, q4⟩ := hO.2.1 i h3 (by omega)
                exact ⟨d', (if_neg e).trans q1, q2, hMm d' q3, q4⟩
            · intro c
              by_cases e : c = d
              · subst e
                exact Or.inr ⟨by rw [hmd, hm0], hadj, by unfold Mk; rw [← hm0]; exact decide_eq_false hm, o, hO.1.1, Nat.lt_succ_self o, if_pos rfl⟩
              · rw [hmo c e]
                rcases hO.2.2.1 c with q | ⟨q1, q2, q3, i, q4, q5, q6⟩
                · exact Or.inl q
                · exact Or.inr ⟨q1, q2, q3, i, q4, by omega, (if_neg (by omega)).trans q6⟩
            · intro k' hk' d' q1 q2
              by_cases e : k' = j
              · subst e
                rw [hb] at q1
                cases q1
                exact hMd
              · exact hMm d' (hO.2.2.2.1 k' (by omega) d' q1 q2)
            · have hcn : cnt (um mk m) (N * N) = cnt (um mk (upd m d (m d ||| mk))) (N * N) + 1 := by
                refine cnt_upd hd ?_ ?_ ?_
                · unfold um; rw [hMd]; rfl
                · unfold um; rw [Mk_f hm]; rfl
                · intro c _ hc; unfold um Mk; rw [hmo c hc]
              have := hO.2.2.2.2
              omega
        · rw [if_neg hs]
          exact ih (j + 1) m s o h (by omega) (hO.keep (fun d' h3 h4 => by rw [hb] at h3; cases h3; exact absurd h4 hs))
    · have : j = 6 := by omega
      subst this
      rw [show (6 : Int32) = nI 6 from by decide, z_le (Nat.le_refl _) (by omega)]
      exact ⟨m, s, o, rfl, hO⟩
theorem openAround_ok {F N : Nat} {st near : Nat → Int32} {a : Nat} {mk : Int32} {m s : Nat → Int32} {o : Nat} (hF : 6 < F) (hN : N < 12) (ha : a < N * N) (hnear : ∀ c, c < N * N → ∀ k, k < 6 → near (6 * c + k) = nbI N c k) (hcap : o + cnt (um mk m) (N * N) ≤ N * N) :
    ∃ m' s' o', pm_X0_openAround F (N * N) st (6 * (N * N)) near (N * N) m (N * N) s (nI a) mk (nI o) = some (nI o', m', s') ∧ OA N st a mk m s o m' s' o' 6 := by
  obtain ⟨m', s', o', h1, h2⟩ := openAround_L (F := F) (st := st) (s0 := s) hN ha hnear hcap F 0 m s o (by omega) (by omega) ⟨⟨Nat.le_refl _, fun _ _ => rfl⟩, fun i h1 h2 => by omega, fun c => Or.inl rfl, fun k hk => by omega, rfl⟩
  refine ⟨m', s', o', ?_, h2⟩
  rw [pm_X0_openAround, z_0, h1]
  rfl
/-- the state of the walk through the chain of a: what is marked is a's chain's, what is open is marked, what is marked is open or has its neighbours marked -/
def DF (N : Nat) (st : Nat → Int32) (a : Nat) (mk : Int32) (m0 : Nat → Int32) (m s : Nat → Int32) (o : Nat) : Prop :=
  (∀ c, m c = m0 c ∨ (m c = m0 c ||| mk ∧ Ch N st a c)) ∧ Mk mk m a = true ∧
  (∀ i, i < o → ∃ d, s i = nI d ∧ Ch N st a d ∧ Mk mk m d = true) ∧
  (∀ c, Ch N st a c → Mk mk m c = true → (∃ i, i < o ∧ s i = nI c) ∨ ∀ d, adj N st c d → Mk mk m d = true)
theorem DF.step {N : Nat} {st : Nat → Int32} {a b : Nat} {mk : Int32} {m0 m s m' s' : Nat → Int32} {o o' : Nat} (h : DF N st a mk m0 m s (o + 1)) (hb : s o = nI b) (hbl : b < N * N) (hCb : Ch N st a b) (hN : N < 12) (ha : a < N * N) (h2 : OA N st b mk m s o m' s' o' 6) : DF N st a mk m0 m' s' o' := by
  have hn : N * N ≤ 121 := by
    have : N ≤ 11 := by omega
    exact Nat.le_trans (Nat.mul_le_mul this this) (by decide)
  have hmono : ∀ c, Mk mk m c = true → Mk mk m' c = true := by
    intro c hc
    rcases h2.2.2.1 c with e | ⟨e, -⟩
    · unfold Mk at hc ⊢; rw [e]; exact hc
    · exact Mk_t (by rw [e]; exact and_or _ _)
  refine ⟨fun c => ?_, hmono a h.2.1, fun i hi => ?_, fun c hc hM => ?_⟩
  · rcases h2.2.2.1 c with e | ⟨e, had, hf, -⟩
    · rw [e]; exact h.1 c
    · have hm : m c = m0 c := by
        rcases h.1 c with q | ⟨q, -⟩
        · exact q
        · exact absurd (Mk_t (mk := mk) (m := m) (c := c) (by rw [q]; exact and_or _ _)) (by rw [hf]; decide)
      exact Or.inr ⟨by rw [e, hm], hCb.step had⟩
  · by_cases hio : i < o
    · obtain ⟨d, q1, q2, q3⟩ := h.2.2.1 i (by omega)
      exact ⟨d, (h2.1.2 i hio).trans q1, q2, hmono d q3⟩
    · obtain ⟨d, q1, q2, q3, -⟩ := h2.2.1 i (by omega) hi
      exact ⟨d, q1, hCb.step q2, q3⟩
  · by_cases hcb : c = b
    · subst hcb
      exact Or.inr (fun d ⟨k, hk, q1, q2⟩ => h2.2.2.2.1 k hk d q1 q2)
    · rcases h2.2.2.1 c with e | ⟨-, -, -, i, q1, q2, q3⟩
      · have hMm : Mk mk m c = true := by unfold Mk at hM ⊢; rw [← e]; exact hM
        rcases h.2.2.2 c hc hMm with ⟨i, q1, q2⟩ | q
        · by_cases hio : i < o
          · exact Or.inl ⟨i, Nat.lt_of_lt_of_le hio h2.1.1, (h2.1.2 i hio).trans q2⟩
          · have : i = o := by omega
            subst this
            have hcl := hc.lt hN ha
            exact absurd ((nI_eq (by omega) (by omega)).mp (q2.symm.trans hb)) hcb
        · exact Or.inr (fun d hd => hmono d (q d hd))
      · exact Or.inl ⟨i, q2, q3⟩
theorem markChain_L {F N : Nat} {st near : Nat → Int32} {a : Nat} {mk : Int32} {m0 : Nat → Int32} (hF : 6 < F) (hN : N < 12) (ha : a < N * N) (hnear : ∀ c, c < N * N → ∀ k, k < 6 → near (6 * c + k) = nbI N c k) :
    ∀ (k t : Nat) (m s : Nat → Int32) (o : Nat), t + o + cnt (um mk m) (N * N) ≤ N * N → N * N < t + k → DF N st a mk m0 m s o → ∃ m' s', pm_X0_markChain_L35 F (N * N) st (6 * (N * N)) near (N * N) (N * N) mk k (nI o) (nI t) m s = some (m', s') ∧ DF N st a mk m0 m' s' 0 := by
  have hn : N * N ≤ 121 := by
    have : N ≤ 11 := by omega
    exact Nat.le_trans (Nat.mul_le_mul this this) (by decide)
  intro k
  induction k with
  | zero => intro t m s o h1 h2; omega
  | succ k ih =>
    intro t m s o h1 h2 hD
    rw [pm_X0_markChain_L35]
    cases o with
    | zero =>
      by_cases h : t < N * N
      · rw [z_gt h (by omega), if_pos (by rw [nI_0]; decide)]
        exact ⟨m, s, rfl, hD⟩
      · rw [z_le (by omega) (by omega)]
        exact ⟨m, s, rfl, hD⟩
    | succ o =>
      have h : t < N * N := by omega
      obtain ⟨b, e0, hCb, hMb⟩ := hD.2.2.1 o (Nat.lt_succ_self o)
      have hbl := hCb.lt hN ha
      rw [z_gt h (by omega), if_neg (nI_nle (by omega) (by omega)), pk_m1, z_bd (show o < N * N by omega) (by omega), z_cl (show o < 2 ^ 31 by omega), e0]
      obtain ⟨m', s', o', q1, q2⟩ := openAround_ok (F := F) (st := st) (s := s) (o := o) (m := m) (mk := mk) hF hN hbl hnear (by omega)
      rw [q1]
      show ∃ m'' s'', pm_X0_markChain_L35 F (N * N) st (6 * (N * N)) near (N * N) (N * N) mk k (nI o') (nI t + 1) m' s' = some (m'', s'') ∧ _
      rw [z_1]
      exact ih (t + 1) m' s' o' (by have := q2.2.2.2.2; omega) (by omega) (hD.step e0 hbl hCb hN ha q2)
/-- markChain marks the chain, if its marks are alike all over it -/
theorem markChain_ok {F N : Nat} {st near : Nat → Int32} {a : Nat} {mk : Int32} {m s : Nat → Int32} (hF : 200 < F) (hN : N < 12) (ha : a < N * N) (hnear : ∀ c, c < N * N → ∀ k, k < 6 → near (6 * c + k) = nbI N c k) (hun : ∀ c, Ch N st a c → m c = m a) :
    ∃ m' s', pm_X0_markChain F (N * N) st (6 * (N * N)) near (N * N) m (N * N) s (nI a) mk = some (m', s') ∧ (∀ c, Ch N st a c → m' c = m c ||| mk) ∧ ∀ c, ¬ Ch N st a c → m' c = m c := by
  have hn : N * N ≤ 121 := by
    have : N ≤ 11 := by omega
    exact Nat.le_trans (Nat.mul_le_mul this this) (by decide)
  rw [pm_X0_markChain, z_bd ha (by omega), z_cl (show a < 2 ^ 31 by omega)]
  by_cases hm : (m a &&& mk) = mk
  · rw [if_pos hm]
    exact ⟨m, s, rfl, fun c hc => by rw [hun c hc]; exact (or_of_and hm).symm, fun _ _ => rfl⟩
  · rw [if_neg hm, z_b0 (show 0 < N * N by omega), show (0 : Int32).toNatClampNeg = 0 from by decide, z_0]
    have hmd : (upd m a (m a ||| mk)) a = m a ||| mk := if_pos rfl
    have hmo : ∀ c, c ≠ a → (upd m a (m a ||| mk)) c = m c := fun c hc => if_neg hc
    have hMa : Mk mk (upd m a (m a ||| mk)) a = true := Mk_t (by rw [hmd]; exact and_or _ _)
    have hfal : ∀ c, Ch N st a c → Mk mk m c = false := fun c hc => Mk_f (by rw [hun c hc]; exact hm)
    have hcn : cnt (um mk m) (N * N) = cnt (um mk (upd m a (m a ||| mk))) (N * N) + 1 := by
      refine cnt_upd ha ?_ ?_ ?_
      · unfold um; rw [hMa]; rfl
      · unfold um; rw [Mk_f hm]; rfl
      · intro c _ hc; unfold um Mk; rw [hmo c hc]
    have hle := cnt_le (um mk m) (N * N)
    obtain ⟨m', s', q1, q2⟩ := markChain_L (F := F) (st := st) (m0 := m) (mk := mk) (by omega) hN ha hnear F 0 (upd m a (m a ||| mk)) (upd s 0 (nI a)) 1 (by omega) (by omega) (by
      refine ⟨fun c => ?_, hMa, fun i hi => ⟨a, ?_, Ch.rf, hMa⟩, fun c hc hM => ?_⟩
      · by_cases e : c = a
        · subst e; exact Or.inr ⟨hmd, Ch.rf⟩
        · exact Or.inl (hmo c e)
      · have : i = 0 := by omega
        subst this
        exact if_pos rfl
      · by_cases e : c = a
        · subst e; exact Or.inl ⟨0, by omega, if_pos rfl⟩
        · have h1 := hfal c hc
          unfold Mk at hM h1
          rw [hmo c e] at hM
          rw [h1] at hM
          cases hM)
    rw [show (1 : Int32) = nI 1 from by decide, q1]
    have hall : ∀ c, Ch N st a c → Mk mk m' c = true := by
      intro c hc
      refine hc.ind (fun x => Mk mk m' x = true) q2.2.1 ?_
      intro x y hx hMx hxy
      rcases q2.2.2.2 x hx hMx with ⟨i, hi, -⟩ | q
      · omega
      · exact q y hxy
    refine ⟨m', s', rfl, fun c hc => ?_, fun c hc => ?_⟩
    · rcases q2.1 c with e | ⟨e, -⟩
      · have h1 := hall c hc
        have h2 := hfal c hc
        unfold Mk at h1 h2
        rw [e, h2] at h1
        cases h1
      · exact e
    · rcases q2.1 c with e | ⟨-, e⟩
      · exact e
      · exact absurd e hc
