/-! PURE: the board's neighbours -/
def nbr (N c k : Nat) : Option Nat :=
  match k with
  | 0 => if c % N = 0 then none else some (c - 1)
  | 1 => if c % N + 1 = N then none else some (c + 1)
  | 2 => if c < N then none else some (c - N)
  | 3 => if c + N < N * N then some (c + N) else none
  | 4 => if c % N + 1 = N ∨ c < N then none else some (c - N + 1)
  | _ => if c % N = 0 ∨ N * N ≤ c + N then none else some (c + N - 1)
def nbI (N c k : Nat) : Int32 := match nbr N c k with
  | some d => nI d
  | none => -1
def opk (k : Nat) : Nat := match k with
  | 0 => 1
  | 1 => 0
  | 2 => 3
  | 3 => 2
  | 4 => 5
  | _ => 4
def nbOk (N c k : Nat) : Bool := match nbr N c k with
  | none => true
  | some d => decide (d < N * N) && decide (opk k < 6) && decide (nbr N d (opk k) = some c)
theorem nbr_all : ∀ N, N < 12 → ∀ c, c < N * N → ∀ k, k < 6 → nbOk N c k = true := by decide +kernel
theorem nbr_ok {N c k d : Nat} (hN : N < 12) (hc : c < N * N) (hk : k < 6) (h : nbr N c k = some d) : d < N * N ∧ opk k < 6 ∧ nbr N d (opk k) = some c := by
  have h1 := nbr_all N hN c hc k hk
  unfold nbOk at h1
  rw [h] at h1
  simp only [Bool.and_eq_true, decide_eq_true_eq] at h1
  exact ⟨h1.1.1, h1.1.2, h1.2⟩
def nbhOk (N c k : Nat) : Bool := decide (pm_X7_neighbour 0 (nI N) (nI c) (nI k) = some (nbI N c k))
theorem nbh_all : ∀ N, N < 12 → ∀ c, c < N * N → ∀ k, k < 6 → nbhOk N c k = true := by decide +kernel
theorem neighbour_ok {F N c k : Nat} (hN : N < 12) (hc : c < N * N) (hk : k < 6) : pm_X7_neighbour F (nI N) (nI c) (nI k) = some (nbI N c k) := by
  have h1 := nbh_all N hN c hc k hk
  unfold nbhOk at h1
  exact of_decide_eq_true h1
/-- joined: neighbours with the same stone -/
def adj (N : Nat) (st : Nat → Int32) (a b : Nat) : Prop := ∃ k, k < 6 ∧ nbr N a k = some b ∧ st b = st a
theorem adj_lt {N : Nat} {st : Nat → Int32} {a b : Nat} (hN : N < 12) (ha : a < N * N) (h : adj N st a b) : b < N * N := by
  obtain ⟨k, hk, h1, _⟩ := h
  exact (nbr_ok hN ha hk h1).1
theorem adj_symm {N : Nat} {st : Nat → Int32} {a b : Nat} (hN : N < 12) (ha : a < N * N) (h : adj N st a b) : adj N st b a := by
  obtain ⟨k, hk, h1, h2⟩ := h
  have h3 := nbr_ok hN ha hk h1
  exact ⟨opk k, h3.2.1, h3.2.2, h2.symm⟩
/-- in the chain of a -/
def Ch (N : Nat) (st : Nat → Int32) (a c : Nat) : Prop := ∀ P : Nat → Prop, P a → (∀ x y, P x → adj N st x y → P y) → P c
theorem Ch.rf {N : Nat} {st : Nat → Int32} {a : Nat} : Ch N st a a := fun _ h _ => h
theorem Ch.step {N : Nat} {st : Nat → Int32} {a b c : Nat} (h : Ch N st a b) (h2 : adj N st b c) : Ch N st a c := fun P h1 h3 => h3 b c (h P h1 h3) h2
theorem Ch.trans {N : Nat} {st : Nat → Int32} {a b c : Nat} (h : Ch N st a b) (h2 : Ch N st b c) : Ch N st a c := fun P h1 h3 => h2 P (h P h1 h3) h3
theorem Ch.ind {N : Nat} {st : Nat → Int32} {a c : Nat} (h : Ch N st a c) (P : Nat → Prop) (h1 : P a) (h2 : ∀ x y, Ch N st a x → P x → adj N st x y → P y) : P c := by
  have := h (fun x => Ch N st a x ∧ P x) ⟨Ch.rf, h1⟩ (fun x y hx hy => ⟨hx.1.step hy, h2 x y hx.1 hx.2 hy⟩)
  exact this.2
theorem Ch.lt {N : Nat} {st : Nat → Int32} {a c : Nat} (hN : N < 12) (ha : a < N * N) (h : Ch N st a c) : c < N * N := h (fun x => x < N * N) ha (fun _ _ hx hy => adj_lt hN hx hy)
theorem Ch.same {N : Nat} {st : Nat → Int32} {a c : Nat} (h : Ch N st a c) : st c = st a := h (fun x => st x = st a) rfl (fun _ _ hx ⟨_, _, _, e⟩ => e.trans hx)
theorem Ch.symm {N : Nat} {st : Nat → Int32} {a c : Nat} (hN : N < 12) (ha : a < N * N) (h : Ch N st a c) : Ch N st c a := by
  refine (h.ind (fun x => Ch N st x a) Ch.rf ?_)
  intro x y hx hxa hxy
  exact Ch.trans (Ch.step Ch.rf (adj_symm hN (hx.lt hN ha) hxy)) hxa
