/-! methods that make arrays and objects: the world behind them names addresses of its own -/
def sAX : Nat → Int32 := fun j => match j with | 0 => -1 | 1 => 1 | 2 => 0 | 3 => 0 | 4 => 1 | _ => -1
def sAY : Nat → Int32 := fun j => match j with | 0 => 0 | 1 => 0 | 2 => -1 | 3 => 1 | 4 => -1 | _ => 1
def SA (tX tY : Nat) (A : Nat → Prop) (U : State) (H : Heap) : Prop := va_Z "HexTable$Board" "AROUND_X" "[I" (.ref tX) A U H ∧ va_T .int tX 6 (fun j => .int (sAX j)) A U H ∧ va_Z "HexTable$Board" "AROUND_Y" "[I" (.ref tY) A U H ∧ va_T .int tY 6 (fun j => .int (sAY j)) A U H
theorem SA.go {tX tY : Nat} {A B : Nat → Prop} {s U : State} {H : Heap} {locs : List Loc} (h : SA tX tY A s s.heap) (hS : va_S A s.heap H locs) (hF : ∀ q, B q → A q) (hal : s.vm.Alike U.vm) : SA tX tY B U H :=
  ⟨((h.1.kept (H1 := H) hS.2.1).narrow hF).moved hal, ((h.2.1.kept (H1 := H) hS.2.1).narrow hF).moved hal, ((h.2.2.1.kept (H1 := H) hS.2.1).narrow hF).moved hal, ((h.2.2.2.kept (H1 := H) hS.2.1).narrow hF).moved hal⟩
/-- what a method that makes things may need beside its world: the two static rows, or nothing -/
def ZZ (z : Option (Nat × Nat)) (A : Nat → Prop) (U : State) (H : Heap) : Prop := match z with
  | none => True
  | some (tX, tY) => SA tX tY A U H
theorem ZZ.go {z : Option (Nat × Nat)} {A B : Nat → Prop} {s U : State} {H : Heap} {locs : List Loc} (h : ZZ z A s s.heap) (hS : va_S A s.heap H locs) (hF : ∀ q, B q → A q) (hal : s.vm.Alike U.vm) : ZZ z B U H := by
  cases z with
  | none => trivial
  | some t => exact SA.go (s := s) h hS hF hal
theorem ZZ.same {z : Option (Nat × Nat)} {A : Nat → Prop} {s U : State} {H : Heap} (h : ZZ z A s H) (hal : s.vm.Alike U.vm) : ZZ z A U H := by
  cases z with
  | none => trivial
  | some t => exact ⟨h.1.moved hal, h.2.1.moved hal, h.2.2.1.moved hal, h.2.2.2.moved hal⟩
def PreZ (z : Option (Nat × Nat)) (D : va_G) (cI cB cZ : ClassId) (w : va_W) (sz : Nat) (U : State) : Prop := Pre D cI cB cZ w sz U ∧ ZZ z (va_A w sz) U U.heap
def PostX {S Qt : Type} (D : va_G) (w1 : S → Qt → va_W) (A : Nat → Prop) (u : S) (t : State) : Prop := ∃ a : Qt, va_P D vwCl (w1 u a) t.heap ∧ va_D A (w1 u a)
def MIX {S Qt : Type} (z : Option (Nat × Nat)) (l : Launch) (y : MethodName) (cc : ByteArray) (mL : Nat) (ret : Option FieldType) (rm : Room) (av : List Value) (D : va_G) (cI cB cZ : ClassId) (w : va_W) (w1 : S → Qt → va_W) (R : Int32 × S) : Prop :=
  ∀ sz, Met l y (.code y cc mL ret :: gt) rm (va_Pc av (PreZ z D cI cB cZ w sz)) (va_Qi (fun r u => (r, u) = R) (PostX D w1 (va_A w sz)) (va_A w sz)) rm.cells rm.slots (va_A w sz)
def MVX {S Qt : Type} (z : Option (Nat × Nat)) (l : Launch) (y : MethodName) (cc : ByteArray) (mL : Nat) (ret : Option FieldType) (rm : Room) (av : List Value) (D : va_G) (cI cB cZ : ClassId) (w : va_W) (w1 : S → Qt → va_W) (R : S) : Prop :=
  ∀ sz, Met l y (.code y cc mL ret :: gt) rm (va_Pc av (PreZ z D cI cB cZ w sz)) (va_Qv (fun u => u = R) (PostX D w1 (va_A w sz)) (va_A w sz)) rm.cells rm.slots (va_A w sz)
def MRX {S : Type} (z : Option (Nat × Nat)) (l : Launch) (y : MethodName) (cc : ByteArray) (mL : Nat) (ret : Option FieldType) (rm : Room) (av : List Value) (D : va_G) (cI cB cZ : ClassId) (w : va_W) (w1 : S → Nat → va_W) (R : S) : Prop :=
  ∀ sz, Met l y (.code y cc mL ret :: gt) rm (va_Pc av (PreZ z D cI cB cZ w sz)) (va_Qr (fun u => u = R) (fun u a t => va_P D vwCl (w1 u a) t.heap ∧ va_D (va_A w sz) (w1 u a)) (va_A w sz)) rm.cells rm.slots (va_A w sz)
theorem ent_ix {S Qt : Type} {z : Option (Nat × Nat)} {l : Launch} {y : MethodName} {cc : ByteArray} {mL : Nat} {ret : Option FieldType} {rm : Room} {av : List Value} {D : va_G} {cI cB cZ : ClassId} {w : va_W} {w1 : S → Qt → va_W} {R : Int32 × S} (hy : plainName y.cls = true) (hn : (lg_sl av).length ≤ mL)
    (body : ∀ (p : Program) (e : Env) (s : State) (m : MethodId) (args : Array Value) (below : List Frame) (meth : Method) (c : Code) (A : Nat → Prop) (ls : Array Slot) (Q : State → Prop), MQ below (va_Qi (fun r u => (r, u) = R) (PostX D w1 A) A) args s rm.cells rm.slots A = Q → p.tables.exec = Jvm.exec → c.code = cc → meth.sig.returnType = ret → c.maxLocals = mL → s.vm.findClass y.cls = some m.cls → (∀ x ∈ gt, x.before args s = true) → meth.locks = false → meth.name = y.name → KK D cI cB cZ s → (∀ q, s.heap.size ≤ q → A q) → va_P D vwCl w s.heap → va_D A w → va_S A s.heap s.heap [] → ZZ z A s s.heap → lv_has ls mL (lv_args 0 av) →
      W p l e rm s m args below meth c s.heap [] 0 0 Q (F0 m 0 ls [])) : MIX z l y cc mL ret rm av D cI cB cZ w w1 R := by
  intro sz
  refine Met.ofW (cc := cc) (maxL := mL) (ret := ret) hy rfl ?_
  intro p e s m args below meth c s₁ B hml hv
  obtain ⟨rfl, ⟨hsz, hP, hK, hD0⟩, hZ⟩ := hv
  have hts := atoms_spec (ws := .code y cc mL ret :: gt) B.pre
  have hown := findClass_of_methodNamed B.named
  subst hsz
  have hD := hD0.self (sz := s.heap.size)
  rw [lg_entry_eq]
  exact body p e s m _ below meth c _ _ _ rfl B.exec B.bytes B.returns hml hown (fun x hx => hts x (List.mem_cons_of_mem _ hx)) B.notSynchronized (name_of_methodNamed B.named B.method).1 hK (fun q h => Or.inr h) hP hD va_S.rf hZ (lv_entry av hn)
theorem ent_vx {S Qt : Type} {z : Option (Nat × Nat)} {l : Launch} {y : MethodName} {cc : ByteArray} {mL : Nat} {ret : Option FieldType} {rm : Room} {av : List Value} {D : va_G} {cI cB cZ : ClassId} {w : va_W} {w1 : S → Qt → va_W} {R : S} (hy : plainName y.cls = true) (hn : (lg_sl av).length ≤ mL)
    (body : ∀ (p : Program) (e : Env) (s : State) (m : MethodId) (args : Array Value) (below : List Frame) (meth : Method) (c : Code) (A : Nat → Prop) (ls : Array Slot) (Q : State → Prop), MQ below (va_Qv (fun u => u = R) (PostX D w1 A) A) args s rm.cells rm.slots A = Q → p.tables.exec = Jvm.exec → c.code = cc → meth.sig.returnType = ret → c.maxLocals = mL → s.vm.findClass y.cls = some m.cls → (∀ x ∈ gt, x.before args s = true) → meth.locks = false → meth.name = y.name → KK D cI cB cZ s → (∀ q, s.heap.size ≤ q → A q) → va_P D vwCl w s.heap → va_D A w → va_S A s.heap s.heap [] → ZZ z A s s.heap → lv_has ls mL (lv_args 0 av) →
      W p l e rm s m args below meth c s.heap [] 0 0 Q (F0 m 0 ls [])) : MVX z l y cc mL ret rm av D cI cB cZ w w1 R := by
  intro sz
  refine Met.ofW (cc := cc) (maxL := mL) (ret := ret) hy rfl ?_
  intro p e s m args below meth c s₁ B hml hv
  obtain ⟨rfl, ⟨hsz, hP, hK, hD0⟩, hZ⟩ := hv
  have hts := atoms_spec (ws := .code y cc mL ret :: gt) B.pre
  have hown := findClass_of_methodNamed B.named
  subst hsz
  have hD := hD0.self (sz := s.heap.size)
  rw [lg_entry_eq]
  exact body p e s m _ below meth c _ _ _ rfl B.exec B.bytes B.returns hml hown (fun x hx => hts x (List.mem_cons_of_mem _ hx)) B.notSynchronized (name_of_methodNamed B.named B.method).1 hK (fun q h => Or.inr h) hP hD va_S.rf hZ (lv_entry av hn)
theorem ent_rx {S : Type} {z : Option (Nat × Nat)} {l : Launch} {y : MethodName} {cc : ByteArray} {mL : Nat} {ret : Option FieldType} {rm : Room} {av : List Value} {D : va_G} {cI cB cZ : ClassId} {w : va_W} {w1 : S → Nat → va_W} {R : S} (hy : plainName y.cls = true) (hn : (lg_sl av).length ≤ mL)
    (body : ∀ (p : Program) (e : Env) (s : State) (m : MethodId) (args : Array Value) (below : List Frame) (meth : Method) (c : Code) (A : Nat → Prop) (ls : Array Slot) (Q : State → Prop), MQ below (va_Qr (fun u => u = R) (fun u a t => va_P D vwCl (w1 u a) t.heap ∧ va_D A (w1 u a)) A) args s rm.cells rm.slots A = Q → p.tables.exec = Jvm.exec → c.code = cc → meth.sig.returnType = ret → c.maxLocals = mL → s.vm.findClass y.cls = some m.cls → (∀ x ∈ gt, x.before args s = true) → meth.locks = false → meth.name = y.name → KK D cI cB cZ s → (∀ q, s.heap.size ≤ q → A q) → va_P D vwCl w s.heap → va_D A w → va_S A s.heap s.heap [] → ZZ z A s s.heap → lv_has ls mL (lv_args 0 av) →
      W p l e rm s m args below meth c s.heap [] 0 0 Q (F0 m 0 ls [])) : MRX z l y cc mL ret rm av D cI cB cZ w w1 R := by
  intro sz
  refine Met.ofW (cc := cc) (maxL := mL) (ret := ret) hy rfl ?_
  intro p e s m args below meth c s₁ B hml hv
  obtain ⟨rfl, ⟨hsz, hP, hK, hD0⟩, hZ⟩ := hv
  have hts := atoms_spec (ws := .code y cc mL ret :: gt) B.pre
  have hown := findClass_of_methodNamed B.named
  subst hsz
  have hD := hD0.self (sz := s.heap.size)
  rw [lg_entry_eq]
  exact body p e s m _ below meth c _ _ _ rfl B.exec B.bytes B.returns hml hown (fun x hx => hts x (List.mem_cons_of_mem _ hx)) B.notSynchronized (name_of_methodNamed B.named B.method).1 hK (fun q h => Or.inr h) hP hD va_S.rf hZ (lv_entry av hn)
section RTX
variable {p : Program} {l : Launch} {e : Env} {rm : Room} {s : State} {m : MethodId} {args : Array Value} {below : List Frame} {meth : Method} {c : Code} {H : Heap} {locs : List Loc} {cells slots : Nat} {Q : State → Prop} {cc : ByteArray} {pc : Nat} {ls : Array Slot} {A : Nat → Prop} {D : va_G} {cI cB cZ : ClassId}
theorem rt_ix {S Qt : Type} {w1 : S → Qt → va_W} {R : Int32 × S} {v : Int32} {u : S} (a : Qt) (hQ : MQ below (va_Qi (fun r u => (r, u) = R) (PostX D w1 A) A) args s cells slots A = Q) (hx : p.tables.exec = Jvm.exec) (hb : c.code = cc) (hr : meth.sig.returnType = some .int) (hlk : meth.locks = false) (h : some (v, u) = some R) (hP : va_P D vwCl (w1 u a) H) (hD : va_D A (w1 u a)) (hS : va_S A s.heap H locs) (hdg : decode cc pc = .ok (.ireturn, 1)) : W p l e rm s m args below meth c H locs cells slots Q (F0 m pc ls [.int v]) := by
  rw [← hQ]
  exact W.iret hx hb hr (fun t ht hW => ⟨⟨v, u, rfl, Option.some.inj h, a, by rw [ht]; exact hP, hD⟩, hS.F ht⟩) hS.2.2 hdg hlk
theorem rt_zx {S Qt : Type} {w1 : S → Qt → va_W} {R : Int32 × S} {v : Int32} {u : S} (hz : v = 0 ∨ v = 1) (a : Qt) (hQ : MQ below (va_Qi (fun r u => (r, u) = R) (PostX D w1 A) A) args s cells slots A = Q) (hx : p.tables.exec = Jvm.exec) (hb : c.code = cc) (hr : meth.sig.returnType = some .boolean) (hlk : meth.locks = false) (h : some (v, u) = some R) (hP : va_P D vwCl (w1 u a) H) (hD : va_D A (w1 u a)) (hS : va_S A s.heap H locs) (hdg : decode cc pc = .ok (.ireturn, 1)) : W p l e rm s m args below meth c H locs cells slots Q (F0 m pc ls [.int v]) := by
  rw [← hQ]
  exact W.zret hx hb hr (by rcases hz with rfl | rfl <;> rfl) (fun t ht hW => ⟨⟨v, u, rfl, Option.some.inj h, a, by rw [ht]; exact hP, hD⟩, hS.F ht⟩) hS.2.2 hdg hlk
theorem rt_vx {S Qt : Type} {w1 : S → Qt → va_W} {R : S} {u : S} (a : Qt) (hQ : MQ below (va_Qv (fun u => u = R) (PostX D w1 A) A) args s cells slots A = Q) (hx : p.tables.exec = Jvm.exec) (hb : c.code = cc) (hr : meth.sig.returnType = none) (hlk : meth.locks = false) (h : some u = some R) (hP : va_P D vwCl (w1 u a) H) (hD : va_D A (w1 u a)) (hS : va_S A s.heap H locs) (hdg : decode cc pc = .ok (.return_, 1)) : W p l e rm s m args below meth c H locs cells slots Q (F0 m pc ls []) := by
  rw [← hQ]
  exact W.vret hx hb hr (fun t ht hW => ⟨⟨u, rfl, Option.some.inj h, a, by rw [ht]; exact hP, hD⟩, hS.F ht⟩) hS.2.2 hdg hlk
theorem rt_rx {S : Type} {w1 : S → Nat → va_W} {R : S} {u : S} {a : Nat} {t0 : FieldType} (hQ : MQ below (va_Qr (fun u => u = R) (fun u a t => va_P D vwCl (w1 u a) t.heap ∧ va_D A (w1 u a)) A) args s cells slots A = Q) (hx : p.tables.exec = Jvm.exec) (hb : c.code = cc) (hr : meth.sig.returnType = some (.array t0)) (hlk : meth.locks = false) (h : some u = some R) (hP : va_P D vwCl (w1 u a) H) (hD : va_D A (w1 u a)) (hS : va_S A s.heap H locs) (hdg : decode cc pc = .ok (.areturn, 1)) : W p l e rm s m args below meth c H locs cells slots Q (F0 m pc ls [.ref a]) := by
  rw [← hQ]
  exact W.aret hx hb hr (Or.inr ⟨_, rfl⟩) (Or.inr ⟨a, rfl⟩) (fun t ht hW => ⟨⟨u, a, rfl, Option.some.inj h, by rw [ht]; exact hP, hD⟩, hS.F ht⟩) hS.2.2 hdg hlk
end RTX
theorem blindZ {z : Option (Nat × Nat)} {D : va_G} {cI cB cZ : ClassId} {av : List Value} {wc : va_W} {sz : Nat} : FrameBlind (va_Pc av (PreZ z D cI cB cZ wc sz)) := by
  intro a U g mk h
  obtain ⟨h1, ⟨h2, h3, h4, h5⟩, h6⟩ := h
  exact ⟨h1, ⟨h2, h3, KK.same (s := U) (U := U.calling g mk a) rfl h4, h5⟩, ZZ.same (s := U) (U := U.calling g mk a) h6 (Vm.Alike.refl U.vm)⟩
theorem pre_SZ {z : Option (Nat × Nat)} {D : va_G} {cI cB cZ : ClassId} {s : State} {H : Heap} {locs : List Loc} {ws wc : va_W} {As : List Value} {A : Nat → Prop} (hZ : ZZ z A s s.heap) (hS : va_S A s.heap H locs) (hA : ∀ q, s.heap.size ≤ q → A q) (hK : KK D cI cB cZ s) (hP : va_P D vwCl ws H) (hD : va_D A ws) (isC : List Nat) (hC : isC.map (fun i => ws[i]?) = wc.map some) (hn : va_nd isC = true) : PreS s H (va_Pc As (PreZ z D cI cB cZ wc H.size)) As :=
  ⟨blindZ, fun U hU hW => ⟨rfl, ⟨by rw [hU], by rw [hU]; exact cut_P hP isC hC, hK.warm hW, (hD.sub isC hn hC).weaken (fun _ _ _ _ => trivial)⟩, by rw [hU]; exact ZZ.go (s := s) hZ hS (va_free hD hS hA isC hC) hW.alike⟩⟩
theorem pre_VZ {z : Option (Nat × Nat)} {D : va_G} {cI cB cZ : ClassId} {s : State} {H : Heap} {locs : List Loc} {ws wc : va_W} {As : List Value} {A : Nat → Prop} {b ci q0 N : Nat} {C : String} {T : u_T} {fs : List Value} (hZ : ZZ z A s s.heap) (hS : va_S A s.heap H locs) (hA : ∀ q, s.heap.size ≤ q → A q) (hK : KK D cI cB cZ s) (hP : va_P D vwCl ws H) (hD : va_D A ws) (isC : List Nat) (hC : isC.map (fun i => ws[i]?) = wc.map some) (hn : va_nd isC = true) (hc : vwCl[ci]? = some (C, T, N)) (he : ws[q0]? = some (b, .inr (ci, fs))) : PreV s H C b (va_Pc (.ref b :: As) (PreZ z D cI cB cZ wc H.size)) As :=
  ⟨blindZ, va_recv hK.1 hP hc he, (pre_SZ (As := .ref b :: As) hZ hS hA hK hP hD isC hC hn).2⟩
section CLX
variable {p : Program} {l : Launch} {e : Env} {R : Room} {s : State} {m : MethodId} {args : Array Value} {below : List Frame} {meth : Method} {c : Code} {H : Heap} {locs : List Loc} {cells slots : Nat} {Q : State → Prop} {cc : ByteArray} {pc nL : Nat} {ls : Array Slot} {A : Nat → Prop} {D : va_G} {cI cB cZ : ClassId} {ws wc wr : va_W} {As rest st0 : List Value} {own C host : String} {idx n mLy : Nat} {y : MethodName} {cy : ByteArray} {ret : Option FieldType} {rmy : Room} {b : Nat} {a : Array Value}
theorem aft_ix {S Qt : Type} {w1 : S → Qt → va_W} {r0 : Int32} {u0 : S} {mc ms : Nat} (hP : va_P D vwCl ws H) (hD : va_D A ws) (hS : va_S A s.heap H locs) (hA : ∀ q, s.heap.size ≤ q → A q) (isC isR : List Nat) (hC : isC.map (fun i => ws[i]?) = wc.map some) (hR : isR.map (fun i => ws[i]?) = wr.map some) (hnR : va_nd isR = true) (hdis : ∀ i ∈ isR, i ∉ isC)
    (hr : va_Run p l e R s m args below meth c H locs cells slots mc ms (F0 m pc ls st0) rest (va_Qi (fun r u => (r, u) = (r0, u0)) (PostX D w1 (va_A wc H.size)) (va_A wc H.size) a) (va_A wc H.size))
    (kk : ∀ (x : Qt) (H1 : Heap) (locs1 : List Loc), va_P D vwCl (wr ++ w1 u0 x) H1 → va_D A (wr ++ w1 u0 x) → va_S A s.heap H1 locs1 → W p l e R s m args below meth c H1 locs1 (cells + mc) (slots + ms) Q (F0 m (pc + 3) ls (.int r0 :: rest))) : W p l e R s m args below meth c H locs cells slots Q (F0 m pc ls st0) := by
  have hF := va_free hD hS hA isC hC
  refine va_calli hr hS (fun q _ h => hF q h) hF (fun r u t H1 locs1 ht hvm hw hB hz1 hk1 hS1 => ?_)
  cases hw
  obtain ⟨x, hP1, hD1⟩ := hB
  rw [ht] at hP1
  obtain ⟨hP2, hD2⟩ := va_join hP hD isC isR hC hR hnR hdis hk1 hF hP1 hD1
  exact kk _ H1 locs1 hP2 hD2 hS1
theorem aft_vx {S Qt : Type} {w1 : S → Qt → va_W} {u0 : S} {mc ms : Nat} (hP : va_P D vwCl ws H) (hD : va_D A ws) (hS : va_S A s.heap H locs) (hA : ∀ q, s.heap.size ≤ q → A q) (isC isR : List Nat) (hC : isC.map (fun i => ws[i]?) = wc.map some) (hR : isR.map (fun i => ws[i]?) = wr.map some) (hnR : va_nd isR = true) (hdis : ∀ i ∈ isR, i ∉ isC)
    (hr : va_Run p l e R s m args below meth c H locs cells slots mc ms (F0 m pc ls st0) rest (va_Qv (fun u => u = u0) (PostX D w1 (va_A wc H.size)) (va_A wc H.size) a) (va_A wc H.size))
    (kk : ∀ (x : Qt) (H1 : Heap) (locs1 : List Loc), va_P D vwCl (wr ++ w1 u0 x) H1 → va_D A (wr ++ w1 u0 x) → va_S A s.heap H1 locs1 → W p l e R s m args below meth c H1 locs1 (cells + mc) (slots + ms) Q (F0 m (pc + 3) ls (rest))) : W p l e R s m args below meth c H locs cells slots Q (F0 m pc ls st0) := by
  have hF := va_free hD hS hA isC hC
  refine va_callv hr hS (fun q _ h => hF q h) hF (fun u t H1 locs1 ht hvm hw hB hz1 hk1 hS1 => ?_)
  cases hw
  obtain ⟨x, hP1, hD1⟩ := hB
  rw [ht] at hP1
  obtain ⟨hP2, hD2⟩ := va_join hP hD isC isR hC hR hnR hdis hk1 hF hP1 hD1
  exact kk _ H1 locs1 hP2 hD2 hS1
theorem aft_rx {S : Type} {w1 : S → Nat → va_W} {u0 : S} {mc ms : Nat} (hP : va_P D vwCl ws H) (hD : va_D A ws) (hS : va_S A s.heap H locs) (hA : ∀ q, s.heap.size ≤ q → A q) (isC isR : List Nat) (hC : isC.map (fun i => ws[i]?) = wc.map some) (hR : isR.map (fun i => ws[i]?) = wr.map some) (hnR : va_nd isR = true) (hdis : ∀ i ∈ isR, i ∉ isC)
    (hr : va_Run p l e R s m args below meth c H locs cells slots mc ms (F0 m pc ls st0) rest (va_Qr (fun u => u = u0) (fun u a t => va_P D vwCl (w1 u a) t.heap ∧ va_D (va_A wc H.size) (w1 u a)) (va_A wc H.size) a) (va_A wc H.size))
    (kk : ∀ (x : Nat) (H1 : Heap) (locs1 : List Loc), va_P D vwCl (wr ++ w1 u0 x) H1 → va_D A (wr ++ w1 u0 x) → va_S A s.heap H1 locs1 → W p l e R s m args below meth c H1 locs1 (cells + mc) (slots + ms) Q (F0 m (pc + 3) ls (.ref x :: rest))) : W p l e R s m args below meth c H locs cells slots Q (F0 m pc ls st0) := by
  have hF := va_free hD hS hA isC hC
  refine va_callr hr hS (fun q _ h => hF q h) hF (fun u ra t H1 locs1 ht hvm hw hB hz1 hk1 hS1 => ?_)
  cases hw
  obtain ⟨hP1, hD1⟩ := hB
  rw [ht] at hP1
  obtain ⟨hP2, hD2⟩ := va_join hP hD isC isR hC hR hnR hdis hk1 hF hP1 hD1
  exact kk _ H1 locs1 hP2 hD2 hS1
/-- the run of a constructor -/
theorem rn_I {Pc : Array Value → State → Prop} {Qc : Array Value → State → Outcome → State → Prop} {free : Addr → Prop} (hx : p.tables.exec = Jvm.exec) (hb : c.code = cc) (hml : c.maxLocals = nL) (hown : s.vm.findClass own = some m.cls) (hts : ∀ x ∈ gt, x.before args s = true) (hM : Met l y (.code y cy mLy none :: gt) rmy Pc Qc rmy.cells rmy.slots free) (hp : PreS s H Pc (.ref b :: As))
    (g1 : .methodLink own idx y ∈ gt) (g2 : .instanceMethod y ∈ gt) (g4 : .initialized y.cls ∈ gt) (g5 : .code y cy mLy none ∈ gt) (hd : y.cls ≠ "java/lang/invoke/MethodHandle" ∧ y.cls ≠ "java/lang/invoke/VarHandle" ∧ (parseMethodDescriptor y.desc).map (fun d => d.parameters.length) = some n) (hR : rmy.frames + 1 ≤ R.frames ∧ 8 + (mLy + 11) + rmy.locals ≤ R.locals) (hf : cells + rmy.cells ≤ R.cells ∧ slots + rmy.slots ≤ R.slots) (hnm : y.name = "<init>")
    (hn : As.length = n) (hsz : ls.size = nL) (hst : st0 = As.reverse ++ .ref b :: rest) (hcat : (rest.map fun v => v.category).sum ≤ 8) (hdg : decode cc pc = .ok (.invokespecial idx, 3)) :
    va_Run p l e R s m args below meth c H locs cells slots rmy.cells rmy.slots (F0 m pc ls st0) rest (Qc (Value.ref b :: As).toArray) free :=
  va_runI (As := As) (rest := rest) ⟨hx, hb, hml, hown, hts⟩ hM ⟨callB_of n hts (gi_0 g5) rfl rfl rfl (hts _ g4) (hts _ g1) hd hR, hnm, hts _ g2⟩ hp rfl hn hsz hst (lv_room hcat) hdg hf
/-- the run of a nest mate's constructor -/
theorem rn_IN {Pc : Array Value → State → Prop} {Qc : Array Value → State → Outcome → State → Prop} {free : Addr → Prop} (hx : p.tables.exec = Jvm.exec) (hb : c.code = cc) (hml : c.maxLocals = nL) (hown : s.vm.findClass own = some m.cls) (hts : ∀ x ∈ gt, x.before args s = true) (hM : Met l y (.code y cy mLy none :: gt) rmy Pc Qc rmy.cells rmy.slots free) (hp : PreS s H Pc (.ref b :: As))
    (g1 : va_Nw (.methodLinkNest own idx y host) s) (g2 : .instanceMethod y ∈ gt) (g4 : .initialized y.cls ∈ gt) (g5 : .code y cy mLy none ∈ gt) (hd : y.cls ≠ "java/lang/invoke/MethodHandle" ∧ y.cls ≠ "java/lang/invoke/VarHandle" ∧ (parseMethodDescriptor y.desc).map (fun d => d.parameters.length) = some n) (hR : rmy.frames + 1 ≤ R.frames ∧ 8 + (mLy + 11) + rmy.locals ≤ R.locals) (hf : cells + rmy.cells ≤ R.cells ∧ slots + rmy.slots ≤ R.slots) (hnm : y.name = "<init>")
    (hn : As.length = n) (hsz : ls.size = nL) (hst : st0 = As.reverse ++ .ref b :: rest) (hcat : (rest.map fun v => v.category).sum ≤ 8) (hdg : decode cc pc = .ok (.invokespecial idx, 3)) :
    va_Run p l e R s m args below meth c H locs cells slots rmy.cells rmy.slots (F0 m pc ls st0) rest (Qc (Value.ref b :: As).toArray) free :=
  va_runIN (As := As) (rest := rest) ⟨hx, hb, hml, hown, hts⟩ hM ⟨va_cnB n hts (gi_0 g5) rfl rfl rfl g1 (hts _ g4) hd hR, hnm, hts _ g2⟩ hp rfl hn hsz hst (lv_room hcat) hdg hf
theorem nu_newI (hx : p.tables.exec = Jvm.exec) (hb : c.code = cc) (hts : ∀ x ∈ gt, x.before args s = true) (hK : KK D cI cB cZ s) (hP : va_P D vwCl ws H) (hD : va_D A ws) (hS : va_S A s.heap H locs) (hA : ∀ q, s.heap.size ≤ q → A q) {n : Int32} (hn : ¬ n < 0) (hl : ¬ 100000 < n.toNatClampNeg) (hcells : cells + 1 ≤ R.cells) (hslots : slots + n.toNatClampNeg ≤ R.slots) (hdg : decode cc pc = .ok (.newarray .int, 2))
    (kk : ∀ (q : Nat) (H1 : Heap), va_P D vwCl (ws ++ [(q, .inl (cI, n.toNatClampNeg, .inl (fun _ => 0)))]) H1 → va_D A (ws ++ [(q, .inl (cI, n.toNatClampNeg, .inl (fun _ => 0)))]) → va_S A s.heap H1 locs → W p l e R s m args below meth c H1 locs (cells + 1) (slots + n.toNatClampNeg) Q (F0 m (pc + 2) ls (.ref q :: rest))) : W p l e R s m args below meth c H locs cells slots Q (F0 m pc ls (.int n :: rest)) := by
  refine va_newa (atype := .int) (ty := .int) hx hb (hts _ wd_1_64) rfl hK.1 hP hD hS hA (a0 := (n.toNatClampNeg, .inl (fun _ => 0))) (fun cA => rfl) hn rfl (Nat.le_trans (Nat.mul_le_mul (Nat.not_lt.mp hl) (show componentBytes .int ≤ 8 by decide)) (by decide)) hcells hslots hdg (fun q cA H1 hK1 hP1 hD1 hS1 => ?_)
  have e1 : cA = cI := Option.some.inj (((hK1.2 3 (cA, .int) rfl).2).symm.trans hK.2.1.1)
  subst e1
  exact kk q H1 hP1 hD1 hS1
theorem nu_newB (hx : p.tables.exec = Jvm.exec) (hb : c.code = cc) (hts : ∀ x ∈ gt, x.before args s = true) (hK : KK D cI cB cZ s) (hP : va_P D vwCl ws H) (hD : va_D A ws) (hS : va_S A s.heap H locs) (hA : ∀ q, s.heap.size ≤ q → A q) {n : Int32} (hn : ¬ n < 0) (hl : ¬ 100000 < n.toNatClampNeg) (hcells : cells + 1 ≤ R.cells) (hslots : slots + n.toNatClampNeg ≤ R.slots) (hdg : decode cc pc = .ok (.newarray .byte, 2))
    (kk : ∀ (q : Nat) (H1 : Heap), va_P D vwCl (ws ++ [(q, .inl (cB, n.toNatClampNeg, .inl (fun _ => 0)))]) H1 → va_D A (ws ++ [(q, .inl (cB, n.toNatClampNeg, .inl (fun _ => 0)))]) → va_S A s.heap H1 locs → W p l e R s m args below meth c H1 locs (cells + 1) (slots + n.toNatClampNeg) Q (F0 m (pc + 2) ls (.ref q :: rest))) : W p l e R s m args below meth c H locs cells slots Q (F0 m pc ls (.int n :: rest)) := by
  refine va_newa (atype := .byte) (ty := .byte) hx hb (hts _ wd_3_188) rfl hK.1 hP hD hS hA (a0 := (n.toNatClampNeg, .inl (fun _ => 0))) (fun cA => rfl) hn rfl (Nat.le_trans (Nat.mul_le_mul (Nat.not_lt.mp hl) (show componentBytes .byte ≤ 8 by decide)) (by decide)) hcells hslots hdg (fun q cA H1 hK1 hP1 hD1 hS1 => ?_)
  have e1 : cA = cB := Option.some.inj (((hK1.2 3 (cA, .byte) rfl).2).symm.trans hK.2.1.2.1)
  subst e1
  exact kk q H1 hP1 hD1 hS1
theorem nu_newZ (hx : p.tables.exec = Jvm.exec) (hb : c.code = cc) (hts : ∀ x ∈ gt, x.before args s = true) (hK : KK D cI cB cZ s) (hP : va_P D vwCl ws H) (hD : va_D A ws) (hS : va_S A s.heap H locs) (hA : ∀ q, s.heap.size ≤ q → A q) {n : Int32} (hn : ¬ n < 0) (hl : ¬ 100000 < n.toNatClampNeg) (hcells : cells + 1 ≤ R.cells) (hslots : slots + n.toNatClampNeg ≤ R.slots) (hdg : decode cc pc = .ok (.newarray .boolean, 2))
    (kk : ∀ (q : Nat) (H1 : Heap), va_P D vwCl (ws ++ [(q, .inl (cZ, n.toNatClampNeg, .inl (fun _ => 0)))]) H1 → va_D A (ws ++ [(q, .inl (cZ, n.toNatClampNeg, .inl (fun _ => 0)))]) → va_S A s.heap H1 locs → W p l e R s m args below meth c H1 locs (cells + 1) (slots + n.toNatClampNeg) Q (F0 m (pc + 2) ls (.ref q :: rest))) : W p l e R s m args below meth c H locs cells slots Q (F0 m pc ls (.int n :: rest)) := by
  refine va_newa (atype := .boolean) (ty := .boolean) hx hb (hts _ wd_3_189) rfl hK.1 hP hD hS hA (a0 := (n.toNatClampNeg, .inl (fun _ => 0))) (fun cA => rfl) hn rfl (Nat.le_trans (Nat.mul_le_mul (Nat.not_lt.mp hl) (show componentBytes .boolean ≤ 8 by decide)) (by decide)) hcells hslots hdg (fun q cA H1 hK1 hP1 hD1 hS1 => ?_)
  have e1 : cA = cZ := Option.some.inj (((hK1.2 3 (cA, .boolean) rfl).2).symm.trans hK.2.1.2.2)
  subst e1
  exact kk q H1 hP1 hD1 hS1
end CLX
