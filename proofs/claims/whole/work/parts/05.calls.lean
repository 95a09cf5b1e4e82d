section RTS
variable {p : Program} {l : Launch} {e : Env} {rm : Room} {s : State} {m : MethodId} {args : Array Value} {below : List Frame} {meth : Method} {c : Code} {H : Heap} {locs : List Loc} {cells slots : Nat} {Q : State → Prop} {cc : ByteArray} {pc : Nat} {ls : Array Slot} {A : Nat → Prop} {D : va_G} {cI cB cZ : ClassId}
theorem rt_i {S : Type} {w1 : S → va_W} {R : Int32 × S} {v : Int32} {u : S} (hQ : MQ below (va_Qi (fun r u => (r, u) = R) (Post D w1 A) A) args s cells slots A = Q) (hx : p.tables.exec = Jvm.exec) (hb : c.code = cc) (hr : meth.sig.returnType = some .int) (hlk : meth.locks = false) (h : some (v, u) = some R) (hP : va_P D vwCl (w1 u) H) (hD : va_D A (w1 u)) (hS : va_S A s.heap H locs) (hdg : decode cc pc = .ok (.ireturn, 1)) : W p l e rm s m args below meth c H locs cells slots Q (F0 m pc ls [.int v]) := by
  rw [← hQ]
  exact W.iret hx hb hr (fun t ht hW => ⟨⟨v, u, rfl, Option.some.inj h, by rw [ht]; exact hP, hD⟩, hS.F ht⟩) hS.2.2 hdg hlk
theorem rt_z {S : Type} {w1 : S → va_W} {R : Int32 × S} {v : Int32} {u : S} (hz : v = 0 ∨ v = 1) (hQ : MQ below (va_Qi (fun r u => (r, u) = R) (Post D w1 A) A) args s cells slots A = Q) (hx : p.tables.exec = Jvm.exec) (hb : c.code = cc) (hr : meth.sig.returnType = some .boolean) (hlk : meth.locks = false) (h : some (v, u) = some R) (hP : va_P D vwCl (w1 u) H) (hD : va_D A (w1 u)) (hS : va_S A s.heap H locs) (hdg : decode cc pc = .ok (.ireturn, 1)) : W p l e rm s m args below meth c H locs cells slots Q (F0 m pc ls [.int v]) := by
  rw [← hQ]
  exact W.zret hx hb hr (by rcases hz with rfl | rfl <;> rfl) (fun t ht hW => ⟨⟨v, u, rfl, Option.some.inj h, by rw [ht]; exact hP, hD⟩, hS.F ht⟩) hS.2.2 hdg hlk
theorem rt_v {S : Type} {w1 : S → va_W} {R : S} {u : S} (hQ : MQ below (va_Qv (fun u => u = R) (Post D w1 A) A) args s cells slots A = Q) (hx : p.tables.exec = Jvm.exec) (hb : c.code = cc) (hr : meth.sig.returnType = none) (hlk : meth.locks = false) (h : some u = some R) (hP : va_P D vwCl (w1 u) H) (hD : va_D A (w1 u)) (hS : va_S A s.heap H locs) (hdg : decode cc pc = .ok (.return_, 1)) : W p l e rm s m args below meth c H locs cells slots Q (F0 m pc ls []) := by
  rw [← hQ]
  exact W.vret hx hb hr (fun t ht hW => ⟨⟨u, rfl, Option.some.inj h, by rw [ht]; exact hP, hD⟩, hS.F ht⟩) hS.2.2 hdg hlk
end RTS
theorem cut_P {D : va_G} {ws wc : va_W} {H : Heap} (hP : va_P D vwCl ws H) (isC : List Nat) (hC : isC.map (fun i => ws[i]?) = wc.map some) : va_P D vwCl wc H := by
  intro k q hq
  have h1 : (isC.map (fun i => ws[i]?))[k]? = some (some q) := by rw [hC, List.getElem?_map, hq]; rfl
  rw [List.getElem?_map] at h1
  cases hi : isC[k]? with
  | none => rw [hi] at h1; cases h1
  | some i => rw [hi] at h1; exact hP i q (Option.some.inj h1)
theorem gi_cons {y : MethodName} {cy : ByteArray} {mLy : Nat} {ret : Option FieldType} {ex : List Cond} (hc : .code y cy mLy ret ∈ gt) (he : ∀ w ∈ ex, w ∈ gt) : GoodIn gt (ex ++ (.code y cy mLy ret :: gt)) := by
  intro w hw
  have hg : w ∈ gt := by
    rcases List.mem_append.mp hw with h | h
    · exact he w h
    · rcases List.mem_cons.mp h with rfl | h
      · exact hc
      · exact h
  exact ⟨hg, gt_good hg⟩
theorem ex4 {a b c d : Cond} (ha : a ∈ gt) (hb : b ∈ gt) (hc : c ∈ gt) (hd : d ∈ gt) : ∀ w ∈ [a, b, c, d], w ∈ gt := List.forall_mem_cons.mpr ⟨ha, List.forall_mem_cons.mpr ⟨hb, List.forall_mem_cons.mpr ⟨hc, List.forall_mem_cons.mpr ⟨hd, fun _ h => absurd h List.not_mem_nil⟩⟩⟩⟩
theorem ex3 {a b c : Cond} (ha : a ∈ gt) (hb : b ∈ gt) (hc : c ∈ gt) : ∀ w ∈ [a, b, c], w ∈ gt := List.forall_mem_cons.mpr ⟨ha, List.forall_mem_cons.mpr ⟨hb, List.forall_mem_cons.mpr ⟨hc, fun _ h => absurd h List.not_mem_nil⟩⟩⟩
theorem gi_0 {y : MethodName} {cy : ByteArray} {mLy : Nat} {ret : Option FieldType} (hc : .code y cy mLy ret ∈ gt) : GoodIn gt (.code y cy mLy ret :: gt) := gi_cons (ex := []) hc (fun _ h => absurd h List.not_mem_nil)
theorem blind {D : va_G} {cI cB cZ : ClassId} {av : List Value} {wc : va_W} {sz : Nat} : FrameBlind (va_Pc av (Pre D cI cB cZ wc sz)) := by
  intro a U g mk h
  obtain ⟨h1, h2, h3, h4, h5⟩ := h
  exact ⟨h1, h2, h3, KK.same (s := U) (U := U.calling g mk a) rfl h4, h5⟩
theorem pre_S {D : va_G} {cI cB cZ : ClassId} {s : State} {H : Heap} {ws wc : va_W} {As : List Value} {A : Nat → Prop} (hK : KK D cI cB cZ s) (hP : va_P D vwCl ws H) (hD : va_D A ws) (isC : List Nat) (hC : isC.map (fun i => ws[i]?) = wc.map some) (hn : va_nd isC = true) : PreS s H (va_Pc As (Pre D cI cB cZ wc H.size)) As :=
  ⟨blind, fun U hU hW => ⟨rfl, by rw [hU], by rw [hU]; exact cut_P hP isC hC, hK.warm hW, (hD.sub isC hn hC).weaken (fun _ _ _ _ => trivial)⟩⟩
theorem pre_V {D : va_G} {cI cB cZ : ClassId} {s : State} {H : Heap} {ws wc : va_W} {As : List Value} {A : Nat → Prop} {b ci q0 N : Nat} {C : String} {T : u_T} {fs : List Value} (hK : KK D cI cB cZ s) (hP : va_P D vwCl ws H) (hD : va_D A ws) (isC : List Nat) (hC : isC.map (fun i => ws[i]?) = wc.map some) (hn : va_nd isC = true) (hc : vwCl[ci]? = some (C, T, N)) (he : ws[q0]? = some (b, .inr (ci, fs))) : PreV s H C b (va_Pc (.ref b :: As) (Pre D cI cB cZ wc H.size)) As :=
  ⟨blind, va_recv hK.1 hP hc he, (pre_S (As := .ref b :: As) hK hP hD isC hC hn).2⟩
section CLS
variable {p : Program} {l : Launch} {e : Env} {R : Room} {s : State} {m : MethodId} {args : Array Value} {below : List Frame} {meth : Method} {c : Code} {H : Heap} {locs : List Loc} {cells slots : Nat} {Q : State → Prop} {cc : ByteArray} {pc nL : Nat} {ls : Array Slot} {A : Nat → Prop} {D : va_G} {cI cB cZ : ClassId} {ws wc wr : va_W} {As rest st0 : List Value} {own C host : String} {idx n mLy : Nat} {y : MethodName} {cy : ByteArray} {ret : Option FieldType} {rmy : Room} {b : Nat} {a : Array Value}
theorem aft_i {S : Type} {w1 : S → va_W} {r0 : Int32} {u0 : S} {mc ms : Nat} (hP : va_P D vwCl ws H) (hD : va_D A ws) (hS : va_S A s.heap H locs) (hA : ∀ q, s.heap.size ≤ q → A q) (isC isR : List Nat) (hC : isC.map (fun i => ws[i]?) = wc.map some) (hR : isR.map (fun i => ws[i]?) = wr.map some) (hnR : va_nd isR = true) (hdis : ∀ i ∈ isR, i ∉ isC)
    (hr : va_Run p l e R s m args below meth c H locs cells slots mc ms (F0 m pc ls st0) rest (va_Qi (fun r u => (r, u) = (r0, u0)) (Post D w1 (va_A wc H.size)) (va_A wc H.size) a) (va_A wc H.size))
    (kk : ∀ (H1 : Heap) (locs1 : List Loc), va_P D vwCl (wr ++ w1 u0) H1 → va_D A (wr ++ w1 u0) → va_S A s.heap H1 locs1 → W p l e R s m args below meth c H1 locs1 (cells + mc) (slots + ms) Q (F0 m (pc + 3) ls (.int r0 :: rest))) : W p l e R s m args below meth c H locs cells slots Q (F0 m pc ls st0) := by
  have hF := va_free hD hS hA isC hC
  refine va_calli hr hS (fun q _ h => hF q h) hF (fun r u t H1 locs1 ht hvm hw hB hz1 hk1 hS1 => ?_)
  cases hw
  obtain ⟨hP1, hD1⟩ := hB
  rw [ht] at hP1
  obtain ⟨hP2, hD2⟩ := va_join hP hD isC isR hC hR hnR hdis hk1 hF hP1 hD1
  exact kk H1 locs1 hP2 hD2 hS1
theorem aft_v {S : Type} {w1 : S → va_W} {u0 : S} {mc ms : Nat} (hP : va_P D vwCl ws H) (hD : va_D A ws) (hS : va_S A s.heap H locs) (hA : ∀ q, s.heap.size ≤ q → A q) (isC isR : List Nat) (hC : isC.map (fun i => ws[i]?) = wc.map some) (hR : isR.map (fun i => ws[i]?) = wr.map some) (hnR : va_nd isR = true) (hdis : ∀ i ∈ isR, i ∉ isC)
    (hr : va_Run p l e R s m args below meth c H locs cells slots mc ms (F0 m pc ls st0) rest (va_Qv (fun u => u = u0) (Post D w1 (va_A wc H.size)) (va_A wc H.size) a) (va_A wc H.size))
    (kk : ∀ (H1 : Heap) (locs1 : List Loc), va_P D vwCl (wr ++ w1 u0) H1 → va_D A (wr ++ w1 u0) → va_S A s.heap H1 locs1 → W p l e R s m args below meth c H1 locs1 (cells + mc) (slots + ms) Q (F0 m (pc + 3) ls rest)) : W p l e R s m args below meth c H locs cells slots Q (F0 m pc ls st0) := by
  have hF := va_free hD hS hA isC hC
  refine va_callv hr hS (fun q _ h => hF q h) hF (fun u t H1 locs1 ht hvm hw hB hz1 hk1 hS1 => ?_)
  cases hw
  obtain ⟨hP1, hD1⟩ := hB
  rw [ht] at hP1
  obtain ⟨hP2, hD2⟩ := va_join hP hD isC isR hC hR hnR hdis hk1 hF hP1 hD1
  exact kk H1 locs1 hP2 hD2 hS1
/-- the run of a virtual call (a private method's too) -/
theorem rn_V {Pc : Array Value → State → Prop} {Qc : Array Value → State → Outcome → State → Prop} {free : Addr → Prop} (hx : p.tables.exec = Jvm.exec) (hb : c.code = cc) (hml : c.maxLocals = nL) (hown : s.vm.findClass own = some m.cls) (hts : ∀ x ∈ gt, x.before args s = true) (hM : Met l y (.code y cy mLy ret :: gt) rmy Pc Qc rmy.cells rmy.slots free) (hp : PreV s H C b Pc As)
    (g1 : .methodLink own idx y ∈ gt) (g2 : .instanceMethod y ∈ gt) (g3 : .selects C y y ∈ gt) (g4 : .initialized C ∈ gt) (g5 : .code y cy mLy ret ∈ gt) (hd : y.cls = C ∧ y.cls ≠ "java/lang/invoke/MethodHandle" ∧ y.cls ≠ "java/lang/invoke/VarHandle" ∧ (parseMethodDescriptor y.desc).map (fun d => d.parameters.length) = some n) (hR : rmy.frames + 1 ≤ R.frames ∧ 8 + (mLy + 11) + rmy.locals ≤ R.locals) (hf : cells + rmy.cells ≤ R.cells ∧ slots + rmy.slots ≤ R.slots)
    (hn : As.length = n) (hsz : ls.size = nL) (hst : st0 = As.reverse ++ .ref b :: rest) (hcat : (rest.map fun v => v.category).sum ≤ 8) (hdg : decode cc pc = .ok (.invokevirtual idx, 3)) :
    va_Run p l e R s m args below meth c H locs cells slots rmy.cells rmy.slots (F0 m pc ls st0) rest (Qc (Value.ref b :: As).toArray) free :=
  va_runV (As := As) (rest := rest) ⟨hx, hb, hml, hown, hts⟩ hM (cwV n hts (gi_cons g5 (ex4 g1 g2 g3 g4)) rfl rfl rfl hd hR) hp rfl hn hsz hst (lv_room hcat) hdg hf
/-- the run of a static call -/
theorem rn_S {Pc : Array Value → State → Prop} {Qc : Array Value → State → Outcome → State → Prop} {free : Addr → Prop} (hx : p.tables.exec = Jvm.exec) (hb : c.code = cc) (hml : c.maxLocals = nL) (hown : s.vm.findClass own = some m.cls) (hts : ∀ x ∈ gt, x.before args s = true) (hM : Met l y (.code y cy mLy ret :: gt) rmy Pc Qc rmy.cells rmy.slots free) (hp : PreS s H Pc As)
    (g1 : .methodLink own idx y ∈ gt) (g2 : .static y ∈ gt) (g4 : .initialized y.cls ∈ gt) (g5 : .code y cy mLy ret ∈ gt) (hd : y.cls ≠ "java/lang/invoke/MethodHandle" ∧ y.cls ≠ "java/lang/invoke/VarHandle" ∧ (parseMethodDescriptor y.desc).map (fun d => d.parameters.length) = some n) (hR : rmy.frames + 1 ≤ R.frames ∧ 8 + (mLy + 11) + rmy.locals ≤ R.locals) (hf : cells + rmy.cells ≤ R.cells ∧ slots + rmy.slots ≤ R.slots)
    (hn : As.length = n) (hsz : ls.size = nL) (hst : st0 = As.reverse ++ rest) (hcat : (rest.map fun v => v.category).sum ≤ 8) (hdg : decode cc pc = .ok (.invokestatic idx, 3)) :
    va_Run p l e R s m args below meth c H locs cells slots rmy.cells rmy.slots (F0 m pc ls st0) rest (Qc As.toArray) free :=
  va_runS (As := As) (rest := rest) ⟨hx, hb, hml, hown, hts⟩ hM (va_cwS n hts (gi_cons g5 (ex3 g1 g2 g4)) rfl rfl rfl hd hR) hp rfl hn hsz hst (lv_room hcat) hdg hf
/-- the run of a nest mate's static -/
theorem rn_N {Pc : Array Value → State → Prop} {Qc : Array Value → State → Outcome → State → Prop} {free : Addr → Prop} (hx : p.tables.exec = Jvm.exec) (hb : c.code = cc) (hml : c.maxLocals = nL) (hown : s.vm.findClass own = some m.cls) (hts : ∀ x ∈ gt, x.before args s = true) (hM : Met l y (.code y cy mLy ret :: gt) rmy Pc Qc rmy.cells rmy.slots free) (hp : PreS s H Pc As)
    (g1 : va_Nw (.methodLinkNest own idx y host) s) (g2 : .static y ∈ gt) (g4 : .initialized y.cls ∈ gt) (g5 : .code y cy mLy ret ∈ gt) (hd : y.cls ≠ "java/lang/invoke/MethodHandle" ∧ y.cls ≠ "java/lang/invoke/VarHandle" ∧ (parseMethodDescriptor y.desc).map (fun d => d.parameters.length) = some n) (hR : rmy.frames + 1 ≤ R.frames ∧ 8 + (mLy + 11) + rmy.locals ≤ R.locals) (hf : cells + rmy.cells ≤ R.cells ∧ slots + rmy.slots ≤ R.slots)
    (hn : As.length = n) (hsz : ls.size = nL) (hst : st0 = As.reverse ++ rest) (hcat : (rest.map fun v => v.category).sum ≤ 8) (hdg : decode cc pc = .ok (.invokestatic idx, 3)) :
    va_Run p l e R s m args below meth c H locs cells slots rmy.cells rmy.slots (F0 m pc ls st0) rest (Qc As.toArray) free :=
  va_runSN (As := As) (rest := rest) ⟨hx, hb, hml, hown, hts⟩ hM ⟨va_cnB n hts (gi_0 g5) rfl rfl rfl g1 (hts _ g4) hd hR, hts _ g2, trivial⟩ hp rfl hn hsz hst (lv_room hcat) hdg hf
end CLS
