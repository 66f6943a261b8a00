/-! METHODS THAT THROW: what they know of the tables, their start and ends. -/
abbrev xI : String := "java/lang/IndexOutOfBoundsException"
abbrev xA : String := "java/lang/IllegalArgumentException"
abbrev xS : String := "java/lang/IllegalStateException"
abbrev xN : List String := ["java/lang/RuntimeException", "java/lang/Exception"]
/-- the cells that a method that throws may change: its world's, and those that it makes -/
def AF (a : Adr) (I : Nat → Prop) (sz : Nat) : Nat → Prop := fun q => AI a I q ∨ sz ≤ q
theorem warmDc {x : MethodName} {s U : State} (hW : s.WarmedH U.vm) (hZ : va_Nw (.declares x) s) : va_Nw (.declares x) U := va_tabs rfl (rfl : (s.setVm U.vm).vm = U.vm) (by rw [Cond.declares_setVm hW.alike]; exact hZ)
def Dc3 (U : State) : Prop := va_Nw (.declares (Bundle.initS "java/lang/RuntimeException")) U ∧ va_Nw (.declares (Bundle.initS "java/lang/Exception")) U ∧ va_Nw (.declares (Bundle.initS Bundle.tN)) U
abbrev dcB (cls : String) : List Cond := [Cond.castable cls cls, .declares (Bundle.initS "java/lang/RuntimeException"), .declares (Bundle.initS "java/lang/Exception"), .declares (Bundle.initS Bundle.tN)]
def XX (A : Nat → Prop) (U : State) : Prop :=
  (va_Nw (.castable xI xI) U ∧ va_Nw (.castable xA xA) U ∧ va_Nw (.castable xS xS) U ∧ Dc3 U) ∧
  ((∃ sa, vk_R RX8 292 "there is no such number" sa U) ∧ (∃ sa, vk_R RX8 299 "an argument is not allowed" sa U) ∧ ∃ sa, vk_R RX8 304 "there is no place for it" sa U) ∧
  vx_Zq Bundle.tN "UNASSIGNED_STACK" Bundle.steD A U U.heap ∧ vx_Zq Bundle.tN "SUPPRESSED_SENTINEL" Bundle.listD A U U.heap
theorem XX.go {A B : Nat → Prop} {s U : State} {locs : List Loc} (h : XX A s) (hW : s.WarmedH U.vm) (hS : va_S A s.heap U.heap locs) (hAB : ∀ q, B q → A q) : XX B U := by
  obtain ⟨⟨c1, c2, c3, d1, d2, d3⟩, ⟨⟨a1, r1⟩, ⟨a2, r2⟩, ⟨a3, r3⟩⟩, z1, z2⟩ := h
  refine ⟨⟨va_Nw.warmC hW c1, va_Nw.warmC hW c2, va_Nw.warmC hW c3, warmDc hW d1, warmDc hW d2, warmDc hW d3⟩, ⟨⟨a1, vk_R.warm hW r1⟩, ⟨a2, vk_R.warm hW r2⟩, ⟨a3, vk_R.warm hW r3⟩⟩, ?_, ?_⟩
  · exact vx_Zq.narrow (vx_Zq.kept (vx_Zq.moved hW.alike z1) (fun q h1 h2 => hS.2.1 q h1 h2)) hAB
  · exact vx_Zq.narrow (vx_Zq.kept (vx_Zq.moved hW.alike z2) (fun q h1 h2 => hS.2.1 q h1 h2)) hAB
theorem XX.same {A : Nat → Prop} {s U : State} (h : XX A s) (hvm : s.vm = U.vm) (hh : s.heap = U.heap) : XX A U := by
  obtain ⟨⟨c1, c2, c3, d1, d2, d3⟩, ⟨⟨a1, r1⟩, ⟨a2, r2⟩, ⟨a3, r3⟩⟩, z1, z2⟩ := h
  refine ⟨⟨va_Nw.same rfl hvm c1, va_Nw.same rfl hvm c2, va_Nw.same rfl hvm c3, va_Nw.same rfl hvm d1, va_Nw.same rfl hvm d2, va_Nw.same rfl hvm d3⟩, ⟨⟨a1, vk_R.same hvm.symm r1⟩, ⟨a2, vk_R.same hvm.symm r2⟩, ⟨a3, vk_R.same hvm.symm r3⟩⟩, ?_, ?_⟩
  · rw [← hh]; exact vx_Zq.moved (by rw [hvm]; exact Vm.Alike.refl _) z1
  · rw [← hh]; exact vx_Zq.moved (by rw [hvm]; exact Vm.Alike.refl _) z2
/-- a throwing method's start -/
def PX (D : va_G) (cA : ClassId) (a : Adr) (S X : Mem) (I : Nat → Prop) (sz : Nat) (av : List Value) : Array Value → State → Prop := va_Pc av (fun U => U.heap.size = sz ∧ WP D cA a S X I U.heap ∧ KK D cA U ∧ XX (AF a I sz) U)
theorem PX.blind {D : va_G} {cA : ClassId} {a : Adr} {S X : Mem} {I : Nat → Prop} {sz : Nat} {av : List Value} : FrameBlind (PX D cA a S X I sz av) := fun _ _ _ _ h => ⟨h.1, h.2.1, h.2.2.1, h.2.2.2.1.same rfl, h.2.2.2.2.same rfl rfl⟩
/-- its ends: an int, a long, a double, nothing; or thrown -/
def QxI (D : va_G) (cA : ClassId) (a : Adr) (I : Nat → Prop) (sz : Nat) (post : Int32 → Mem → Mem → Prop) : Array Value → State → Outcome → State → Prop := va_Qi (fun r (u : Mem × Mem) => post r u.1 u.2) (WB D cA a I) (AF a I sz)
def QxV (D : va_G) (cA : ClassId) (a : Adr) (I : Nat → Prop) (sz : Nat) (post : Mem → Mem → Prop) : Array Value → State → Outcome → State → Prop := va_Qv (fun (u : Mem × Mem) => post u.1 u.2) (WB D cA a I) (AF a I sz)
def XxC (D : va_G) (cA : ClassId) (a : Adr) (I : Nat → Prop) (sz : Nat) (px : String → Mem → Mem → Prop) : String → State → State → Prop := vx_X (fun _ : Mem × Mem => True) (fun E u t => px E u.1 u.2 ∧ WP D cA a u.1 u.2 I t.heap) (AF a I sz)
def MXI (l : Launch) (y : MethodName) (cc : ByteArray) (n : Nat) (ret : Option FieldType) (fr lo mc ms : Nat) (D : va_G) (cA : ClassId) (a : Adr) (S X : Mem) (I : Nat → Prop) (sz : Nat) (av : List Value) (post : Int32 → Mem → Mem → Prop) (px : String → Mem → Mem → Prop) : Prop :=
  vx_Met l y (.code y cc n ret :: GW) { frames := fr, cells := mc, slots := ms, locals := lo } (PX D cA a S X I sz av) (QxI D cA a I sz post) (XxC D cA a I sz px) mc ms (AF a I sz)
def MXV (l : Launch) (y : MethodName) (cc : ByteArray) (n : Nat) (ret : Option FieldType) (fr lo mc ms : Nat) (D : va_G) (cA : ClassId) (a : Adr) (S X : Mem) (I : Nat → Prop) (sz : Nat) (av : List Value) (post : Mem → Mem → Prop) (px : String → Mem → Mem → Prop) : Prop :=
  vx_Met l y (.code y cc n ret :: GW) { frames := fr, cells := mc, slots := ms, locals := lo } (PX D cA a S X I sz av) (QxV D cA a I sz post) (XxC D cA a I sz px) mc ms (AF a I sz)
section THR
variable {p : Program} {l : Launch} {e : Env} {R : Room} {s : State} {m : MethodId} {args : Array Value} {below : List Frame} {meth : Method} {c : Code} {H : Heap} {locs : List Loc} {cells slots mc ms : Nat} {Q : State → Prop}
variable {cc : ByteArray} {nL : Nat} {own : String} {pc : Nat} {ls : Array Slot} {rest : List Value} {D : va_G} {cA : ClassId} {a : Adr} {S X : Mem} {I : Nat → Prop} {H0 : Heap} {A0 : Nat → Prop} {sz : Nat}
theorem AF.of {q : Nat} (h : AI a I q) : AF a I sz q := Or.inl h
theorem mGoX {y : MethodName} {n : Nat} {ret : Option FieldType} {rm : Room} {av : List Value} {Qc : Array Value → State → Outcome → State → Prop} {XC : String → State → State → Prop} {free : Addr → Prop} (hy : plainName y.cls = true) (hav : (lg_sl av).length ≤ n)
    (body : ∀ (p : Program) (e : Env) (s : State) (m : MethodId) (args : Array Value) (below : List Frame) (meth : Method) (c : Code) (ls : Array Slot), CallFix p m c cc n s args GW y.cls → meth.sig.returnType = ret → meth.locks = false → (∀ x ∈ c.exceptionTable.toList, False) → s.heap.size = sz → KK D cA s → XX (AF a I sz) s → WP D cA a S X I s.heap → va_S (AF a I sz) s.heap s.heap [] → lv_has ls n (lv_args 0 av) →
      W p l e rm s m args below meth c s.heap [] 0 0 (vx_MQ below Qc XC args s mc ms free) (F0 m 0 ls [])) :
    vx_Met l y (.code y cc n ret :: GW) rm (PX D cA a S X I sz av) Qc XC mc ms free := by
  refine vx_ofW (cc := cc) (maxL := n) (ret := ret) hy rfl ?_
  intro p e s m args below meth c s₁ B hml hex hv
  obtain ⟨rfl, hsz, hP, hK, hX⟩ := hv
  have hts := atoms_spec (ws := .code y cc n ret :: GW) B.pre
  have hl := lv_entry av (n := n) hav
  rw [lg_entry_eq]
  exact body p e s m _ below meth c _ ⟨B.exec, B.bytes, hml, findClass_of_methodNamed B.named, fun w h => hts w (List.mem_cons_of_mem _ h)⟩ B.returns B.notSynchronized hex hsz hK hX hP va_S.rf hl
theorem retXI {post : Int32 → Mem → Mem → Prop} {XC : String → State → State → Prop} {v : Int32} {S1 X1 : Mem} (C0 : CallFix p m c cc nL s args GW own) (hr : meth.sig.returnType = some .int) (hlk : meth.locks = false) (hP : WP D cA a S1 X1 I H) (hS : va_S (AF a I sz) s.heap H locs) (hc : cells ≤ mc) (hs : slots ≤ ms) (hp : post v S1 X1) (hdg : decode cc pc = .ok (.ireturn, 1)) :
    W p l e R s m args below meth c H locs cells slots (vx_MQ below (QxI D cA a I sz post) XC args s mc ms (AF a I sz)) (F0 m pc ls [.int v]) :=
  W.widen hc hs (vx_ret (W.iret C0.1 C0.2.1 hr (fun t ht _ => ⟨⟨v, (S1, X1), rfl, hp, by show WP D cA a S1 X1 I t.heap; rw [ht]; exact hP⟩, hS.F ht⟩) hS.2.2 hdg hlk))
theorem retXV {post : Mem → Mem → Prop} {XC : String → State → State → Prop} {S1 X1 : Mem} (C0 : CallFix p m c cc nL s args GW own) (hr : meth.sig.returnType = none) (hlk : meth.locks = false) (hP : WP D cA a S1 X1 I H) (hS : va_S (AF a I sz) s.heap H locs) (hc : cells ≤ mc) (hs : slots ≤ ms) (hp : post S1 X1) (hdg : decode cc pc = .ok (.return_, 1)) :
    W p l e R s m args below meth c H locs cells slots (vx_MQ below (QxV D cA a I sz post) XC args s mc ms (AF a I sz)) (F0 m pc ls []) :=
  W.widen hc hs (vx_ret (W.vret C0.1 C0.2.1 hr (fun t ht _ => ⟨⟨(S1, X1), rfl, hp, by show WP D cA a S1 X1 I t.heap; rw [ht]; exact hP⟩, hS.F ht⟩) hS.2.2 hdg hlk))
/-- the words of a throw of this class -/
theorem at_words {ic : Nat} {cls : String} (hg : ∀ w ∈ (vx_atS RX8 ic cls xN).filter goodWord, w ∈ GW) (hb : ∀ w ∈ (vx_atS RX8 ic cls xN).filter (fun w => !goodWord w), w ∈ dcB cls) (C0 : CallFix p m c cc nL s args GW own) (hc : va_Nw (.castable cls cls) s) (hd3 : Dc3 s) : ∀ w ∈ vx_atS RX8 ic cls xN, w.before args s = true :=
  vx_hat (B := dcB cls) (fun w hw => C0.2.2.2.2 w (hg w hw)) hb (vx_c (va_Nw.use rfl hc) (vx_c (va_Nw.use rfl hd3.1) (vx_c (va_Nw.use rfl hd3.2.1) (vx_c (va_Nw.use rfl hd3.2.2) vx_n))))
/-- 'throw new E(text)' out of a method of the class -/
theorem thr {cls text : String} {ik is ic : Nat} {Qc : Array Value → State → Outcome → State → Prop} {px : String → Mem → Mem → Prop} (hfl : l.stackTraces = false) (C0 : CallFix p m c cc nL s args GW RX8) (hlk : meth.locks = false) (hex : ∀ x ∈ c.exceptionTable.toList, False) (hK : KK D cA s) (hX : XX (AF a I sz) s) (hP : WP D cA a S X I H) (hS : va_S (AF a I sz) s.heap H locs)
    (hcls : Bundle.fit cls = true) (hk : Cond.classLink RX8 ik cls ∈ GW) (hini : Cond.initialized cls ∈ GW) (hstr : ∃ sa, vk_R RX8 is text sa s) (hg : ∀ w ∈ (vx_atS RX8 ic cls xN).filter goodWord, w ∈ GW) (hb : ∀ w ∈ (vx_atS RX8 ic cls xN).filter (fun w => !goodWord w), w ∈ dcB cls) (hcc : va_Nw (.castable cls cls) s)
    (hgood : ∀ w ∈ Cond.classLink RX8 ik cls :: Cond.initialized cls :: vx_atS RX8 ic cls xN, vx_ot w = true) (hsize : ls.size = nL)
    (d0 : decode cc pc = .ok (.new ik, 3)) (d3 : decode cc (pc + 3) = .ok (.dup, 1)) (d4 : decode cc (pc + 4) = .ok (.ldc_w is, 3)) (d7 : decode cc (pc + 7) = .ok (.invokespecial ic, 3)) (d10 : decode cc (pc + 10) = .ok (.athrow, 1))
    (hRf : 5 < R.frames) (hRl : (rest.map fun v => v.category).sum + 82 ≤ R.locals) (hRc : cells + 1 ≤ R.cells) (hRs : slots + 6 ≤ R.slots) (hc : cells + 1 ≤ mc) (hs : slots + 6 ≤ ms) (hp : px cls S X) :
    W p l e R s m args below meth c H locs cells slots (vx_MQ below Qc (XxC D cA a I sz px) args s mc ms (AF a I sz)) (F0 m pc ls rest) := by
  obtain ⟨sa, hstr⟩ := hstr
  refine vx_throwSW (names := xN) C0.1 C0.2.1 hfl C0.2.2.2.1 hcls (by decide) (C0.2.2.2.2 _ hk) (C0.2.2.2.2 _ hini) hstr (at_words hg hb C0 hcc hX.1.2.2.2) hgood hX.2.2.1 hX.2.2.2 hS (hsize.trans C0.2.2.1.symm) d0 d3 d4 d7 d10 (fun x h => (hex x h).elim) hRf hRl hRc hRs hlk (fun t _ h1 h2 => ?_) hS.2.2 hc hs
  refine ⟨(S, X), trivial, ⟨hp, fun k hk => (hP k hk).kept (h2 _ (hP k hk).lt)⟩, Nat.le_trans hS.1 h1, fun q h3 h4 => ?_⟩
  rw [h2 q (Nat.lt_of_lt_of_le h3 hS.1)]
  exact hS.2.1 q h3 h4
/-- calls of such methods -/
theorem xrS {y : MethodName} {by_ : ByteArray} {mL fr lo n idx mc1 ms1 : Nat} {ret : Option FieldType} {As : List Value} {Qc : Array Value → State → Outcome → State → Prop} {XC : String → State → State → Prop}
    (hM : vx_Met l y (.code y by_ mL ret :: GW) { frames := fr, cells := mc1, slots := ms1, locals := lo } (PX D cA a S X I H.size As) Qc XC mc1 ms1 (AF a I H.size)) (C0 : CallFix p m c cc nL s args GW own) (w1 : Cond.methodLink own idx y ∈ GW) (w2 : Cond.static y ∈ GW) (w4 : Cond.initialized y.cls ∈ GW) (w5 : Cond.code y by_ mL ret ∈ GW)
    (hyd : y.cls ≠ "java/lang/invoke/MethodHandle" ∧ y.cls ≠ "java/lang/invoke/VarHandle" ∧ (parseMethodDescriptor y.desc).map (fun d => d.parameters.length) = some n) (hR : fr + 1 ≤ R.frames ∧ 8 + (mL + 11) + lo ≤ R.locals) (hK : KK D cA s) (hX : XX A0 s) (hP : WP D cA a S X I H) (hS : va_S A0 s.heap H locs) (hAB : ∀ q, AF a I H.size q → A0 q)
    (hn : As.length = n) (hls : ls.size = nL) (hrest : (rest.map fun v => v.category).sum ≤ 8) {st : List Value} (hst : st = As.reverse ++ rest) (hdg : decode cc pc = .ok (.invokestatic idx, 3)) (hf : cells + mc1 ≤ R.cells ∧ slots + ms1 ≤ R.slots) :
    vx_Run p l e R s m args below meth c H locs cells slots mc1 ms1 (F0 m pc ls st) rest (Qc As.toArray) XC (AF a I H.size) := by
  refine vx_runS (As := As) (n := n) C0 hM (va_cwS n C0.2.2.2.2 (gS w1 w2 w4 w5) rfl rfl rfl hyd hR) ⟨PX.blind, fun U hU hW => ⟨rfl, by rw [hU], by rw [hU]; exact hP, hK.warm hW, hX.go hW (by rw [hU]; exact hS) hAB⟩⟩ rfl hn hls hst ?_ hdg hf
  show 2 * 0 + _ ≤ 8
  omega
theorem AF.up (hS : va_S (AF a I sz) H0 H locs) (h0 : H0.size = sz) : ∀ q, AF a I H.size q → AF a I sz q := fun q h => h.elim Or.inl (fun h => Or.inr (Nat.le_trans (h0 ▸ hS.1) h))
/-- behind such a call that gives nothing; thrown out of the caller as it came -/
theorem goXV {st : List Value} {post : Mem → Mem → Prop} {px px' : String → Mem → Mem → Prop} {a0 : Array Value} {Qc : Array Value → State → Outcome → State → Prop} {mc1 ms1 : Nat} (hr : vx_Run p l e R s m args below meth c H locs cells slots mc1 ms1 (F0 m pc ls st) rest (QxV D cA a I H.size post a0) (XxC D cA a I H.size px) (AF a I H.size)) (hS : va_S (AF a I sz) s.heap H locs) (h0 : s.heap.size = sz) (hlk : meth.locks = false) (hex : ∀ x ∈ c.exceptionTable.toList, False) (hpx : ∀ E S1 X1, px E S1 X1 → px' E S1 X1) (hc : cells + mc1 ≤ mc) (hs : slots + ms1 ≤ ms)
    (kk : ∀ (S1 X1 : Mem) (H1 : Heap) (locs1 : List Loc), post S1 X1 → WP D cA a S1 X1 I H1 → va_S (AF a I sz) s.heap H1 locs1 → W p l e R s m args below meth c H1 locs1 (cells + mc1) (slots + ms1) (vx_MQ below Qc (XxC D cA a I sz px') args s mc ms (AF a I sz)) (F0 m (pc + 3) ls rest)) :
    W p l e R s m args below meth c H locs cells slots (vx_MQ below Qc (XxC D cA a I sz px') args s mc ms (AF a I sz)) (F0 m pc ls st) := by
  have hAB := AF.up hS h0
  refine vx_callv hr hS (fun q _ h => hAB q h) hAB (fun q _ h => hAB q h) (fun E ce q9 u t H1 locs1 ht _ _ hB h1 h2 hS1 hce hcv hcl => ?_) (fun u t H1 locs1 ht _ hp hB _ _ hS1 => kk u.1 u.2 H1 locs1 hp (by rw [← ht]; exact hB) hS1)
  refine vx_out (fun x h => (hex x h).elim) hlk hce hcv hcl (fun t' ht' _ => ⟨u, trivial, ⟨hpx _ _ _ hB.1, by rw [ht', ← ht]; exact hB.2⟩, ?_⟩) hS1.2.2 hc hs
  exact ⟨by rw [ht']; exact hS1.1, fun q h3 h4 => by rw [ht']; exact hS1.2.1 q h3 h4⟩
end THR
theorem xg_I : ∀ w ∈ (vx_atS RX8 294 xI xN).filter goodWord, w ∈ GW := fun w h => List.mem_filter.mpr ⟨(by decide +kernel : ∀ w ∈ (vx_atS RX8 294 xI xN).filter goodWord, w ∈ lw_tbl) w h, (List.mem_filter.mp h).2⟩
theorem xg_A : ∀ w ∈ (vx_atS RX8 301 xA xN).filter goodWord, w ∈ GW := fun w h => List.mem_filter.mpr ⟨(by decide +kernel : ∀ w ∈ (vx_atS RX8 301 xA xN).filter goodWord, w ∈ lw_tbl) w h, (List.mem_filter.mp h).2⟩
theorem xg_S : ∀ w ∈ (vx_atS RX8 306 xS xN).filter goodWord, w ∈ GW := fun w h => List.mem_filter.mpr ⟨(by decide +kernel : ∀ w ∈ (vx_atS RX8 306 xS xN).filter goodWord, w ∈ lw_tbl) w h, (List.mem_filter.mp h).2⟩
theorem xb_I : ∀ w ∈ (vx_atS RX8 294 xI xN).filter (fun w => !goodWord w), w ∈ dcB xI := by decide +kernel
theorem xb_A : ∀ w ∈ (vx_atS RX8 301 xA xN).filter (fun w => !goodWord w), w ∈ dcB xA := by decide +kernel
theorem xb_S : ∀ w ∈ (vx_atS RX8 306 xS xN).filter (fun w => !goodWord w), w ∈ dcB xS := by decide +kernel
theorem xo_I : ∀ w ∈ Cond.classLink RX8 290 xI :: Cond.initialized xI :: vx_atS RX8 294 xI xN, vx_ot w = true := by decide +kernel
theorem xo_A : ∀ w ∈ Cond.classLink RX8 297 xA :: Cond.initialized xA :: vx_atS RX8 301 xA xN, vx_ot w = true := by decide +kernel
theorem xo_S : ∀ w ∈ Cond.classLink RX8 302 xS :: Cond.initialized xS :: vx_atS RX8 306 xS xN, vx_ot w = true := by decide +kernel
theorem xk_I : Cond.classLink RX8 290 xI ∈ GW := List.mem_filter.mpr ⟨by decide +kernel, by decide +kernel⟩
theorem xk_A : Cond.classLink RX8 297 xA ∈ GW := List.mem_filter.mpr ⟨by decide +kernel, by decide +kernel⟩
theorem xk_S : Cond.classLink RX8 302 xS ∈ GW := List.mem_filter.mpr ⟨by decide +kernel, by decide +kernel⟩
theorem xi_I : Cond.initialized xI ∈ GW := List.mem_filter.mpr ⟨by decide +kernel, by decide +kernel⟩
theorem xi_A : Cond.initialized xA ∈ GW := List.mem_filter.mpr ⟨by decide +kernel, by decide +kernel⟩
theorem xi_S : Cond.initialized xS ∈ GW := List.mem_filter.mpr ⟨by decide +kernel, by decide +kernel⟩
