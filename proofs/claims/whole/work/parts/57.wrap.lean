/-! THE LAW'S WRAPPERS: the class's answer in a row of one long, what it throws by a number. -/
abbrev IF : Nat → Prop := fun k => k ∈ nF
def NC3 (U : State) : Prop := va_Nc xA xI U ∧ va_Nc xS xI U ∧ va_Nc xS xA U
theorem NC3.moved {u U : State} (hvm : u.vm.Alike U.vm) (h : NC3 u) : NC3 U := ⟨h.1.moved hvm, h.2.1.moved hvm, h.2.2.moved hvm⟩
/-- the cells that a wrapper may change -/
def AL (a : Adr) (sz og : Nat) : Nat → Prop := fun q => AF a IF sz q ∨ q = og
def lcell (cL : ClassId) (f : Nat → Int64) : va_E := .inl (cL, 1, .inr (.inl f))
def PLw (D : va_G) (cA cL : ClassId) (a : Adr) (S X : Mem) (sz og : Nat) (f : Nat → Int64) (av : List Value) : Array Value → State → Prop := va_Pc av (fun U => U.heap.size = sz ∧ WP D cA a S X IF U.heap ∧ va_at D vwCl (og, lcell cL f) U.heap ∧ KK D cA U ∧ XX (AL a sz og) U ∧ NC3 U ∧ ArrOfT U cL .long)
theorem PLw.blind {D : va_G} {cA cL : ClassId} {a : Adr} {S X : Mem} {sz og : Nat} {f : Nat → Int64} {av : List Value} : FrameBlind (PLw D cA cL a S X sz og f av) := fun _ _ _ _ h => ⟨h.1, h.2.1, h.2.2.1, h.2.2.2.1, h.2.2.2.2.1.same rfl, h.2.2.2.2.2.1.same rfl rfl, h.2.2.2.2.2.2⟩
def QLw (D : va_G) (cA cL : ClassId) (a : Adr) (sz og : Nat) (post : Int32 → Mem → Mem → Int64 → Prop) : Array Value → State → Outcome → State → Prop := va_Qi (fun r (u : Mem × Mem × (Nat → Int64)) => post r u.1 u.2.1 (u.2.2 0)) (fun u t => WP D cA a u.1 u.2.1 IF t.heap ∧ va_at D vwCl (og, lcell cL u.2.2) t.heap) (AL a sz og)
theorem met_ofWH {l : Launch} {y : MethodName} {ws ws' : List Cond} {rm : Room} {Pc : Array Value → State → Prop} {Qc : Array Value → State → Outcome → State → Prop} {mc ms : Nat} {free : Addr → Prop} {cc : ByteArray} {maxL : Nat} {ret : Option FieldType} {hh : List (Nat × Nat × Nat × Nat)}
    (hy : plainName y.cls = true) (hw : ws = Cond.codeWith y cc maxL ret hh :: ws')
    (body : ∀ p e s m args below meth c s₁, BodyLoose p l y (headSpec ws rm) cc maxL ret e s m args below meth c s₁ → c.maxLocals = maxL → Pc args s →
      W p l e (headSpec ws rm).room s m args below meth c s.heap [] 0 0 (MQ below Qc args s mc ms free) (entryFrame m args maxL)) : Met l y ws rm Pc Qc mc ms free := by
  refine MetFree.of_bodyS (code := cc) (maxLocals := maxL) (ret := ret) hy ?_ ?_
  · intro args s m h hn
    obtain ⟨m9, meth, c, hn9, h1, h2, h3, h4, -, h5, h6, -⟩ := Cond.codeWith_spec (atoms_spec (ws := ws) h _ (by rw [hw]; exact List.mem_cons_self))
    cases hn.symm.trans hn9
    exact ⟨meth, c, h1, h2, h3, h4, h5, h6⟩
  · intro p e s m args below meth c s₁ B hml hP _
    have hh0 : s₁.heap = s.heap := by rw [B.state]; rfl
    obtain ⟨t, a1, o, b1, b2, b3⟩ := body p e s m args below meth c s₁ B hml hP s₁ hh0 (Stand.of_body B)
    exact ⟨t, o, a1, b1, b2, ⟨b3.1, b3.2⟩⟩
section WRAP
variable {p : Program} {l : Launch} {e : Env} {R : Room} {s : State} {m : MethodId} {args : Array Value} {below : List Frame} {meth : Method} {c : Code} {H : Heap} {locs : List Loc} {cells slots mc ms : Nat} {Q : State → Prop}
variable {cc : ByteArray} {nL : Nat} {own : String} {pc : Nat} {ls : Array Slot} {rest : List Value} {D : va_G} {cA cL : ClassId} {a : Adr} {S X : Mem} {H0 : Heap} {A0 : Nat → Prop} {sz og : Nat} {f : Nat → Int64}
theorem lGo {y : MethodName} {n : Nat} {ret : Option FieldType} {rm : Room} {av : List Value} {Qc : Array Value → State → Outcome → State → Prop} {free : Addr → Prop} {hh : List (Nat × Nat × Nat × Nat)} (hy : plainName y.cls = true) (hav : (lg_sl av).length ≤ n)
    (body : ∀ (p : Program) (e : Env) (s : State) (m : MethodId) (args : Array Value) (below : List Frame) (meth : Method) (c : Code) (ls : Array Slot), CallFix p m c cc n s args GW y.cls → meth.sig.returnType = ret → meth.locks = false → c.exceptionTable.toList = tableOf hh → s.heap.size = sz → KK D cA s → XX (AL a sz og) s → NC3 s → ArrOfT s cL .long → WP D cA a S X IF s.heap → va_at D vwCl (og, lcell cL f) s.heap → va_S (AL a sz og) s.heap s.heap [] → lv_has ls n (lv_args 0 av) →
      W p l e rm s m args below meth c s.heap [] 0 0 (MQ below Qc args s mc ms free) (F0 m 0 ls [])) :
    Met l y (.codeWith y cc n ret hh :: GW) rm (PLw D cA cL a S X sz og f av) Qc mc ms free := by
  refine met_ofWH (cc := cc) (maxL := n) (ret := ret) hy rfl ?_
  intro p e s m args below meth c s₁ B hml hv
  obtain ⟨rfl, hsz, hP, hO, hK, hX, hN, hAr⟩ := hv
  have hts := atoms_spec (ws := .codeWith y cc n ret hh :: GW) B.pre
  have hl := lv_entry av (n := n) hav
  rw [lg_entry_eq]
  exact body p e s m _ below meth c _ ⟨B.exec, B.bytes, hml, findClass_of_methodNamed B.named, fun w h => hts w (List.mem_cons_of_mem _ h)⟩ B.returns B.notSynchronized (vx_table (x := y) B (hts _ List.mem_cons_self)) hsz hK hX hN hAr hP hO va_S.rf hl
theorem xrV {y : MethodName} {by_ : ByteArray} {mL fr lo n idx mc1 ms1 : Nat} {ret : Option FieldType} {As : List Value} {Qc : Array Value → State → Outcome → State → Prop} {XC : String → State → State → Prop}
    (hM : vx_Met l y (.code y by_ mL ret :: GW) { frames := fr, cells := mc1, slots := ms1, locals := lo } (PX D cA a S X IF H.size (.ref (a 89) :: As)) Qc XC mc1 ms1 (AF a IF H.size)) (C0 : CallFix p m c cc nL s args GW own) (w1 : Cond.methodLink own idx y ∈ GW) (w2 : Cond.instanceMethod y ∈ GW) (w3 : Cond.selects y.cls y y ∈ GW) (w4 : Cond.initialized y.cls ∈ GW) (w5 : Cond.code y by_ mL ret ∈ GW)
    (hyd : y.cls = y.cls ∧ y.cls ≠ "java/lang/invoke/MethodHandle" ∧ y.cls ≠ "java/lang/invoke/VarHandle" ∧ (parseMethodDescriptor y.desc).map (fun d => d.parameters.length) = some n) (hyc : y.cls = RX8) (hR : fr + 1 ≤ R.frames ∧ 8 + (mL + 11) + lo ≤ R.locals) (hK : KK D cA s) (hX : XX A0 s) (hP : WP D cA a S X IF H) (hS : va_S A0 s.heap H locs) (hAB : ∀ q, AF a IF H.size q → A0 q)
    (hn : As.length = n) (hls : ls.size = nL) (hrest : (rest.map fun v => v.category).sum ≤ 8) {st : List Value} (hst : st = As.reverse ++ .ref (a 89) :: rest) (hdg : decode cc pc = .ok (.invokevirtual idx, 3)) (hf : cells + mc1 ≤ R.cells ∧ slots + ms1 ≤ R.slots) :
    vx_Run p l e R s m args below meth c H locs cells slots mc1 ms1 (F0 m pc ls st) rest (Qc (Value.ref (a 89) :: As).toArray) XC (AF a IF H.size) := by
  have hcell : va_at D vwCl (a 89, .inr (8, [.ref (a 80), .ref (a 81), .ref (a 82), .ref (a 83), .ref (a 84), .ref (a 86), .ref (a 88)])) H := hP 89 (by decide)
  refine vx_runV (As := As) (C := y.cls) (n := n) C0 hM (cwV n C0.2.2.2.2 (gV w1 w2 w3 w4 w5) rfl rfl rfl hyd hR) ⟨PX.blind, va_recv hK.1 hcell.P1 (q0 := 0) (show vwCl[8]? = some (y.cls, TX8, 7) by rw [hyc]; rfl) rfl, fun U hU hW => ⟨rfl, by rw [hU], by rw [hU]; exact hP, hK.warm hW, hX.go hW (by rw [hU]; exact hS) hAB⟩⟩ rfl hn hls hst ?_ hdg hf
  show 2 * 0 + _ ≤ 8
  omega
theorem AL.up (hS : va_S (AL a sz og) H0 H locs) (h0 : H0.size = sz) : ∀ q, AF a IF H.size q → AL a sz og q := fun q h => Or.inl (h.elim Or.inl (fun h => Or.inr (Nat.le_trans (h0 ▸ hS.1) h)))
/-- the one long written -/
theorem lst (C0 : CallFix p m c cc nL s args GW own) (hAr : ArrOfT s cL .long) (hO : va_at D vwCl (og, lcell cL f) H) (hS : va_S A0 H0 H locs) (hA : A0 og) {x : Int64} (hdg : decode cc pc = .ok (.lastore, 1))
    (kk : ∀ (H1 : Heap) (locs1 : List Loc), va_at D vwCl (og, lcell cL (vp_updL f 0 x)) H1 → (∀ y : Nat, y ≠ og → H1[y]? = H[y]?) → va_S A0 H0 H1 locs1 → W p l e R s m args below meth c H1 locs1 cells slots Q (F0 m (pc + 1) ls rest)) : W p l e R s m args below meth c H locs cells slots Q (F0 m pc ls (.long x :: .int 0 :: .ref og :: rest)) := by
  have hO : H[og]? = some (vp_cell cL (1, .inr (.inl f))) := hO
  have h0 : (0 : Int32).toNatClampNeg = 0 := by decide
  refine W.last C0.1 C0.2.1 hO (hAr 1 (fun j => .long (f j))) (fun q => by cases q) (by show ¬ ((0 : Int32) < 0 ∨ (arrV _ _ _).slots.size ≤ _); rw [arrV_size, h0]; exact (by decide : ¬ ((0 : Int32) < 0 ∨ (1 : Nat) ≤ 0))) rfl rfl hdg fun H1 e z oq => ?_
  refine kk H1 _ ?_ oq (hS.put z oq hA)
  show H1[og]? = some (vp_cell cL (1, .inr (.inl (vp_updL f 0 x))))
  rw [e, h0]
  rw [vp_cell_l, vp_cell_l, arrV_store]
  congr 2
  funext y
  by_cases hq : y = 0
  · subst hq
    simp [updV, vp_updL]
  · simp [updV, vp_updL, hq]
theorem retLw {post : Int32 → Mem → Mem → Int64 → Prop} {v : Int32} {S1 X1 : Mem} {f1 : Nat → Int64} (C0 : CallFix p m c cc nL s args GW own) (hr : meth.sig.returnType = some .int) (hlk : meth.locks = false) (hP : WP D cA a S1 X1 IF H) (hO : va_at D vwCl (og, lcell cL f1) H) (hS : va_S (AL a sz og) s.heap H locs) (hc : cells ≤ mc) (hs : slots ≤ ms) (hp : post v S1 X1 (f1 0)) (hdg : decode cc pc = .ok (.ireturn, 1)) :
    W p l e R s m args below meth c H locs cells slots (MQ below (QLw D cA cL a sz og post) args s mc ms (AL a sz og)) (F0 m pc ls [.int v]) :=
  W.widen hc hs (W.iret C0.1 C0.2.1 hr (fun t ht _ => ⟨⟨v, (S1, X1, f1), rfl, hp, by show WP D cA a S1 X1 IF t.heap ∧ va_at D vwCl (og, lcell cL f1) t.heap; rw [ht]; exact ⟨hP, hO⟩⟩, hS.F ht⟩) hS.2.2 hdg hlk)
theorem wfail {k v : Int32} {A B : Prop} (hk : k = v) (h0 : ¬ v = 0) (hB : B) : v = k ∧ (k = 0 → A) ∧ (¬ k = 0 → B) := ⟨hk.symm, fun h => absurd (hk.symm.trans h) h0, fun _ => hB⟩
theorem wok {k : Int32} {A B : Prop} (hk : k = 0) (hA : A) : (0 : Int32) = k ∧ (k = 0 → A) ∧ (¬ k = 0 → B) := ⟨hk.symm, fun _ => hA, fun h => absurd hk h⟩
end WRAP
theorem co_L_setGround : Cond.codeWith yL_setGround cL_setGround 6 (some .int) [(0, 12, 15, 13), (0, 12, 19, 15)] ∈ GW := gw 547 (by decide +kernel) (by decide +kernel)
set_option maxHeartbeats 4000000 in
set_option maxRecDepth 100000 in
theorem w_setGround (l : Launch) (hfl : l.stackTraces = false) (D : va_G) (cA cL : ClassId) (a : Adr) (S X : Mem) (sz og : Nat) (f : Nat → Int64) (hd : Hd nF a IF) (hne : ∀ k, IF k → a k ≠ og) {P L T h : Nat} (ok : OKS S X P L T h) (hh : h + 400 < 2 ^ 31) (x y z : Int32) : Met l yL_setGround (.codeWith yL_setGround cL_setGround 6 (some .int) [(0, 12, 15, 13), (0, 12, 19, 15)] :: GW) { frames := 8, cells := 2, slots := 12, locals := 126 } (PLw D cA cL a S X sz og f [.ref (a 89), .int x, .int y, .int z, .ref og]) (QLw D cA cL a sz og (fun k S1 X1 v => k = kd (plB x y) (inB z 0 20) (true) 1 2 9 ∧ (kd (plB x y) (inB z 0 20) (true) 1 2 9 = 0 → v = (rg (S 0) 196 (x + 14 * y)).toInt64 ∧ S1 = up S 0 (us (S 0) 196 (x + 14 * y) z) ∧ X1 = up X 14 (fl (X 14) 300 0)) ∧ (¬ kd (plB x y) (inB z 0 20) (true) 1 2 9 = 0 → S1 = S ∧ X1 = X))) 2 12 (AL a sz og) := by
  refine lGo (by decide) (Nat.le_of_ble_eq_true rfl) ?_
  intro p e s m args below meth c ls C0 hr hlk ht h0 hK hX hN hAr hP hO hS hl
  obtain ⟨H, hHe⟩ : ∃ H, H = s.heap := ⟨_, rfl⟩
  obtain ⟨locs, hlo⟩ : ∃ L : List Loc, L = [] := ⟨_, rfl⟩
  have hP : WP D cA a S X IF H := hHe ▸ hP
  have hO : va_at D vwCl (og, lcell cL f) H := hHe ▸ hO
  have hS : va_S (AL a sz og) s.heap H locs := by rw [hHe, hlo]; exact hS
  rw [← hHe, ← hlo]
  refine lv_aload C0.1 C0.2.1 dL_setGround_0 (lv_at hl 4 rfl) ?_
  refine lv_iconst (v := 0) C0.1 C0.2.1 dL_setGround_2 (by decide) ?_
  refine lv_aload_n C0.1 C0.2.1 dL_setGround_3 rfl (lv_at hl 0 rfl) ?_
  refine lv_iload_n C0.1 C0.2.1 dL_setGround_4 rfl (lv_at hl 1 rfl) ?_
  refine lv_iload_n C0.1 C0.2.1 dL_setGround_5 rfl (lv_at hl 2 rfl) ?_
  refine lv_iload_n C0.1 C0.2.1 dL_setGround_6 rfl (lv_at hl 3 rfl) ?_
  have hAB := AL.up hS h0
  have hofr : ¬ AF a IF H.size og := fun h9 => h9.elim (fun ⟨k, hk, e9⟩ => hne k hk e9) (fun h9 => absurd (show og < H.size from hO.lt) (Nat.not_lt.mpr h9))
  refine vx_calli (xrV (n := 3) (c_X8_setGround l hfl D cA a S X IF H.size hd x y z) C0 ml_L_7 im_X8_setGround se_X8_setGround in_X8 co_X8_setGround ⟨rfl, by decide⟩ rfl ⟨Nat.le_of_ble_eq_true rfl, Nat.le_of_ble_eq_true rfl⟩ hK hX hP hS hAB rfl hl.1 (Nat.le_of_ble_eq_true rfl) rfl dL_setGround_7 ⟨Nat.le_of_ble_eq_true rfl, Nat.le_of_ble_eq_true rfl⟩) hS (fun q _ h => hAB q h) hAB (fun q _ h => hAB q h) (fun E9 ce9 q9 u9 t9 H locs ht9 _ _ hB _ hk9 hS hce hcv hcl => ?_) (fun r9 u9 t9 H locs ht9 _ hp9 hB _ hk9 hS => ?_)
  · obtain ⟨S1, X1⟩ := u9
    obtain ⟨⟨e1, e2, hE⟩, hP9⟩ := hB
    have e1 : S1 = S := e1
    have e2 : X1 = X := e2
    have hP : WP D cA a S X IF H := by have h9 : WP D cA a S1 X1 IF t9.heap := hP9; rw [e1, e2, ht9] at h9; exact h9
    have hO := hO.kept (hk9 _ hO.lt hofr)
    rcases hE with ⟨hE, hc1⟩ | ⟨hE, hc1, hc2⟩ | ⟨hE, hc1, hc2, hc3⟩
    · subst hE
      refine vx_catch (own := RL) (name := xI) (E := xI) C0.2.2.2.1 [] ⟨0, 12, 15, 13⟩ [⟨0, 12, 19, 15⟩] (ht.trans rfl) (fun z hz => by cases hz) rfl (by decide) (C0.2.2.2.2 _ cl_L_13) (va_Nw.use rfl hX.1.1) hce hcv hcl ?_
      refine lv_astore (lv' := [(5, .ref q9), (0, .ref (a 89)), (1, .int x), (2, .int y), (3, .int z), (4, .ref og)]) C0.1 C0.2.1 dL_setGround_15 hl (by decide) rfl (fun ls hl => ?_)
      refine lv_iconst (v := 1) C0.1 C0.2.1 dL_setGround_17 (by decide) ?_
      exact retLw C0 hr hlk hP hO hS (Nat.le_of_ble_eq_true rfl) (Nat.le_of_ble_eq_true rfl) (wfail (kd_1 hc1) (by decide) ⟨rfl, rfl⟩) dL_setGround_18
    · subst hE
      refine vx_catch (own := RL) (name := xA) (E := xA) C0.2.2.2.1 [⟨0, 12, 15, 13⟩] ⟨0, 12, 19, 15⟩ [] (ht.trans rfl) (fun z hz => by rcases List.mem_singleton.mp hz with rfl; exact Or.inr ⟨by decide, xI, C0.2.2.2.2 _ cl_L_13, hN.1⟩) rfl (by decide) (C0.2.2.2.2 _ cl_L_15) (va_Nw.use rfl hX.1.2.1) hce hcv hcl ?_
      refine lv_astore (lv' := [(5, .ref q9), (0, .ref (a 89)), (1, .int x), (2, .int y), (3, .int z), (4, .ref og)]) C0.1 C0.2.1 dL_setGround_19 hl (by decide) rfl (fun ls hl => ?_)
      refine lv_iconst (v := 2) C0.1 C0.2.1 dL_setGround_21 (by decide) ?_
      exact retLw C0 hr hlk hP hO hS (Nat.le_of_ble_eq_true rfl) (Nat.le_of_ble_eq_true rfl) (wfail (kd_2 hc1 hc2) (by decide) ⟨rfl, rfl⟩) dL_setGround_22
    · cases hc3
  · obtain ⟨S1, X1⟩ := u9
    obtain ⟨hc1, hc2, hc3, hr9, e1, hrel⟩ := hp9
    have hP : WP D cA a S1 X1 IF H := by rw [← ht9]; exact hB
    have hO := hO.kept (hk9 _ hO.lt hofr)
    refine lv_i2l C0.1 C0.2.1 dL_setGround_10 rfl ?_
    refine lst C0 hAr hO hS (Or.inr rfl) dL_setGround_11 (fun H locs hO ho9 hS => ?_)
    have hP : WP D cA a S1 X1 IF H := fun k hk => (hP k hk).kept (ho9 _ (hne k hk))
    refine lv_goto (tgt := 23) C0.1 C0.2.1 dL_setGround_12 (by decide) ?_
    refine lv_iconst (v := 0) C0.1 C0.2.1 dL_setGround_23 (by decide) ?_
    exact retLw C0 hr hlk hP hO hS (Nat.le_of_ble_eq_true rfl) (Nat.le_of_ble_eq_true rfl) (wok (kd_0 hc1 hc2 hc3) ⟨by rw [show r9 = _ from hr9]; rfl, e1, hrel⟩) dL_setGround_24
theorem co_L_setWater : Cond.codeWith yL_setWater cL_setWater 5 (some .int) [(0, 10, 13, 13), (0, 10, 17, 15)] ∈ GW := gw 664 (by decide +kernel) (by decide +kernel)
set_option maxHeartbeats 4000000 in
set_option maxRecDepth 100000 in
theorem w_setWater (l : Launch) (hfl : l.stackTraces = false) (D : va_G) (cA cL : ClassId) (a : Adr) (S X : Mem) (sz og : Nat) (f : Nat → Int64) (hd : Hd nF a IF) (hne : ∀ k, IF k → a k ≠ og) {P L T h : Nat} (ok : OKS S X P L T h) (hh : h + 400 < 2 ^ 31) (x z : Int32) : Met l yL_setWater (.codeWith yL_setWater cL_setWater 5 (some .int) [(0, 10, 13, 13), (0, 10, 17, 15)] :: GW) { frames := 8, cells := 2, slots := 12, locals := 124 } (PLw D cA cL a S X sz og f [.ref (a 89), .int x, .int z, .ref og]) (QLw D cA cL a sz og (fun k S1 X1 v => k = kd (oneB x 12) (inB z 0 24) (true) 1 2 9 ∧ (kd (oneB x 12) (inB z 0 24) (true) 1 2 9 = 0 → v = (rg (S 2) 12 x).toInt64 ∧ S1 = up S 2 (us (S 2) 12 x z) ∧ X1 = X) ∧ (¬ kd (oneB x 12) (inB z 0 24) (true) 1 2 9 = 0 → S1 = S ∧ X1 = X))) 2 12 (AL a sz og) := by
  refine lGo (by decide) (Nat.le_of_ble_eq_true rfl) ?_
  intro p e s m args below meth c ls C0 hr hlk ht h0 hK hX hN hAr hP hO hS hl
  obtain ⟨H, hHe⟩ : ∃ H, H = s.heap := ⟨_, rfl⟩
  obtain ⟨locs, hlo⟩ : ∃ L : List Loc, L = [] := ⟨_, rfl⟩
  have hP : WP D cA a S X IF H := hHe ▸ hP
  have hO : va_at D vwCl (og, lcell cL f) H := hHe ▸ hO
  have hS : va_S (AL a sz og) s.heap H locs := by rw [hHe, hlo]; exact hS
  rw [← hHe, ← hlo]
  refine lv_aload_n C0.1 C0.2.1 dL_setWater_0 rfl (lv_at hl 3 rfl) ?_
  refine lv_iconst (v := 0) C0.1 C0.2.1 dL_setWater_1 (by decide) ?_
  refine lv_aload_n C0.1 C0.2.1 dL_setWater_2 rfl (lv_at hl 0 rfl) ?_
  refine lv_iload_n C0.1 C0.2.1 dL_setWater_3 rfl (lv_at hl 1 rfl) ?_
  refine lv_iload_n C0.1 C0.2.1 dL_setWater_4 rfl (lv_at hl 2 rfl) ?_
  have hAB := AL.up hS h0
  have hofr : ¬ AF a IF H.size og := fun h9 => h9.elim (fun ⟨k, hk, e9⟩ => hne k hk e9) (fun h9 => absurd (show og < H.size from hO.lt) (Nat.not_lt.mpr h9))
  refine vx_calli (xrV (n := 2) (c_X8_setWater l hfl D cA a S X IF H.size hd x z) C0 ml_L_17 im_X8_setWater se_X8_setWater in_X8 co_X8_setWater ⟨rfl, by decide⟩ rfl ⟨Nat.le_of_ble_eq_true rfl, Nat.le_of_ble_eq_true rfl⟩ hK hX hP hS hAB rfl hl.1 (Nat.le_of_ble_eq_true rfl) rfl dL_setWater_5 ⟨Nat.le_of_ble_eq_true rfl, Nat.le_of_ble_eq_true rfl⟩) hS (fun q _ h => hAB q h) hAB (fun q _ h => hAB q h) (fun E9 ce9 q9 u9 t9 H locs ht9 _ _ hB _ hk9 hS hce hcv hcl => ?_) (fun r9 u9 t9 H locs ht9 _ hp9 hB _ hk9 hS => ?_)
  · obtain ⟨S1, X1⟩ := u9
    obtain ⟨⟨e1, e2, hE⟩, hP9⟩ := hB
    have e1 : S1 = S := e1
    have e2 : X1 = X := e2
    have hP : WP D cA a S X IF H := by have h9 : WP D cA a S1 X1 IF t9.heap := hP9; rw [e1, e2, ht9] at h9; exact h9
    have hO := hO.kept (hk9 _ hO.lt hofr)
    rcases hE with ⟨hE, hc1⟩ | ⟨hE, hc1, hc2⟩ | ⟨hE, hc1, hc2, hc3⟩
    · subst hE
      refine vx_catch (own := RL) (name := xI) (E := xI) C0.2.2.2.1 [] ⟨0, 10, 13, 13⟩ [⟨0, 10, 17, 15⟩] (ht.trans rfl) (fun z hz => by cases hz) rfl (by decide) (C0.2.2.2.2 _ cl_L_13) (va_Nw.use rfl hX.1.1) hce hcv hcl ?_
      refine lv_astore (lv' := [(4, .ref q9), (0, .ref (a 89)), (1, .int x), (2, .int z), (3, .ref og)]) C0.1 C0.2.1 dL_setWater_13 hl (by decide) rfl (fun ls hl => ?_)
      refine lv_iconst (v := 1) C0.1 C0.2.1 dL_setWater_15 (by decide) ?_
      exact retLw C0 hr hlk hP hO hS (Nat.le_of_ble_eq_true rfl) (Nat.le_of_ble_eq_true rfl) (wfail (kd_1 hc1) (by decide) ⟨rfl, rfl⟩) dL_setWater_16
    · subst hE
      refine vx_catch (own := RL) (name := xA) (E := xA) C0.2.2.2.1 [⟨0, 10, 13, 13⟩] ⟨0, 10, 17, 15⟩ [] (ht.trans rfl) (fun z hz => by rcases List.mem_singleton.mp hz with rfl; exact Or.inr ⟨by decide, xI, C0.2.2.2.2 _ cl_L_13, hN.1⟩) rfl (by decide) (C0.2.2.2.2 _ cl_L_15) (va_Nw.use rfl hX.1.2.1) hce hcv hcl ?_
      refine lv_astore (lv' := [(4, .ref q9), (0, .ref (a 89)), (1, .int x), (2, .int z), (3, .ref og)]) C0.1 C0.2.1 dL_setWater_17 hl (by decide) rfl (fun ls hl => ?_)
      refine lv_iconst (v := 2) C0.1 C0.2.1 dL_setWater_19 (by decide) ?_
      exact retLw C0 hr hlk hP hO hS (Nat.le_of_ble_eq_true rfl) (Nat.le_of_ble_eq_true rfl) (wfail (kd_2 hc1 hc2) (by decide) ⟨rfl, rfl⟩) dL_setWater_20
    · cases hc3
  · obtain ⟨S1, X1⟩ := u9
    obtain ⟨hc1, hc2, hc3, hr9, e1, hrel⟩ := hp9
    have hP : WP D cA a S1 X1 IF H := by rw [← ht9]; exact hB
    have hO := hO.kept (hk9 _ hO.lt hofr)
    refine lv_i2l C0.1 C0.2.1 dL_setWater_8 rfl ?_
    refine lst C0 hAr hO hS (Or.inr rfl) dL_setWater_9 (fun H locs hO ho9 hS => ?_)
    have hP : WP D cA a S1 X1 IF H := fun k hk => (hP k hk).kept (ho9 _ (hne k hk))
    refine lv_goto (tgt := 21) C0.1 C0.2.1 dL_setWater_10 (by decide) ?_
    refine lv_iconst (v := 0) C0.1 C0.2.1 dL_setWater_21 (by decide) ?_
    exact retLw C0 hr hlk hP hO hS (Nat.le_of_ble_eq_true rfl) (Nat.le_of_ble_eq_true rfl) (wok (kd_0 hc1 hc2 hc3) ⟨by rw [show r9 = _ from hr9]; rfl, e1, hrel⟩) dL_setWater_22
theorem co_L_setStake : Cond.codeWith yL_setStake cL_setStake 6 (some .int) [(0, 12, 15, 13), (0, 12, 19, 15)] ∈ GW := gw 671 (by decide +kernel) (by decide +kernel)
set_option maxHeartbeats 4000000 in
set_option maxRecDepth 100000 in
theorem w_setStake (l : Launch) (hfl : l.stackTraces = false) (D : va_G) (cA cL : ClassId) (a : Adr) (S X : Mem) (sz og : Nat) (f : Nat → Int64) (hd : Hd nF a IF) (hne : ∀ k, IF k → a k ≠ og) {P L T h : Nat} (ok : OKS S X P L T h) (hh : h + 400 < 2 ^ 31) (x y z : Int32) : Met l yL_setStake (.codeWith yL_setStake cL_setStake 6 (some .int) [(0, 12, 15, 13), (0, 12, 19, 15)] :: GW) { frames := 8, cells := 2, slots := 12, locals := 125 } (PLw D cA cL a S X sz og f [.ref (a 89), .int x, .int y, .int z, .ref og]) (QLw D cA cL a sz og (fun k S1 X1 v => k = kd (plB x y) (inB z 0 9) (true) 1 2 9 ∧ (kd (plB x y) (inB z 0 9) (true) 1 2 9 = 0 → v = (rg (S 1) 196 (x + 14 * y)).toInt64 ∧ S1 = up S 1 (us (S 1) 196 (x + 14 * y) z) ∧ X1 = X) ∧ (¬ kd (plB x y) (inB z 0 9) (true) 1 2 9 = 0 → S1 = S ∧ X1 = X))) 2 12 (AL a sz og) := by
  refine lGo (by decide) (Nat.le_of_ble_eq_true rfl) ?_
  intro p e s m args below meth c ls C0 hr hlk ht h0 hK hX hN hAr hP hO hS hl
  obtain ⟨H, hHe⟩ : ∃ H, H = s.heap := ⟨_, rfl⟩
  obtain ⟨locs, hlo⟩ : ∃ L : List Loc, L = [] := ⟨_, rfl⟩
  have hP : WP D cA a S X IF H := hHe ▸ hP
  have hO : va_at D vwCl (og, lcell cL f) H := hHe ▸ hO
  have hS : va_S (AL a sz og) s.heap H locs := by rw [hHe, hlo]; exact hS
  rw [← hHe, ← hlo]
  refine lv_aload C0.1 C0.2.1 dL_setStake_0 (lv_at hl 4 rfl) ?_
  refine lv_iconst (v := 0) C0.1 C0.2.1 dL_setStake_2 (by decide) ?_
  refine lv_aload_n C0.1 C0.2.1 dL_setStake_3 rfl (lv_at hl 0 rfl) ?_
  refine lv_iload_n C0.1 C0.2.1 dL_setStake_4 rfl (lv_at hl 1 rfl) ?_
  refine lv_iload_n C0.1 C0.2.1 dL_setStake_5 rfl (lv_at hl 2 rfl) ?_
  refine lv_iload_n C0.1 C0.2.1 dL_setStake_6 rfl (lv_at hl 3 rfl) ?_
  have hAB := AL.up hS h0
  have hofr : ¬ AF a IF H.size og := fun h9 => h9.elim (fun ⟨k, hk, e9⟩ => hne k hk e9) (fun h9 => absurd (show og < H.size from hO.lt) (Nat.not_lt.mpr h9))
  refine vx_calli (xrV (n := 3) (c_X8_setStake l hfl D cA a S X IF H.size hd x y z) C0 ml_L_21 im_X8_setStake se_X8_setStake in_X8 co_X8_setStake ⟨rfl, by decide⟩ rfl ⟨Nat.le_of_ble_eq_true rfl, Nat.le_of_ble_eq_true rfl⟩ hK hX hP hS hAB rfl hl.1 (Nat.le_of_ble_eq_true rfl) rfl dL_setStake_7 ⟨Nat.le_of_ble_eq_true rfl, Nat.le_of_ble_eq_true rfl⟩) hS (fun q _ h => hAB q h) hAB (fun q _ h => hAB q h) (fun E9 ce9 q9 u9 t9 H locs ht9 _ _ hB _ hk9 hS hce hcv hcl => ?_) (fun r9 u9 t9 H locs ht9 _ hp9 hB _ hk9 hS => ?_)
  · obtain ⟨S1, X1⟩ := u9
    obtain ⟨⟨e1, e2, hE⟩, hP9⟩ := hB
    have e1 : S1 = S := e1
    have e2 : X1 = X := e2
    have hP : WP D cA a S X IF H := by have h9 : WP D cA a S1 X1 IF t9.heap := hP9; rw [e1, e2, ht9] at h9; exact h9
    have hO := hO.kept (hk9 _ hO.lt hofr)
    rcases hE with ⟨hE, hc1⟩ | ⟨hE, hc1, hc2⟩ | ⟨hE, hc1, hc2, hc3⟩
    · subst hE
      refine vx_catch (own := RL) (name := xI) (E := xI) C0.2.2.2.1 [] ⟨0, 12, 15, 13⟩ [⟨0, 12, 19, 15⟩] (ht.trans rfl) (fun z hz => by cases hz) rfl (by decide) (C0.2.2.2.2 _ cl_L_13) (va_Nw.use rfl hX.1.1) hce hcv hcl ?_
      refine lv_astore (lv' := [(5, .ref q9), (0, .ref (a 89)), (1, .int x), (2, .int y), (3, .int z), (4, .ref og)]) C0.1 C0.2.1 dL_setStake_15 hl (by decide) rfl (fun ls hl => ?_)
      refine lv_iconst (v := 1) C0.1 C0.2.1 dL_setStake_17 (by decide) ?_
      exact retLw C0 hr hlk hP hO hS (Nat.le_of_ble_eq_true rfl) (Nat.le_of_ble_eq_true rfl) (wfail (kd_1 hc1) (by decide) ⟨rfl, rfl⟩) dL_setStake_18
    · subst hE
      refine vx_catch (own := RL) (name := xA) (E := xA) C0.2.2.2.1 [⟨0, 12, 15, 13⟩] ⟨0, 12, 19, 15⟩ [] (ht.trans rfl) (fun z hz => by rcases List.mem_singleton.mp hz with rfl; exact Or.inr ⟨by decide, xI, C0.2.2.2.2 _ cl_L_13, hN.1⟩) rfl (by decide) (C0.2.2.2.2 _ cl_L_15) (va_Nw.use rfl hX.1.2.1) hce hcv hcl ?_
      refine lv_astore (lv' := [(5, .ref q9), (0, .ref (a 89)), (1, .int x), (2, .int y), (3, .int z), (4, .ref og)]) C0.1 C0.2.1 dL_setStake_19 hl (by decide) rfl (fun ls hl => ?_)
      refine lv_iconst (v := 2) C0.1 C0.2.1 dL_setStake_21 (by decide) ?_
      exact retLw C0 hr hlk hP hO hS (Nat.le_of_ble_eq_true rfl) (Nat.le_of_ble_eq_true rfl) (wfail (kd_2 hc1 hc2) (by decide) ⟨rfl, rfl⟩) dL_setStake_22
    · cases hc3
  · obtain ⟨S1, X1⟩ := u9
    obtain ⟨hc1, hc2, hc3, hr9, e1, hrel⟩ := hp9
    have hP : WP D cA a S1 X1 IF H := by rw [← ht9]; exact hB
    have hO := hO.kept (hk9 _ hO.lt hofr)
    refine lv_i2l C0.1 C0.2.1 dL_setStake_10 rfl ?_
    refine lst C0 hAr hO hS (Or.inr rfl) dL_setStake_11 (fun H locs hO ho9 hS => ?_)
    have hP : WP D cA a S1 X1 IF H := fun k hk => (hP k hk).kept (ho9 _ (hne k hk))
    refine lv_goto (tgt := 23) C0.1 C0.2.1 dL_setStake_12 (by decide) ?_
    refine lv_iconst (v := 0) C0.1 C0.2.1 dL_setStake_23 (by decide) ?_
    exact retLw C0 hr hlk hP hO hS (Nat.le_of_ble_eq_true rfl) (Nat.le_of_ble_eq_true rfl) (wok (kd_0 hc1 hc2 hc3) ⟨by rw [show r9 = _ from hr9]; rfl, e1, hrel⟩) dL_setStake_24
theorem co_L_cell : Cond.codeWith yL_cell cL_cell 6 (some .int) [(0, 12, 15, 13)] ∈ GW := gw 678 (by decide +kernel) (by decide +kernel)
set_option maxHeartbeats 4000000 in
set_option maxRecDepth 100000 in
theorem w_cell (l : Launch) (hfl : l.stackTraces = false) (D : va_G) (cA cL : ClassId) (a : Adr) (S X : Mem) (sz og : Nat) (f : Nat → Int64) (hd : Hd nF a IF) (hne : ∀ k, IF k → a k ≠ og) {P L T h : Nat} (ok : OKS S X P L T h) (hh : h + 400 < 2 ^ 31) (x y w : Int32) : Met l yL_cell (.codeWith yL_cell cL_cell 6 (some .int) [(0, 12, 15, 13)] :: GW) { frames := 8, cells := 1, slots := 6, locals := 127 } (PLw D cA cL a S X sz og f [.ref (a 89), .int x, .int y, .int w, .ref og]) (QLw D cA cL a sz og (fun k S1 X1 v => k = kd (plB x y && oneB w 6) (true) (true) 1 9 9 ∧ (kd (plB x y && oneB w 6) (true) (true) 1 9 9 = 0 → v = (celR S P L h (x + 14 * y) w).toInt64 ∧ S1 = S ∧ X1 = X) ∧ (¬ kd (plB x y && oneB w 6) (true) (true) 1 9 9 = 0 → S1 = S ∧ X1 = X))) 1 6 (AL a sz og) := by
  refine lGo (by decide) (Nat.le_of_ble_eq_true rfl) ?_
  intro p e s m args below meth c ls C0 hr hlk ht h0 hK hX hN hAr hP hO hS hl
  obtain ⟨H, hHe⟩ : ∃ H, H = s.heap := ⟨_, rfl⟩
  obtain ⟨locs, hlo⟩ : ∃ L : List Loc, L = [] := ⟨_, rfl⟩
  have hP : WP D cA a S X IF H := hHe ▸ hP
  have hO : va_at D vwCl (og, lcell cL f) H := hHe ▸ hO
  have hS : va_S (AL a sz og) s.heap H locs := by rw [hHe, hlo]; exact hS
  rw [← hHe, ← hlo]
  refine lv_aload C0.1 C0.2.1 dL_cell_0 (lv_at hl 4 rfl) ?_
  refine lv_iconst (v := 0) C0.1 C0.2.1 dL_cell_2 (by decide) ?_
  refine lv_aload_n C0.1 C0.2.1 dL_cell_3 rfl (lv_at hl 0 rfl) ?_
  refine lv_iload_n C0.1 C0.2.1 dL_cell_4 rfl (lv_at hl 1 rfl) ?_
  refine lv_iload_n C0.1 C0.2.1 dL_cell_5 rfl (lv_at hl 2 rfl) ?_
  refine lv_iload_n C0.1 C0.2.1 dL_cell_6 rfl (lv_at hl 3 rfl) ?_
  have hAB := AL.up hS h0
  have hofr : ¬ AF a IF H.size og := fun h9 => h9.elim (fun ⟨k, hk, e9⟩ => hne k hk e9) (fun h9 => absurd (show og < H.size from hO.lt) (Nat.not_lt.mpr h9))
  refine vx_calli (xrV (n := 3) (c_X8_cell l hfl D cA a S X IF H.size hd x y w ok.1.1 ok.1.2.1 ok.1.2.2.2.2 (by omega) ok.2.1.2.1 ok.2.1.2.2.1) C0 ml_L_24 im_X8_cell se_X8_cell in_X8 co_X8_cell ⟨rfl, by decide⟩ rfl ⟨Nat.le_of_ble_eq_true rfl, Nat.le_of_ble_eq_true rfl⟩ hK hX hP hS hAB rfl hl.1 (Nat.le_of_ble_eq_true rfl) rfl dL_cell_7 ⟨Nat.le_of_ble_eq_true rfl, Nat.le_of_ble_eq_true rfl⟩) hS (fun q _ h => hAB q h) hAB (fun q _ h => hAB q h) (fun E9 ce9 q9 u9 t9 H locs ht9 _ _ hB _ hk9 hS hce hcv hcl => ?_) (fun r9 u9 t9 H locs ht9 _ hp9 hB _ hk9 hS => ?_)
  · obtain ⟨S1, X1⟩ := u9
    obtain ⟨⟨e1, e2, hE⟩, hP9⟩ := hB
    have e1 : S1 = S := e1
    have e2 : X1 = X := e2
    have hP : WP D cA a S X IF H := by have h9 : WP D cA a S1 X1 IF t9.heap := hP9; rw [e1, e2, ht9] at h9; exact h9
    have hO := hO.kept (hk9 _ hO.lt hofr)
    rcases hE with ⟨hE, hc1⟩ | ⟨hE, hc1, hc2⟩ | ⟨hE, hc1, hc2, hc3⟩
    · subst hE
      refine vx_catch (own := RL) (name := xI) (E := xI) C0.2.2.2.1 [] ⟨0, 12, 15, 13⟩ [] (ht.trans rfl) (fun z hz => by cases hz) rfl (by decide) (C0.2.2.2.2 _ cl_L_13) (va_Nw.use rfl hX.1.1) hce hcv hcl ?_
      refine lv_astore (lv' := [(5, .ref q9), (0, .ref (a 89)), (1, .int x), (2, .int y), (3, .int w), (4, .ref og)]) C0.1 C0.2.1 dL_cell_15 hl (by decide) rfl (fun ls hl => ?_)
      refine lv_iconst (v := 1) C0.1 C0.2.1 dL_cell_17 (by decide) ?_
      exact retLw C0 hr hlk hP hO hS (Nat.le_of_ble_eq_true rfl) (Nat.le_of_ble_eq_true rfl) (wfail (kd_1 hc1) (by decide) ⟨rfl, rfl⟩) dL_cell_18
    · cases hc2
    · cases hc3
  · obtain ⟨S1, X1⟩ := u9
    obtain ⟨hc1, hc2, hc3, hr9, e1, hrel⟩ := hp9
    have hP : WP D cA a S1 X1 IF H := by rw [← ht9]; exact hB
    have hO := hO.kept (hk9 _ hO.lt hofr)
    refine lv_i2l C0.1 C0.2.1 dL_cell_10 rfl ?_
    refine lst C0 hAr hO hS (Or.inr rfl) dL_cell_11 (fun H locs hO ho9 hS => ?_)
    have hP : WP D cA a S1 X1 IF H := fun k hk => (hP k hk).kept (ho9 _ (hne k hk))
    refine lv_goto (tgt := 19) C0.1 C0.2.1 dL_cell_12 (by decide) ?_
    refine lv_iconst (v := 0) C0.1 C0.2.1 dL_cell_19 (by decide) ?_
    exact retLw C0 hr hlk hP hO hS (Nat.le_of_ble_eq_true rfl) (Nat.le_of_ble_eq_true rfl) (wok (kd_0 hc1 hc2 hc3) ⟨by rw [show r9 = _ from hr9]; rfl, e1, hrel⟩) dL_cell_20
theorem co_L_addLanding : Cond.codeWith yL_addLanding cL_addLanding 5 (some .int) [(0, 10, 13, 13), (0, 10, 17, 30)] ∈ GW := gw 691 (by decide +kernel) (by decide +kernel)
set_option maxHeartbeats 4000000 in
set_option maxRecDepth 100000 in
theorem w_addLanding (l : Launch) (hfl : l.stackTraces = false) (D : va_G) (cA cL : ClassId) (a : Adr) (S X : Mem) (sz og : Nat) (f : Nat → Int64) (hd : Hd nF a IF) (hne : ∀ k, IF k → a k ≠ og) {P L T h : Nat} (ok : OKS S X P L T h) (hh : h + 400 < 2 ^ 31) (x y : Int32) : Met l yL_addLanding (.codeWith yL_addLanding cL_addLanding 5 (some .int) [(0, 10, 13, 13), (0, 10, 17, 30)] :: GW) { frames := 8, cells := 2, slots := 12, locals := 125 } (PLw D cA cL a S X sz og f [.ref (a 89), .int x, .int y, .ref og]) (QLw D cA cL a sz og (fun k S1 X1 v => k = kd (plB x y) (true) (decide ((fndF (fun j => decide (rg (S 3) 8 (nI j) = x + 14 * y)) 0 L) = -1) && !decide (8 ≤ nI L)) 1 9 2 ∧ (kd (plB x y) (true) (decide ((fndF (fun j => decide (rg (S 3) 8 (nI j) = x + 14 * y)) 0 L) = -1) && !decide (8 ≤ nI L)) 1 9 2 = 0 → v = (S 81 0).toInt64 ∧ S1 = up (up S 3 (us (S 3) 8 (S 81 0) (x + 14 * y))) 81 (fun _ => S 81 0 + 1) ∧ X1 = X) ∧ (¬ kd (plB x y) (true) (decide ((fndF (fun j => decide (rg (S 3) 8 (nI j) = x + 14 * y)) 0 L) = -1) && !decide (8 ≤ nI L)) 1 9 2 = 0 → S1 = S ∧ X1 = X))) 2 12 (AL a sz og) := by
  refine lGo (by decide) (Nat.le_of_ble_eq_true rfl) ?_
  intro p e s m args below meth c ls C0 hr hlk ht h0 hK hX hN hAr hP hO hS hl
  obtain ⟨H, hHe⟩ : ∃ H, H = s.heap := ⟨_, rfl⟩
  obtain ⟨locs, hlo⟩ : ∃ L : List Loc, L = [] := ⟨_, rfl⟩
  have hP : WP D cA a S X IF H := hHe ▸ hP
  have hO : va_at D vwCl (og, lcell cL f) H := hHe ▸ hO
  have hS : va_S (AL a sz og) s.heap H locs := by rw [hHe, hlo]; exact hS
  rw [← hHe, ← hlo]
  refine lv_aload_n C0.1 C0.2.1 dL_addLanding_0 rfl (lv_at hl 3 rfl) ?_
  refine lv_iconst (v := 0) C0.1 C0.2.1 dL_addLanding_1 (by decide) ?_
  refine lv_aload_n C0.1 C0.2.1 dL_addLanding_2 rfl (lv_at hl 0 rfl) ?_
  refine lv_iload_n C0.1 C0.2.1 dL_addLanding_3 rfl (lv_at hl 1 rfl) ?_
  refine lv_iload_n C0.1 C0.2.1 dL_addLanding_4 rfl (lv_at hl 2 rfl) ?_
  have hAB := AL.up hS h0
  have hofr : ¬ AF a IF H.size og := fun h9 => h9.elim (fun ⟨k, hk, e9⟩ => hne k hk e9) (fun h9 => absurd (show og < H.size from hO.lt) (Nat.not_lt.mpr h9))
  refine vx_calli (xrV (n := 2) (c_X8_addLanding l hfl D cA a S X IF H.size hd x y ok.1.2.1 ok.2.1.2.2.1) C0 ml_L_27 im_X8_addLanding se_X8_addLanding in_X8 co_X8_addLanding ⟨rfl, by decide⟩ rfl ⟨Nat.le_of_ble_eq_true rfl, Nat.le_of_ble_eq_true rfl⟩ hK hX hP hS hAB rfl hl.1 (Nat.le_of_ble_eq_true rfl) rfl dL_addLanding_5 ⟨Nat.le_of_ble_eq_true rfl, Nat.le_of_ble_eq_true rfl⟩) hS (fun q _ h => hAB q h) hAB (fun q _ h => hAB q h) (fun E9 ce9 q9 u9 t9 H locs ht9 _ _ hB _ hk9 hS hce hcv hcl => ?_) (fun r9 u9 t9 H locs ht9 _ hp9 hB _ hk9 hS => ?_)
  · obtain ⟨S1, X1⟩ := u9
    obtain ⟨⟨e1, e2, hE⟩, hP9⟩ := hB
    have e1 : S1 = S := e1
    have e2 : X1 = X := e2
    have hP : WP D cA a S X IF H := by have h9 : WP D cA a S1 X1 IF t9.heap := hP9; rw [e1, e2, ht9] at h9; exact h9
    have hO := hO.kept (hk9 _ hO.lt hofr)
    rcases hE with ⟨hE, hc1⟩ | ⟨hE, hc1, hc2⟩ | ⟨hE, hc1, hc2, hc3⟩
    · subst hE
      refine vx_catch (own := RL) (name := xI) (E := xI) C0.2.2.2.1 [] ⟨0, 10, 13, 13⟩ [⟨0, 10, 17, 30⟩] (ht.trans rfl) (fun z hz => by cases hz) rfl (by decide) (C0.2.2.2.2 _ cl_L_13) (va_Nw.use rfl hX.1.1) hce hcv hcl ?_
      refine lv_astore (lv' := [(4, .ref q9), (0, .ref (a 89)), (1, .int x), (2, .int y), (3, .ref og)]) C0.1 C0.2.1 dL_addLanding_13 hl (by decide) rfl (fun ls hl => ?_)
      refine lv_iconst (v := 1) C0.1 C0.2.1 dL_addLanding_15 (by decide) ?_
      exact retLw C0 hr hlk hP hO hS (Nat.le_of_ble_eq_true rfl) (Nat.le_of_ble_eq_true rfl) (wfail (kd_1 hc1) (by decide) ⟨rfl, rfl⟩) dL_addLanding_16
    · cases hc2
    · subst hE
      refine vx_catch (own := RL) (name := xS) (E := xS) C0.2.2.2.1 [⟨0, 10, 13, 13⟩] ⟨0, 10, 17, 30⟩ [] (ht.trans rfl) (fun z hz => by rcases List.mem_singleton.mp hz with rfl; exact Or.inr ⟨by decide, xI, C0.2.2.2.2 _ cl_L_13, hN.2.1⟩) rfl (by decide) (C0.2.2.2.2 _ cl_L_30) (va_Nw.use rfl hX.1.2.2.1) hce hcv hcl ?_
      refine lv_astore (lv' := [(4, .ref q9), (0, .ref (a 89)), (1, .int x), (2, .int y), (3, .ref og)]) C0.1 C0.2.1 dL_addLanding_17 hl (by decide) rfl (fun ls hl => ?_)
      refine lv_iconst (v := 2) C0.1 C0.2.1 dL_addLanding_19 (by decide) ?_
      exact retLw C0 hr hlk hP hO hS (Nat.le_of_ble_eq_true rfl) (Nat.le_of_ble_eq_true rfl) (wfail (kd_3 hc1 hc2 hc3) (by decide) ⟨rfl, rfl⟩) dL_addLanding_20
  · obtain ⟨S1, X1⟩ := u9
    obtain ⟨hc1, hc2, hc3, hr9, e1, hrel⟩ := hp9
    have hP : WP D cA a S1 X1 IF H := by rw [← ht9]; exact hB
    have hO := hO.kept (hk9 _ hO.lt hofr)
    refine lv_i2l C0.1 C0.2.1 dL_addLanding_8 rfl ?_
    refine lst C0 hAr hO hS (Or.inr rfl) dL_addLanding_9 (fun H locs hO ho9 hS => ?_)
    have hP : WP D cA a S1 X1 IF H := fun k hk => (hP k hk).kept (ho9 _ (hne k hk))
    refine lv_goto (tgt := 21) C0.1 C0.2.1 dL_addLanding_10 (by decide) ?_
    refine lv_iconst (v := 0) C0.1 C0.2.1 dL_addLanding_21 (by decide) ?_
    exact retLw C0 hr hlk hP hO hS (Nat.le_of_ble_eq_true rfl) (Nat.le_of_ble_eq_true rfl) (wok (kd_0 hc1 hc2 hc3) ⟨by rw [show r9 = _ from hr9]; rfl, e1, hrel⟩) dL_addLanding_22
theorem co_L_launch : Cond.codeWith yL_launch cL_launch 9 (some .int) [(0, 18, 21, 13), (0, 18, 25, 15), (0, 18, 29, 30)] ∈ GW := gw 723 (by decide +kernel) (by decide +kernel)
set_option maxHeartbeats 4000000 in
set_option maxRecDepth 100000 in
theorem w_launch (l : Launch) (hfl : l.stackTraces = false) (D : va_G) (cA cL : ClassId) (a : Adr) (S X : Mem) (sz og : Nat) (f : Nat → Int64) (hd : Hd nF a IF) (hne : ∀ k, IF k → a k ≠ og) {P L T h : Nat} (ok : OKS S X P L T h) (hh : h + 400 < 2 ^ 31) (x y d q o z : Int32) : Met l yL_launch (.codeWith yL_launch cL_launch 9 (some .int) [(0, 18, 21, 13), (0, 18, 25, 15), (0, 18, 29, 30)] :: GW) { frames := 8, cells := 7, slots := 42, locals := 139 } (PLw D cA cL a S X sz og f [.ref (a 89), .int x, .int y, .int d, .int q, .int o, .int z, .ref og]) (QLw D cA cL a sz og (fun k S1 X1 v => k = kd (oneB x (nI L) && oneB y (nI L)) (!decide (x = y) && inB d 1 4 && inB q 2 12 && inB o 1 6 && inB z 0 50) (!decide (6 ≤ nI P)) 1 2 3 ∧ (kd (oneB x (nI L) && oneB y (nI L)) (!decide (x = y) && inB d 1 4 && inB q 2 12 && inB o 1 6 && inB z 0 50) (!decide (6 ≤ nI P)) 1 2 3 = 0 → v = (nI P).toInt64 ∧ S1 = launM S P x y d q o z ∧ X1 = up (up X 10 ((rkT (launM S P x y d q o z) (P + 1) (fl (X 10) 64 (-1)) (X 11) 8).1)) 11 ((rkT (launM S P x y d q o z) (P + 1) (fl (X 10) 64 (-1)) (X 11) 8).2)) ∧ (¬ kd (oneB x (nI L) && oneB y (nI L)) (!decide (x = y) && inB d 1 4 && inB q 2 12 && inB o 1 6 && inB z 0 50) (!decide (6 ≤ nI P)) 1 2 3 = 0 → S1 = S ∧ X1 = X))) 7 42 (AL a sz og) := by
  refine lGo (by decide) (Nat.le_of_ble_eq_true rfl) ?_
  intro p e s m args below meth c ls C0 hr hlk ht h0 hK hX hN hAr hP hO hS hl
  obtain ⟨H, hHe⟩ : ∃ H, H = s.heap := ⟨_, rfl⟩
  obtain ⟨locs, hlo⟩ : ∃ L : List Loc, L = [] := ⟨_, rfl⟩
  have hP : WP D cA a S X IF H := hHe ▸ hP
  have hO : va_at D vwCl (og, lcell cL f) H := hHe ▸ hO
  have hS : va_S (AL a sz og) s.heap H locs := by rw [hHe, hlo]; exact hS
  rw [← hHe, ← hlo]
  refine lv_aload C0.1 C0.2.1 dL_launch_0 (lv_at hl 7 rfl) ?_
  refine lv_iconst (v := 0) C0.1 C0.2.1 dL_launch_2 (by decide) ?_
  refine lv_aload_n C0.1 C0.2.1 dL_launch_3 rfl (lv_at hl 0 rfl) ?_
  refine lv_iload_n C0.1 C0.2.1 dL_launch_4 rfl (lv_at hl 1 rfl) ?_
  refine lv_iload_n C0.1 C0.2.1 dL_launch_5 rfl (lv_at hl 2 rfl) ?_
  refine lv_iload_n C0.1 C0.2.1 dL_launch_6 rfl (lv_at hl 3 rfl) ?_
  refine lv_iload C0.1 C0.2.1 dL_launch_7 (lv_at hl 4 rfl) ?_
  refine lv_iload C0.1 C0.2.1 dL_launch_9 (lv_at hl 5 rfl) ?_
  refine lv_iload C0.1 C0.2.1 dL_launch_11 (lv_at hl 6 rfl) ?_
  have hAB := AL.up hS h0
  have hofr : ¬ AF a IF H.size og := fun h9 => h9.elim (fun ⟨k, hk, e9⟩ => hne k hk e9) (fun h9 => absurd (show og < H.size from hO.lt) (Nat.not_lt.mpr h9))
  refine vx_calli (xrV (n := 6) (c_X8_launch l hfl D cA a S X IF H.size hd x y d q o z ok.1.1 ok.1.2.1 ok.2.1.2.1 ok.2.1.2.2.1) C0 ml_L_32 im_X8_launch se_X8_launch in_X8 co_X8_launch ⟨rfl, by decide⟩ rfl ⟨Nat.le_of_ble_eq_true rfl, Nat.le_of_ble_eq_true rfl⟩ hK hX hP hS hAB rfl hl.1 (Nat.le_of_ble_eq_true rfl) rfl dL_launch_13 ⟨Nat.le_of_ble_eq_true rfl, Nat.le_of_ble_eq_true rfl⟩) hS (fun q _ h => hAB q h) hAB (fun q _ h => hAB q h) (fun E9 ce9 q9 u9 t9 H locs ht9 _ _ hB _ hk9 hS hce hcv hcl => ?_) (fun r9 u9 t9 H locs ht9 _ hp9 hB _ hk9 hS => ?_)
  · obtain ⟨S1, X1⟩ := u9
    obtain ⟨⟨e1, e2, hE⟩, hP9⟩ := hB
    have e1 : S1 = S := e1
    have e2 : X1 = X := e2
    have hP : WP D cA a S X IF H := by have h9 : WP D cA a S1 X1 IF t9.heap := hP9; rw [e1, e2, ht9] at h9; exact h9
    have hO := hO.kept (hk9 _ hO.lt hofr)
    rcases hE with ⟨hE, hc1⟩ | ⟨hE, hc1, hc2⟩ | ⟨hE, hc1, hc2, hc3⟩
    · subst hE
      refine vx_catch (own := RL) (name := xI) (E := xI) C0.2.2.2.1 [] ⟨0, 18, 21, 13⟩ [⟨0, 18, 25, 15⟩, ⟨0, 18, 29, 30⟩] (ht.trans rfl) (fun z hz => by cases hz) rfl (by decide) (C0.2.2.2.2 _ cl_L_13) (va_Nw.use rfl hX.1.1) hce hcv hcl ?_
      refine lv_astore (lv' := [(8, .ref q9), (0, .ref (a 89)), (1, .int x), (2, .int y), (3, .int d), (4, .int q), (5, .int o), (6, .int z), (7, .ref og)]) C0.1 C0.2.1 dL_launch_21 hl (by decide) rfl (fun ls hl => ?_)
      refine lv_iconst (v := 1) C0.1 C0.2.1 dL_launch_23 (by decide) ?_
      exact retLw C0 hr hlk hP hO hS (Nat.le_of_ble_eq_true rfl) (Nat.le_of_ble_eq_true rfl) (wfail (kd_1 hc1) (by decide) ⟨rfl, rfl⟩) dL_launch_24
    · subst hE
      refine vx_catch (own := RL) (name := xA) (E := xA) C0.2.2.2.1 [⟨0, 18, 21, 13⟩] ⟨0, 18, 25, 15⟩ [⟨0, 18, 29, 30⟩] (ht.trans rfl) (fun z hz => by rcases List.mem_singleton.mp hz with rfl; exact Or.inr ⟨by decide, xI, C0.2.2.2.2 _ cl_L_13, hN.1⟩) rfl (by decide) (C0.2.2.2.2 _ cl_L_15) (va_Nw.use rfl hX.1.2.1) hce hcv hcl ?_
      refine lv_astore (lv' := [(8, .ref q9), (0, .ref (a 89)), (1, .int x), (2, .int y), (3, .int d), (4, .int q), (5, .int o), (6, .int z), (7, .ref og)]) C0.1 C0.2.1 dL_launch_25 hl (by decide) rfl (fun ls hl => ?_)
      refine lv_iconst (v := 2) C0.1 C0.2.1 dL_launch_27 (by decide) ?_
      exact retLw C0 hr hlk hP hO hS (Nat.le_of_ble_eq_true rfl) (Nat.le_of_ble_eq_true rfl) (wfail (kd_2 hc1 hc2) (by decide) ⟨rfl, rfl⟩) dL_launch_28
    · subst hE
      refine vx_catch (own := RL) (name := xS) (E := xS) C0.2.2.2.1 [⟨0, 18, 21, 13⟩, ⟨0, 18, 25, 15⟩] ⟨0, 18, 29, 30⟩ [] (ht.trans rfl) (fun z hz => by rcases List.mem_cons.mp hz with rfl | hz; exact Or.inr ⟨by decide, xI, C0.2.2.2.2 _ cl_L_13, hN.2.1⟩; rcases List.mem_singleton.mp hz with rfl; exact Or.inr ⟨by decide, xA, C0.2.2.2.2 _ cl_L_15, hN.2.2⟩) rfl (by decide) (C0.2.2.2.2 _ cl_L_30) (va_Nw.use rfl hX.1.2.2.1) hce hcv hcl ?_
      refine lv_astore (lv' := [(8, .ref q9), (0, .ref (a 89)), (1, .int x), (2, .int y), (3, .int d), (4, .int q), (5, .int o), (6, .int z), (7, .ref og)]) C0.1 C0.2.1 dL_launch_29 hl (by decide) rfl (fun ls hl => ?_)
      refine lv_iconst (v := 3) C0.1 C0.2.1 dL_launch_31 (by decide) ?_
      exact retLw C0 hr hlk hP hO hS (Nat.le_of_ble_eq_true rfl) (Nat.le_of_ble_eq_true rfl) (wfail (kd_3 hc1 hc2 hc3) (by decide) ⟨rfl, rfl⟩) dL_launch_32
  · obtain ⟨S1, X1⟩ := u9
    obtain ⟨hc1, hc2, hc3, hr9, e1, hrel⟩ := hp9
    have hP : WP D cA a S1 X1 IF H := by rw [← ht9]; exact hB
    have hO := hO.kept (hk9 _ hO.lt hofr)
    refine lv_i2l C0.1 C0.2.1 dL_launch_16 rfl ?_
    refine lst C0 hAr hO hS (Or.inr rfl) dL_launch_17 (fun H locs hO ho9 hS => ?_)
    have hP : WP D cA a S1 X1 IF H := fun k hk => (hP k hk).kept (ho9 _ (hne k hk))
    refine lv_goto (tgt := 33) C0.1 C0.2.1 dL_launch_18 (by decide) ?_
    refine lv_iconst (v := 0) C0.1 C0.2.1 dL_launch_33 (by decide) ?_
    exact retLw C0 hr hlk hP hO hS (Nat.le_of_ble_eq_true rfl) (Nat.le_of_ble_eq_true rfl) (wok (kd_0 hc1 hc2 hc3) ⟨by rw [show r9 = _ from hr9]; rfl, e1, hrel⟩) dL_launch_34
theorem co_L_setToll : Cond.codeWith yL_setToll cL_setToll 5 (some .int) [(0, 10, 13, 13), (0, 10, 17, 15)] ∈ GW := gw 745 (by decide +kernel) (by decide +kernel)
set_option maxHeartbeats 4000000 in
set_option maxRecDepth 100000 in
theorem w_setToll (l : Launch) (hfl : l.stackTraces = false) (D : va_G) (cA cL : ClassId) (a : Adr) (S X : Mem) (sz og : Nat) (f : Nat → Int64) (hd : Hd nF a IF) (hne : ∀ k, IF k → a k ≠ og) {P L T h : Nat} (ok : OKS S X P L T h) (hh : h + 400 < 2 ^ 31) (x z : Int32) : Met l yL_setToll (.codeWith yL_setToll cL_setToll 5 (some .int) [(0, 10, 13, 13), (0, 10, 17, 15)] :: GW) { frames := 8, cells := 2, slots := 12, locals := 124 } (PLw D cA cL a S X sz og f [.ref (a 89), .int x, .int z, .ref og]) (QLw D cA cL a sz og (fun k S1 X1 v => k = kd (oneB x (nI P)) (inB z 0 50) (true) 1 2 9 ∧ (kd (oneB x (nI P)) (inB z 0 50) (true) 1 2 9 = 0 → v = (rg (S 9) 6 x).toInt64 ∧ S1 = up S 9 (us (S 9) 6 x z) ∧ X1 = X) ∧ (¬ kd (oneB x (nI P)) (inB z 0 50) (true) 1 2 9 = 0 → S1 = S ∧ X1 = X))) 2 12 (AL a sz og) := by
  refine lGo (by decide) (Nat.le_of_ble_eq_true rfl) ?_
  intro p e s m args below meth c ls C0 hr hlk ht h0 hK hX hN hAr hP hO hS hl
  obtain ⟨H, hHe⟩ : ∃ H, H = s.heap := ⟨_, rfl⟩
  obtain ⟨locs, hlo⟩ : ∃ L : List Loc, L = [] := ⟨_, rfl⟩
  have hP : WP D cA a S X IF H := hHe ▸ hP
  have hO : va_at D vwCl (og, lcell cL f) H := hHe ▸ hO
  have hS : va_S (AL a sz og) s.heap H locs := by rw [hHe, hlo]; exact hS
  rw [← hHe, ← hlo]
  refine lv_aload_n C0.1 C0.2.1 dL_setToll_0 rfl (lv_at hl 3 rfl) ?_
  refine lv_iconst (v := 0) C0.1 C0.2.1 dL_setToll_1 (by decide) ?_
  refine lv_aload_n C0.1 C0.2.1 dL_setToll_2 rfl (lv_at hl 0 rfl) ?_
  refine lv_iload_n C0.1 C0.2.1 dL_setToll_3 rfl (lv_at hl 1 rfl) ?_
  refine lv_iload_n C0.1 C0.2.1 dL_setToll_4 rfl (lv_at hl 2 rfl) ?_
  have hAB := AL.up hS h0
  have hofr : ¬ AF a IF H.size og := fun h9 => h9.elim (fun ⟨k, hk, e9⟩ => hne k hk e9) (fun h9 => absurd (show og < H.size from hO.lt) (Nat.not_lt.mpr h9))
  refine vx_calli (xrV (n := 2) (c_X8_setToll l hfl D cA a S X IF H.size hd x z ok.1.1) C0 ml_L_36 im_X8_setToll se_X8_setToll in_X8 co_X8_setToll ⟨rfl, by decide⟩ rfl ⟨Nat.le_of_ble_eq_true rfl, Nat.le_of_ble_eq_true rfl⟩ hK hX hP hS hAB rfl hl.1 (Nat.le_of_ble_eq_true rfl) rfl dL_setToll_5 ⟨Nat.le_of_ble_eq_true rfl, Nat.le_of_ble_eq_true rfl⟩) hS (fun q _ h => hAB q h) hAB (fun q _ h => hAB q h) (fun E9 ce9 q9 u9 t9 H locs ht9 _ _ hB _ hk9 hS hce hcv hcl => ?_) (fun r9 u9 t9 H locs ht9 _ hp9 hB _ hk9 hS => ?_)
  · obtain ⟨S1, X1⟩ := u9
    obtain ⟨⟨e1, e2, hE⟩, hP9⟩ := hB
    have e1 : S1 = S := e1
    have e2 : X1 = X := e2
    have hP : WP D cA a S X IF H := by have h9 : WP D cA a S1 X1 IF t9.heap := hP9; rw [e1, e2, ht9] at h9; exact h9
    have hO := hO.kept (hk9 _ hO.lt hofr)
    rcases hE with ⟨hE, hc1⟩ | ⟨hE, hc1, hc2⟩ | ⟨hE, hc1, hc2, hc3⟩
    · subst hE
      refine vx_catch (own := RL) (name := xI) (E := xI) C0.2.2.2.1 [] ⟨0, 10, 13, 13⟩ [⟨0, 10, 17, 15⟩] (ht.trans rfl) (fun z hz => by cases hz) rfl (by decide) (C0.2.2.2.2 _ cl_L_13) (va_Nw.use rfl hX.1.1) hce hcv hcl ?_
      refine lv_astore (lv' := [(4, .ref q9), (0, .ref (a 89)), (1, .int x), (2, .int z), (3, .ref og)]) C0.1 C0.2.1 dL_setToll_13 hl (by decide) rfl (fun ls hl => ?_)
      refine lv_iconst (v := 1) C0.1 C0.2.1 dL_setToll_15 (by decide) ?_
      exact retLw C0 hr hlk hP hO hS (Nat.le_of_ble_eq_true rfl) (Nat.le_of_ble_eq_true rfl) (wfail (kd_1 hc1) (by decide) ⟨rfl, rfl⟩) dL_setToll_16
    · subst hE
      refine vx_catch (own := RL) (name := xA) (E := xA) C0.2.2.2.1 [⟨0, 10, 13, 13⟩] ⟨0, 10, 17, 15⟩ [] (ht.trans rfl) (fun z hz => by rcases List.mem_singleton.mp hz with rfl; exact Or.inr ⟨by decide, xI, C0.2.2.2.2 _ cl_L_13, hN.1⟩) rfl (by decide) (C0.2.2.2.2 _ cl_L_15) (va_Nw.use rfl hX.1.2.1) hce hcv hcl ?_
      refine lv_astore (lv' := [(4, .ref q9), (0, .ref (a 89)), (1, .int x), (2, .int z), (3, .ref og)]) C0.1 C0.2.1 dL_setToll_17 hl (by decide) rfl (fun ls hl => ?_)
      refine lv_iconst (v := 2) C0.1 C0.2.1 dL_setToll_19 (by decide) ?_
      exact retLw C0 hr hlk hP hO hS (Nat.le_of_ble_eq_true rfl) (Nat.le_of_ble_eq_true rfl) (wfail (kd_2 hc1 hc2) (by decide) ⟨rfl, rfl⟩) dL_setToll_20
    · cases hc3
  · obtain ⟨S1, X1⟩ := u9
    obtain ⟨hc1, hc2, hc3, hr9, e1, hrel⟩ := hp9
    have hP : WP D cA a S1 X1 IF H := by rw [← ht9]; exact hB
    have hO := hO.kept (hk9 _ hO.lt hofr)
    refine lv_i2l C0.1 C0.2.1 dL_setToll_8 rfl ?_
    refine lst C0 hAr hO hS (Or.inr rfl) dL_setToll_9 (fun H locs hO ho9 hS => ?_)
    have hP : WP D cA a S1 X1 IF H := fun k hk => (hP k hk).kept (ho9 _ (hne k hk))
    refine lv_goto (tgt := 21) C0.1 C0.2.1 dL_setToll_10 (by decide) ?_
    refine lv_iconst (v := 0) C0.1 C0.2.1 dL_setToll_21 (by decide) ?_
    exact retLw C0 hr hlk hP hO hS (Nat.le_of_ble_eq_true rfl) (Nat.le_of_ble_eq_true rfl) (wok (kd_0 hc1 hc2 hc3) ⟨by rw [show r9 = _ from hr9]; rfl, e1, hrel⟩) dL_setToll_22
theorem co_L_punt : Cond.codeWith yL_punt cL_punt 5 (some .int) [(0, 10, 13, 13)] ∈ GW := gw 752 (by decide +kernel) (by decide +kernel)
set_option maxHeartbeats 4000000 in
set_option maxRecDepth 100000 in
theorem w_punt (l : Launch) (hfl : l.stackTraces = false) (D : va_G) (cA cL : ClassId) (a : Adr) (S X : Mem) (sz og : Nat) (f : Nat → Int64) (hd : Hd nF a IF) (hne : ∀ k, IF k → a k ≠ og) {P L T h : Nat} (ok : OKS S X P L T h) (hh : h + 400 < 2 ^ 31) (x w : Int32) : Met l yL_punt (.codeWith yL_punt cL_punt 5 (some .int) [(0, 10, 13, 13)] :: GW) { frames := 8, cells := 1, slots := 6, locals := 163 } (PLw D cA cL a S X sz og f [.ref (a 89), .int x, .int w, .ref og]) (QLw D cA cL a sz og (fun k S1 X1 v => k = kd (oneB x (nI P) && oneB w 9) (true) (true) 1 9 9 ∧ (kd (oneB x (nI P) && oneB w 9) (true) (true) 1 9 9 = 0 → v = (punS S T h (nv x) w).toInt64 ∧ S1 = S ∧ CacheOk S X1 P ∧ (∀ k, k ≠ 13 → k ≠ 14 → k ≠ 15 → X1 k = X k)) ∧ (¬ kd (oneB x (nI P) && oneB w 9) (true) (true) 1 9 9 = 0 → S1 = S ∧ X1 = X))) 1 6 (AL a sz og) := by
  refine lGo (by decide) (Nat.le_of_ble_eq_true rfl) ?_
  intro p e s m args below meth c ls C0 hr hlk ht h0 hK hX hN hAr hP hO hS hl
  obtain ⟨H, hHe⟩ : ∃ H, H = s.heap := ⟨_, rfl⟩
  obtain ⟨locs, hlo⟩ : ∃ L : List Loc, L = [] := ⟨_, rfl⟩
  have hP : WP D cA a S X IF H := hHe ▸ hP
  have hO : va_at D vwCl (og, lcell cL f) H := hHe ▸ hO
  have hS : va_S (AL a sz og) s.heap H locs := by rw [hHe, hlo]; exact hS
  rw [← hHe, ← hlo]
  refine lv_aload_n C0.1 C0.2.1 dL_punt_0 rfl (lv_at hl 3 rfl) ?_
  refine lv_iconst (v := 0) C0.1 C0.2.1 dL_punt_1 (by decide) ?_
  refine lv_aload_n C0.1 C0.2.1 dL_punt_2 rfl (lv_at hl 0 rfl) ?_
  refine lv_iload_n C0.1 C0.2.1 dL_punt_3 rfl (lv_at hl 1 rfl) ?_
  refine lv_iload_n C0.1 C0.2.1 dL_punt_4 rfl (lv_at hl 2 rfl) ?_
  have hAB := AL.up hS h0
  have hofr : ¬ AF a IF H.size og := fun h9 => h9.elim (fun ⟨k, hk, e9⟩ => hne k hk e9) (fun h9 => absurd (show og < H.size from hO.lt) (Nat.not_lt.mpr h9))
  refine vx_calli (xrV (n := 2) (c_X8_punt l hfl D cA a S X IF H.size hd x w ok.1.1 ok.1.2.2.1 ok.1.2.2.2.1 ok.1.2.2.2.2 (by omega) ok.2.2.2.2.2.1 ok.2.1) C0 ml_L_39 im_X8_punt se_X8_punt in_X8 co_X8_punt ⟨rfl, by decide⟩ rfl ⟨Nat.le_of_ble_eq_true rfl, Nat.le_of_ble_eq_true rfl⟩ hK hX hP hS hAB rfl hl.1 (Nat.le_of_ble_eq_true rfl) rfl dL_punt_5 ⟨Nat.le_of_ble_eq_true rfl, Nat.le_of_ble_eq_true rfl⟩) hS (fun q _ h => hAB q h) hAB (fun q _ h => hAB q h) (fun E9 ce9 q9 u9 t9 H locs ht9 _ _ hB _ hk9 hS hce hcv hcl => ?_) (fun r9 u9 t9 H locs ht9 _ hp9 hB _ hk9 hS => ?_)
  · obtain ⟨S1, X1⟩ := u9
    obtain ⟨⟨e1, e2, hE⟩, hP9⟩ := hB
    have e1 : S1 = S := e1
    have e2 : X1 = X := e2
    have hP : WP D cA a S X IF H := by have h9 : WP D cA a S1 X1 IF t9.heap := hP9; rw [e1, e2, ht9] at h9; exact h9
    have hO := hO.kept (hk9 _ hO.lt hofr)
    rcases hE with ⟨hE, hc1⟩ | ⟨hE, hc1, hc2⟩ | ⟨hE, hc1, hc2, hc3⟩
    · subst hE
      refine vx_catch (own := RL) (name := xI) (E := xI) C0.2.2.2.1 [] ⟨0, 10, 13, 13⟩ [] (ht.trans rfl) (fun z hz => by cases hz) rfl (by decide) (C0.2.2.2.2 _ cl_L_13) (va_Nw.use rfl hX.1.1) hce hcv hcl ?_
      refine lv_astore (lv' := [(4, .ref q9), (0, .ref (a 89)), (1, .int x), (2, .int w), (3, .ref og)]) C0.1 C0.2.1 dL_punt_13 hl (by decide) rfl (fun ls hl => ?_)
      refine lv_iconst (v := 1) C0.1 C0.2.1 dL_punt_15 (by decide) ?_
      exact retLw C0 hr hlk hP hO hS (Nat.le_of_ble_eq_true rfl) (Nat.le_of_ble_eq_true rfl) (wfail (kd_1 hc1) (by decide) ⟨rfl, rfl⟩) dL_punt_16
    · cases hc2
    · cases hc3
  · obtain ⟨S1, X1⟩ := u9
    obtain ⟨hc1, hc2, hc3, hr9, e1, hrel⟩ := hp9
    have hP : WP D cA a S1 X1 IF H := by rw [← ht9]; exact hB
    have hO := hO.kept (hk9 _ hO.lt hofr)
    refine lv_i2l C0.1 C0.2.1 dL_punt_8 rfl ?_
    refine lst C0 hAr hO hS (Or.inr rfl) dL_punt_9 (fun H locs hO ho9 hS => ?_)
    have hP : WP D cA a S1 X1 IF H := fun k hk => (hP k hk).kept (ho9 _ (hne k hk))
    refine lv_goto (tgt := 17) C0.1 C0.2.1 dL_punt_10 (by decide) ?_
    refine lv_iconst (v := 0) C0.1 C0.2.1 dL_punt_17 (by decide) ?_
    exact retLw C0 hr hlk hP hO hS (Nat.le_of_ble_eq_true rfl) (Nat.le_of_ble_eq_true rfl) (wok (kd_0 hc1 hc2 hc3) ⟨by rw [show r9 = _ from hr9]; rfl, e1, hrel⟩) dL_punt_18
theorem co_L_addTraveller : Cond.codeWith yL_addTraveller cL_addTraveller 6 (some .int) [(0, 12, 15, 13), (0, 12, 19, 15), (0, 12, 23, 30)] ∈ GW := gw 759 (by decide +kernel) (by decide +kernel)
set_option maxHeartbeats 4000000 in
set_option maxRecDepth 100000 in
theorem w_addTraveller (l : Launch) (hfl : l.stackTraces = false) (D : va_G) (cA cL : ClassId) (a : Adr) (S X : Mem) (sz og : Nat) (f : Nat → Int64) (hd : Hd nF a IF) (hne : ∀ k, IF k → a k ≠ og) {P L T h : Nat} (ok : OKS S X P L T h) (hh : h + 400 < 2 ^ 31) (x y z : Int32) : Met l yL_addTraveller (.codeWith yL_addTraveller cL_addTraveller 6 (some .int) [(0, 12, 15, 13), (0, 12, 19, 15), (0, 12, 23, 30)] :: GW) { frames := 8, cells := 4, slots := 24, locals := 125 } (PLw D cA cL a S X sz og f [.ref (a 89), .int x, .int y, .int z, .ref og]) (QLw D cA cL a sz og (fun k S1 X1 v => k = kd (oneB x (nI L) && oneB y (nI L)) (!decide (x = y) && inB z 0 1000) (!decide (30 ≤ nI T)) 1 2 3 ∧ (kd (oneB x (nI L) && oneB y (nI L)) (!decide (x = y) && inB z 0 1000) (!decide (30 ≤ nI T)) 1 2 3 = 0 → v = (nI T).toInt64 ∧ S1 = up (up (up (up (up (up S 20 (upd (S 20) T y)) 21 (upd (S 21) T z)) 22 (upd (S 22) T x)) 23 (upd (S 23) T (-1))) 24 (upd (S 24) T (-1))) 85 (fun _ => nI T + 1) ∧ X1 = X) ∧ (¬ kd (oneB x (nI L) && oneB y (nI L)) (!decide (x = y) && inB z 0 1000) (!decide (30 ≤ nI T)) 1 2 3 = 0 → S1 = S ∧ X1 = X))) 4 24 (AL a sz og) := by
  refine lGo (by decide) (Nat.le_of_ble_eq_true rfl) ?_
  intro p e s m args below meth c ls C0 hr hlk ht h0 hK hX hN hAr hP hO hS hl
  obtain ⟨H, hHe⟩ : ∃ H, H = s.heap := ⟨_, rfl⟩
  obtain ⟨locs, hlo⟩ : ∃ L : List Loc, L = [] := ⟨_, rfl⟩
  have hP : WP D cA a S X IF H := hHe ▸ hP
  have hO : va_at D vwCl (og, lcell cL f) H := hHe ▸ hO
  have hS : va_S (AL a sz og) s.heap H locs := by rw [hHe, hlo]; exact hS
  rw [← hHe, ← hlo]
  refine lv_aload C0.1 C0.2.1 dL_addTraveller_0 (lv_at hl 4 rfl) ?_
  refine lv_iconst (v := 0) C0.1 C0.2.1 dL_addTraveller_2 (by decide) ?_
  refine lv_aload_n C0.1 C0.2.1 dL_addTraveller_3 rfl (lv_at hl 0 rfl) ?_
  refine lv_iload_n C0.1 C0.2.1 dL_addTraveller_4 rfl (lv_at hl 1 rfl) ?_
  refine lv_iload_n C0.1 C0.2.1 dL_addTraveller_5 rfl (lv_at hl 2 rfl) ?_
  refine lv_iload_n C0.1 C0.2.1 dL_addTraveller_6 rfl (lv_at hl 3 rfl) ?_
  have hAB := AL.up hS h0
  have hofr : ¬ AF a IF H.size og := fun h9 => h9.elim (fun ⟨k, hk, e9⟩ => hne k hk e9) (fun h9 => absurd (show og < H.size from hO.lt) (Nat.not_lt.mpr h9))
  refine vx_calli (xrV (n := 3) (c_X8_addTraveller l hfl D cA a S X IF H.size hd x y z ok.1.2.1 ok.1.2.2.1 ok.2.1.2.2.1 ok.1.2.2.2.1) C0 ml_L_42 im_X8_addTraveller se_X8_addTraveller in_X8 co_X8_addTraveller ⟨rfl, by decide⟩ rfl ⟨Nat.le_of_ble_eq_true rfl, Nat.le_of_ble_eq_true rfl⟩ hK hX hP hS hAB rfl hl.1 (Nat.le_of_ble_eq_true rfl) rfl dL_addTraveller_7 ⟨Nat.le_of_ble_eq_true rfl, Nat.le_of_ble_eq_true rfl⟩) hS (fun q _ h => hAB q h) hAB (fun q _ h => hAB q h) (fun E9 ce9 q9 u9 t9 H locs ht9 _ _ hB _ hk9 hS hce hcv hcl => ?_) (fun r9 u9 t9 H locs ht9 _ hp9 hB _ hk9 hS => ?_)
  · obtain ⟨S1, X1⟩ := u9
    obtain ⟨⟨e1, e2, hE⟩, hP9⟩ := hB
    have e1 : S1 = S := e1
    have e2 : X1 = X := e2
    have hP : WP D cA a S X IF H := by have h9 : WP D cA a S1 X1 IF t9.heap := hP9; rw [e1, e2, ht9] at h9; exact h9
    have hO := hO.kept (hk9 _ hO.lt hofr)
    rcases hE with ⟨hE, hc1⟩ | ⟨hE, hc1, hc2⟩ | ⟨hE, hc1, hc2, hc3⟩
    · subst hE
      refine vx_catch (own := RL) (name := xI) (E := xI) C0.2.2.2.1 [] ⟨0, 12, 15, 13⟩ [⟨0, 12, 19, 15⟩, ⟨0, 12, 23, 30⟩] (ht.trans rfl) (fun z hz => by cases hz) rfl (by decide) (C0.2.2.2.2 _ cl_L_13) (va_Nw.use rfl hX.1.1) hce hcv hcl ?_
      refine lv_astore (lv' := [(5, .ref q9), (0, .ref (a 89)), (1, .int x), (2, .int y), (3, .int z), (4, .ref og)]) C0.1 C0.2.1 dL_addTraveller_15 hl (by decide) rfl (fun ls hl => ?_)
      refine lv_iconst (v := 1) C0.1 C0.2.1 dL_addTraveller_17 (by decide) ?_
      exact retLw C0 hr hlk hP hO hS (Nat.le_of_ble_eq_true rfl) (Nat.le_of_ble_eq_true rfl) (wfail (kd_1 hc1) (by decide) ⟨rfl, rfl⟩) dL_addTraveller_18
    · subst hE
      refine vx_catch (own := RL) (name := xA) (E := xA) C0.2.2.2.1 [⟨0, 12, 15, 13⟩] ⟨0, 12, 19, 15⟩ [⟨0, 12, 23, 30⟩] (ht.trans rfl) (fun z hz => by rcases List.mem_singleton.mp hz with rfl; exact Or.inr ⟨by decide, xI, C0.2.2.2.2 _ cl_L_13, hN.1⟩) rfl (by decide) (C0.2.2.2.2 _ cl_L_15) (va_Nw.use rfl hX.1.2.1) hce hcv hcl ?_
      refine lv_astore (lv' := [(5, .ref q9), (0, .ref (a 89)), (1, .int x), (2, .int y), (3, .int z), (4, .ref og)]) C0.1 C0.2.1 dL_addTraveller_19 hl (by decide) rfl (fun ls hl => ?_)
      refine lv_iconst (v := 2) C0.1 C0.2.1 dL_addTraveller_21 (by decide) ?_
      exact retLw C0 hr hlk hP hO hS (Nat.le_of_ble_eq_true rfl) (Nat.le_of_ble_eq_true rfl) (wfail (kd_2 hc1 hc2) (by decide) ⟨rfl, rfl⟩) dL_addTraveller_22
    · subst hE
      refine vx_catch (own := RL) (name := xS) (E := xS) C0.2.2.2.1 [⟨0, 12, 15, 13⟩, ⟨0, 12, 19, 15⟩] ⟨0, 12, 23, 30⟩ [] (ht.trans rfl) (fun z hz => by rcases List.mem_cons.mp hz with rfl | hz; exact Or.inr ⟨by decide, xI, C0.2.2.2.2 _ cl_L_13, hN.2.1⟩; rcases List.mem_singleton.mp hz with rfl; exact Or.inr ⟨by decide, xA, C0.2.2.2.2 _ cl_L_15, hN.2.2⟩) rfl (by decide) (C0.2.2.2.2 _ cl_L_30) (va_Nw.use rfl hX.1.2.2.1) hce hcv hcl ?_
      refine lv_astore (lv' := [(5, .ref q9), (0, .ref (a 89)), (1, .int x), (2, .int y), (3, .int z), (4, .ref og)]) C0.1 C0.2.1 dL_addTraveller_23 hl (by decide) rfl (fun ls hl => ?_)
      refine lv_iconst (v := 3) C0.1 C0.2.1 dL_addTraveller_25 (by decide) ?_
      exact retLw C0 hr hlk hP hO hS (Nat.le_of_ble_eq_true rfl) (Nat.le_of_ble_eq_true rfl) (wfail (kd_3 hc1 hc2 hc3) (by decide) ⟨rfl, rfl⟩) dL_addTraveller_26
  · obtain ⟨S1, X1⟩ := u9
    obtain ⟨hc1, hc2, hc3, hr9, e1, hrel⟩ := hp9
    have hP : WP D cA a S1 X1 IF H := by rw [← ht9]; exact hB
    have hO := hO.kept (hk9 _ hO.lt hofr)
    refine lv_i2l C0.1 C0.2.1 dL_addTraveller_10 rfl ?_
    refine lst C0 hAr hO hS (Or.inr rfl) dL_addTraveller_11 (fun H locs hO ho9 hS => ?_)
    have hP : WP D cA a S1 X1 IF H := fun k hk => (hP k hk).kept (ho9 _ (hne k hk))
    refine lv_goto (tgt := 27) C0.1 C0.2.1 dL_addTraveller_12 (by decide) ?_
    refine lv_iconst (v := 0) C0.1 C0.2.1 dL_addTraveller_27 (by decide) ?_
    exact retLw C0 hr hlk hP hO hS (Nat.le_of_ble_eq_true rfl) (Nat.le_of_ble_eq_true rfl) (wok (kd_0 hc1 hc2 hc3) ⟨by rw [show r9 = _ from hr9]; rfl, e1, hrel⟩) dL_addTraveller_28
theorem co_L_traveller : Cond.codeWith yL_traveller cL_traveller 5 (some .int) [(0, 10, 13, 13)] ∈ GW := gw 771 (by decide +kernel) (by decide +kernel)
set_option maxHeartbeats 4000000 in
set_option maxRecDepth 100000 in
theorem w_traveller (l : Launch) (hfl : l.stackTraces = false) (D : va_G) (cA cL : ClassId) (a : Adr) (S X : Mem) (sz og : Nat) (f : Nat → Int64) (hd : Hd nF a IF) (hne : ∀ k, IF k → a k ≠ og) {P L T h : Nat} (ok : OKS S X P L T h) (hh : h + 400 < 2 ^ 31) (x w : Int32) : Met l yL_traveller (.codeWith yL_traveller cL_traveller 5 (some .int) [(0, 10, 13, 13)] :: GW) { frames := 8, cells := 1, slots := 6, locals := 124 } (PLw D cA cL a S X sz og f [.ref (a 89), .int x, .int w, .ref og]) (QLw D cA cL a sz og (fun k S1 X1 v => k = kd (oneB x (nI T) && oneB w 7) (true) (true) 1 9 9 ∧ (kd (oneB x (nI T) && oneB w 7) (true) (true) 1 9 9 = 0 → v = (trvS S P (nv x) w).toInt64 ∧ S1 = S ∧ X1 = X) ∧ (¬ kd (oneB x (nI T) && oneB w 7) (true) (true) 1 9 9 = 0 → S1 = S ∧ X1 = X))) 1 6 (AL a sz og) := by
  refine lGo (by decide) (Nat.le_of_ble_eq_true rfl) ?_
  intro p e s m args below meth c ls C0 hr hlk ht h0 hK hX hN hAr hP hO hS hl
  obtain ⟨H, hHe⟩ : ∃ H, H = s.heap := ⟨_, rfl⟩
  obtain ⟨locs, hlo⟩ : ∃ L : List Loc, L = [] := ⟨_, rfl⟩
  have hP : WP D cA a S X IF H := hHe ▸ hP
  have hO : va_at D vwCl (og, lcell cL f) H := hHe ▸ hO
  have hS : va_S (AL a sz og) s.heap H locs := by rw [hHe, hlo]; exact hS
  rw [← hHe, ← hlo]
  refine lv_aload_n C0.1 C0.2.1 dL_traveller_0 rfl (lv_at hl 3 rfl) ?_
  refine lv_iconst (v := 0) C0.1 C0.2.1 dL_traveller_1 (by decide) ?_
  refine lv_aload_n C0.1 C0.2.1 dL_traveller_2 rfl (lv_at hl 0 rfl) ?_
  refine lv_iload_n C0.1 C0.2.1 dL_traveller_3 rfl (lv_at hl 1 rfl) ?_
  refine lv_iload_n C0.1 C0.2.1 dL_traveller_4 rfl (lv_at hl 2 rfl) ?_
  have hAB := AL.up hS h0
  have hofr : ¬ AF a IF H.size og := fun h9 => h9.elim (fun ⟨k, hk, e9⟩ => hne k hk e9) (fun h9 => absurd (show og < H.size from hO.lt) (Nat.not_lt.mpr h9))
  refine vx_calli (xrV (n := 2) (c_X8_traveller l hfl D cA a S X IF H.size hd x w ok.1.2.2.1 ok.1.2.2.2.1 ok.2.2.2.2.2.2 ok.2.1 ok.2.2.1) C0 ml_L_45 im_X8_traveller se_X8_traveller in_X8 co_X8_traveller ⟨rfl, by decide⟩ rfl ⟨Nat.le_of_ble_eq_true rfl, Nat.le_of_ble_eq_true rfl⟩ hK hX hP hS hAB rfl hl.1 (Nat.le_of_ble_eq_true rfl) rfl dL_traveller_5 ⟨Nat.le_of_ble_eq_true rfl, Nat.le_of_ble_eq_true rfl⟩) hS (fun q _ h => hAB q h) hAB (fun q _ h => hAB q h) (fun E9 ce9 q9 u9 t9 H locs ht9 _ _ hB _ hk9 hS hce hcv hcl => ?_) (fun r9 u9 t9 H locs ht9 _ hp9 hB _ hk9 hS => ?_)
  · obtain ⟨S1, X1⟩ := u9
    obtain ⟨⟨e1, e2, hE⟩, hP9⟩ := hB
    have e1 : S1 = S := e1
    have e2 : X1 = X := e2
    have hP : WP D cA a S X IF H := by have h9 : WP D cA a S1 X1 IF t9.heap := hP9; rw [e1, e2, ht9] at h9; exact h9
    have hO := hO.kept (hk9 _ hO.lt hofr)
    rcases hE with ⟨hE, hc1⟩ | ⟨hE, hc1, hc2⟩ | ⟨hE, hc1, hc2, hc3⟩
    · subst hE
      refine vx_catch (own := RL) (name := xI) (E := xI) C0.2.2.2.1 [] ⟨0, 10, 13, 13⟩ [] (ht.trans rfl) (fun z hz => by cases hz) rfl (by decide) (C0.2.2.2.2 _ cl_L_13) (va_Nw.use rfl hX.1.1) hce hcv hcl ?_
      refine lv_astore (lv' := [(4, .ref q9), (0, .ref (a 89)), (1, .int x), (2, .int w), (3, .ref og)]) C0.1 C0.2.1 dL_traveller_13 hl (by decide) rfl (fun ls hl => ?_)
      refine lv_iconst (v := 1) C0.1 C0.2.1 dL_traveller_15 (by decide) ?_
      exact retLw C0 hr hlk hP hO hS (Nat.le_of_ble_eq_true rfl) (Nat.le_of_ble_eq_true rfl) (wfail (kd_1 hc1) (by decide) ⟨rfl, rfl⟩) dL_traveller_16
    · cases hc2
    · cases hc3
  · obtain ⟨S1, X1⟩ := u9
    obtain ⟨hc1, hc2, hc3, hr9, e1, hrel⟩ := hp9
    have hP : WP D cA a S1 X1 IF H := by rw [← ht9]; exact hB
    have hO := hO.kept (hk9 _ hO.lt hofr)
    refine lv_i2l C0.1 C0.2.1 dL_traveller_8 rfl ?_
    refine lst C0 hAr hO hS (Or.inr rfl) dL_traveller_9 (fun H locs hO ho9 hS => ?_)
    have hP : WP D cA a S1 X1 IF H := fun k hk => (hP k hk).kept (ho9 _ (hne k hk))
    refine lv_goto (tgt := 17) C0.1 C0.2.1 dL_traveller_10 (by decide) ?_
    refine lv_iconst (v := 0) C0.1 C0.2.1 dL_traveller_17 (by decide) ?_
    exact retLw C0 hr hlk hP hO hS (Nat.le_of_ble_eq_true rfl) (Nat.le_of_ble_eq_true rfl) (wok (kd_0 hc1 hc2 hc3) ⟨by rw [show r9 = _ from hr9]; rfl, e1, hrel⟩) dL_traveller_18
theorem co_L_landing : Cond.codeWith yL_landing cL_landing 5 (some .int) [(0, 10, 13, 13)] ∈ GW := gw 778 (by decide +kernel) (by decide +kernel)
set_option maxHeartbeats 4000000 in
set_option maxRecDepth 100000 in
theorem w_landing (l : Launch) (hfl : l.stackTraces = false) (D : va_G) (cA cL : ClassId) (a : Adr) (S X : Mem) (sz og : Nat) (f : Nat → Int64) (hd : Hd nF a IF) (hne : ∀ k, IF k → a k ≠ og) {P L T h : Nat} (ok : OKS S X P L T h) (hh : h + 400 < 2 ^ 31) (x w : Int32) : Met l yL_landing (.codeWith yL_landing cL_landing 5 (some .int) [(0, 10, 13, 13)] :: GW) { frames := 8, cells := 1, slots := 6, locals := 131 } (PLw D cA cL a S X sz og f [.ref (a 89), .int x, .int w, .ref og]) (QLw D cA cL a sz og (fun k S1 X1 v => k = kd (oneB x (nI L) && oneB w 5) (true) (true) 1 9 9 ∧ (kd (oneB x (nI L) && oneB w 5) (true) (true) 1 9 9 = 0 → v = (lanS S P T (nv x) w).toInt64 ∧ S1 = S ∧ X1 = X) ∧ (¬ kd (oneB x (nI L) && oneB w 5) (true) (true) 1 9 9 = 0 → S1 = S ∧ X1 = X))) 1 6 (AL a sz og) := by
  refine lGo (by decide) (Nat.le_of_ble_eq_true rfl) ?_
  intro p e s m args below meth c ls C0 hr hlk ht h0 hK hX hN hAr hP hO hS hl
  obtain ⟨H, hHe⟩ : ∃ H, H = s.heap := ⟨_, rfl⟩
  obtain ⟨locs, hlo⟩ : ∃ L : List Loc, L = [] := ⟨_, rfl⟩
  have hP : WP D cA a S X IF H := hHe ▸ hP
  have hO : va_at D vwCl (og, lcell cL f) H := hHe ▸ hO
  have hS : va_S (AL a sz og) s.heap H locs := by rw [hHe, hlo]; exact hS
  rw [← hHe, ← hlo]
  refine lv_aload_n C0.1 C0.2.1 dL_landing_0 rfl (lv_at hl 3 rfl) ?_
  refine lv_iconst (v := 0) C0.1 C0.2.1 dL_landing_1 (by decide) ?_
  refine lv_aload_n C0.1 C0.2.1 dL_landing_2 rfl (lv_at hl 0 rfl) ?_
  refine lv_iload_n C0.1 C0.2.1 dL_landing_3 rfl (lv_at hl 1 rfl) ?_
  refine lv_iload_n C0.1 C0.2.1 dL_landing_4 rfl (lv_at hl 2 rfl) ?_
  have hAB := AL.up hS h0
  have hofr : ¬ AF a IF H.size og := fun h9 => h9.elim (fun ⟨k, hk, e9⟩ => hne k hk e9) (fun h9 => absurd (show og < H.size from hO.lt) (Nat.not_lt.mpr h9))
  refine vx_calli (xrV (n := 2) (c_X8_landing l hfl D cA a S X IF H.size hd x w ok.1.1 ok.1.2.1 ok.1.2.2.1 ok.1.2.2.2.1 ok.2.1) C0 ml_L_48 im_X8_landing se_X8_landing in_X8 co_X8_landing ⟨rfl, by decide⟩ rfl ⟨Nat.le_of_ble_eq_true rfl, Nat.le_of_ble_eq_true rfl⟩ hK hX hP hS hAB rfl hl.1 (Nat.le_of_ble_eq_true rfl) rfl dL_landing_5 ⟨Nat.le_of_ble_eq_true rfl, Nat.le_of_ble_eq_true rfl⟩) hS (fun q _ h => hAB q h) hAB (fun q _ h => hAB q h) (fun E9 ce9 q9 u9 t9 H locs ht9 _ _ hB _ hk9 hS hce hcv hcl => ?_) (fun r9 u9 t9 H locs ht9 _ hp9 hB _ hk9 hS => ?_)
  · obtain ⟨S1, X1⟩ := u9
    obtain ⟨⟨e1, e2, hE⟩, hP9⟩ := hB
    have e1 : S1 = S := e1
    have e2 : X1 = X := e2
    have hP : WP D cA a S X IF H := by have h9 : WP D cA a S1 X1 IF t9.heap := hP9; rw [e1, e2, ht9] at h9; exact h9
    have hO := hO.kept (hk9 _ hO.lt hofr)
    rcases hE with ⟨hE, hc1⟩ | ⟨hE, hc1, hc2⟩ | ⟨hE, hc1, hc2, hc3⟩
    · subst hE
      refine vx_catch (own := RL) (name := xI) (E := xI) C0.2.2.2.1 [] ⟨0, 10, 13, 13⟩ [] (ht.trans rfl) (fun z hz => by cases hz) rfl (by decide) (C0.2.2.2.2 _ cl_L_13) (va_Nw.use rfl hX.1.1) hce hcv hcl ?_
      refine lv_astore (lv' := [(4, .ref q9), (0, .ref (a 89)), (1, .int x), (2, .int w), (3, .ref og)]) C0.1 C0.2.1 dL_landing_13 hl (by decide) rfl (fun ls hl => ?_)
      refine lv_iconst (v := 1) C0.1 C0.2.1 dL_landing_15 (by decide) ?_
      exact retLw C0 hr hlk hP hO hS (Nat.le_of_ble_eq_true rfl) (Nat.le_of_ble_eq_true rfl) (wfail (kd_1 hc1) (by decide) ⟨rfl, rfl⟩) dL_landing_16
    · cases hc2
    · cases hc3
  · obtain ⟨S1, X1⟩ := u9
    obtain ⟨hc1, hc2, hc3, hr9, e1, hrel⟩ := hp9
    have hP : WP D cA a S1 X1 IF H := by rw [← ht9]; exact hB
    have hO := hO.kept (hk9 _ hO.lt hofr)
    refine lv_i2l C0.1 C0.2.1 dL_landing_8 rfl ?_
    refine lst C0 hAr hO hS (Or.inr rfl) dL_landing_9 (fun H locs hO ho9 hS => ?_)
    have hP : WP D cA a S1 X1 IF H := fun k hk => (hP k hk).kept (ho9 _ (hne k hk))
    refine lv_goto (tgt := 17) C0.1 C0.2.1 dL_landing_10 (by decide) ?_
    refine lv_iconst (v := 0) C0.1 C0.2.1 dL_landing_17 (by decide) ?_
    exact retLw C0 hr hlk hP hO hS (Nat.le_of_ble_eq_true rfl) (Nat.le_of_ble_eq_true rfl) (wok (kd_0 hc1 hc2 hc3) ⟨by rw [show r9 = _ from hr9]; rfl, e1, hrel⟩) dL_landing_18
theorem co_L_pass : Cond.codeWith yL_pass cL_pass 4 (some .int) [(0, 9, 12, 15)] ∈ GW := gw 785 (by decide +kernel) (by decide +kernel)
set_option maxHeartbeats 4000000 in
set_option maxRecDepth 100000 in
theorem w_pass (l : Launch) (hfl : l.stackTraces = false) (D : va_G) (cA cL : ClassId) (a : Adr) (S X : Mem) (sz og : Nat) (f : Nat → Int64) (hd : Hd nF a IF) (hne : ∀ k, IF k → a k ≠ og) {P L T h : Nat} (ok : OKS S X P L T h) (hh : h + 400 < 2 ^ 31) (x : Int32) : Met l yL_pass (.codeWith yL_pass cL_pass 4 (some .int) [(0, 9, 12, 15)] :: GW) { frames := 8, cells := 1, slots := 6, locals := 166 } (PLw D cA cL a S X sz og f [.ref (a 89), .int x, .ref og]) (QLw D cA cL a sz og (fun k S1 X1 v => k = kd (true) (inB x 1 100) (true) 9 1 9 ∧ (kd (true) (inB x 1 100) (true) 9 1 9 = 0 → v = ((hrsM (FX X) S P T h (nv x)).2).toInt64 ∧ S1 = (hrsM (FX X) S P T h (nv x)).1 ∧ CacheOk S X1 P ∧ (∀ k, k ≠ 13 → k ≠ 14 → k ≠ 15 → X1 k = X k)) ∧ (¬ kd (true) (inB x 1 100) (true) 9 1 9 = 0 → S1 = S ∧ X1 = X))) 1 6 (AL a sz og) := by
  refine lGo (by decide) (Nat.le_of_ble_eq_true rfl) ?_
  intro p e s m args below meth c ls C0 hr hlk ht h0 hK hX hN hAr hP hO hS hl
  obtain ⟨H, hHe⟩ : ∃ H, H = s.heap := ⟨_, rfl⟩
  obtain ⟨locs, hlo⟩ : ∃ L : List Loc, L = [] := ⟨_, rfl⟩
  have hP : WP D cA a S X IF H := hHe ▸ hP
  have hO : va_at D vwCl (og, lcell cL f) H := hHe ▸ hO
  have hS : va_S (AL a sz og) s.heap H locs := by rw [hHe, hlo]; exact hS
  rw [← hHe, ← hlo]
  refine lv_aload_n C0.1 C0.2.1 dL_pass_0 rfl (lv_at hl 2 rfl) ?_
  refine lv_iconst (v := 0) C0.1 C0.2.1 dL_pass_1 (by decide) ?_
  refine lv_aload_n C0.1 C0.2.1 dL_pass_2 rfl (lv_at hl 0 rfl) ?_
  refine lv_iload_n C0.1 C0.2.1 dL_pass_3 rfl (lv_at hl 1 rfl) ?_
  have hAB := AL.up hS h0
  have hofr : ¬ AF a IF H.size og := fun h9 => h9.elim (fun ⟨k, hk, e9⟩ => hne k hk e9) (fun h9 => absurd (show og < H.size from hO.lt) (Nat.not_lt.mpr h9))
  refine vx_calli (xrV (n := 1) (c_X8_pass l hfl D cA a S X IF H.size hd x ok.1.1 ok.1.2.2.1 ok.1.2.2.2.1 ok.1.2.2.2.2 (by omega) ok.2.2.2.2.2.1 ok.2.1) C0 ml_L_51 im_X8_pass se_X8_pass in_X8 co_X8_pass ⟨rfl, by decide⟩ rfl ⟨Nat.le_of_ble_eq_true rfl, Nat.le_of_ble_eq_true rfl⟩ hK hX hP hS hAB rfl hl.1 (Nat.le_of_ble_eq_true rfl) rfl dL_pass_4 ⟨Nat.le_of_ble_eq_true rfl, Nat.le_of_ble_eq_true rfl⟩) hS (fun q _ h => hAB q h) hAB (fun q _ h => hAB q h) (fun E9 ce9 q9 u9 t9 H locs ht9 _ _ hB _ hk9 hS hce hcv hcl => ?_) (fun r9 u9 t9 H locs ht9 _ hp9 hB _ hk9 hS => ?_)
  · obtain ⟨S1, X1⟩ := u9
    obtain ⟨⟨e1, e2, hE⟩, hP9⟩ := hB
    have e1 : S1 = S := e1
    have e2 : X1 = X := e2
    have hP : WP D cA a S X IF H := by have h9 : WP D cA a S1 X1 IF t9.heap := hP9; rw [e1, e2, ht9] at h9; exact h9
    have hO := hO.kept (hk9 _ hO.lt hofr)
    rcases hE with ⟨hE, hc1⟩ | ⟨hE, hc1, hc2⟩ | ⟨hE, hc1, hc2, hc3⟩
    · cases hc1
    · subst hE
      refine vx_catch (own := RL) (name := xA) (E := xA) C0.2.2.2.1 [] ⟨0, 9, 12, 15⟩ [] (ht.trans rfl) (fun z hz => by cases hz) rfl (by decide) (C0.2.2.2.2 _ cl_L_15) (va_Nw.use rfl hX.1.2.1) hce hcv hcl ?_
      refine lv_astore_n (lv' := [(3, .ref q9), (0, .ref (a 89)), (1, .int x), (2, .ref og)]) C0.1 C0.2.1 dL_pass_12 rfl hl (by decide) rfl (fun ls hl => ?_)
      refine lv_iconst (v := 1) C0.1 C0.2.1 dL_pass_13 (by decide) ?_
      exact retLw C0 hr hlk hP hO hS (Nat.le_of_ble_eq_true rfl) (Nat.le_of_ble_eq_true rfl) (wfail (kd_2 hc1 hc2) (by decide) ⟨rfl, rfl⟩) dL_pass_14
    · cases hc3
  · obtain ⟨S1, X1⟩ := u9
    obtain ⟨hc1, hc2, hc3, hr9, e1, hrel⟩ := hp9
    have hP : WP D cA a S1 X1 IF H := by rw [← ht9]; exact hB
    have hO := hO.kept (hk9 _ hO.lt hofr)
    refine lv_i2l C0.1 C0.2.1 dL_pass_7 rfl ?_
    refine lst C0 hAr hO hS (Or.inr rfl) dL_pass_8 (fun H locs hO ho9 hS => ?_)
    have hP : WP D cA a S1 X1 IF H := fun k hk => (hP k hk).kept (ho9 _ (hne k hk))
    refine lv_goto (tgt := 15) C0.1 C0.2.1 dL_pass_9 (by decide) ?_
    refine lv_iconst (v := 0) C0.1 C0.2.1 dL_pass_15 (by decide) ?_
    exact retLw C0 hr hlk hP hO hS (Nat.le_of_ble_eq_true rfl) (Nat.le_of_ble_eq_true rfl) (wok (kd_0 hc1 hc2 hc3) ⟨by rw [show r9 = _ from hr9]; rfl, e1, hrel⟩) dL_pass_16
theorem co_L_count : Cond.codeWith yL_count cL_count 4 (some .int) [(0, 9, 12, 13)] ∈ GW := gw 840 (by decide +kernel) (by decide +kernel)
set_option maxHeartbeats 4000000 in
set_option maxRecDepth 100000 in
theorem w_count (l : Launch) (hfl : l.stackTraces = false) (D : va_G) (cA cL : ClassId) (a : Adr) (S X : Mem) (sz og : Nat) (f : Nat → Int64) (hd : Hd nF a IF) (hne : ∀ k, IF k → a k ≠ og) {P L T h : Nat} (ok : OKS S X P L T h) (hh : h + 400 < 2 ^ 31) (w : Int32) : Met l yL_count (.codeWith yL_count cL_count 4 (some .int) [(0, 9, 12, 13)] :: GW) { frames := 8, cells := 1, slots := 6, locals := 147 } (PLw D cA cL a S X sz og f [.ref (a 89), .int w, .ref og]) (QLw D cA cL a sz og (fun k S1 X1 v => k = kd (oneB w 11) (true) (true) 1 9 9 ∧ (kd (oneB w 11) (true) (true) 1 9 9 = 0 → v = (couS S P L T h w).toInt64 ∧ S1 = S ∧ X1 = X) ∧ (¬ kd (oneB w 11) (true) (true) 1 9 9 = 0 → S1 = S ∧ X1 = X))) 1 6 (AL a sz og) := by
  refine lGo (by decide) (Nat.le_of_ble_eq_true rfl) ?_
  intro p e s m args below meth c ls C0 hr hlk ht h0 hK hX hN hAr hP hO hS hl
  obtain ⟨H, hHe⟩ : ∃ H, H = s.heap := ⟨_, rfl⟩
  obtain ⟨locs, hlo⟩ : ∃ L : List Loc, L = [] := ⟨_, rfl⟩
  have hP : WP D cA a S X IF H := hHe ▸ hP
  have hO : va_at D vwCl (og, lcell cL f) H := hHe ▸ hO
  have hS : va_S (AL a sz og) s.heap H locs := by rw [hHe, hlo]; exact hS
  rw [← hHe, ← hlo]
  refine lv_aload_n C0.1 C0.2.1 dL_count_0 rfl (lv_at hl 2 rfl) ?_
  refine lv_iconst (v := 0) C0.1 C0.2.1 dL_count_1 (by decide) ?_
  refine lv_aload_n C0.1 C0.2.1 dL_count_2 rfl (lv_at hl 0 rfl) ?_
  refine lv_iload_n C0.1 C0.2.1 dL_count_3 rfl (lv_at hl 1 rfl) ?_
  have hAB := AL.up hS h0
  have hofr : ¬ AF a IF H.size og := fun h9 => h9.elim (fun ⟨k, hk, e9⟩ => hne k hk e9) (fun h9 => absurd (show og < H.size from hO.lt) (Nat.not_lt.mpr h9))
  refine vx_calli (xrV (n := 1) (c_X8_count l hfl D cA a S X IF H.size hd w ok.1.1 ok.1.2.1 ok.1.2.2.1 ok.1.2.2.2.1 ok.1.2.2.2.2 (by omega) ok.2.1 ok.2.2.1) C0 ml_L_55 im_X8_count se_X8_count in_X8 co_X8_count ⟨rfl, by decide⟩ rfl ⟨Nat.le_of_ble_eq_true rfl, Nat.le_of_ble_eq_true rfl⟩ hK hX hP hS hAB rfl hl.1 (Nat.le_of_ble_eq_true rfl) rfl dL_count_4 ⟨Nat.le_of_ble_eq_true rfl, Nat.le_of_ble_eq_true rfl⟩) hS (fun q _ h => hAB q h) hAB (fun q _ h => hAB q h) (fun E9 ce9 q9 u9 t9 H locs ht9 _ _ hB _ hk9 hS hce hcv hcl => ?_) (fun r9 u9 t9 H locs ht9 _ hp9 hB _ hk9 hS => ?_)
  · obtain ⟨S1, X1⟩ := u9
    obtain ⟨⟨e1, e2, hE⟩, hP9⟩ := hB
    have e1 : S1 = S := e1
    have e2 : X1 = X := e2
    have hP : WP D cA a S X IF H := by have h9 : WP D cA a S1 X1 IF t9.heap := hP9; rw [e1, e2, ht9] at h9; exact h9
    have hO := hO.kept (hk9 _ hO.lt hofr)
    rcases hE with ⟨hE, hc1⟩ | ⟨hE, hc1, hc2⟩ | ⟨hE, hc1, hc2, hc3⟩
    · subst hE
      refine vx_catch (own := RL) (name := xI) (E := xI) C0.2.2.2.1 [] ⟨0, 9, 12, 13⟩ [] (ht.trans rfl) (fun z hz => by cases hz) rfl (by decide) (C0.2.2.2.2 _ cl_L_13) (va_Nw.use rfl hX.1.1) hce hcv hcl ?_
      refine lv_astore_n (lv' := [(3, .ref q9), (0, .ref (a 89)), (1, .int w), (2, .ref og)]) C0.1 C0.2.1 dL_count_12 rfl hl (by decide) rfl (fun ls hl => ?_)
      refine lv_iconst (v := 1) C0.1 C0.2.1 dL_count_13 (by decide) ?_
      exact retLw C0 hr hlk hP hO hS (Nat.le_of_ble_eq_true rfl) (Nat.le_of_ble_eq_true rfl) (wfail (kd_1 hc1) (by decide) ⟨rfl, rfl⟩) dL_count_14
    · cases hc2
    · cases hc3
  · obtain ⟨S1, X1⟩ := u9
    obtain ⟨hc1, hc2, hc3, hr9, e1, hrel⟩ := hp9
    have hP : WP D cA a S1 X1 IF H := by rw [← ht9]; exact hB
    have hO := hO.kept (hk9 _ hO.lt hofr)
    refine lv_i2l C0.1 C0.2.1 dL_count_7 rfl ?_
    refine lst C0 hAr hO hS (Or.inr rfl) dL_count_8 (fun H locs hO ho9 hS => ?_)
    have hP : WP D cA a S1 X1 IF H := fun k hk => (hP k hk).kept (ho9 _ (hne k hk))
    refine lv_goto (tgt := 15) C0.1 C0.2.1 dL_count_9 (by decide) ?_
    refine lv_iconst (v := 0) C0.1 C0.2.1 dL_count_15 (by decide) ?_
    exact retLw C0 hr hlk hP hO hS (Nat.le_of_ble_eq_true rfl) (Nat.le_of_ble_eq_true rfl) (wok (kd_0 hc1 hc2 hc3) ⟨by rw [show r9 = _ from hr9]; rfl, e1, hrel⟩) dL_count_16
theorem co_L_crossing : Cond.codeWith yL_crossing cL_crossing 5 (some .int) [(0, 10, 13, 13), (0, 10, 17, 15)] ∈ GW := gw 847 (by decide +kernel) (by decide +kernel)
set_option maxHeartbeats 4000000 in
set_option maxRecDepth 100000 in
theorem w_crossing (l : Launch) (hfl : l.stackTraces = false) (D : va_G) (cA cL : ClassId) (a : Adr) (S X : Mem) (sz og : Nat) (f : Nat → Int64) (hd : Hd nF a IF) (hne : ∀ k, IF k → a k ≠ og) {P L T h : Nat} (ok : OKS S X P L T h) (hh : h + 400 < 2 ^ 31) (x z : Int32) : Met l yL_crossing (.codeWith yL_crossing cL_crossing 5 (some .int) [(0, 10, 13, 13), (0, 10, 17, 15)] :: GW) { frames := 8, cells := 2, slots := 12, locals := 143 } (PLw D cA cL a S X sz og f [.ref (a 89), .int x, .int z, .ref og]) (QLw D cA cL a sz og (fun k S1 X1 v => k = kd (oneB x (nI P)) (inB z 0 24) (true) 1 2 9 ∧ (kd (oneB x (nI P)) (inB z 0 24) (true) 1 2 9 = 0 → v = (crsS S (nv x) z).toInt64 ∧ S1 = S ∧ CacheOk S X1 P ∧ (∀ k, k ≠ 13 → k ≠ 14 → k ≠ 15 → X1 k = X k)) ∧ (¬ kd (oneB x (nI P)) (inB z 0 24) (true) 1 2 9 = 0 → S1 = S ∧ X1 = X))) 2 12 (AL a sz og) := by
  refine lGo (by decide) (Nat.le_of_ble_eq_true rfl) ?_
  intro p e s m args below meth c ls C0 hr hlk ht h0 hK hX hN hAr hP hO hS hl
  obtain ⟨H, hHe⟩ : ∃ H, H = s.heap := ⟨_, rfl⟩
  obtain ⟨locs, hlo⟩ : ∃ L : List Loc, L = [] := ⟨_, rfl⟩
  have hP : WP D cA a S X IF H := hHe ▸ hP
  have hO : va_at D vwCl (og, lcell cL f) H := hHe ▸ hO
  have hS : va_S (AL a sz og) s.heap H locs := by rw [hHe, hlo]; exact hS
  rw [← hHe, ← hlo]
  refine lv_aload_n C0.1 C0.2.1 dL_crossing_0 rfl (lv_at hl 3 rfl) ?_
  refine lv_iconst (v := 0) C0.1 C0.2.1 dL_crossing_1 (by decide) ?_
  refine lv_aload_n C0.1 C0.2.1 dL_crossing_2 rfl (lv_at hl 0 rfl) ?_
  refine lv_iload_n C0.1 C0.2.1 dL_crossing_3 rfl (lv_at hl 1 rfl) ?_
  refine lv_iload_n C0.1 C0.2.1 dL_crossing_4 rfl (lv_at hl 2 rfl) ?_
  have hAB := AL.up hS h0
  have hofr : ¬ AF a IF H.size og := fun h9 => h9.elim (fun ⟨k, hk, e9⟩ => hne k hk e9) (fun h9 => absurd (show og < H.size from hO.lt) (Nat.not_lt.mpr h9))
  refine vx_calli (xrV (n := 2) (c_X8_crossing l hfl D cA a S X IF H.size hd x z ok.1.1 ok.2.2.2.2.2.1 ok.2.1) C0 ml_L_58 im_X8_crossing se_X8_crossing in_X8 co_X8_crossing ⟨rfl, by decide⟩ rfl ⟨Nat.le_of_ble_eq_true rfl, Nat.le_of_ble_eq_true rfl⟩ hK hX hP hS hAB rfl hl.1 (Nat.le_of_ble_eq_true rfl) rfl dL_crossing_5 ⟨Nat.le_of_ble_eq_true rfl, Nat.le_of_ble_eq_true rfl⟩) hS (fun q _ h => hAB q h) hAB (fun q _ h => hAB q h) (fun E9 ce9 q9 u9 t9 H locs ht9 _ _ hB _ hk9 hS hce hcv hcl => ?_) (fun r9 u9 t9 H locs ht9 _ hp9 hB _ hk9 hS => ?_)
  · obtain ⟨S1, X1⟩ := u9
    obtain ⟨⟨e1, e2, hE⟩, hP9⟩ := hB
    have e1 : S1 = S := e1
    have e2 : X1 = X := e2
    have hP : WP D cA a S X IF H := by have h9 : WP D cA a S1 X1 IF t9.heap := hP9; rw [e1, e2, ht9] at h9; exact h9
    have hO := hO.kept (hk9 _ hO.lt hofr)
    rcases hE with ⟨hE, hc1⟩ | ⟨hE, hc1, hc2⟩ | ⟨hE, hc1, hc2, hc3⟩
    · subst hE
      refine vx_catch (own := RL) (name := xI) (E := xI) C0.2.2.2.1 [] ⟨0, 10, 13, 13⟩ [⟨0, 10, 17, 15⟩] (ht.trans rfl) (fun z hz => by cases hz) rfl (by decide) (C0.2.2.2.2 _ cl_L_13) (va_Nw.use rfl hX.1.1) hce hcv hcl ?_
      refine lv_astore (lv' := [(4, .ref q9), (0, .ref (a 89)), (1, .int x), (2, .int z), (3, .ref og)]) C0.1 C0.2.1 dL_crossing_13 hl (by decide) rfl (fun ls hl => ?_)
      refine lv_iconst (v := 1) C0.1 C0.2.1 dL_crossing_15 (by decide) ?_
      exact retLw C0 hr hlk hP hO hS (Nat.le_of_ble_eq_true rfl) (Nat.le_of_ble_eq_true rfl) (wfail (kd_1 hc1) (by decide) ⟨rfl, rfl⟩) dL_crossing_16
    · subst hE
      refine vx_catch (own := RL) (name := xA) (E := xA) C0.2.2.2.1 [⟨0, 10, 13, 13⟩] ⟨0, 10, 17, 15⟩ [] (ht.trans rfl) (fun z hz => by rcases List.mem_singleton.mp hz with rfl; exact Or.inr ⟨by decide, xI, C0.2.2.2.2 _ cl_L_13, hN.1⟩) rfl (by decide) (C0.2.2.2.2 _ cl_L_15) (va_Nw.use rfl hX.1.2.1) hce hcv hcl ?_
      refine lv_astore (lv' := [(4, .ref q9), (0, .ref (a 89)), (1, .int x), (2, .int z), (3, .ref og)]) C0.1 C0.2.1 dL_crossing_17 hl (by decide) rfl (fun ls hl => ?_)
      refine lv_iconst (v := 2) C0.1 C0.2.1 dL_crossing_19 (by decide) ?_
      exact retLw C0 hr hlk hP hO hS (Nat.le_of_ble_eq_true rfl) (Nat.le_of_ble_eq_true rfl) (wfail (kd_2 hc1 hc2) (by decide) ⟨rfl, rfl⟩) dL_crossing_20
    · cases hc3
  · obtain ⟨S1, X1⟩ := u9
    obtain ⟨hc1, hc2, hc3, hr9, e1, hrel⟩ := hp9
    have hP : WP D cA a S1 X1 IF H := by rw [← ht9]; exact hB
    have hO := hO.kept (hk9 _ hO.lt hofr)
    refine lv_i2l C0.1 C0.2.1 dL_crossing_8 rfl ?_
    refine lst C0 hAr hO hS (Or.inr rfl) dL_crossing_9 (fun H locs hO ho9 hS => ?_)
    have hP : WP D cA a S1 X1 IF H := fun k hk => (hP k hk).kept (ho9 _ (hne k hk))
    refine lv_goto (tgt := 21) C0.1 C0.2.1 dL_crossing_10 (by decide) ?_
    refine lv_iconst (v := 0) C0.1 C0.2.1 dL_crossing_21 (by decide) ?_
    exact retLw C0 hr hlk hP hO hS (Nat.le_of_ble_eq_true rfl) (Nat.le_of_ble_eq_true rfl) (wok (kd_0 hc1 hc2 hc3) ⟨by rw [show r9 = _ from hr9]; rfl, e1, hrel⟩) dL_crossing_22
theorem co_L_opens : Cond.codeWith yL_opens cL_opens 4 (some .int) [(0, 9, 12, 13)] ∈ GW := gw 860 (by decide +kernel) (by decide +kernel)
set_option maxHeartbeats 4000000 in
set_option maxRecDepth 100000 in
theorem w_opens (l : Launch) (hfl : l.stackTraces = false) (D : va_G) (cA cL : ClassId) (a : Adr) (S X : Mem) (sz og : Nat) (f : Nat → Int64) (hd : Hd nF a IF) (hne : ∀ k, IF k → a k ≠ og) {P L T h : Nat} (ok : OKS S X P L T h) (hh : h + 400 < 2 ^ 31) (x : Int32) : Met l yL_opens (.codeWith yL_opens cL_opens 4 (some .int) [(0, 9, 12, 13)] :: GW) { frames := 8, cells := 1, slots := 6, locals := 143 } (PLw D cA cL a S X sz og f [.ref (a 89), .int x, .ref og]) (QLw D cA cL a sz og (fun k S1 X1 v => k = kd (oneB x (nI P)) (true) (true) 1 9 9 ∧ (kd (oneB x (nI P)) (true) (true) 1 9 9 = 0 → v = (opnS S (nv x)).toInt64 ∧ S1 = S ∧ CacheOk S X1 P ∧ (∀ k, k ≠ 13 → k ≠ 14 → k ≠ 15 → X1 k = X k)) ∧ (¬ kd (oneB x (nI P)) (true) (true) 1 9 9 = 0 → S1 = S ∧ X1 = X))) 1 6 (AL a sz og) := by
  refine lGo (by decide) (Nat.le_of_ble_eq_true rfl) ?_
  intro p e s m args below meth c ls C0 hr hlk ht h0 hK hX hN hAr hP hO hS hl
  obtain ⟨H, hHe⟩ : ∃ H, H = s.heap := ⟨_, rfl⟩
  obtain ⟨locs, hlo⟩ : ∃ L : List Loc, L = [] := ⟨_, rfl⟩
  have hP : WP D cA a S X IF H := hHe ▸ hP
  have hO : va_at D vwCl (og, lcell cL f) H := hHe ▸ hO
  have hS : va_S (AL a sz og) s.heap H locs := by rw [hHe, hlo]; exact hS
  rw [← hHe, ← hlo]
  refine lv_aload_n C0.1 C0.2.1 dL_opens_0 rfl (lv_at hl 2 rfl) ?_
  refine lv_iconst (v := 0) C0.1 C0.2.1 dL_opens_1 (by decide) ?_
  refine lv_aload_n C0.1 C0.2.1 dL_opens_2 rfl (lv_at hl 0 rfl) ?_
  refine lv_iload_n C0.1 C0.2.1 dL_opens_3 rfl (lv_at hl 1 rfl) ?_
  have hAB := AL.up hS h0
  have hofr : ¬ AF a IF H.size og := fun h9 => h9.elim (fun ⟨k, hk, e9⟩ => hne k hk e9) (fun h9 => absurd (show og < H.size from hO.lt) (Nat.not_lt.mpr h9))
  refine vx_calli (xrV (n := 1) (c_X8_opens l hfl D cA a S X IF H.size hd x ok.1.1 ok.2.2.2.2.2.1 ok.2.1) C0 ml_L_61 im_X8_opens se_X8_opens in_X8 co_X8_opens ⟨rfl, by decide⟩ rfl ⟨Nat.le_of_ble_eq_true rfl, Nat.le_of_ble_eq_true rfl⟩ hK hX hP hS hAB rfl hl.1 (Nat.le_of_ble_eq_true rfl) rfl dL_opens_4 ⟨Nat.le_of_ble_eq_true rfl, Nat.le_of_ble_eq_true rfl⟩) hS (fun q _ h => hAB q h) hAB (fun q _ h => hAB q h) (fun E9 ce9 q9 u9 t9 H locs ht9 _ _ hB _ hk9 hS hce hcv hcl => ?_) (fun r9 u9 t9 H locs ht9 _ hp9 hB _ hk9 hS => ?_)
  · obtain ⟨S1, X1⟩ := u9
    obtain ⟨⟨e1, e2, hE⟩, hP9⟩ := hB
    have e1 : S1 = S := e1
    have e2 : X1 = X := e2
    have hP : WP D cA a S X IF H := by have h9 : WP D cA a S1 X1 IF t9.heap := hP9; rw [e1, e2, ht9] at h9; exact h9
    have hO := hO.kept (hk9 _ hO.lt hofr)
    rcases hE with ⟨hE, hc1⟩ | ⟨hE, hc1, hc2⟩ | ⟨hE, hc1, hc2, hc3⟩
    · subst hE
      refine vx_catch (own := RL) (name := xI) (E := xI) C0.2.2.2.1 [] ⟨0, 9, 12, 13⟩ [] (ht.trans rfl) (fun z hz => by cases hz) rfl (by decide) (C0.2.2.2.2 _ cl_L_13) (va_Nw.use rfl hX.1.1) hce hcv hcl ?_
      refine lv_astore_n (lv' := [(3, .ref q9), (0, .ref (a 89)), (1, .int x), (2, .ref og)]) C0.1 C0.2.1 dL_opens_12 rfl hl (by decide) rfl (fun ls hl => ?_)
      refine lv_iconst (v := 1) C0.1 C0.2.1 dL_opens_13 (by decide) ?_
      exact retLw C0 hr hlk hP hO hS (Nat.le_of_ble_eq_true rfl) (Nat.le_of_ble_eq_true rfl) (wfail (kd_1 hc1) (by decide) ⟨rfl, rfl⟩) dL_opens_14
    · cases hc2
    · cases hc3
  · obtain ⟨S1, X1⟩ := u9
    obtain ⟨hc1, hc2, hc3, hr9, e1, hrel⟩ := hp9
    have hP : WP D cA a S1 X1 IF H := by rw [← ht9]; exact hB
    have hO := hO.kept (hk9 _ hO.lt hofr)
    refine lv_i2l C0.1 C0.2.1 dL_opens_7 rfl ?_
    refine lst C0 hAr hO hS (Or.inr rfl) dL_opens_8 (fun H locs hO ho9 hS => ?_)
    have hP : WP D cA a S1 X1 IF H := fun k hk => (hP k hk).kept (ho9 _ (hne k hk))
    refine lv_goto (tgt := 15) C0.1 C0.2.1 dL_opens_9 (by decide) ?_
    refine lv_iconst (v := 0) C0.1 C0.2.1 dL_opens_15 (by decide) ?_
    exact retLw C0 hr hlk hP hO hS (Nat.le_of_ble_eq_true rfl) (Nat.le_of_ble_eq_true rfl) (wok (kd_0 hc1 hc2 hc3) ⟨by rw [show r9 = _ from hr9]; rfl, e1, hrel⟩) dL_opens_16
theorem co_L_chain : Cond.codeWith yL_chain cL_chain 6 (some .int) [(0, 12, 15, 13)] ∈ GW := gw 867 (by decide +kernel) (by decide +kernel)
set_option maxHeartbeats 4000000 in
set_option maxRecDepth 100000 in
theorem w_chain (l : Launch) (hfl : l.stackTraces = false) (D : va_G) (cA cL : ClassId) (a : Adr) (S X : Mem) (sz og : Nat) (f : Nat → Int64) (hd : Hd nF a IF) (hne : ∀ k, IF k → a k ≠ og) {P L T h : Nat} (ok : OKS S X P L T h) (hh : h + 400 < 2 ^ 31) (x y w : Int32) : Met l yL_chain (.codeWith yL_chain cL_chain 6 (some .int) [(0, 12, 15, 13)] :: GW) { frames := 8, cells := 2, slots := 12, locals := 139 } (PLw D cA cL a S X sz og f [.ref (a 89), .int x, .int y, .int w, .ref og]) (QLw D cA cL a sz og (fun k S1 X1 v => k = kd (oneB x (nI L) && oneB y (nI L) && oneB w 3) (true) (true) 1 9 9 ∧ (kd (oneB x (nI L) && oneB y (nI L) && oneB w 3) (true) (true) 1 9 9 = 0 → v = (chaS S P (nv x) (nv y) w).toInt64 ∧ S1 = S ∧ (∀ k, k ≠ 12 → X1 k = X k)) ∧ (¬ kd (oneB x (nI L) && oneB y (nI L) && oneB w 3) (true) (true) 1 9 9 = 0 → S1 = S ∧ X1 = X))) 2 12 (AL a sz og) := by
  refine lGo (by decide) (Nat.le_of_ble_eq_true rfl) ?_
  intro p e s m args below meth c ls C0 hr hlk ht h0 hK hX hN hAr hP hO hS hl
  obtain ⟨H, hHe⟩ : ∃ H, H = s.heap := ⟨_, rfl⟩
  obtain ⟨locs, hlo⟩ : ∃ L : List Loc, L = [] := ⟨_, rfl⟩
  have hP : WP D cA a S X IF H := hHe ▸ hP
  have hO : va_at D vwCl (og, lcell cL f) H := hHe ▸ hO
  have hS : va_S (AL a sz og) s.heap H locs := by rw [hHe, hlo]; exact hS
  rw [← hHe, ← hlo]
  refine lv_aload C0.1 C0.2.1 dL_chain_0 (lv_at hl 4 rfl) ?_
  refine lv_iconst (v := 0) C0.1 C0.2.1 dL_chain_2 (by decide) ?_
  refine lv_aload_n C0.1 C0.2.1 dL_chain_3 rfl (lv_at hl 0 rfl) ?_
  refine lv_iload_n C0.1 C0.2.1 dL_chain_4 rfl (lv_at hl 1 rfl) ?_
  refine lv_iload_n C0.1 C0.2.1 dL_chain_5 rfl (lv_at hl 2 rfl) ?_
  refine lv_iload_n C0.1 C0.2.1 dL_chain_6 rfl (lv_at hl 3 rfl) ?_
  have hAB := AL.up hS h0
  have hofr : ¬ AF a IF H.size og := fun h9 => h9.elim (fun ⟨k, hk, e9⟩ => hne k hk e9) (fun h9 => absurd (show og < H.size from hO.lt) (Nat.not_lt.mpr h9))
  refine vx_calli (xrV (n := 3) (c_X8_chain l hfl D cA a S X IF H.size hd x y w ok.1.1 ok.1.2.1 ok.2.2.2.2.2.2 ok.2.1) C0 ml_L_64 im_X8_chain se_X8_chain in_X8 co_X8_chain ⟨rfl, by decide⟩ rfl ⟨Nat.le_of_ble_eq_true rfl, Nat.le_of_ble_eq_true rfl⟩ hK hX hP hS hAB rfl hl.1 (Nat.le_of_ble_eq_true rfl) rfl dL_chain_7 ⟨Nat.le_of_ble_eq_true rfl, Nat.le_of_ble_eq_true rfl⟩) hS (fun q _ h => hAB q h) hAB (fun q _ h => hAB q h) (fun E9 ce9 q9 u9 t9 H locs ht9 _ _ hB _ hk9 hS hce hcv hcl => ?_) (fun r9 u9 t9 H locs ht9 _ hp9 hB _ hk9 hS => ?_)
  · obtain ⟨S1, X1⟩ := u9
    obtain ⟨⟨e1, e2, hE⟩, hP9⟩ := hB
    have e1 : S1 = S := e1
    have e2 : X1 = X := e2
    have hP : WP D cA a S X IF H := by have h9 : WP D cA a S1 X1 IF t9.heap := hP9; rw [e1, e2, ht9] at h9; exact h9
    have hO := hO.kept (hk9 _ hO.lt hofr)
    rcases hE with ⟨hE, hc1⟩ | ⟨hE, hc1, hc2⟩ | ⟨hE, hc1, hc2, hc3⟩
    · subst hE
      refine vx_catch (own := RL) (name := xI) (E := xI) C0.2.2.2.1 [] ⟨0, 12, 15, 13⟩ [] (ht.trans rfl) (fun z hz => by cases hz) rfl (by decide) (C0.2.2.2.2 _ cl_L_13) (va_Nw.use rfl hX.1.1) hce hcv hcl ?_
      refine lv_astore (lv' := [(5, .ref q9), (0, .ref (a 89)), (1, .int x), (2, .int y), (3, .int w), (4, .ref og)]) C0.1 C0.2.1 dL_chain_15 hl (by decide) rfl (fun ls hl => ?_)
      refine lv_iconst (v := 1) C0.1 C0.2.1 dL_chain_17 (by decide) ?_
      exact retLw C0 hr hlk hP hO hS (Nat.le_of_ble_eq_true rfl) (Nat.le_of_ble_eq_true rfl) (wfail (kd_1 hc1) (by decide) ⟨rfl, rfl⟩) dL_chain_18
    · cases hc2
    · cases hc3
  · obtain ⟨S1, X1⟩ := u9
    obtain ⟨hc1, hc2, hc3, hr9, e1, hrel⟩ := hp9
    have hP : WP D cA a S1 X1 IF H := by rw [← ht9]; exact hB
    have hO := hO.kept (hk9 _ hO.lt hofr)
    refine lv_i2l C0.1 C0.2.1 dL_chain_10 rfl ?_
    refine lst C0 hAr hO hS (Or.inr rfl) dL_chain_11 (fun H locs hO ho9 hS => ?_)
    have hP : WP D cA a S1 X1 IF H := fun k hk => (hP k hk).kept (ho9 _ (hne k hk))
    refine lv_goto (tgt := 19) C0.1 C0.2.1 dL_chain_12 (by decide) ?_
    refine lv_iconst (v := 0) C0.1 C0.2.1 dL_chain_19 (by decide) ?_
    exact retLw C0 hr hlk hP hO hS (Nat.le_of_ble_eq_true rfl) (Nat.le_of_ble_eq_true rfl) (wok (kd_0 hc1 hc2 hc3) ⟨by rw [show r9 = _ from hr9]; rfl, e1, hrel⟩) dL_chain_20
theorem co_L_aground : Cond.codeWith yL_aground cL_aground 5 (some .int) [(0, 10, 13, 13), (0, 10, 17, 15)] ∈ GW := gw 887 (by decide +kernel) (by decide +kernel)
set_option maxHeartbeats 4000000 in
set_option maxRecDepth 100000 in
theorem w_aground (l : Launch) (hfl : l.stackTraces = false) (D : va_G) (cA cL : ClassId) (a : Adr) (S X : Mem) (sz og : Nat) (f : Nat → Int64) (hd : Hd nF a IF) (hne : ∀ k, IF k → a k ≠ og) {P L T h : Nat} (ok : OKS S X P L T h) (hh : h + 400 < 2 ^ 31) (x z : Int32) : Met l yL_aground (.codeWith yL_aground cL_aground 5 (some .int) [(0, 10, 13, 13), (0, 10, 17, 15)] :: GW) { frames := 8, cells := 2, slots := 12, locals := 166 } (PLw D cA cL a S X sz og f [.ref (a 89), .int x, .int z, .ref og]) (QLw D cA cL a sz og (fun k S1 X1 v => k = kd (oneB x (nI P)) (inB z 1 100) (true) 1 2 9 ∧ (kd (oneB x (nI P)) (inB z 1 100) (true) 1 2 9 = 0 → v = (agS (FX X) S P T h (nv x) (nv z)).toInt64 ∧ S1 = S ∧ CacheOk S X1 P ∧ ∀ k, k < 13 → X1 k = X k) ∧ (¬ kd (oneB x (nI P)) (inB z 1 100) (true) 1 2 9 = 0 → S1 = S ∧ X1 = X))) 2 12 (AL a sz og) := by
  refine lGo (by decide) (Nat.le_of_ble_eq_true rfl) ?_
  intro p e s m args below meth c ls C0 hr hlk ht h0 hK hX hN hAr hP hO hS hl
  obtain ⟨H, hHe⟩ : ∃ H, H = s.heap := ⟨_, rfl⟩
  obtain ⟨locs, hlo⟩ : ∃ L : List Loc, L = [] := ⟨_, rfl⟩
  have hP : WP D cA a S X IF H := hHe ▸ hP
  have hO : va_at D vwCl (og, lcell cL f) H := hHe ▸ hO
  have hS : va_S (AL a sz og) s.heap H locs := by rw [hHe, hlo]; exact hS
  rw [← hHe, ← hlo]
  refine lv_aload_n C0.1 C0.2.1 dL_aground_0 rfl (lv_at hl 3 rfl) ?_
  refine lv_iconst (v := 0) C0.1 C0.2.1 dL_aground_1 (by decide) ?_
  refine lv_aload_n C0.1 C0.2.1 dL_aground_2 rfl (lv_at hl 0 rfl) ?_
  refine lv_iload_n C0.1 C0.2.1 dL_aground_3 rfl (lv_at hl 1 rfl) ?_
  refine lv_iload_n C0.1 C0.2.1 dL_aground_4 rfl (lv_at hl 2 rfl) ?_
  have hAB := AL.up hS h0
  have hofr : ¬ AF a IF H.size og := fun h9 => h9.elim (fun ⟨k, hk, e9⟩ => hne k hk e9) (fun h9 => absurd (show og < H.size from hO.lt) (Nat.not_lt.mpr h9))
  refine vx_calli (xrV (n := 2) (c_X8_aground l hfl D cA a S X IF H.size hd x z ok.1.1 ok.1.2.2.1 ok.1.2.2.2.1 ok.1.2.2.2.2 (by omega) ok.2.2.2.2.2.1 ok.2.1) C0 ml_L_67 im_X8_aground se_X8_aground in_X8 co_X8_aground ⟨rfl, by decide⟩ rfl ⟨Nat.le_of_ble_eq_true rfl, Nat.le_of_ble_eq_true rfl⟩ hK hX hP hS hAB rfl hl.1 (Nat.le_of_ble_eq_true rfl) rfl dL_aground_5 ⟨Nat.le_of_ble_eq_true rfl, Nat.le_of_ble_eq_true rfl⟩) hS (fun q _ h => hAB q h) hAB (fun q _ h => hAB q h) (fun E9 ce9 q9 u9 t9 H locs ht9 _ _ hB _ hk9 hS hce hcv hcl => ?_) (fun r9 u9 t9 H locs ht9 _ hp9 hB _ hk9 hS => ?_)
  · obtain ⟨S1, X1⟩ := u9
    obtain ⟨⟨e1, e2, hE⟩, hP9⟩ := hB
    have e1 : S1 = S := e1
    have e2 : X1 = X := e2
    have hP : WP D cA a S X IF H := by have h9 : WP D cA a S1 X1 IF t9.heap := hP9; rw [e1, e2, ht9] at h9; exact h9
    have hO := hO.kept (hk9 _ hO.lt hofr)
    rcases hE with ⟨hE, hc1⟩ | ⟨hE, hc1, hc2⟩ | ⟨hE, hc1, hc2, hc3⟩
    · subst hE
      refine vx_catch (own := RL) (name := xI) (E := xI) C0.2.2.2.1 [] ⟨0, 10, 13, 13⟩ [⟨0, 10, 17, 15⟩] (ht.trans rfl) (fun z hz => by cases hz) rfl (by decide) (C0.2.2.2.2 _ cl_L_13) (va_Nw.use rfl hX.1.1) hce hcv hcl ?_
      refine lv_astore (lv' := [(4, .ref q9), (0, .ref (a 89)), (1, .int x), (2, .int z), (3, .ref og)]) C0.1 C0.2.1 dL_aground_13 hl (by decide) rfl (fun ls hl => ?_)
      refine lv_iconst (v := 1) C0.1 C0.2.1 dL_aground_15 (by decide) ?_
      exact retLw C0 hr hlk hP hO hS (Nat.le_of_ble_eq_true rfl) (Nat.le_of_ble_eq_true rfl) (wfail (kd_1 hc1) (by decide) ⟨rfl, rfl⟩) dL_aground_16
    · subst hE
      refine vx_catch (own := RL) (name := xA) (E := xA) C0.2.2.2.1 [⟨0, 10, 13, 13⟩] ⟨0, 10, 17, 15⟩ [] (ht.trans rfl) (fun z hz => by rcases List.mem_singleton.mp hz with rfl; exact Or.inr ⟨by decide, xI, C0.2.2.2.2 _ cl_L_13, hN.1⟩) rfl (by decide) (C0.2.2.2.2 _ cl_L_15) (va_Nw.use rfl hX.1.2.1) hce hcv hcl ?_
      refine lv_astore (lv' := [(4, .ref q9), (0, .ref (a 89)), (1, .int x), (2, .int z), (3, .ref og)]) C0.1 C0.2.1 dL_aground_17 hl (by decide) rfl (fun ls hl => ?_)
      refine lv_iconst (v := 2) C0.1 C0.2.1 dL_aground_19 (by decide) ?_
      exact retLw C0 hr hlk hP hO hS (Nat.le_of_ble_eq_true rfl) (Nat.le_of_ble_eq_true rfl) (wfail (kd_2 hc1 hc2) (by decide) ⟨rfl, rfl⟩) dL_aground_20
    · cases hc3
  · obtain ⟨S1, X1⟩ := u9
    obtain ⟨hc1, hc2, hc3, hr9, e1, hrel⟩ := hp9
    have hP : WP D cA a S1 X1 IF H := by rw [← ht9]; exact hB
    have hO := hO.kept (hk9 _ hO.lt hofr)
    refine lv_i2l C0.1 C0.2.1 dL_aground_8 rfl ?_
    refine lst C0 hAr hO hS (Or.inr rfl) dL_aground_9 (fun H locs hO ho9 hS => ?_)
    have hP : WP D cA a S1 X1 IF H := fun k hk => (hP k hk).kept (ho9 _ (hne k hk))
    refine lv_goto (tgt := 21) C0.1 C0.2.1 dL_aground_10 (by decide) ?_
    refine lv_iconst (v := 0) C0.1 C0.2.1 dL_aground_21 (by decide) ?_
    exact retLw C0 hr hlk hP hO hS (Nat.le_of_ble_eq_true rfl) (Nat.le_of_ble_eq_true rfl) (wok (kd_0 hc1 hc2 hc3) ⟨by rw [show r9 = _ from hr9]; rfl, e1, hrel⟩) dL_aground_22
theorem co_L_arrives : Cond.codeWith yL_arrives cL_arrives 4 (some .int) [(0, 9, 12, 13)] ∈ GW := gw 907 (by decide +kernel) (by decide +kernel)
set_option maxHeartbeats 4000000 in
set_option maxRecDepth 100000 in
theorem w_arrives (l : Launch) (hfl : l.stackTraces = false) (D : va_G) (cA cL : ClassId) (a : Adr) (S X : Mem) (sz og : Nat) (f : Nat → Int64) (hd : Hd nF a IF) (hne : ∀ k, IF k → a k ≠ og) {P L T h : Nat} (ok : OKS S X P L T h) (hh : h + 400 < 2 ^ 31) (x : Int32) : Met l yL_arrives (.codeWith yL_arrives cL_arrives 4 (some .int) [(0, 9, 12, 13)] :: GW) { frames := 8, cells := 1, slots := 6, locals := 165 } (PLw D cA cL a S X sz og f [.ref (a 89), .int x, .ref og]) (QLw D cA cL a sz og (fun k S1 X1 v => k = kd (oneB x (nI T)) (true) (true) 1 9 9 ∧ (kd (oneB x (nI T)) (true) (true) 1 9 9 = 0 → v = (arS (FX X) S P T h (nv x)).toInt64 ∧ S1 = S ∧ CacheOk S X1 P ∧ ∀ k, k < 13 → X1 k = X k) ∧ (¬ kd (oneB x (nI T)) (true) (true) 1 9 9 = 0 → S1 = S ∧ X1 = X))) 1 6 (AL a sz og) := by
  refine lGo (by decide) (Nat.le_of_ble_eq_true rfl) ?_
  intro p e s m args below meth c ls C0 hr hlk ht h0 hK hX hN hAr hP hO hS hl
  obtain ⟨H, hHe⟩ : ∃ H, H = s.heap := ⟨_, rfl⟩
  obtain ⟨locs, hlo⟩ : ∃ L : List Loc, L = [] := ⟨_, rfl⟩
  have hP : WP D cA a S X IF H := hHe ▸ hP
  have hO : va_at D vwCl (og, lcell cL f) H := hHe ▸ hO
  have hS : va_S (AL a sz og) s.heap H locs := by rw [hHe, hlo]; exact hS
  rw [← hHe, ← hlo]
  refine lv_aload_n C0.1 C0.2.1 dL_arrives_0 rfl (lv_at hl 2 rfl) ?_
  refine lv_iconst (v := 0) C0.1 C0.2.1 dL_arrives_1 (by decide) ?_
  refine lv_aload_n C0.1 C0.2.1 dL_arrives_2 rfl (lv_at hl 0 rfl) ?_
  refine lv_iload_n C0.1 C0.2.1 dL_arrives_3 rfl (lv_at hl 1 rfl) ?_
  have hAB := AL.up hS h0
  have hofr : ¬ AF a IF H.size og := fun h9 => h9.elim (fun ⟨k, hk, e9⟩ => hne k hk e9) (fun h9 => absurd (show og < H.size from hO.lt) (Nat.not_lt.mpr h9))
  refine vx_calli (xrV (n := 1) (c_X8_arrives l hfl D cA a S X IF H.size hd x ok.1.1 ok.1.2.2.1 ok.1.2.2.2.1 ok.1.2.2.2.2 (by omega) ok.2.2.2.2.2.1 ok.2.1) C0 ml_L_70 im_X8_arrives se_X8_arrives in_X8 co_X8_arrives ⟨rfl, by decide⟩ rfl ⟨Nat.le_of_ble_eq_true rfl, Nat.le_of_ble_eq_true rfl⟩ hK hX hP hS hAB rfl hl.1 (Nat.le_of_ble_eq_true rfl) rfl dL_arrives_4 ⟨Nat.le_of_ble_eq_true rfl, Nat.le_of_ble_eq_true rfl⟩) hS (fun q _ h => hAB q h) hAB (fun q _ h => hAB q h) (fun E9 ce9 q9 u9 t9 H locs ht9 _ _ hB _ hk9 hS hce hcv hcl => ?_) (fun r9 u9 t9 H locs ht9 _ hp9 hB _ hk9 hS => ?_)
  · obtain ⟨S1, X1⟩ := u9
    obtain ⟨⟨e1, e2, hE⟩, hP9⟩ := hB
    have e1 : S1 = S := e1
    have e2 : X1 = X := e2
    have hP : WP D cA a S X IF H := by have h9 : WP D cA a S1 X1 IF t9.heap := hP9; rw [e1, e2, ht9] at h9; exact h9
    have hO := hO.kept (hk9 _ hO.lt hofr)
    rcases hE with ⟨hE, hc1⟩ | ⟨hE, hc1, hc2⟩ | ⟨hE, hc1, hc2, hc3⟩
    · subst hE
      refine vx_catch (own := RL) (name := xI) (E := xI) C0.2.2.2.1 [] ⟨0, 9, 12, 13⟩ [] (ht.trans rfl) (fun z hz => by cases hz) rfl (by decide) (C0.2.2.2.2 _ cl_L_13) (va_Nw.use rfl hX.1.1) hce hcv hcl ?_
      refine lv_astore_n (lv' := [(3, .ref q9), (0, .ref (a 89)), (1, .int x), (2, .ref og)]) C0.1 C0.2.1 dL_arrives_12 rfl hl (by decide) rfl (fun ls hl => ?_)
      refine lv_iconst (v := 1) C0.1 C0.2.1 dL_arrives_13 (by decide) ?_
      exact retLw C0 hr hlk hP hO hS (Nat.le_of_ble_eq_true rfl) (Nat.le_of_ble_eq_true rfl) (wfail (kd_1 hc1) (by decide) ⟨rfl, rfl⟩) dL_arrives_14
    · cases hc2
    · cases hc3
  · obtain ⟨S1, X1⟩ := u9
    obtain ⟨hc1, hc2, hc3, hr9, e1, hrel⟩ := hp9
    have hP : WP D cA a S1 X1 IF H := by rw [← ht9]; exact hB
    have hO := hO.kept (hk9 _ hO.lt hofr)
    refine lv_i2l C0.1 C0.2.1 dL_arrives_7 rfl ?_
    refine lst C0 hAr hO hS (Or.inr rfl) dL_arrives_8 (fun H locs hO ho9 hS => ?_)
    have hP : WP D cA a S1 X1 IF H := fun k hk => (hP k hk).kept (ho9 _ (hne k hk))
    refine lv_goto (tgt := 15) C0.1 C0.2.1 dL_arrives_9 (by decide) ?_
    refine lv_iconst (v := 0) C0.1 C0.2.1 dL_arrives_15 (by decide) ?_
    exact retLw C0 hr hlk hP hO hS (Nat.le_of_ble_eq_true rfl) (Nat.le_of_ble_eq_true rfl) (wok (kd_0 hc1 hc2 hc3) ⟨by rw [show r9 = _ from hr9]; rfl, e1, hrel⟩) dL_arrives_16
