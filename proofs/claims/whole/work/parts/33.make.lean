/-! MAKING: constructors; what they make lies from the heap's end on, at known addresses. -/
def NW (D : va_G) (lo hi : Nat) (ws : va_W) (H : Heap) : Prop := ∀ (k : Nat) (x : Nat × va_E), ws[k]? = some x → (lo ≤ x.1 ∧ x.1 < hi) ∧ va_at D vwCl x H
theorem NW.nil {D : va_G} {lo hi : Nat} {H : Heap} : NW D lo hi [] H := fun k x h => by simp at h
theorem NW.kept {D : va_G} {lo hi : Nat} {ws : va_W} {H H1 : Heap} (h : NW D lo hi ws H) (hq : ∀ q : Nat, lo ≤ q → q < hi → H1[q]? = H[q]?) : NW D lo hi ws H1 := fun k x hx => ⟨(h k x hx).1, (h k x hx).2.kept (hq _ (h k x hx).1.1 (h k x hx).1.2)⟩
theorem NW.app {D : va_G} {lo hi : Nat} {ws ws2 : va_W} {H : Heap} (h : NW D lo hi ws H) (h2 : NW D lo hi ws2 H) : NW D lo hi (ws ++ ws2) H := fun k x hx => by
  by_cases hk : k < ws.length
  · rw [List.getElem?_append_left hk] at hx; exact h k x hx
  · rw [List.getElem?_append_right (by omega)] at hx; exact h2 _ x hx
theorem NW.wid {D : va_G} {lo hi lo2 hi2 : Nat} {ws : va_W} {H : Heap} (h : NW D lo hi ws H) (h1 : lo2 ≤ lo) (h2 : hi ≤ hi2) : NW D lo2 hi2 ws H := fun k x hx => by
  obtain ⟨⟨a1, a2⟩, a3⟩ := h k x hx
  exact ⟨⟨Nat.le_trans h1 a1, Nat.lt_of_lt_of_le a2 h2⟩, a3⟩
theorem NW.one {D : va_G} {q : Nat} {e : va_E} {H : Heap} (h : va_at D vwCl (q, e) H) : NW D q (q + 1) [(q, e)] H := fun k x hx => by
  match k, hx with
  | 0, hx => cases hx; exact ⟨⟨Nat.le_refl _, Nat.lt_succ_self _⟩, h⟩
  | k + 1, hx => simp at hx
theorem NW.get {D : va_G} {lo hi : Nat} {ws : va_W} {H : Heap} (h : NW D lo hi ws H) (k : Nat) {x : Nat × va_E} (hx : ws[k]? = some x) : va_at D vwCl x H := (h k x hx).2
/-- the tables' words of the private constructors -/
def NX (U : State) : Prop := va_Nw (.methodLinkNest RX8 18 yX3_init RX8) U ∧ va_Nw (.methodLinkNest RX8 25 yX2_init RX8) U ∧ va_Nw (.methodLinkNest RX6 31 yX7_init RX8) U
theorem NX.warm {s U : State} (h : NX s) (hW : s.WarmedH U.vm) : NX U := ⟨va_Nw.warmM hW h.1, va_Nw.warmM hW h.2.1, va_Nw.warmM hW h.2.2⟩
theorem NX.same {s U : State} (h : NX s) (hvm : s.vm = U.vm) : NX U := ⟨va_Nw.same rfl hvm h.1, va_Nw.same rfl hvm h.2.1, va_Nw.same rfl hvm h.2.2⟩
/-- a constructor's start, its end, the cells that it may change -/
def PK (D : va_G) (cA : ClassId) (q sz : Nat) (e : va_E) (Ex : Heap → Prop) (av : List Value) : Array Value → State → Prop := va_Pc (.ref q :: av) (fun U => U.heap.size = sz ∧ q < sz ∧ va_at D vwCl (q, e) U.heap ∧ KK D cA U ∧ NX U ∧ Ex U.heap)
theorem PK.blind {D : va_G} {cA : ClassId} {q sz : Nat} {e : va_E} {Ex : Heap → Prop} {av : List Value} : FrameBlind (PK D cA q sz e Ex av) := fun _ _ _ _ h => ⟨h.1, h.2.1, h.2.2.1, h.2.2.2.1, h.2.2.2.2.1.same rfl, h.2.2.2.2.2.1.same rfl, h.2.2.2.2.2.2⟩
def FK (q sz : Nat) : Nat → Prop := fun x => x = q ∨ sz ≤ x
def QK (D : va_G) (q sz hi : Nat) (e : va_E) (ws : va_W) (Ex : Heap → Prop) (fr : Nat → Prop) : Array Value → State → Outcome → State → Prop := va_Qv (fun _ : Unit => True) (fun _ t => t.heap.size = hi ∧ va_at D vwCl (q, e) t.heap ∧ NW D sz hi ws t.heap ∧ Ex t.heap) fr
def MK (l : Launch) (y : MethodName) (cc : ByteArray) (n : Nat) (fr lo mc ms : Nat) (D : va_G) (cA : ClassId) (q sz : Nat) (e : va_E) (Ex : Heap → Prop) (av : List Value) (hi : Nat) (e1 : va_E) (ws : va_W) (Ex1 : Heap → Prop) (free : Nat → Prop) : Prop :=
  Met l y (.code y cc n none :: GW) { frames := fr, cells := mc, slots := ms, locals := lo } (PK D cA q sz e Ex av) (QK D q sz hi e1 ws Ex1 free) mc ms free
section MAKE
variable {p : Program} {l : Launch} {e : Env} {R : Room} {s : State} {m : MethodId} {args : Array Value} {below : List Frame} {meth : Method} {c : Code} {H : Heap} {locs : List Loc} {cells slots : Nat} {Q : State → Prop}
variable {cc : ByteArray} {nL : Nat} {own : String} {pc : Nat} {ls : Array Slot} {rest : List Value} {D : va_G} {cA : ClassId} {H0 : Heap} {A0 : Nat → Prop}
theorem mGoK {y : MethodName} {n : Nat} {rm : Room} {q sz : Nat} {e0 : va_E} {Ex : Heap → Prop} {av : List Value} {Qc : Array Value → State → Outcome → State → Prop} {free : Addr → Prop} {mc ms : Nat} (hy : plainName y.cls = true) (hyn : y.name = "<init>") (hav : (lg_sl (.ref q :: av)).length ≤ n)
    (body : ∀ (p : Program) (e : Env) (s : State) (m : MethodId) (args : Array Value) (below : List Frame) (meth : Method) (c : Code) (ls : Array Slot), CallFix p m c cc n s args GW y.cls → meth.sig.returnType = none → meth.locks = false → meth.name = "<init>" → s.heap.size = sz → q < sz → va_at D vwCl (q, e0) s.heap → KK D cA s → NX s → Ex s.heap → va_S free s.heap s.heap [] → lv_has ls n (lv_args 0 (.ref q :: av)) →
      W p l e rm s m args below meth c s.heap [] 0 0 (MQ below Qc args s mc ms free) (F0 m 0 ls [])) :
    Met l y (.code y cc n none :: GW) rm (PK D cA q sz e0 Ex av) Qc mc ms free := by
  refine Met.ofW (cc := cc) (maxL := n) (ret := none) hy rfl ?_
  intro p e s m args below meth c s₁ B hml hv
  obtain ⟨rfl, hsz, hq, hR, hK, hNX, hE⟩ := hv
  have hts := atoms_spec (ws := .code y cc n none :: GW) B.pre
  have hl := lv_entry (.ref q :: av) (n := n) hav
  rw [lg_entry_eq]
  exact body p e s m _ below meth c _ ⟨B.exec, B.bytes, hml, findClass_of_methodNamed B.named, fun w h => hts w (List.mem_cons_of_mem _ h)⟩ B.returns B.notSynchronized ((name_of_methodNamed B.named B.method).1.trans hyn) hsz hq hR hK hNX hE va_S.rf hl
theorem retK {q sz hi mc ms : Nat} {e1 : va_E} {ws : va_W} {Ex1 : Heap → Prop} {fr : Nat → Prop} (C0 : CallFix p m c cc nL s args GW own) (hr : meth.sig.returnType = none) (hlk : meth.locks = false) (hS : va_S fr s.heap H locs) (hc : cells = mc) (hs : slots = ms) (hn : H.size = hi) (hR : va_at D vwCl (q, e1) H) (hW : NW D sz hi ws H) (hE : Ex1 H) (hdg : decode cc pc = .ok (.return_, 1)) :
    W p l e R s m args below meth c H locs cells slots (MQ below (QK D q sz hi e1 ws Ex1 fr) args s mc ms fr) (F0 m pc ls []) := by
  subst hc
  subst hs
  exact W.vret C0.1 C0.2.1 hr (fun t ht _ => ⟨⟨(), rfl, trivial, by dsimp only; rw [ht]; exact ⟨hn, hR, hW, hE⟩⟩, hS.F ht⟩) hS.2.2 hdg hlk
/-- 'new' -/
theorem mkN {index ci N n : Nat} {C : String} {T : u_T} (fs : List Value) (C0 : CallFix p m c cc nL s args GW own) (hK : KK D cA s) (hin : ∀ w ∈ u_ws C T N, w ∈ GW) (ty : Nat → FieldType) (hty : ∀ k, k < N → parseFieldDescriptor (T k).2.2.1 = some (ty k)) (hcl : Cond.classLink own index C ∈ GW) (hinst : Cond.instantiable C N ∈ GW) (hini : Cond.initialized C ∈ GW) (hS : va_S A0 H0 H locs) (hc : vwCl[ci]? = some (C, T, N)) (hfs : ∀ j, j < N → defaultValue (ty j) = vp_V fs j) (hn : H.size = n) (hcells : cells + 1 ≤ R.cells) (hslots : slots + N ≤ R.slots) (hdg : decode cc pc = .ok (.new index, 3))
    (kk : ∀ H1 : Heap, H1.size = n + 1 → va_at D vwCl (n, .inr (ci, fs)) H1 → (∀ q : Nat, q < n → H1[q]? = H[q]?) → va_S A0 H0 H1 locs → W p l e R s m args below meth c H1 locs (cells + 1) (slots + N) Q (F0 m (pc + 3) ls (.ref n :: rest))) : W p l e R s m args below meth c H locs cells slots Q (F0 m pc ls rest) := by
  have hKn := hK.1.1 ci _ hc
  refine W.newcK C0.1 C0.2.1 C0.2.2.2.1 (C0.2.2.2.2 _ hcl) (C0.2.2.2.2 _ hinst) (C0.2.2.2.2 _ hini) rfl hdg hcells hslots hKn.2.1 hn fun H1 kC hkC e1 z1 o1 => ?_
  have hz := hS.1
  exact kk H1 z1 ⟨_, hc, (u_born ty C0.2.2.2.2 hin hKn hkC e1 hty).to hfs⟩ o1 ⟨Nat.le_trans hS.1 (by omega), fun x h1 h2 => (o1 x (by omega)).trans (hS.2.1 x h1 h2), hS.2.2⟩
/-- 'newarray int' -/
theorem mkA {n N : Nat} {k : Int32} (C0 : CallFix p m c cc nL s args GW own) (hK : KK D cA s) (hS : va_S A0 H0 H locs) (hneg : ¬ k < 0) (hN : k.toNatClampNeg = N) (hby : N * 4 ≤ 536870912) (hn : H.size = n) (hcells : cells + 1 ≤ R.cells) (hslots : slots + N ≤ R.slots) (hdg : decode cc pc = .ok (.newarray .int, 2))
    (kk : ∀ H1 : Heap, H1.size = n + 1 → va_at D vwCl (n, .inl (cA, N, .inl fun _ => 0)) H1 → (∀ q : Nat, q < n → H1[q]? = H[q]?) → va_S A0 H0 H1 locs → W p l e R s m args below meth c H1 locs (cells + 1) (slots + N) Q (F0 m (pc + 2) ls (.ref n :: rest))) : W p l e R s m args below meth c H locs cells slots Q (F0 m pc ls (.int k :: rest)) := by
  refine va_newaK C0.1 C0.2.1 (atype := .int) (C0.2.2.2.2 _ ac_int) rfl hdg rfl hneg hN hby hcells hslots hn fun H1 cA1 e1 z1 o1 hAr hNm => ?_
  have h9 : cA1 = cA := Option.some.inj (hNm.symm.trans (hK.1.2 0 _ rfl).2)
  subst h9
  have hz := hS.1
  exact kk H1 z1 e1 o1 ⟨Nat.le_trans hS.1 (by omega), fun x h1 h2 => (o1 x (by omega)).trans (hS.2.1 x h1 h2), hS.2.2⟩
/-- a final field of the object in the making written -/
theorem pK {q ci N idx : Nat} {C : String} {T : u_T} {fs : List Value} {v : Value} (C0 : CallFix p m c cc nL s args GW own) (hin2 : meth.name = "<init>") (hK : KK D cA s) (hR : va_at D vwCl (q, .inr (ci, fs)) H) (hS : va_S A0 H0 H locs) (hA : A0 q) (hin : ∀ w ∈ u_ws C T N, w ∈ GW) (ty0 : Nat → FieldType) (hty : ∀ k, k < N → parseFieldDescriptor (T k).2.2.1 = some (ty0 k)) (hnm : ∀ a, a < N → ∀ b, b < N → a ≠ b → (T a).2.1 ≠ (T b).2.1) (hc : vwCl[ci]? = some (C, T, N)) (k : Nat) (hk : k < N)
    (hlink : Cond.fieldLink own idx (T k).1 (T k).2.1 (T k).2.2.1 ∈ GW) (hfin : (T k).2.2.2 = true) (hdecl : (T k).1 = own) {ty : FieldType} (hd : parseFieldDescriptor (T k).2.2.1 = some ty) (hnar : narrow ty v = v) (hfit : fits ty v = true) (hl : k < fs.length) (hdg : decode cc pc = .ok (.putfield idx, 3))
    (kk : ∀ (H1 : Heap) (locs1 : List Loc), H1.size = H.size → va_at D vwCl (q, .inr (ci, fs.set k v)) H1 → (∀ x : Nat, x ≠ q → H1[x]? = H[x]?) → va_S A0 H0 H1 locs1 → W p l e R s m args below meth c H1 locs1 cells slots Q (F0 m (pc + 3) ls rest)) : W p l e R s m args below meth c H locs cells slots Q (F0 m pc ls (v :: .ref q :: rest)) := by
  have hts := C0.2.2.2.2
  have hown := C0.2.2.2.1
  have hap := va_apart (own := own) hts hin ty0 hty hnm hK.1 hc
  obtain ⟨r, h1, cell, q1, q2, q3, q4⟩ := hR
  have hr : r = (C, T, N) := Option.some.inj (h1.symm.trans hc)
  subst hr
  obtain ⟨hS1, hfc, kC, hkC, hkind⟩ := hK.1.1 ci _ hc
  obtain ⟨cf, kf, fi, f, hi, hsl⟩ := hS1 k hk
  have hlay := hts _ (hin _ (u_in_lay hk))
  unfold u_lay at hlay
  rw [if_pos hfin] at hlay
  have hst := (u_facts hfc hkC (u_lays hts hin hk) hi).1
  have hcf : m.cls = cf := by
    obtain ⟨_, _, c', _, _, _, -, -, hf', -, -, -, hown2, -⟩ := Cond.laysFinal_spec hlay
    have e1 : c' = cf := by have := hi.symm.trans hf'; simp at this; exact this.1.symm
    rw [hdecl] at hown2
    rw [← e1]; exact Option.some.inj (hown.symm.trans hown2)
  have h6 := u_fits hfc hkC hkind (Or.inr hlay) hi hd hnar hfit
  refine W.putFinK C0.1 C0.2.1 hown (hts _ hlink) hi hst hcf hin2 (by rw [q2]; exact h6) q1 q3 (by rw [hsl]; exact k2_hasslot (q4 k hk)) rfl rfl hdg fun H' e1 e2 e3 => ?_
  rw [hsl] at e1 ⊢
  exact kk H' _ e2 ⟨_, hc, t_OB.to (V := updV (vp_V fs) k v) ⟨_, e1, q2, q3, t_set q4 hap hk v⟩ (fun j _ => vp_updV_set hl v j)⟩ e3 (hS.put e2 e3 hA)
/-- 'invokespecial Object.<init>' -/
theorem oK {q idx : Nat} (C0 : CallFix p m c cc nL s args GW own) (hlink : Cond.methodLink own idx objectInit ∈ GW) (hls : ls.size = nL) (hR : 1 ≤ R.frames ∧ 12 ≤ R.locals) (hdg : decode cc pc = .ok (.invokespecial idx, 3)) (kk : W p l e R s m args below meth c H locs cells slots Q (F0 m (pc + 3) ls [])) : W p l e R s m args below meth c H locs cells slots Q (F0 m pc ls [.ref q]) := by
  refine W.objInit C0.1 C0.2.1 C0.2.2.2.1 (C0.2.2.2.2 _ hlink) (C0.2.2.2.2 _ im_obj) (C0.2.2.2.2 _ co_obj) rfl (by rw [C0.2.2.1]; exact hls) rfl hdg hR.1 (by show 2 * 0 + 0 + 12 ≤ _; omega) ?_
  exact kk
/-- a constructor called -/
theorem rK {y : MethodName} {by_ : ByteArray} {mL fr lo n idx q hi mc ms sz : Nat} {As : List Value} {e0 e1 : va_E} {ws : va_W} {Ex Ex1 : Heap → Prop} {free : Nat → Prop} (hsz : H.size = sz) (hM : MK l y by_ mL fr lo mc ms D cA q sz e0 Ex As hi e1 ws Ex1 free) (C0 : CallFix p m c cc nL s args GW own) (w1 : Cond.methodLink own idx y ∈ GW) (w2 : Cond.instanceMethod y ∈ GW) (w4 : Cond.initialized y.cls ∈ GW) (w5 : Cond.code y by_ mL none ∈ GW)
    (hyn : y.name = "<init>") (hyd : y.cls ≠ "java/lang/invoke/MethodHandle" ∧ y.cls ≠ "java/lang/invoke/VarHandle" ∧ (parseMethodDescriptor y.desc).map (fun d => d.parameters.length) = some n) (hR : fr + 1 ≤ R.frames ∧ 8 + (mL + 11) + lo ≤ R.locals) (hK : KK D cA s) (hNX : NX s) (hO : va_at D vwCl (q, e0) H) (hE : Ex H) (hS : va_S A0 H0 H locs) (hA : ∀ x, free x → A0 x) (hn : As.length = n) (hls : ls.size = nL) (hrest : (rest.map fun v => v.category).sum ≤ 8) {st : List Value} (hst : st = As.reverse ++ .ref q :: rest) (hdg : decode cc pc = .ok (.invokespecial idx, 3)) (hf : cells + mc ≤ R.cells ∧ slots + ms ≤ R.slots)
    (kk : ∀ (H1 : Heap) (locs1 : List Loc), H1.size = hi → va_at D vwCl (q, e1) H1 → NW D sz hi ws H1 → Ex1 H1 → (∀ x : Nat, x < sz → ¬ free x → H1[x]? = H[x]?) → va_S A0 H0 H1 locs1 → W p l e R s m args below meth c H1 locs1 (cells + mc) (slots + ms) Q (F0 m (pc + 3) ls rest)) : W p l e R s m args below meth c H locs cells slots Q (F0 m pc ls st) := by
  subst hsz
  have hG : GoodIn GW (Cond.code y by_ mL none :: GW) := gw_in fun w hw => by
    rcases List.mem_cons.mp hw with rfl | hw
    · exact w5
    · exact hw
  refine va_callv (va_runI (As := As) (n := n) (rest := rest) C0 hM (cwI n C0.2.2.2.2 hG rfl rfl rfl (C0.2.2.2.2 _ w4) (C0.2.2.2.2 _ w1) (C0.2.2.2.2 _ w2) hyn hyd hR) ⟨PK.blind, fun U hU hW => ⟨rfl, by rw [hU], hO.lt, by rw [hU]; exact hO, hK.warm hW, hNX.warm hW, by rw [hU]; exact hE⟩⟩ rfl hn hls hst (by show 2 * 0 + _ ≤ 8; omega) hdg hf) hS (fun x _ h => hA x h) hA (fun u t H1 locs1 ht _ _ hB hz hk hS1 => ?_)
  obtain ⟨b1, b2, b3, b4⟩ := hB
  rw [ht] at b1 b2 b3 b4
  exact kk H1 locs1 b1 b2 b3 b4 hk hS1
/-- a nest mate's constructor called -/
theorem rKN {host : String} {y : MethodName} {by_ : ByteArray} {mL fr lo n idx q hi mc ms sz : Nat} {As : List Value} {e0 e1 : va_E} {ws : va_W} {Ex Ex1 : Heap → Prop} {free : Nat → Prop} (hsz : H.size = sz) (hM : MK l y by_ mL fr lo mc ms D cA q sz e0 Ex As hi e1 ws Ex1 free) (C0 : CallFix p m c cc nL s args GW own) (w1 : va_Nw (.methodLinkNest own idx y host) s) (w2 : Cond.instanceMethod y ∈ GW) (w4 : Cond.initialized y.cls ∈ GW) (w5 : Cond.code y by_ mL none ∈ GW)
    (hyn : y.name = "<init>") (hyd : y.cls ≠ "java/lang/invoke/MethodHandle" ∧ y.cls ≠ "java/lang/invoke/VarHandle" ∧ (parseMethodDescriptor y.desc).map (fun d => d.parameters.length) = some n) (hR : fr + 1 ≤ R.frames ∧ 8 + (mL + 11) + lo ≤ R.locals) (hK : KK D cA s) (hNX : NX s) (hO : va_at D vwCl (q, e0) H) (hE : Ex H) (hS : va_S A0 H0 H locs) (hA : ∀ x, free x → A0 x) (hn : As.length = n) (hls : ls.size = nL) (hrest : (rest.map fun v => v.category).sum ≤ 8) {st : List Value} (hst : st = As.reverse ++ .ref q :: rest) (hdg : decode cc pc = .ok (.invokespecial idx, 3)) (hf : cells + mc ≤ R.cells ∧ slots + ms ≤ R.slots)
    (kk : ∀ (H1 : Heap) (locs1 : List Loc), H1.size = hi → va_at D vwCl (q, e1) H1 → NW D sz hi ws H1 → Ex1 H1 → (∀ x : Nat, x < sz → ¬ free x → H1[x]? = H[x]?) → va_S A0 H0 H1 locs1 → W p l e R s m args below meth c H1 locs1 (cells + mc) (slots + ms) Q (F0 m (pc + 3) ls rest)) : W p l e R s m args below meth c H locs cells slots Q (F0 m pc ls st) := by
  subst hsz
  have hG : GoodIn GW (Cond.code y by_ mL none :: GW) := gw_in fun w hw => by
    rcases List.mem_cons.mp hw with rfl | hw
    · exact w5
    · exact hw
  refine va_callv (va_runIN (As := As) (n := n) (rest := rest) C0 hM ⟨va_cnB n C0.2.2.2.2 hG rfl rfl rfl w1 (C0.2.2.2.2 _ w4) hyd hR, hyn, C0.2.2.2.2 _ w2⟩ ⟨PK.blind, fun U hU hW => ⟨rfl, by rw [hU], hO.lt, by rw [hU]; exact hO, hK.warm hW, hNX.warm hW, by rw [hU]; exact hE⟩⟩ rfl hn hls hst (by show 2 * 0 + _ ≤ 8; omega) hdg hf) hS (fun x _ h => hA x h) hA (fun u t H1 locs1 ht _ _ hB hz hk hS1 => ?_)
  obtain ⟨b1, b2, b3, b4⟩ := hB
  rw [ht] at b1 b2 b3 b4
  exact kk H1 locs1 b1 b2 b3 b4 hk hS1
end MAKE
set_option maxHeartbeats 4000000 in
set_option maxRecDepth 100000 in
theorem c_X5_init (l : Launch) (D : va_G) (cA : ClassId) (q sz n : Nat) (hn : n ≤ 100000) : MK l yX5_init cX5_init 2 1 12 1 n D cA q sz (.inr (5, [.null])) (fun _ => True) [.int (nI n)] (sz + 1) (.inr (5, [.ref sz])) [(sz, .inl (cA, n, .inl fun _ => 0))] (fun _ => True) (FK q sz) := by
  refine mGoK (by decide) rfl (Nat.le_of_ble_eq_true rfl) ?_
  intro p e s m args below meth c ls C0 hr hlk hin2 hsz hq hR hK hNX _ hS hl
  refine lv_aload_n C0.1 C0.2.1 dX5_init_0 rfl (lv_at hl 0 rfl) ?_
  refine oK C0 ml_X5_1 hl.1 ⟨Nat.le_of_ble_eq_true rfl, Nat.le_of_ble_eq_true rfl⟩ dX5_init_1 ?_
  refine lv_aload_n C0.1 C0.2.1 dX5_init_4 rfl (lv_at hl 0 rfl) ?_
  refine lv_iload_n C0.1 C0.2.1 dX5_init_5 rfl (lv_at hl 1 rfl) ?_
  have h0 : (0 : Int32) ≤ nI n := nI_le (a := 0) (Nat.zero_le _) (by omega)
  refine lv_if_ge (tgt := 13) C0.1 C0.2.1 dX5_init_6 (by decide) (fun _ => ?_) (fun c_6 => absurd h0 c_6)
  refine lv_iload_n C0.1 C0.2.1 dX5_init_13 rfl (lv_at hl 1 rfl) ?_
  refine mkA (N := n) C0 hK hS (fun h => absurd h0 (Int32.not_le.mpr h)) (nI_clamp (by omega)) (by omega) hsz (by show 0 + 1 ≤ 1; omega) (by show 0 + n ≤ n; omega) dX5_init_14 (fun H h1 hO ho hS => ?_)
  refine pK C0 hin2 hK (hR.kept (ho q hq)) hS (Or.inl rfl) us_X5 tyX5 tyX5_ok nmX5 rfl 0 (by decide) fl_X5_7 rfl rfl (ty := .array .int) (by decide +kernel) rfl rfl (by decide) dX5_init_16 (fun H locs h2 hR ho2 hS => ?_)
  exact retK C0 hr hlk hS rfl (Nat.zero_add n) (h2.trans h1) hR (NW.one (hO.kept (ho2 _ (by omega)))) trivial dX5_init_19
/-- the world of a constructor at work: its object, and what it has made so far -/
def BW (D : va_G) (q sz j : Nat) (e : va_E) (ws : va_W) (H : Heap) : Prop := q < sz ∧ H.size = sz + j ∧ va_at D vwCl (q, e) H ∧ NW D sz (sz + j) ws H
/-- the same, and one object more that waits for its constructor -/
def BN (D : va_G) (q sz j : Nat) (e : va_E) (ws : va_W) (H : Heap) : Prop := q < sz ∧ H.size = sz + j + 1 ∧ va_at D vwCl (q, e) H ∧ NW D sz (sz + j) ws H
theorem BW.new {D : va_G} {q sz j : Nat} {e : va_E} {ws : va_W} {H H1 : Heap} (h : BW D q sz j e ws H) (hn : H1.size = sz + j + 1) (ho : ∀ x : Nat, x < sz + j → H1[x]? = H[x]?) : BN D q sz j e ws H1 := ⟨h.1, hn, h.2.2.1.kept (ho q (Nat.lt_of_lt_of_le h.1 (Nat.le_add_right _ _))), h.2.2.2.kept fun x _ b => ho x b⟩
theorem BN.done {D : va_G} {q sz j m : Nat} {e e1 : va_E} {ws ws2 : va_W} {H H1 : Heap} (h : BN D q sz j e ws H) (hn : H1.size = sz + (j + 1 + m)) (hO : va_at D vwCl (sz + j, e1) H1) (hW2 : NW D (sz + j + 1) (sz + (j + 1 + m)) ws2 H1) (ho : ∀ x : Nat, x < sz + j + 1 → ¬ FK (sz + j) (sz + j + 1) x → H1[x]? = H[x]?) : BW D q sz (j + 1 + m) e (ws ++ (sz + j, e1) :: ws2) H1 := by
  have hq := h.1
  refine ⟨hq, hn, h.2.2.1.kept (ho q (by omega) (by unfold FK; omega)), ?_⟩
  have hW := h.2.2.2.kept (fun x _ b => ho x (by omega) (by unfold FK; omega))
  exact (hW.wid (Nat.le_refl _) (by omega)).app (((NW.one hO).wid (by omega) (by omega)).app (ws2 := ws2) (hW2.wid (by omega) (Nat.le_refl _)))
theorem BW.put {D : va_G} {q sz j : Nat} {e e1 : va_E} {ws : va_W} {H H1 : Heap} (h : BW D q sz j e ws H) (hn : H1.size = H.size) (hR : va_at D vwCl (q, e1) H1) (ho : ∀ x : Nat, x ≠ q → H1[x]? = H[x]?) : BW D q sz j e1 ws H1 := ⟨h.1, hn.trans h.2.1, hR, h.2.2.2.kept fun x a _ => ho x (Nat.ne_of_gt (Nat.lt_of_lt_of_le h.1 a))⟩
theorem FK.up {q sz j x : Nat} (h : FK (sz + j) (sz + j + 1) x) : FK q sz x := by unfold FK at h ⊢; omega
/-- how far the heap has grown -/
theorem W.grown {p : Program} {l : Launch} {e : Env} {R : Room} {s : State} {m : MethodId} {args : Array Value} {below : List Frame} {meth : Method} {c : Code} {H : Heap} {locs : List Loc} {cells slots : Nat} {Q : State → Prop} {g : JFrame} (kk : H.size ≤ s.heap.size + cells → W p l e R s m args below meth c H locs cells slots Q g) : W p l e R s m args below meth c H locs cells slots Q g := fun T hT X => kk (by
  have h := X.same.2.2.1
  have e9 : (T.setVm s.vm).heap = H := hT
  rw [e9] at h
  exact h) T hT X
def m0 : Mem := fun _ _ => 0
/-- addresses by a table of places -/
def aT (r q sz : Nat) (ix : Nat → Nat) : Adr := fun k => if k = r then q else sz + ix k
theorem aT_hd {r q sz : Nat} {ix : Nat → Nat} {n : List Nat} (hq : q < sz) (h90 : ∀ k ∈ n, k < 90) (hix : ∀ i ∈ n, ∀ j ∈ n, i ≠ r → j ≠ r → ix i = ix j → i = j) : Hd n (aT r q sz ix) (fun k => k ∈ n) := ⟨fun _ h => h, h90, fun i j hi hj e => by
  unfold aT at e
  by_cases h1 : i = r
  · by_cases h2 : j = r
    · rw [h1, h2]
    · rw [if_pos h1, if_neg h2] at e; omega
  · by_cases h2 : j = r
    · rw [if_neg h1, if_pos h2] at e; omega
    · rw [if_neg h1, if_neg h2] at e; exact hix i hi j hj h1 h2 (by omega)⟩
theorem aT_FK {r q sz : Nat} {ix : Nat → Nat} {n : List Nat} {x : Nat} (h : AI (aT r q sz ix) (fun k => k ∈ n) x) : FK q sz x := by
  obtain ⟨k, -, rfl⟩ := h
  unfold aT FK
  by_cases h1 : k = r
  · rw [if_pos h1]; exact Or.inl rfl
  · rw [if_neg h1]; exact Or.inr (Nat.le_add_right _ _)
