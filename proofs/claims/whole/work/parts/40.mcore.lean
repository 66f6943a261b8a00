/-! THE REFERENCE'S WORLD: its rows are told by the same memory S; X holds what it works with. -/
def lnm (k : Nat) : Nat := match k with
  | 0 => 196 | 1 => 196 | 2 => 12 | 3 => 8 | 4 => 36 | 5 => 24 | 6 => 150 | 7 => 196 | _ => 8
def rwm (S X : Mem) (k : Nat) : Nat → Int32 := match k with
  | 0 => S 0 | 1 => S 1 | 2 => S 2 | 3 => S 3
  | 4 => fun i => S (4 + i % 6) (i / 6) | 5 => fun i => S (16 + i % 4) (i / 4) | 6 => fun i => S (20 + i % 5) (i / 5)
  | 7 => X 15 | 8 => X 10 | _ => X 12
def cm (cA : ClassId) (a : Adr) (S X : Mem) (k : Nat) : va_E :=
  if k < 10 then .inl (cA, lnm k, .inl (rwm S X k)) else if k = 20 then .inr (9, [.int (X 87 0), .ref (a 0), .ref (a 1), .ref (a 2), .int (S 81 0), .ref (a 3), .int (S 82 0), .ref (a 4), .int (S 85 0), .int (S 86 0), .ref (a 5), .ref (a 6), .ref (a 7), .ref (a 8), .ref (a 9)]) else .inl (cA, 0, .inl fun _ => 0)
abbrev nM : List Nat := [0, 1, 2, 3, 4, 5, 6, 7, 8, 9, 20]
/-- the heap holds the cells of the places I -/
def WQ (D : va_G) (cA : ClassId) (a : Adr) (S X : Mem) (I : Nat → Prop) (H : Heap) : Prop := ∀ k, I k → va_at D vwCl (a k, cm cA a S X k) H
/-- a method's start -/
def PQ (D : va_G) (cA : ClassId) (a : Adr) (S X : Mem) (I : Nat → Prop) (av : List Value) : Array Value → State → Prop := va_Pc av (fun U => WQ D cA a S X I U.heap ∧ KK D cA U)
theorem PQ.blind {D : va_G} {cA : ClassId} {a : Adr} {S X : Mem} {I : Nat → Prop} {av : List Value} : FrameBlind (PQ D cA a S X I av) := fun _ _ _ _ h => ⟨h.1, h.2.1, h.2.2.same rfl⟩
abbrev WBq (D : va_G) (cA : ClassId) (a : Adr) (I : Nat → Prop) : Mem × Mem → State → Prop := fun u t => WQ D cA a u.1 u.2 I t.heap
/-- the ends: an int, a long, nothing; the worlds behind them -/
def QqI (D : va_G) (cA : ClassId) (a : Adr) (I : Nat → Prop) (post : Int32 → Mem → Mem → Prop) : Array Value → State → Outcome → State → Prop := va_Qi (fun r (u : Mem × Mem) => post r u.1 u.2) (WBq D cA a I) (AI a I)
def QqL (D : va_G) (cA : ClassId) (a : Adr) (I : Nat → Prop) (post : Int64 → Mem → Mem → Prop) : Array Value → State → Outcome → State → Prop := va_Ql (fun r (u : Mem × Mem) => post r u.1 u.2) (WBq D cA a I) (AI a I)
def QqV (D : va_G) (cA : ClassId) (a : Adr) (I : Nat → Prop) (post : Mem → Mem → Prop) : Array Value → State → Outcome → State → Prop := va_Qv (fun (u : Mem × Mem) => post u.1 u.2) (WBq D cA a I) (AI a I)
/-- contracts: an int (or boolean), a long, nothing -/
def NI (l : Launch) (y : MethodName) (cc : ByteArray) (n : Nat) (ret : Option FieldType) (fr lo : Nat) (D : va_G) (cA : ClassId) (a : Adr) (S X : Mem) (I : Nat → Prop) (av : List Value) (post : Int32 → Mem → Mem → Prop) : Prop :=
  Met l y (.code y cc n ret :: GW) { frames := fr, cells := 0, slots := 0, locals := lo } (PQ D cA a S X I av) (QqI D cA a I post) 0 0 (AI a I)
def NL (l : Launch) (y : MethodName) (cc : ByteArray) (n : Nat) (ret : Option FieldType) (fr lo : Nat) (D : va_G) (cA : ClassId) (a : Adr) (S X : Mem) (I : Nat → Prop) (av : List Value) (post : Int64 → Mem → Mem → Prop) : Prop :=
  Met l y (.code y cc n ret :: GW) { frames := fr, cells := 0, slots := 0, locals := lo } (PQ D cA a S X I av) (QqL D cA a I post) 0 0 (AI a I)
def NV (l : Launch) (y : MethodName) (cc : ByteArray) (n : Nat) (ret : Option FieldType) (fr lo : Nat) (D : va_G) (cA : ClassId) (a : Adr) (S X : Mem) (I : Nat → Prop) (av : List Value) (post : Mem → Mem → Prop) : Prop :=
  Met l y (.code y cc n ret :: GW) { frames := fr, cells := 0, slots := 0, locals := lo } (PQ D cA a S X I av) (QqV D cA a I post) 0 0 (AI a I)
section OWNM
variable {p : Program} {l : Launch} {e : Env} {R : Room} {s : State} {m : MethodId} {args : Array Value} {below : List Frame} {meth : Method} {c : Code} {H : Heap} {locs : List Loc} {cells slots : Nat} {Q : State → Prop}
variable {cc : ByteArray} {nL : Nat} {own : String} {pc : Nat} {ls : Array Slot} {rest : List Value} {D : va_G} {cA : ClassId} {a : Adr} {S X : Mem} {I : Nat → Prop} {H0 : Heap} {A0 : Nat → Prop}
/-- the start of a body -/
theorem nGo {y : MethodName} {n : Nat} {ret : Option FieldType} {rm : Room} {av : List Value} {Qc : Array Value → State → Outcome → State → Prop} {free : Addr → Prop} (hy : plainName y.cls = true) (hav : (lg_sl av).length ≤ n)
    (body : ∀ (p : Program) (e : Env) (s : State) (m : MethodId) (args : Array Value) (below : List Frame) (meth : Method) (c : Code) (ls : Array Slot), CallFix p m c cc n s args GW y.cls → meth.sig.returnType = ret → meth.locks = false → KK D cA s → WQ D cA a S X I s.heap → va_S (AI a I) s.heap s.heap [] → lv_has ls n (lv_args 0 av) → args = av.toArray →
      W p l e rm s m args below meth c s.heap [] 0 0 (MQ below Qc args s 0 0 free) (F0 m 0 ls [])) :
    Met l y (.code y cc n ret :: GW) rm (PQ D cA a S X I av) Qc 0 0 free := by
  refine Met.ofW (cc := cc) (maxL := n) (ret := ret) hy rfl ?_
  intro p e s m args below meth c s₁ B hml hv
  obtain ⟨rfl, hP, hK⟩ := hv
  have hts := atoms_spec (ws := .code y cc n ret :: GW) B.pre
  have hl := lv_entry av (n := n) hav
  rw [lg_entry_eq]
  exact body p e s m _ below meth c _ ⟨B.exec, B.bytes, hml, findClass_of_methodNamed B.named, fun w h => hts w (List.mem_cons_of_mem _ h)⟩ B.returns B.notSynchronized hK hP va_S.rf hl rfl
theorem rtI {post : Int32 → Mem → Mem → Prop} {v : Int32} {S1 X1 : Mem} (C0 : CallFix p m c cc nL s args GW own) (hr : meth.sig.returnType = some .int) (hlk : meth.locks = false) (hP : WQ D cA a S1 X1 I H) (hS : va_S (AI a I) s.heap H locs) (hp : post v S1 X1) (hdg : decode cc pc = .ok (.ireturn, 1)) :
    W p l e R s m args below meth c H locs 0 0 (MQ below (QqI D cA a I post) args s 0 0 (AI a I)) (F0 m pc ls [.int v]) :=
  W.iret C0.1 C0.2.1 hr (fun t ht _ => ⟨⟨v, (S1, X1), rfl, hp, by show WQ D cA a S1 X1 I t.heap; rw [ht]; exact hP⟩, hS.F ht⟩) hS.2.2 hdg hlk
theorem rtZ {post : Int32 → Mem → Mem → Prop} {v : Int32} {S1 X1 : Mem} (C0 : CallFix p m c cc nL s args GW own) (hr : meth.sig.returnType = some .boolean) (hlk : meth.locks = false) (hP : WQ D cA a S1 X1 I H) (hS : va_S (AI a I) s.heap H locs) (hn : narrow .boolean (.int v) = .int v) (hp : post v S1 X1) (hdg : decode cc pc = .ok (.ireturn, 1)) :
    W p l e R s m args below meth c H locs 0 0 (MQ below (QqI D cA a I post) args s 0 0 (AI a I)) (F0 m pc ls [.int v]) :=
  W.zret C0.1 C0.2.1 hr hn (fun t ht _ => ⟨⟨v, (S1, X1), rfl, hp, by show WQ D cA a S1 X1 I t.heap; rw [ht]; exact hP⟩, hS.F ht⟩) hS.2.2 hdg hlk
theorem rtL {post : Int64 → Mem → Mem → Prop} {v : Int64} {S1 X1 : Mem} (C0 : CallFix p m c cc nL s args GW own) (hr : meth.sig.returnType = some .long) (hlk : meth.locks = false) (hP : WQ D cA a S1 X1 I H) (hS : va_S (AI a I) s.heap H locs) (hp : post v S1 X1) (hdg : decode cc pc = .ok (.lreturn, 1)) :
    W p l e R s m args below meth c H locs 0 0 (MQ below (QqL D cA a I post) args s 0 0 (AI a I)) (F0 m pc ls [.long v]) :=
  W.lret C0.1 C0.2.1 hr (fun t ht _ => ⟨⟨v, (S1, X1), rfl, hp, by show WQ D cA a S1 X1 I t.heap; rw [ht]; exact hP⟩, hS.F ht⟩) hS.2.2 hdg hlk
theorem rtV {post : Mem → Mem → Prop} {S1 X1 : Mem} (C0 : CallFix p m c cc nL s args GW own) (hr : meth.sig.returnType = none) (hlk : meth.locks = false) (hP : WQ D cA a S1 X1 I H) (hS : va_S (AI a I) s.heap H locs) (hp : post S1 X1) (hdg : decode cc pc = .ok (.return_, 1)) :
    W p l e R s m args below meth c H locs 0 0 (MQ below (QqV D cA a I post) args s 0 0 (AI a I)) (F0 m pc ls []) :=
  W.vret C0.1 C0.2.1 hr (fun t ht _ => ⟨⟨(S1, X1), rfl, hp, by show WQ D cA a S1 X1 I t.heap; rw [ht]; exact hP⟩, hS.F ht⟩) hS.2.2 hdg hlk
theorem qV {y : MethodName} {by_ : ByteArray} {mL fr lo n idx : Nat} {ret : Option FieldType} {As : List Value} {Qc : Array Value → State → Outcome → State → Prop} {k ci : Nat} {fs : List Value} {T : u_T} {N : Nat}
    (hM : Met l y (.code y by_ mL ret :: GW) { frames := fr, cells := 0, slots := 0, locals := lo } (PQ D cA a S X I (.ref (a k) :: As)) Qc 0 0 (AI a I)) (C0 : CallFix p m c cc nL s args GW own) (w1 : Cond.methodLink own idx y ∈ GW) (w2 : Cond.instanceMethod y ∈ GW) (w3 : Cond.selects y.cls y y ∈ GW) (w4 : Cond.initialized y.cls ∈ GW) (w5 : Cond.code y by_ mL ret ∈ GW)
    (hyd : y.cls = y.cls ∧ y.cls ≠ "java/lang/invoke/MethodHandle" ∧ y.cls ≠ "java/lang/invoke/VarHandle" ∧ (parseMethodDescriptor y.desc).map (fun d => d.parameters.length) = some n) (hR : fr + 1 ≤ R.frames ∧ 8 + (mL + 11) + lo ≤ R.locals) (hK : KK D cA s) (hP : WQ D cA a S X I H) (hk : I k) (hct : cm cA a S X k = .inr (ci, fs)) (hc : vwCl[ci]? = some (y.cls, T, N))
    (hn : As.length = n) (hls : ls.size = nL) (hrest : (rest.map fun v => v.category).sum ≤ 8) {st : List Value} (hst : st = As.reverse ++ .ref (a k) :: rest) (hdg : decode cc pc = .ok (.invokevirtual idx, 3)) (hf : cells + 0 ≤ R.cells ∧ slots + 0 ≤ R.slots) :
    va_Run p l e R s m args below meth c H locs cells slots 0 0 (F0 m pc ls st) rest (Qc (Value.ref (a k) :: As).toArray) (AI a I) := by
  have hcell := hP k hk
  rw [hct] at hcell
  refine va_runV (As := As) (C := y.cls) (n := n) C0 hM (cwV n C0.2.2.2.2 (gV w1 w2 w3 w4 w5) rfl rfl rfl hyd hR) ⟨PQ.blind, va_recv hK.1 hcell.P1 (q0 := 0) hc rfl, fun U hU hW => ⟨rfl, by rw [hU]; exact hP, hK.warm hW⟩⟩ rfl hn hls hst ?_ hdg hf
  show 2 * 0 + _ ≤ 8
  omega
theorem qS {y : MethodName} {by_ : ByteArray} {mL fr lo n idx : Nat} {ret : Option FieldType} {As : List Value} {Qc : Array Value → State → Outcome → State → Prop}
    (hM : Met l y (.code y by_ mL ret :: GW) { frames := fr, cells := 0, slots := 0, locals := lo } (PQ D cA a S X I As) Qc 0 0 (AI a I)) (C0 : CallFix p m c cc nL s args GW own) (w1 : Cond.methodLink own idx y ∈ GW) (w2 : Cond.static y ∈ GW) (w4 : Cond.initialized y.cls ∈ GW) (w5 : Cond.code y by_ mL ret ∈ GW)
    (hyd : y.cls ≠ "java/lang/invoke/MethodHandle" ∧ y.cls ≠ "java/lang/invoke/VarHandle" ∧ (parseMethodDescriptor y.desc).map (fun d => d.parameters.length) = some n) (hR : fr + 1 ≤ R.frames ∧ 8 + (mL + 11) + lo ≤ R.locals) (hK : KK D cA s) (hP : WQ D cA a S X I H)
    (hn : As.length = n) (hls : ls.size = nL) (hrest : (rest.map fun v => v.category).sum ≤ 8) {st : List Value} (hst : st = As.reverse ++ rest) (hdg : decode cc pc = .ok (.invokestatic idx, 3)) (hf : cells + 0 ≤ R.cells ∧ slots + 0 ≤ R.slots) :
    va_Run p l e R s m args below meth c H locs cells slots 0 0 (F0 m pc ls st) rest (Qc As.toArray) (AI a I) := by
  refine va_runS (As := As) (n := n) C0 hM (va_cwS n C0.2.2.2.2 (gS w1 w2 w4 w5) rfl rfl rfl hyd hR) ⟨PQ.blind, fun U hU hW => ⟨rfl, by rw [hU]; exact hP, hK.warm hW⟩⟩ rfl hn hls hst ?_ hdg hf
  show 2 * 0 + _ ≤ 8
  omega
/-- behind a call -/
theorem hoI {st : List Value} {post : Int32 → Mem → Mem → Prop} {a0 : Array Value} (hr : va_Run p l e R s m args below meth c H locs cells slots 0 0 (F0 m pc ls st) rest (QqI D cA a I post a0) (AI a I)) (hS : va_S A0 H0 H locs) (hA : ∀ q, AI a I q → A0 q)
    (kk : ∀ (r : Int32) (S1 X1 : Mem) (H1 : Heap) (locs1 : List Loc), post r S1 X1 → WQ D cA a S1 X1 I H1 → va_S A0 H0 H1 locs1 → W p l e R s m args below meth c H1 locs1 cells slots Q (F0 m (pc + 3) ls (.int r :: rest))) : W p l e R s m args below meth c H locs cells slots Q (F0 m pc ls st) :=
  va_calli hr hS (fun q _ h => hA q h) hA (fun r u t H1 locs1 ht _ hp hB _ _ hS1 => kk r u.1 u.2 H1 locs1 hp (by rw [← ht]; exact hB) hS1)
theorem hoL {st : List Value} {post : Int64 → Mem → Mem → Prop} {a0 : Array Value} (hr : va_Run p l e R s m args below meth c H locs cells slots 0 0 (F0 m pc ls st) rest (QqL D cA a I post a0) (AI a I)) (hS : va_S A0 H0 H locs) (hA : ∀ q, AI a I q → A0 q)
    (kk : ∀ (r : Int64) (S1 X1 : Mem) (H1 : Heap) (locs1 : List Loc), post r S1 X1 → WQ D cA a S1 X1 I H1 → va_S A0 H0 H1 locs1 → W p l e R s m args below meth c H1 locs1 cells slots Q (F0 m (pc + 3) ls (.long r :: rest))) : W p l e R s m args below meth c H locs cells slots Q (F0 m pc ls st) :=
  va_calll hr hS (fun q _ h => hA q h) hA (fun r u t H1 locs1 ht _ hp hB _ _ hS1 => kk r u.1 u.2 H1 locs1 hp (by rw [← ht]; exact hB) hS1)
theorem hoV {st : List Value} {post : Mem → Mem → Prop} {a0 : Array Value} (hr : va_Run p l e R s m args below meth c H locs cells slots 0 0 (F0 m pc ls st) rest (QqV D cA a I post a0) (AI a I)) (hS : va_S A0 H0 H locs) (hA : ∀ q, AI a I q → A0 q)
    (kk : ∀ (S1 X1 : Mem) (H1 : Heap) (locs1 : List Loc), post S1 X1 → WQ D cA a S1 X1 I H1 → va_S A0 H0 H1 locs1 → W p l e R s m args below meth c H1 locs1 cells slots Q (F0 m (pc + 3) ls rest)) : W p l e R s m args below meth c H locs cells slots Q (F0 m pc ls st) :=
  va_callv hr hS (fun q _ h => hA q h) hA (fun u t H1 locs1 ht _ hp hB _ _ hS1 => kk u.1 u.2 H1 locs1 hp (by rw [← ht]; exact hB) hS1)
theorem WQ.set {H1 : Heap} (h : WQ D cA a S X I H) (hinj : ∀ i j, I i → I j → a i = a j → i = j) {k : Nat} (hk : I k) {S1 X1 : Mem} (hoth : ∀ j, I j → j ≠ k → cm cA a S1 X1 j = cm cA a S X j) (he : va_at D vwCl (a k, cm cA a S1 X1 k) H1) (hq : ∀ q : Nat, q ≠ a k → H1[q]? = H[q]?) : WQ D cA a S1 X1 I H1 := by
  intro j hj
  by_cases hjk : j = k
  · subst hjk; exact he
  · rw [hoth j hj hjk]
    exact (h j hj).kept (hq _ (fun h1 => hjk (hinj j k hj hk h1)))
theorem cm_arr (cA : ClassId) (a : Adr) (S X : Mem) {k : Nat} (hk : k < 10) : cm cA a S X k = .inl (cA, lnm k, .inl (rwm S X k)) := if_pos hk
/-- a row of the reference read, measured, written -/
theorem mld {k : Nat} (hk : k < 10) (C0 : CallFix p m c cc nL s args GW own) (hK : KK D cA s) (hP : WQ D cA a S X I H) (hI : I k) {i v : Int32} (hin : vp_in i (lnm k)) (hv : rwm S X k i.toNatClampNeg = v) (hdg : decode cc pc = .ok (.iaload, 1)) (kk : W p l e R s m args below meth c H locs cells slots Q (F0 m (pc + 1) ls (.int v :: rest))) : W p l e R s m args below meth c H locs cells slots Q (F0 m pc ls (.int i :: .ref (a k) :: rest)) := by
  subst hv
  exact ald C0 hK (by have h := hP k hI; rw [cm_arr cA a S X hk] at h; exact h) hin hdg kk
theorem mst {k : Nat} (hk : k < 10) (C0 : CallFix p m c cc nL s args GW own) (hK : KK D cA s) (hP : WQ D cA a S X I H) (hS : va_S A0 H0 H locs) (hA : ∀ q, AI a I q → A0 q) (hI : I k) (hinj : ∀ i j, I i → I j → a i = a j → i = j) {i x : Int32} (hin : vp_in i (lnm k)) (S1 X1 : Mem) (hnew : ∀ q, rwm S1 X1 k q = upd (rwm S X k) i.toNatClampNeg x q) (hoth : ∀ j, I j → j ≠ k → cm cA a S1 X1 j = cm cA a S X j) (hdg : decode cc pc = .ok (.iastore, 1))
    (kk : ∀ (H1 : Heap) (locs1 : List Loc), WQ D cA a S1 X1 I H1 → va_S A0 H0 H1 locs1 → W p l e R s m args below meth c H1 locs1 cells slots Q (F0 m (pc + 1) ls rest)) : W p l e R s m args below meth c H locs cells slots Q (F0 m pc ls (.int x :: .int i :: .ref (a k) :: rest)) := by
  have hat : H[a k]? = some (vp_cell cA (lnm k, .inl (rwm S X k))) := by
    have h := hP k hI
    rw [cm_arr cA a S X hk] at h
    exact h
  refine W.iast C0.1 C0.2.1 hat ((hK.1.2 0 _ rfl).1 (lnm k) (fun j => .int (rwm S X k j))) (fun q => by cases q) (by show ¬ (i < 0 ∨ (arrV _ _ _).slots.size ≤ _); rw [arrV_size]; exact hin) rfl rfl hdg fun H1 e z oq => ?_
  refine kk H1 _ (hP.set hinj hI hoth ?_ oq) (hS.put z oq (hA _ ⟨k, hI, rfl⟩))
  rw [cm_arr cA a _ _ hk, show rwm S1 X1 k = upd (rwm S X k) i.toNatClampNeg x from funext hnew]
  show H1[a k]? = some (vp_cell _ _)
  rw [e]
  rw [vp_cell_i, vp_cell_i, arrV_store]
  congr 2
  funext q
  by_cases hq : q = i.toNatClampNeg
  · subst hq
    simp [updV, upd]
  · simp [updV, upd, hq]
theorem WQ.congr {S' X' : Mem} (h : WQ D cA a S X I H) (hS : ∀ k, S k = S' k) (hX : ∀ k, X k = X' k) : WQ D cA a S' X' I H := by
  rw [← show S = S' from funext hS, ← show X = X' from funext hX]
  exact h
abbrev f20 (a : Adr) (S X : Mem) : List Value := [.int (X 87 0), .ref (a 0), .ref (a 1), .ref (a 2), .int (S 81 0), .ref (a 3), .int (S 82 0), .ref (a 4), .int (S 85 0), .int (S 86 0), .ref (a 5), .ref (a 6), .ref (a 7), .ref (a 8), .ref (a 9)]
/-- the object's fields read, a number of it written -/
theorem g20 (C0 : CallFix p m c cc nL s args GW own) (hK : KK D cA s) (hP : WQ D cA a S X I H) (hI : I 20) (j : Nat) (hj : j < 15) {idx : Nat} (hlink : Cond.fieldLink own idx (TX9 j).1 (TX9 j).2.1 (TX9 j).2.2.1 ∈ GW) {b : Nat} (hv : (f20 a S X)[j]? = some (.ref b)) (hdg : decode cc pc = .ok (.getfield idx, 3)) (kk : W p l e R s m args below meth c H locs cells slots Q (F0 m (pc + 3) ls (.ref b :: rest))) : W p l e R s m args below meth c H locs cells slots Q (F0 m pc ls (.ref (a 20) :: rest)) := gf C0 hK (hP 20 hI) us_X9 rfl j hj hlink hv hdg kk
theorem g20i (C0 : CallFix p m c cc nL s args GW own) (hK : KK D cA s) (hP : WQ D cA a S X I H) (hI : I 20) (j : Nat) (hj : j < 15) {idx : Nat} (hlink : Cond.fieldLink own idx (TX9 j).1 (TX9 j).2.1 (TX9 j).2.2.1 ∈ GW) {w v : Int32} (hv : (f20 a S X)[j]? = some (.int w)) (hw : w = v) (hdg : decode cc pc = .ok (.getfield idx, 3)) (kk : W p l e R s m args below meth c H locs cells slots Q (F0 m (pc + 3) ls (.int v :: rest))) : W p l e R s m args below meth c H locs cells slots Q (F0 m pc ls (.ref (a 20) :: rest)) := by
  subst hw
  exact gf C0 hK (hP 20 hI) us_X9 rfl j hj hlink hv hdg kk
theorem p20 (C0 : CallFix p m c cc nL s args GW own) (hK : KK D cA s) (hP : WQ D cA a S X I H) (hS : va_S A0 H0 H locs) (hA : ∀ q, AI a I q → A0 q) (hI : I 20) (hinj : ∀ i j, I i → I j → a i = a j → i = j) (j : Nat) (hj : j < 15) {idx : Nat} (hlink : Cond.fieldLink own idx (TX9 j).1 (TX9 j).2.1 (TX9 j).2.2.1 ∈ GW) (hfin : (TX9 j).2.2.2 = false) (hd : parseFieldDescriptor (TX9 j).2.2.1 = some .int) {x : Int32} (S1 X1 : Mem) (hnew : cm cA a S1 X1 20 = .inr (9, (f20 a S X).set j (.int x))) (hoth : ∀ k, I k → k ≠ 20 → cm cA a S1 X1 k = cm cA a S X k) (hdg : decode cc pc = .ok (.putfield idx, 3)) (kk : ∀ (H1 : Heap) (locs1 : List Loc), WQ D cA a S1 X1 I H1 → va_S A0 H0 H1 locs1 → W p l e R s m args below meth c H1 locs1 cells slots Q (F0 m (pc + 3) ls rest)) : W p l e R s m args below meth c H locs cells slots Q (F0 m pc ls (.int x :: .ref (a 20) :: rest)) := by
  have hts := C0.2.2.2.2
  have hap := va_apart (own := own) hts us_X9 tyX9 tyX9_ok nmX9 hK.1 (ci := 9) rfl
  have hcell : va_at D vwCl (a 20, .inr (9, f20 a S X)) H := hP 20 hI
  obtain ⟨r, h1, cell, q1, q2, q3, q4⟩ := hcell
  have hr : r = (RX9, TX9, 15) := Option.some.inj (h1.symm.trans rfl)
  subst hr
  obtain ⟨hS1, hfc, kC, hkC, hkind⟩ := hK.1.1 9 _ rfl
  obtain ⟨cf, kf, fi, fd, hi, hsl⟩ := hS1 j hj
  have hlay := hts _ (us_X9 _ (u_in_lay hj))
  unfold u_lay at hlay
  rw [if_neg (by rw [hfin]; decide)] at hlay
  have hst := (u_facts hfc hkC (u_lays hts us_X9 hj) hi).1
  have h6 := u_store hfc hkC hkind hlay hi hd (show narrow .int (.int x) = .int x from rfl) (show fits .int (.int x) = true from rfl)
  refine W.putK C0.1 C0.2.1 (f := fd) ⟨C0.2.2.2.1, hts _ hlink, ⟨_, _, _, hi⟩, hst⟩ (by rw [q2]; exact h6) q1 q3 (by rw [hsl]; exact k2_hasslot (q4 j hj)) rfl rfl hdg fun H' e1 e2 e3 => ?_
  rw [hsl] at e1 ⊢
  refine kk H' _ (hP.set hinj hI hoth ?_ e3) (hS.put e2 e3 (hA _ ⟨20, hI, rfl⟩))
  rw [hnew]
  exact ⟨_, rfl, t_OB.to (V := updV (vp_V (f20 a S X)) j (.int x)) ⟨_, e1, q2, q3, t_set q4 hap hj _⟩ (fun i _ => vp_updV_set hj _ i)⟩
/-- what hangs on a number of the object alone, on a row alone -/
theorem cm_num {S1 X1 : Mem} (hS : ∀ k, k < 25 → S1 k = S k) (hX : ∀ k, k < 25 → X1 k = X k) {j : Nat} (hj : j ≠ 20) : cm cA a S1 X1 j = cm cA a S X j := by
  unfold cm
  by_cases h : j < 10
  · rw [if_pos h, if_pos h]
    have e : rwm S1 X1 j = rwm S X j := by
      unfold rwm
      split <;> first | exact hS _ (by decide) | exact hX _ (by decide) | (funext i; exact congrFun (hS _ (by omega)) _)
    rw [e]
  · rw [if_neg h, if_neg h, if_neg hj, if_neg hj]
end OWNM
