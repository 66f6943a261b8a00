section OWN2
variable {p : Program} {l : Launch} {e : Env} {R : Room} {s : State} {m : MethodId} {args : Array Value} {below : List Frame} {meth : Method} {c : Code} {H : Heap} {locs : List Loc} {cells slots : Nat} {Q : State → Prop}
variable {cc : ByteArray} {nL : Nat} {own : String} {pc : Nat} {ls : Array Slot} {rest : List Value} {D : va_G} {cA : ClassId} {a : Adr} {S X : Mem} {I : Nat → Prop} {H0 : Heap} {A0 : Nat → Prop}
/-- an int row written at a place of it -/
theorem ast {k : Nat} (hk34 : k < 34) (C0 : CallFix p m c cc nL s args GW own) (hK : KK D cA s) (hP : WP D cA a S X I H) (hS : va_S A0 H0 H locs) (hA : ∀ q, AI a I q → A0 q) (hk : I k) (hinj : ∀ i j, I i → I j → a i = a j → i = j) {i x : Int32} (hin : vp_in i (ln k)) (hdg : decode cc pc = .ok (.iastore, 1))
    (kk : ∀ (H1 : Heap) (locs1 : List Loc), WP D cA a (wS S k (upd (me S X k) i.toNatClampNeg x)) (wX X k (upd (me S X k) i.toNatClampNeg x)) I H1 → va_S A0 H0 H1 locs1 → W p l e R s m args below meth c H1 locs1 cells slots Q (F0 m (pc + 1) ls rest)) : W p l e R s m args below meth c H locs cells slots Q (F0 m pc ls (.int x :: .int i :: .ref (a k) :: rest)) := by
  have hat : H[a k]? = some (vp_cell cA (ln k, .inl (me S X k))) := by
    have h := hP k hk
    rw [ct_arr cA a S X hk34] at h
    exact h
  refine W.iast C0.1 C0.2.1 hat ((hK.1.2 0 _ rfl).1 (ln k) (fun j => .int (me S X k j))) (fun q => by cases q) (by show ¬ (i < 0 ∨ (arrV _ _ _).slots.size ≤ _); rw [arrV_size]; exact hin) rfl rfl hdg fun H1 e z oq => ?_
  refine kk H1 _ (hP.set hinj hk _ ?_ oq) (hS.put z oq (hA _ ⟨k, hk, rfl⟩))
  rw [ct_arr cA a _ _ hk34, me_eq]
  show H1[a k]? = some (vp_cell _ _)
  rw [e]
  rw [vp_cell_i, vp_cell_i, arrV_store]
  congr 2
  funext q
  by_cases hq : q = i.toNatClampNeg
  · subst hq
    simp [updV, upd]
  · simp [updV, upd, hq]
/-- a number of a place's object written -/
theorem pf {k ci : Nat} {fs : List Value} {C : String} {T : u_T} {N : Nat} (C0 : CallFix p m c cc nL s args GW own) (hK : KK D cA s) (hP : WP D cA a S X I H) (hS : va_S A0 H0 H locs) (hA : ∀ q, AI a I q → A0 q) (hk : I k) (hinj : ∀ i j, I i → I j → a i = a j → i = j) (hct : ct cA a S X k = .inr (ci, fs))
    (hin : ∀ w ∈ u_ws C T N, w ∈ GW) (ty0 : Nat → FieldType) (hty : ∀ k, k < N → parseFieldDescriptor (T k).2.2.1 = some (ty0 k)) (hnm : ∀ a, a < N → ∀ b, b < N → a ≠ b → (T a).2.1 ≠ (T b).2.1) (hc : vwCl[ci]? = some (C, T, N)) (j : Nat) (hj : j < N) {idx : Nat}
    (hlink : Cond.fieldLink own idx (T j).1 (T j).2.1 (T j).2.2.1 ∈ GW) (hfin : (T j).2.2.2 = false) (hd : parseFieldDescriptor (T j).2.2.1 = some .int) (hlen : j < fs.length) {x : Int32} {f : Nat → Int32} (hnew : ct cA a (wS S k f) (wX X k f) k = .inr (ci, fs.set j (.int x)))
    (hdg : decode cc pc = .ok (.putfield idx, 3)) (kk : ∀ (H1 : Heap) (locs1 : List Loc), WP D cA a (wS S k f) (wX X k f) I H1 → va_S A0 H0 H1 locs1 → W p l e R s m args below meth c H1 locs1 cells slots Q (F0 m (pc + 3) ls rest)) : W p l e R s m args below meth c H locs cells slots Q (F0 m pc ls (.int x :: .ref (a k) :: rest)) := by
  have hts := C0.2.2.2.2
  have hap := va_apart (own := own) hts hin ty0 hty hnm hK.1 hc
  have hcell := hP k hk
  rw [hct] at hcell
  obtain ⟨r, h1, cell, q1, q2, q3, q4⟩ := hcell
  have hr : r = (C, T, N) := Option.some.inj (h1.symm.trans hc)
  subst hr
  obtain ⟨hS1, hfc, kC, hkC, hkind⟩ := hK.1.1 ci _ hc
  obtain ⟨cf, kf, fi, fd, hi, hsl⟩ := hS1 j hj
  have hlay := hts _ (hin _ (u_in_lay hj))
  unfold u_lay at hlay
  rw [if_neg (by rw [hfin]; decide)] at hlay
  have hst := (u_facts hfc hkC (u_lays hts hin hj) hi).1
  have h6 := u_store hfc hkC hkind hlay hi hd (show narrow .int (.int x) = .int x from rfl) (show fits .int (.int x) = true from rfl)
  refine W.putK C0.1 C0.2.1 (f := fd) ⟨C0.2.2.2.1, hts _ hlink, ⟨_, _, _, hi⟩, hst⟩ (by rw [q2]; exact h6) q1 q3 (by rw [hsl]; exact k2_hasslot (q4 j hj)) rfl rfl hdg fun H' e1 e2 e3 => ?_
  rw [hsl] at e1 ⊢
  refine kk H' _ (hP.set hinj hk f ?_ e3) (hS.put e2 e3 (hA _ ⟨k, hk, rfl⟩))
  rw [hnew]
  exact ⟨_, hc, t_OB.to (V := updV (vp_V fs) j (.int x)) ⟨_, e1, q2, q3, t_set q4 hap hj _⟩ (fun i _ => vp_updV_set hlen _ i)⟩
/-- the words of a virtual call, a static one, a static one of a nest mate -/
abbrev wV (own : String) (idx : Nat) (y : MethodName) (by_ : ByteArray) (mL : Nat) (ret : Option FieldType) (n : Nat) : Prop :=
  (Cond.methodLink own idx y ∈ GW ∧ Cond.instanceMethod y ∈ GW ∧ Cond.selects y.cls y y ∈ GW ∧ Cond.initialized y.cls ∈ GW ∧ Cond.code y by_ mL ret ∈ GW) ∧ y.cls ≠ "java/lang/invoke/MethodHandle" ∧ y.cls ≠ "java/lang/invoke/VarHandle" ∧ (parseMethodDescriptor y.desc).map (fun d => d.parameters.length) = some n
theorem gV {c0 : Cond} {idx : Nat} {y : MethodName} (h1 : Cond.methodLink own idx y ∈ GW) (h2 : Cond.instanceMethod y ∈ GW) (h3 : Cond.selects y.cls y y ∈ GW) (h4 : Cond.initialized y.cls ∈ GW) (h5 : c0 ∈ GW) : GoodIn GW (wsV own idx y.cls y (c0 :: GW)) := by
  refine gw_in fun w hw => ?_
  unfold wsV at hw
  simp only [List.cons_append, List.nil_append, List.mem_cons] at hw
  rcases hw with rfl | rfl | rfl | rfl | rfl | hw
  · exact h1
  · exact h2
  · exact h3
  · exact h4
  · exact h5
  · exact hw
theorem gS {c0 : Cond} {idx : Nat} {y : MethodName} (h1 : Cond.methodLink own idx y ∈ GW) (h2 : Cond.static y ∈ GW) (h4 : Cond.initialized y.cls ∈ GW) (h5 : c0 ∈ GW) : GoodIn GW (va_wsS own idx y (c0 :: GW)) := by
  refine gw_in fun w hw => ?_
  unfold va_wsS at hw
  simp only [List.cons_append, List.nil_append, List.mem_cons] at hw
  rcases hw with rfl | rfl | rfl | rfl | hw
  · exact h1
  · exact h2
  · exact h4
  · exact h5
  · exact hw
theorem rV {y : MethodName} {by_ : ByteArray} {mL fr lo n idx : Nat} {ret : Option FieldType} {As : List Value} {Qc : Array Value → State → Outcome → State → Prop} {k ci : Nat} {fs : List Value} {T : u_T} {N : Nat}
    (hM : Met l y (.code y by_ mL ret :: GW) { frames := fr, cells := 0, slots := 0, locals := lo } (PC D cA a S X I (.ref (a k) :: As)) Qc 0 0 (AI a I)) (C0 : CallFix p m c cc nL s args GW own) (w1 : Cond.methodLink own idx y ∈ GW) (w2 : Cond.instanceMethod y ∈ GW) (w3 : Cond.selects y.cls y y ∈ GW) (w4 : Cond.initialized y.cls ∈ GW) (w5 : Cond.code y by_ mL ret ∈ GW)
    (hyd : y.cls = y.cls ∧ y.cls ≠ "java/lang/invoke/MethodHandle" ∧ y.cls ≠ "java/lang/invoke/VarHandle" ∧ (parseMethodDescriptor y.desc).map (fun d => d.parameters.length) = some n) (hR : fr + 1 ≤ R.frames ∧ 8 + (mL + 11) + lo ≤ R.locals) (hK : KK D cA s) (hP : WP D cA a S X I H) (hk : I k) (hct : ct cA a S X k = .inr (ci, fs)) (hc : vwCl[ci]? = some (y.cls, T, N))
    (hn : As.length = n) (hls : ls.size = nL) (hrest : (rest.map fun v => v.category).sum ≤ 8) {st : List Value} (hst : st = As.reverse ++ .ref (a k) :: rest) (hdg : decode cc pc = .ok (.invokevirtual idx, 3)) (hf : cells + 0 ≤ R.cells ∧ slots + 0 ≤ R.slots) :
    va_Run p l e R s m args below meth c H locs cells slots 0 0 (F0 m pc ls st) rest (Qc (Value.ref (a k) :: As).toArray) (AI a I) := by
  have hcell := hP k hk
  rw [hct] at hcell
  refine va_runV (As := As) (C := y.cls) (n := n) C0 hM (cwV n C0.2.2.2.2 (gV w1 w2 w3 w4 w5) rfl rfl rfl hyd hR) ⟨PC.blind, va_recv hK.1 hcell.P1 (q0 := 0) hc rfl, fun U hU hW => ⟨rfl, by rw [hU]; exact hP, hK.warm hW⟩⟩ rfl hn hls hst ?_ hdg hf
  show 2 * 0 + _ ≤ 8
  omega
theorem rS {y : MethodName} {by_ : ByteArray} {mL fr lo n idx : Nat} {ret : Option FieldType} {As : List Value} {Qc : Array Value → State → Outcome → State → Prop}
    (hM : Met l y (.code y by_ mL ret :: GW) { frames := fr, cells := 0, slots := 0, locals := lo } (PC D cA a S X I As) Qc 0 0 (AI a I)) (C0 : CallFix p m c cc nL s args GW own) (w1 : Cond.methodLink own idx y ∈ GW) (w2 : Cond.static y ∈ GW) (w4 : Cond.initialized y.cls ∈ GW) (w5 : Cond.code y by_ mL ret ∈ GW)
    (hyd : y.cls ≠ "java/lang/invoke/MethodHandle" ∧ y.cls ≠ "java/lang/invoke/VarHandle" ∧ (parseMethodDescriptor y.desc).map (fun d => d.parameters.length) = some n) (hR : fr + 1 ≤ R.frames ∧ 8 + (mL + 11) + lo ≤ R.locals) (hK : KK D cA s) (hP : WP D cA a S X I H)
    (hn : As.length = n) (hls : ls.size = nL) (hrest : (rest.map fun v => v.category).sum ≤ 8) {st : List Value} (hst : st = As.reverse ++ rest) (hdg : decode cc pc = .ok (.invokestatic idx, 3)) (hf : cells + 0 ≤ R.cells ∧ slots + 0 ≤ R.slots) :
    va_Run p l e R s m args below meth c H locs cells slots 0 0 (F0 m pc ls st) rest (Qc As.toArray) (AI a I) := by
  refine va_runS (As := As) (n := n) C0 hM (va_cwS n C0.2.2.2.2 (gS w1 w2 w4 w5) rfl rfl rfl hyd hR) ⟨PC.blind, fun U hU hW => ⟨rfl, by rw [hU]; exact hP, hK.warm hW⟩⟩ rfl hn hls hst ?_ hdg hf
  show 2 * 0 + _ ≤ 8
  omega
theorem rSN {host : String} {y : MethodName} {by_ : ByteArray} {mL fr lo n idx : Nat} {ret : Option FieldType} {As : List Value} {Qc : Array Value → State → Outcome → State → Prop}
    (hM : Met l y (.code y by_ mL ret :: GW) { frames := fr, cells := 0, slots := 0, locals := lo } (PC D cA a S X I As) Qc 0 0 (AI a I)) (C0 : CallFix p m c cc nL s args GW own) (w1 : va_Nw (.methodLinkNest own idx y host) s) (w2 : Cond.static y ∈ GW) (w4 : Cond.initialized y.cls ∈ GW) (w5 : Cond.code y by_ mL ret ∈ GW)
    (hyd : y.cls ≠ "java/lang/invoke/MethodHandle" ∧ y.cls ≠ "java/lang/invoke/VarHandle" ∧ (parseMethodDescriptor y.desc).map (fun d => d.parameters.length) = some n) (hR : fr + 1 ≤ R.frames ∧ 8 + (mL + 11) + lo ≤ R.locals) (hK : KK D cA s) (hP : WP D cA a S X I H)
    (hn : As.length = n) (hls : ls.size = nL) (hrest : (rest.map fun v => v.category).sum ≤ 8) {st : List Value} (hst : st = As.reverse ++ rest) (hdg : decode cc pc = .ok (.invokestatic idx, 3)) (hf : cells + 0 ≤ R.cells ∧ slots + 0 ≤ R.slots) :
    va_Run p l e R s m args below meth c H locs cells slots 0 0 (F0 m pc ls st) rest (Qc As.toArray) (AI a I) := by
  have hts := C0.2.2.2.2
  refine va_runSN (As := As) (n := n) C0 hM ⟨va_cnB n hts (gw_in fun w hw => (List.mem_cons.mp hw).elim (fun h => h ▸ w5) id) rfl rfl rfl w1 (hts _ w4) hyd hR, hts _ w2, trivial⟩ ⟨PC.blind, fun U hU hW => ⟨rfl, by rw [hU]; exact hP, hK.warm hW⟩⟩ rfl hn hls hst ?_ hdg hf
  show 2 * 0 + _ ≤ 8
  omega
/-- behind a call -/
theorem goI {st : List Value} {post : Int32 → Mem → Mem → Prop} {a0 : Array Value} (hr : va_Run p l e R s m args below meth c H locs cells slots 0 0 (F0 m pc ls st) rest (QpI D cA a I post a0) (AI a I)) (hS : va_S A0 H0 H locs) (hA : ∀ q, AI a I q → A0 q)
    (kk : ∀ (r : Int32) (S1 X1 : Mem) (H1 : Heap) (locs1 : List Loc), post r S1 X1 → WP D cA a S1 X1 I H1 → va_S A0 H0 H1 locs1 → W p l e R s m args below meth c H1 locs1 cells slots Q (F0 m (pc + 3) ls (.int r :: rest))) : W p l e R s m args below meth c H locs cells slots Q (F0 m pc ls st) :=
  va_calli hr hS (fun q _ h => hA q h) hA (fun r u t H1 locs1 ht _ hp hB _ _ hS1 => kk r u.1 u.2 H1 locs1 hp (by rw [← ht]; exact hB) hS1)
theorem goL {st : List Value} {post : Int64 → Mem → Mem → Prop} {a0 : Array Value} (hr : va_Run p l e R s m args below meth c H locs cells slots 0 0 (F0 m pc ls st) rest (QpL D cA a I post a0) (AI a I)) (hS : va_S A0 H0 H locs) (hA : ∀ q, AI a I q → A0 q)
    (kk : ∀ (r : Int64) (S1 X1 : Mem) (H1 : Heap) (locs1 : List Loc), post r S1 X1 → WP D cA a S1 X1 I H1 → va_S A0 H0 H1 locs1 → W p l e R s m args below meth c H1 locs1 cells slots Q (F0 m (pc + 3) ls (.long r :: rest))) : W p l e R s m args below meth c H locs cells slots Q (F0 m pc ls st) :=
  va_calll hr hS (fun q _ h => hA q h) hA (fun r u t H1 locs1 ht _ hp hB _ _ hS1 => kk r u.1 u.2 H1 locs1 hp (by rw [← ht]; exact hB) hS1)
theorem goV {st : List Value} {post : Mem → Mem → Prop} {a0 : Array Value} (hr : va_Run p l e R s m args below meth c H locs cells slots 0 0 (F0 m pc ls st) rest (QpV D cA a I post a0) (AI a I)) (hS : va_S A0 H0 H locs) (hA : ∀ q, AI a I q → A0 q)
    (kk : ∀ (S1 X1 : Mem) (H1 : Heap) (locs1 : List Loc), post S1 X1 → WP D cA a S1 X1 I H1 → va_S A0 H0 H1 locs1 → W p l e R s m args below meth c H1 locs1 cells slots Q (F0 m (pc + 3) ls rest)) : W p l e R s m args below meth c H locs cells slots Q (F0 m pc ls st) :=
  va_callv hr hS (fun q _ h => hA q h) hA (fun u t H1 locs1 ht _ hp hB _ _ hS1 => kk u.1 u.2 H1 locs1 hp (by rw [← ht]; exact hB) hS1)
end OWN2
