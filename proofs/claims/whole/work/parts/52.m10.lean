/-! THE REFERENCE'S MAKERS: calls that make rows. -/
theorem aoSame {ty : FieldType} {u U : State} {A A' : Array Value} (h : u.vm = U.vm) (hb : (Cond.arrayOver ty).before A u = true) : (Cond.arrayOver ty).before A' U = true := by
  simp only [Cond.before, Cond.holds, Cond.value] at hb ⊢
  rw [← h]
  exact hb
theorem warmAO {ty : FieldType} {s U : State} (hW : s.WarmedH U.vm) (hZ : va_Nw (.arrayOver ty) s) : va_Nw (.arrayOver ty) U := aoSame (rfl : (s.setVm U.vm).vm = U.vm) (by rw [Cond.arrayOver_setVmC hW.alike]; exact hZ)
def NY (U : State) : Prop := va_Nw (.arrayOver (.array .int)) U ∧ va_Nw (.castable "[I" "java/lang/Cloneable") U
theorem NY.warm {s U : State} (h : NY s) (hW : s.WarmedH U.vm) : NY U := ⟨warmAO hW h.1, va_Nw.warmC hW h.2⟩
theorem NY.same {s U : State} (h : NY s) (hvm : s.vm = U.vm) : NY U := ⟨aoSame hvm h.1, va_Nw.same rfl hvm h.2⟩
theorem ml_X9_94 : Cond.methodLink RX9 94 arraycopyName ∈ GW := gw 1027 (by decide +kernel) (by decide +kernel)
theorem sm_acpy : Cond.static arraycopyName ∈ GW := gw 1028 (by decide +kernel) (by decide +kernel)
theorem nt_acpy : Cond.native arraycopyName ∈ GW := gw 1029 (by decide +kernel) (by decide +kernel)
theorem in_sys : Cond.initialized "java/lang/System" ∈ GW := gw 70 (by decide +kernel) (by decide +kernel)
abbrev IM : Nat → Prop := fun k => k ∈ nM
def PY (D : va_G) (cA : ClassId) (a : Adr) (S X : Mem) (sz : Nat) (av : List Value) : Array Value → State → Prop := va_Pc av (fun U => U.heap.size = sz ∧ WQ D cA a S X IM U.heap ∧ KK D cA U ∧ NY U)
theorem PY.blind {D : va_G} {cA : ClassId} {a : Adr} {S X : Mem} {sz : Nat} {av : List Value} : FrameBlind (PY D cA a S X sz av) := fun _ _ _ _ h => ⟨h.1, h.2.1, h.2.2.1, h.2.2.2.1.same rfl, h.2.2.2.2.same rfl⟩
def QyI (D : va_G) (cA : ClassId) (a : Adr) (sz : Nat) (post : Int32 → Mem → Mem → Prop) : Array Value → State → Outcome → State → Prop := va_Qi (fun r (u : Mem × Mem) => post r u.1 u.2) (fun u t => WQ D cA a u.1 u.2 IM t.heap) (AF a IM sz)
def NYI (l : Launch) (y : MethodName) (cc : ByteArray) (n : Nat) (ret : Option FieldType) (fr lo mc ms : Nat) (D : va_G) (cA : ClassId) (a : Adr) (S X : Mem) (sz : Nat) (av : List Value) (post : Int32 → Mem → Mem → Prop) : Prop :=
  Met l y (.code y cc n ret :: GW) { frames := fr, cells := mc, slots := ms, locals := lo } (PY D cA a S X sz av) (QyI D cA a sz post) mc ms (AF a IM sz)
section MAKM
variable {p : Program} {l : Launch} {e : Env} {R : Room} {s : State} {m : MethodId} {args : Array Value} {below : List Frame} {meth : Method} {c : Code} {H : Heap} {locs : List Loc} {cells slots mc ms : Nat} {Q : State → Prop}
variable {cc : ByteArray} {nL : Nat} {own : String} {pc : Nat} {ls : Array Slot} {rest : List Value} {D : va_G} {cA : ClassId} {a : Adr} {S X : Mem} {H0 : Heap} {A0 : Nat → Prop} {sz : Nat}
theorem yGo {y : MethodName} {n : Nat} {ret : Option FieldType} {rm : Room} {av : List Value} {Qc : Array Value → State → Outcome → State → Prop} {free : Addr → Prop} (hy : plainName y.cls = true) (hav : (lg_sl av).length ≤ n)
    (body : ∀ (p : Program) (e : Env) (s : State) (m : MethodId) (args : Array Value) (below : List Frame) (meth : Method) (c : Code) (ls : Array Slot), CallFix p m c cc n s args GW y.cls → meth.sig.returnType = ret → meth.locks = false → s.heap.size = sz → KK D cA s → NY s → WQ D cA a S X IM s.heap → va_S (AF a IM sz) s.heap s.heap [] → lv_has ls n (lv_args 0 av) →
      W p l e rm s m args below meth c s.heap [] 0 0 (MQ below Qc args s mc ms free) (F0 m 0 ls [])) :
    Met l y (.code y cc n ret :: GW) rm (PY D cA a S X sz av) Qc mc ms free := by
  refine Met.ofW (cc := cc) (maxL := n) (ret := ret) hy rfl ?_
  intro p e s m args below meth c s₁ B hml hv
  obtain ⟨rfl, hsz, hP, hK, hY⟩ := hv
  have hts := atoms_spec (ws := .code y cc n ret :: GW) B.pre
  have hl := lv_entry av (n := n) hav
  rw [lg_entry_eq]
  exact body p e s m _ below meth c _ ⟨B.exec, B.bytes, hml, findClass_of_methodNamed B.named, fun w h => hts w (List.mem_cons_of_mem _ h)⟩ B.returns B.notSynchronized hsz hK hY hP va_S.rf hl
theorem rtY {post : Int32 → Mem → Mem → Prop} {v : Int32} {S1 X1 : Mem} (C0 : CallFix p m c cc nL s args GW own) (hr : meth.sig.returnType = some .int) (hlk : meth.locks = false) (hP : WQ D cA a S1 X1 IM H) (hS : va_S (AF a IM sz) s.heap H locs) (hc : cells ≤ mc) (hs : slots ≤ ms) (hp : post v S1 X1) (hdg : decode cc pc = .ok (.ireturn, 1)) :
    W p l e R s m args below meth c H locs cells slots (MQ below (QyI D cA a sz post) args s mc ms (AF a IM sz)) (F0 m pc ls [.int v]) :=
  W.widen hc hs (W.iret C0.1 C0.2.1 hr (fun t ht _ => ⟨⟨v, (S1, X1), rfl, hp, by show WQ D cA a S1 X1 IM t.heap; rw [ht]; exact hP⟩, hS.F ht⟩) hS.2.2 hdg hlk)
/-- an int row of one's own written -/
theorem rst {q N j : Nat} {f : Nat → Int32} (C0 : CallFix p m c cc nL s args GW own) (hK : KK D cA s) (hat : va_at D vwCl (q, .inl (cA, N, .inl f)) H) (hS : va_S A0 H0 H locs) (hA : A0 q) {i x : Int32} (hi : i = nI j) (hj : j < N) (hN : N < 2 ^ 31) (hdg : decode cc pc = .ok (.iastore, 1))
    (kk : ∀ (H1 : Heap) (locs1 : List Loc), va_at D vwCl (q, .inl (cA, N, .inl (upd f j x))) H1 → H1.size = H.size → (∀ y : Nat, y ≠ q → H1[y]? = H[y]?) → va_S A0 H0 H1 locs1 → W p l e R s m args below meth c H1 locs1 cells slots Q (F0 m (pc + 1) ls rest)) : W p l e R s m args below meth c H locs cells slots Q (F0 m pc ls (.int x :: .int i :: .ref q :: rest)) := by
  subst hi
  have hat : H[q]? = some (vp_cell cA (N, .inl f)) := hat
  refine W.iast C0.1 C0.2.1 hat ((hK.1.2 0 _ rfl).1 N (fun j => .int (f j))) (fun q => by cases q) (by show ¬ (nI j < 0 ∨ (arrV _ _ _).slots.size ≤ _); rw [arrV_size]; exact vp_in_nI hj hN) rfl rfl hdg fun H1 e z oq => ?_
  refine kk H1 _ ?_ z oq (hS.put z oq hA)
  show H1[q]? = some (vp_cell _ _)
  rw [e]
  rw [vp_cell_i, vp_cell_i, arrV_store, nI_clamp (by omega)]
  congr 2
  funext y
  by_cases hq : y = j
  · subst hq
    simp [updV, upd]
  · simp [updV, upd, hq]
abbrev wl (cA : ClassId) (a : Adr) (S X : Mem) : va_W := [(a 0, cm cA a S X 0), (a 1, cm cA a S X 1), (a 2, cm cA a S X 2), (a 3, cm cA a S X 3), (a 4, cm cA a S X 4), (a 5, cm cA a S X 5), (a 6, cm cA a S X 6), (a 7, cm cA a S X 7), (a 8, cm cA a S X 8), (a 9, cm cA a S X 9), (a 20, cm cA a S X 20)]
def wk (i : Nat) : Nat := if i = 10 then 20 else i
theorem wl_at {i : Nat} {x : Nat × va_E} (h : (wl cA a S X)[i]? = some x) : i < 11 ∧ x = (a (wk i), cm cA a S X (wk i)) ∧ IM (wk i) := by
  match i, h with
  | 0, h => cases h; exact ⟨by decide, rfl, by decide⟩
  | 1, h => cases h; exact ⟨by decide, rfl, by decide⟩
  | 2, h => cases h; exact ⟨by decide, rfl, by decide⟩
  | 3, h => cases h; exact ⟨by decide, rfl, by decide⟩
  | 4, h => cases h; exact ⟨by decide, rfl, by decide⟩
  | 5, h => cases h; exact ⟨by decide, rfl, by decide⟩
  | 6, h => cases h; exact ⟨by decide, rfl, by decide⟩
  | 7, h => cases h; exact ⟨by decide, rfl, by decide⟩
  | 8, h => cases h; exact ⟨by decide, rfl, by decide⟩
  | 9, h => cases h; exact ⟨by decide, rfl, by decide⟩
  | 10, h => cases h; exact ⟨by decide, rfl, by decide⟩
  | i + 11, h => simp [wl] at h
theorem wlP (hP : WQ D cA a S X IM H) : va_P D vwCl (wl cA a S X) H := fun i x h => by
  obtain ⟨-, rfl, hi⟩ := wl_at h
  exact hP _ hi
theorem wlP1 {q : Nat} {ex : va_E} (hP : WQ D cA a S X IM H) (hat : va_at D vwCl (q, ex) H) : va_P D vwCl ((q, ex) :: wl cA a S X) H := fun i x h => by
  match i, h with
  | 0, h => cases h; exact hat
  | i + 1, h => exact wlP hP i x h
theorem wlD1 {q : Nat} {ex : va_E} (hd : Hd nM a IM) (hA : ∀ y, AI a IM y → A0 y) (hq : A0 q) (hne : ∀ k, IM k → a k ≠ q) : va_D A0 ((q, ex) :: wl cA a S X) := by
  refine ⟨fun i j x y hi hj e => ?_, fun i x h => ?_⟩
  · match i, j, hi, hj with
    | 0, 0, hi, hj => rfl
    | 0, j + 1, hi, hj =>
      cases hi
      obtain ⟨-, rfl, hk⟩ := wl_at hj
      exact absurd e.symm (hne _ hk)
    | i + 1, 0, hi, hj =>
      cases hj
      obtain ⟨-, rfl, hk⟩ := wl_at hi
      exact absurd e (hne _ hk)
    | i + 1, j + 1, hi, hj =>
      obtain ⟨hi1, rfl, hk⟩ := wl_at hi
      obtain ⟨hj1, rfl, hk2⟩ := wl_at hj
      have := hd.2.2 _ _ hk hk2 e
      unfold wk at this
      split at this <;> split at this <;> omega
  · match i, h with
    | 0, h => cases h; exact hq
    | i + 1, h =>
      obtain ⟨-, rfl, hk⟩ := wl_at h
      exact hA _ ⟨_, hk, rfl⟩
/-- System.arraycopy into the row 4 of the reference -/
theorem cp4 {q n d : Nat} {f : Nat → Int32} {dp nn : Int32} (S1 : Mem) (C0 : CallFix p m c cc nL s args GW own) (hls : ls.size = nL) (hK : KK D cA s) (hd : Hd nM a IM) (hP : WQ D cA a S X IM H) (hat : va_at D vwCl (q, .inl (cA, n, .inl f)) H) (hne : ∀ k, IM k → a k ≠ q) (hS : va_S A0 H0 H locs) (hA : ∀ y, AI a IM y → A0 y) (hq : A0 q) (hdp : dp = nI d) (hnn : nn = nI n) (hsz : d + n ≤ 36)
    (hnew : ∀ j, rwm S1 X 4 j = va_cpy f (rwm S X 4) 0 d n j) (hoth : ∀ j, IM j → j ≠ 4 → cm cA a S1 X j = cm cA a S X j) {idx : Nat} (hlink : Cond.methodLink own idx arraycopyName ∈ GW) (hfr : 1 ≤ R.frames) (hlo : (rest.map fun v => v.category).sum + (nativeFrameWords "java/lang/System" "arraycopy" 5 + 11) ≤ R.locals) (hdg : decode cc pc = .ok (.invokestatic idx, 3))
    (kk : ∀ (H1 : Heap) (locs1 : List Loc), WQ D cA a S1 X IM H1 → va_S A0 H0 H1 locs1 → W p l e R s m args below meth c H1 locs1 cells slots Q (F0 m (pc + 3) ls rest)) : W p l e R s m args below meth c H locs cells slots Q (F0 m pc ls (.int nn :: .int dp :: .ref (a 4) :: .int 0 :: .ref q :: rest)) := by
  subst hdp
  subst hnn
  have hn : (nI n).toNatClampNeg = n := nI_clamp (by omega)
  have hd2 : (nI d).toNatClampNeg = d := nI_clamp (by omega)
  refine va_copyi C0.1 C0.2.1 (C0.2.2.1.trans hls.symm) C0.2.2.2.1 (C0.2.2.2.2 _ hlink) (C0.2.2.2.2 _ nt_acpy) (C0.2.2.2.2 _ sm_acpy) (C0.2.2.2.2 _ in_sys) hK.1 (wlP1 (ex := .inl (cA, n, .inl f)) hP hat) (wlD1 hd hA hq hne) hS 0 5 0 0 (n1 := 36) (f := f) (g := rwm S X 4) (ty := .int) rfl rfl rfl rfl rfl (by decide) (nI_pos (by omega)) (nI_pos (by omega)) (by rw [hn]; show 0 + n ≤ n; omega) (by rw [hd2, hn]; exact hsz) (fun _ _ => rfl) hfr hlo hdg (fun H1 locs1 hP1 _ hS1 => kk H1 locs1 (fun j hj => ?_) hS1)
  rw [hn, hd2] at hP1
  have hrow : rwm S1 X 4 = va_cpy f (rwm S X 4) 0 d n := funext hnew
  have ht : va_at D vwCl (a 4, cm cA a S1 X 4) H1 := by
    rw [cm_arr cA a S1 X (by decide), hrow]
    exact hP1 5 _ rfl
  have hr : ∀ i, i < 11 → i ≠ 4 → va_at D vwCl (a (wk i), cm cA a S1 X (wk i)) H1 := fun i hi hne2 => by
    rw [hoth (wk i) (by unfold wk; match i, hi with | 0, _ => decide | 1, _ => decide | 2, _ => decide | 3, _ => decide | 4, _ => decide | 5, _ => decide | 6, _ => decide | 7, _ => decide | 8, _ => decide | 9, _ => decide | 10, _ => decide) (by unfold wk; split <;> omega)]
    match i, hi, hne2 with
    | 0, _, h => exact hP1 1 _ rfl
    | 1, _, h => exact hP1 2 _ rfl
    | 2, _, h => exact hP1 3 _ rfl
    | 3, _, h => exact hP1 4 _ rfl
    | 4, _, h => exact absurd rfl h
    | 5, _, h => exact hP1 6 _ rfl
    | 6, _, h => exact hP1 7 _ rfl
    | 7, _, h => exact hP1 8 _ rfl
    | 8, _, h => exact hP1 9 _ rfl
    | 9, _, h => exact hP1 10 _ rfl
    | 10, _, h => exact hP1 11 _ rfl
  have h9 : j = 0 ∨ j = 1 ∨ j = 2 ∨ j = 3 ∨ j = 4 ∨ j = 5 ∨ j = 6 ∨ j = 7 ∨ j = 8 ∨ j = 9 ∨ j = 20 := by simpa [nM] using hj
  rcases h9 with rfl | rfl | rfl | rfl | rfl | rfl | rfl | rfl | rfl | rfl | rfl
  · exact hr 0 (by decide) (by decide)
  · exact hr 1 (by decide) (by decide)
  · exact hr 2 (by decide) (by decide)
  · exact hr 3 (by decide) (by decide)
  · exact ht
  · exact hr 5 (by decide) (by decide)
  · exact hr 6 (by decide) (by decide)
  · exact hr 7 (by decide) (by decide)
  · exact hr 8 (by decide) (by decide)
  · exact hr 9 (by decide) (by decide)
  · exact hr 10 (by decide) (by decide)
/-- System.arraycopy into the row 6 of the reference -/
theorem cp6 {q n d : Nat} {f : Nat → Int32} {dp nn : Int32} (S1 : Mem) (C0 : CallFix p m c cc nL s args GW own) (hls : ls.size = nL) (hK : KK D cA s) (hd : Hd nM a IM) (hP : WQ D cA a S X IM H) (hat : va_at D vwCl (q, .inl (cA, n, .inl f)) H) (hne : ∀ k, IM k → a k ≠ q) (hS : va_S A0 H0 H locs) (hA : ∀ y, AI a IM y → A0 y) (hq : A0 q) (hdp : dp = nI d) (hnn : nn = nI n) (hsz : d + n ≤ 150)
    (hnew : ∀ j, rwm S1 X 6 j = va_cpy f (rwm S X 6) 0 d n j) (hoth : ∀ j, IM j → j ≠ 6 → cm cA a S1 X j = cm cA a S X j) {idx : Nat} (hlink : Cond.methodLink own idx arraycopyName ∈ GW) (hfr : 1 ≤ R.frames) (hlo : (rest.map fun v => v.category).sum + (nativeFrameWords "java/lang/System" "arraycopy" 5 + 11) ≤ R.locals) (hdg : decode cc pc = .ok (.invokestatic idx, 3))
    (kk : ∀ (H1 : Heap) (locs1 : List Loc), WQ D cA a S1 X IM H1 → va_S A0 H0 H1 locs1 → W p l e R s m args below meth c H1 locs1 cells slots Q (F0 m (pc + 3) ls rest)) : W p l e R s m args below meth c H locs cells slots Q (F0 m pc ls (.int nn :: .int dp :: .ref (a 6) :: .int 0 :: .ref q :: rest)) := by
  subst hdp
  subst hnn
  have hn : (nI n).toNatClampNeg = n := nI_clamp (by omega)
  have hd2 : (nI d).toNatClampNeg = d := nI_clamp (by omega)
  refine va_copyi C0.1 C0.2.1 (C0.2.2.1.trans hls.symm) C0.2.2.2.1 (C0.2.2.2.2 _ hlink) (C0.2.2.2.2 _ nt_acpy) (C0.2.2.2.2 _ sm_acpy) (C0.2.2.2.2 _ in_sys) hK.1 (wlP1 (ex := .inl (cA, n, .inl f)) hP hat) (wlD1 hd hA hq hne) hS 0 7 0 0 (n1 := 150) (f := f) (g := rwm S X 6) (ty := .int) rfl rfl rfl rfl rfl (by decide) (nI_pos (by omega)) (nI_pos (by omega)) (by rw [hn]; show 0 + n ≤ n; omega) (by rw [hd2, hn]; exact hsz) (fun _ _ => rfl) hfr hlo hdg (fun H1 locs1 hP1 _ hS1 => kk H1 locs1 (fun j hj => ?_) hS1)
  rw [hn, hd2] at hP1
  have hrow : rwm S1 X 6 = va_cpy f (rwm S X 6) 0 d n := funext hnew
  have ht : va_at D vwCl (a 6, cm cA a S1 X 6) H1 := by
    rw [cm_arr cA a S1 X (by decide), hrow]
    exact hP1 7 _ rfl
  have hr : ∀ i, i < 11 → i ≠ 6 → va_at D vwCl (a (wk i), cm cA a S1 X (wk i)) H1 := fun i hi hne2 => by
    rw [hoth (wk i) (by unfold wk; match i, hi with | 0, _ => decide | 1, _ => decide | 2, _ => decide | 3, _ => decide | 4, _ => decide | 5, _ => decide | 6, _ => decide | 7, _ => decide | 8, _ => decide | 9, _ => decide | 10, _ => decide) (by unfold wk; split <;> omega)]
    match i, hi, hne2 with
    | 0, _, h => exact hP1 1 _ rfl
    | 1, _, h => exact hP1 2 _ rfl
    | 2, _, h => exact hP1 3 _ rfl
    | 3, _, h => exact hP1 4 _ rfl
    | 4, _, h => exact hP1 5 _ rfl
    | 5, _, h => exact hP1 6 _ rfl
    | 6, _, h => exact absurd rfl h
    | 7, _, h => exact hP1 8 _ rfl
    | 8, _, h => exact hP1 9 _ rfl
    | 9, _, h => exact hP1 10 _ rfl
    | 10, _, h => exact hP1 11 _ rfl
  have h9 : j = 0 ∨ j = 1 ∨ j = 2 ∨ j = 3 ∨ j = 4 ∨ j = 5 ∨ j = 6 ∨ j = 7 ∨ j = 8 ∨ j = 9 ∨ j = 20 := by simpa [nM] using hj
  rcases h9 with rfl | rfl | rfl | rfl | rfl | rfl | rfl | rfl | rfl | rfl | rfl
  · exact hr 0 (by decide) (by decide)
  · exact hr 1 (by decide) (by decide)
  · exact hr 2 (by decide) (by decide)
  · exact hr 3 (by decide) (by decide)
  · exact hr 4 (by decide) (by decide)
  · exact hr 5 (by decide) (by decide)
  · exact ht
  · exact hr 7 (by decide) (by decide)
  · exact hr 8 (by decide) (by decide)
  · exact hr 9 (by decide) (by decide)
  · exact hr 10 (by decide) (by decide)
end MAKM
section CLS
variable {p : Program} {l : Launch} {e : Env} {R : Room} {s : State} {m : MethodId} {args : Array Value} {below : List Frame} {meth : Method} {c : Code} {H : Heap} {locs : List Loc} {cells slots : Nat} {Q : State → Prop}
variable {cc : ByteArray} {nL : Nat} {own : String} {pc : Nat} {ls : Array Slot} {rest : List Value} {D : va_G} {cA : ClassId} {a : Adr} {S X : Mem} {I : Nat → Prop} {H0 : Heap} {A0 : Nat → Prop}
set_option maxHeartbeats 4000000 in
set_option maxRecDepth 100000 in
theorem c_X9_launch (l : Launch) (D : va_G) (cA : ClassId) (a : Adr) (S X : Mem) (sz : Nat) (hd : Hd nM a IM) (x : Int32) (y : Int32) (d : Int32) (q : Int32) (o : Int32) (z : Int32) {P : Nat} {L : Nat} (hnP : S 82 0 = nI P) (hnL : S 81 0 = nI L) (hP6 : P ≤ 6) (hL8 : L ≤ 8) : NYI l yX9_launch cX9_launch 8 (some .int) 2 60 1 6 D cA a S X sz [.ref (a 20), .int x, .int y, .int d, .int q, .int o, .int z] (fun r S1 X1 => X1 87 0 = kd (oneB x (nI L) && oneB y (nI L)) (!decide (x = y) && inB d 1 4 && inB q 2 12 && inB o 1 6 && inB z 0 50) (!decide (6 ≤ nI P)) 1 2 3 ∧ (kd (oneB x (nI L) && oneB y (nI L)) (!decide (x = y) && inB d 1 4 && inB q 2 12 && inB o 1 6 && inB z 0 50) (!decide (6 ≤ nI P)) 1 2 3 = 0 → r = nI P ∧ S1 = launM S P x y d q o z) ∧ (¬ kd (oneB x (nI L) && oneB y (nI L)) (!decide (x = y) && inB d 1 4 && inB q 2 12 && inB o 1 6 && inB z 0 50) (!decide (6 ≤ nI P)) 1 2 3 = 0 → S1 = S)) := by
  refine yGo (by decide) (Nat.le_of_ble_eq_true rfl) ?_
  intro p e s m args below meth c ls C0 hr hlk h0 hK hY hP hS hl
  obtain ⟨H, hHe⟩ : ∃ H, H = s.heap := ⟨_, rfl⟩
  obtain ⟨locs, hlo⟩ : ∃ L : List Loc, L = [] := ⟨_, rfl⟩
  have hP : WQ D cA a S X IM H := hHe ▸ hP
  have hS : va_S (AF a IM sz) s.heap H locs := by rw [hHe, hlo]; exact hS
  rw [← hHe, ← hlo]
  have hA : ∀ q, AI a IM q → AF a IM sz q := fun _ h => Or.inl h
  refine lv_aload_n C0.1 C0.2.1 dX9_launch_0 rfl (lv_at hl 0 rfl) ?_
  refine lv_iconst (v := 0) C0.1 C0.2.1 dX9_launch_1 (by decide) ?_
  refine p20 C0 hK hP hS hA (hd.1 _ (by decide)) hd.2.2 0 (by decide) fl_X9_40 rfl (by decide +kernel) (x := 0) S (up X 87 (fun _ => 0)) rfl (fun k9 _ h9 => cm_num (fun _ _ => rfl) (fun k9 h9 => up_ne (by omega)) h9) dX9_launch_2 (fun H locs hP hS => ?_)
  have hP : WQ D cA a S (up X 87 (fun _ => 0)) IM H := hP
  refine lv_aload_n C0.1 C0.2.1 dX9_launch_5 rfl (lv_at hl 0 rfl) ?_
  refine lv_iload_n C0.1 C0.2.1 dX9_launch_6 rfl (lv_at hl 1 rfl) ?_
  refine k_X9_isLanding hd sId C0 hK hP hnL hL8 (v := bI (oneB x (nI L))) rfl hS hA hl.1 ml_X9_90 ⟨Nat.le_of_ble_eq_true rfl, Nat.le_of_ble_eq_true rfl⟩ ⟨Nat.le_of_ble_eq_true rfl, Nat.le_of_ble_eq_true rfl⟩ (Nat.le_of_ble_eq_true rfl) dX9_launch_7 (fun H locs hP hS => ?_)
  refine lv_if_eq (tgt := 21) C0.1 C0.2.1 dX9_launch_10 (by decide) (fun c_10 => ?_) (fun c_10 => ?_)
  · have c_10 := bI_eq c_10
    have hc_10 : oneB x (nI L) = false := ((rfl : oneB x (nI L) = oneB x (nI L))).symm.trans c_10
    refine lv_aload_n C0.1 C0.2.1 dX9_launch_21 rfl (lv_at hl 0 rfl) ?_
    refine lv_iconst (v := 1) C0.1 C0.2.1 dX9_launch_22 (by decide) ?_
    refine k_X9_fail hd sId C0 hK hP  (v := 0) rfl hS hA hl.1 ml_X9_73 ⟨Nat.le_of_ble_eq_true rfl, Nat.le_of_ble_eq_true rfl⟩ ⟨Nat.le_of_ble_eq_true rfl, Nat.le_of_ble_eq_true rfl⟩ (Nat.le_of_ble_eq_true rfl) dX9_launch_23 (fun H locs hP hS => ?_)
    have hP : WQ D cA a S (up X 87 (fun _ => 1)) IM H := WQ.congr (show WQ D cA a S (up (up X 87 (fun _ => 0)) 87 (fun _ => 1)) IM H from hP) (fun _ => rfl) (fun k => by
        by_cases h_87 : k = 87
        · subst h_87; rfl
        simp only [up, h_87, if_false])
    exact rtY C0 hr hlk hP hS (Nat.le_of_ble_eq_true rfl) (Nat.le_of_ble_eq_true rfl) (pfail (kd_1 (by simp only [hc_10, Bool.and_true, Bool.true_and, Bool.and_false, Bool.false_and, Bool.and_self])) rfl (by decide) rfl) dX9_launch_26
  · have c_10 := bI_ne c_10
    have hc_10 : oneB x (nI L) = true := ((rfl : oneB x (nI L) = oneB x (nI L))).symm.trans c_10
    refine lv_aload_n C0.1 C0.2.1 dX9_launch_13 rfl (lv_at hl 0 rfl) ?_
    refine lv_iload_n C0.1 C0.2.1 dX9_launch_14 rfl (lv_at hl 2 rfl) ?_
    refine k_X9_isLanding hd sId C0 hK hP hnL hL8 (v := bI (oneB y (nI L))) rfl hS hA hl.1 ml_X9_90 ⟨Nat.le_of_ble_eq_true rfl, Nat.le_of_ble_eq_true rfl⟩ ⟨Nat.le_of_ble_eq_true rfl, Nat.le_of_ble_eq_true rfl⟩ (Nat.le_of_ble_eq_true rfl) dX9_launch_15 (fun H locs hP hS => ?_)
    refine lv_if_ne (tgt := 27) C0.1 C0.2.1 dX9_launch_18 (by decide) (fun c_18 => ?_) (fun c_18 => ?_)
    · have c_18 := bI_ne c_18
      have hc_18 : oneB y (nI L) = true := ((rfl : oneB y (nI L) = oneB y (nI L))).symm.trans c_18
      refine lv_iload_n C0.1 C0.2.1 dX9_launch_27 rfl (lv_at hl 1 rfl) ?_
      refine lv_iload_n C0.1 C0.2.1 dX9_launch_28 rfl (lv_at hl 2 rfl) ?_
      refine lv_icmp_eq (tgt := 74) C0.1 C0.2.1 dX9_launch_29 (by decide) (fun c_29 => ?_) (fun c_29 => ?_)
      · have hc_29 : (!decide (x = y)) = false := by rw [decide_eq_true c_29]; rfl
        refine lv_aload_n C0.1 C0.2.1 dX9_launch_74 rfl (lv_at hl 0 rfl) ?_
        refine lv_iconst (v := 2) C0.1 C0.2.1 dX9_launch_75 (by decide) ?_
        refine k_X9_fail hd sId C0 hK hP  (v := 0) rfl hS hA hl.1 ml_X9_73 ⟨Nat.le_of_ble_eq_true rfl, Nat.le_of_ble_eq_true rfl⟩ ⟨Nat.le_of_ble_eq_true rfl, Nat.le_of_ble_eq_true rfl⟩ (Nat.le_of_ble_eq_true rfl) dX9_launch_76 (fun H locs hP hS => ?_)
        have hP : WQ D cA a S (up X 87 (fun _ => 2)) IM H := WQ.congr (show WQ D cA a S (up (up X 87 (fun _ => 0)) 87 (fun _ => 2)) IM H from hP) (fun _ => rfl) (fun k => by
            by_cases h_87 : k = 87
            · subst h_87; rfl
            simp only [up, h_87, if_false])
        exact rtY C0 hr hlk hP hS (Nat.le_of_ble_eq_true rfl) (Nat.le_of_ble_eq_true rfl) (pfail (kd_2 (by simp only [hc_10, hc_18, hc_29, Bool.and_true, Bool.true_and, Bool.and_false, Bool.false_and, Bool.and_self]) (by simp only [hc_10, hc_18, hc_29, Bool.and_true, Bool.true_and, Bool.and_false, Bool.false_and, Bool.and_self])) rfl (by decide) rfl) dX9_launch_79
      · have hc_29 : (!decide (x = y)) = true := by rw [decide_eq_false c_29]; rfl
        refine lv_iload_n C0.1 C0.2.1 dX9_launch_32 rfl (lv_at hl 3 rfl) ?_
        refine lv_iconst (v := 1) C0.1 C0.2.1 dX9_launch_33 (by decide) ?_
        refine lv_iconst (v := 4) C0.1 C0.2.1 dX9_launch_34 (by decide) ?_
        refine k_X9_isIn hd s0 C0 hK hP  (v := bI (decide (1 ≤ d) && decide (d ≤ 4))) rfl hS hA hl.1 ml_X9_44 ⟨Nat.le_of_ble_eq_true rfl, Nat.le_of_ble_eq_true rfl⟩ ⟨Nat.le_of_ble_eq_true rfl, Nat.le_of_ble_eq_true rfl⟩ (Nat.le_of_ble_eq_true rfl) dX9_launch_35 (fun H locs hP hS => ?_)
        refine lv_if_eq (tgt := 74) C0.1 C0.2.1 dX9_launch_38 (by decide) (fun c_38 => ?_) (fun c_38 => ?_)
        · have c_38 := bI_eq c_38
          have hc_38 : inB d 1 4 = false := ((rfl : (decide (1 ≤ d) && decide (d ≤ 4)) = inB d 1 4)).symm.trans c_38
          refine lv_aload_n C0.1 C0.2.1 dX9_launch_74 rfl (lv_at hl 0 rfl) ?_
          refine lv_iconst (v := 2) C0.1 C0.2.1 dX9_launch_75 (by decide) ?_
          refine k_X9_fail hd sId C0 hK hP  (v := 0) rfl hS hA hl.1 ml_X9_73 ⟨Nat.le_of_ble_eq_true rfl, Nat.le_of_ble_eq_true rfl⟩ ⟨Nat.le_of_ble_eq_true rfl, Nat.le_of_ble_eq_true rfl⟩ (Nat.le_of_ble_eq_true rfl) dX9_launch_76 (fun H locs hP hS => ?_)
          have hP : WQ D cA a S (up X 87 (fun _ => 2)) IM H := WQ.congr (show WQ D cA a S (up (up X 87 (fun _ => 0)) 87 (fun _ => 2)) IM H from hP) (fun _ => rfl) (fun k => by
              by_cases h_87 : k = 87
              · subst h_87; rfl
              simp only [up, h_87, if_false])
          exact rtY C0 hr hlk hP hS (Nat.le_of_ble_eq_true rfl) (Nat.le_of_ble_eq_true rfl) (pfail (kd_2 (by simp only [hc_10, hc_18, hc_29, hc_38, Bool.and_true, Bool.true_and, Bool.and_false, Bool.false_and, Bool.and_self]) (by simp only [hc_10, hc_18, hc_29, hc_38, Bool.and_true, Bool.true_and, Bool.and_false, Bool.false_and, Bool.and_self])) rfl (by decide) rfl) dX9_launch_79
        · have c_38 := bI_ne c_38
          have hc_38 : inB d 1 4 = true := ((rfl : (decide (1 ≤ d) && decide (d ≤ 4)) = inB d 1 4)).symm.trans c_38
          refine lv_iload C0.1 C0.2.1 dX9_launch_41 (lv_at hl 4 rfl) ?_
          refine lv_iconst (v := 2) C0.1 C0.2.1 dX9_launch_43 (by decide) ?_
          refine lv_bipush (v := 12) C0.1 C0.2.1 dX9_launch_44 (by decide) ?_
          refine k_X9_isIn hd s0 C0 hK hP  (v := bI (decide (2 ≤ q) && decide (q ≤ 12))) rfl hS hA hl.1 ml_X9_44 ⟨Nat.le_of_ble_eq_true rfl, Nat.le_of_ble_eq_true rfl⟩ ⟨Nat.le_of_ble_eq_true rfl, Nat.le_of_ble_eq_true rfl⟩ (Nat.le_of_ble_eq_true rfl) dX9_launch_46 (fun H locs hP hS => ?_)
          refine lv_if_eq (tgt := 74) C0.1 C0.2.1 dX9_launch_49 (by decide) (fun c_49 => ?_) (fun c_49 => ?_)
          · have c_49 := bI_eq c_49
            have hc_49 : inB q 2 12 = false := ((rfl : (decide (2 ≤ q) && decide (q ≤ 12)) = inB q 2 12)).symm.trans c_49
            refine lv_aload_n C0.1 C0.2.1 dX9_launch_74 rfl (lv_at hl 0 rfl) ?_
            refine lv_iconst (v := 2) C0.1 C0.2.1 dX9_launch_75 (by decide) ?_
            refine k_X9_fail hd sId C0 hK hP  (v := 0) rfl hS hA hl.1 ml_X9_73 ⟨Nat.le_of_ble_eq_true rfl, Nat.le_of_ble_eq_true rfl⟩ ⟨Nat.le_of_ble_eq_true rfl, Nat.le_of_ble_eq_true rfl⟩ (Nat.le_of_ble_eq_true rfl) dX9_launch_76 (fun H locs hP hS => ?_)
            have hP : WQ D cA a S (up X 87 (fun _ => 2)) IM H := WQ.congr (show WQ D cA a S (up (up X 87 (fun _ => 0)) 87 (fun _ => 2)) IM H from hP) (fun _ => rfl) (fun k => by
                by_cases h_87 : k = 87
                · subst h_87; rfl
                simp only [up, h_87, if_false])
            exact rtY C0 hr hlk hP hS (Nat.le_of_ble_eq_true rfl) (Nat.le_of_ble_eq_true rfl) (pfail (kd_2 (by simp only [hc_10, hc_18, hc_29, hc_38, hc_49, Bool.and_true, Bool.true_and, Bool.and_false, Bool.false_and, Bool.and_self]) (by simp only [hc_10, hc_18, hc_29, hc_38, hc_49, Bool.and_true, Bool.true_and, Bool.and_false, Bool.false_and, Bool.and_self])) rfl (by decide) rfl) dX9_launch_79
          · have c_49 := bI_ne c_49
            have hc_49 : inB q 2 12 = true := ((rfl : (decide (2 ≤ q) && decide (q ≤ 12)) = inB q 2 12)).symm.trans c_49
            refine lv_iload C0.1 C0.2.1 dX9_launch_52 (lv_at hl 5 rfl) ?_
            refine lv_iconst (v := 1) C0.1 C0.2.1 dX9_launch_54 (by decide) ?_
            refine lv_bipush (v := 6) C0.1 C0.2.1 dX9_launch_55 (by decide) ?_
            refine k_X9_isIn hd s0 C0 hK hP  (v := bI (decide (1 ≤ o) && decide (o ≤ 6))) rfl hS hA hl.1 ml_X9_44 ⟨Nat.le_of_ble_eq_true rfl, Nat.le_of_ble_eq_true rfl⟩ ⟨Nat.le_of_ble_eq_true rfl, Nat.le_of_ble_eq_true rfl⟩ (Nat.le_of_ble_eq_true rfl) dX9_launch_57 (fun H locs hP hS => ?_)
            refine lv_if_eq (tgt := 74) C0.1 C0.2.1 dX9_launch_60 (by decide) (fun c_60 => ?_) (fun c_60 => ?_)
            · have c_60 := bI_eq c_60
              have hc_60 : inB o 1 6 = false := ((rfl : (decide (1 ≤ o) && decide (o ≤ 6)) = inB o 1 6)).symm.trans c_60
              refine lv_aload_n C0.1 C0.2.1 dX9_launch_74 rfl (lv_at hl 0 rfl) ?_
              refine lv_iconst (v := 2) C0.1 C0.2.1 dX9_launch_75 (by decide) ?_
              refine k_X9_fail hd sId C0 hK hP  (v := 0) rfl hS hA hl.1 ml_X9_73 ⟨Nat.le_of_ble_eq_true rfl, Nat.le_of_ble_eq_true rfl⟩ ⟨Nat.le_of_ble_eq_true rfl, Nat.le_of_ble_eq_true rfl⟩ (Nat.le_of_ble_eq_true rfl) dX9_launch_76 (fun H locs hP hS => ?_)
              have hP : WQ D cA a S (up X 87 (fun _ => 2)) IM H := WQ.congr (show WQ D cA a S (up (up X 87 (fun _ => 0)) 87 (fun _ => 2)) IM H from hP) (fun _ => rfl) (fun k => by
                  by_cases h_87 : k = 87
                  · subst h_87; rfl
                  simp only [up, h_87, if_false])
              exact rtY C0 hr hlk hP hS (Nat.le_of_ble_eq_true rfl) (Nat.le_of_ble_eq_true rfl) (pfail (kd_2 (by simp only [hc_10, hc_18, hc_29, hc_38, hc_49, hc_60, Bool.and_true, Bool.true_and, Bool.and_false, Bool.false_and, Bool.and_self]) (by simp only [hc_10, hc_18, hc_29, hc_38, hc_49, hc_60, Bool.and_true, Bool.true_and, Bool.and_false, Bool.false_and, Bool.and_self])) rfl (by decide) rfl) dX9_launch_79
            · have c_60 := bI_ne c_60
              have hc_60 : inB o 1 6 = true := ((rfl : (decide (1 ≤ o) && decide (o ≤ 6)) = inB o 1 6)).symm.trans c_60
              refine lv_iload C0.1 C0.2.1 dX9_launch_63 (lv_at hl 6 rfl) ?_
              refine lv_iconst (v := 0) C0.1 C0.2.1 dX9_launch_65 (by decide) ?_
              refine lv_bipush (v := 50) C0.1 C0.2.1 dX9_launch_66 (by decide) ?_
              refine k_X9_isIn hd s0 C0 hK hP  (v := bI (decide (0 ≤ z) && decide (z ≤ 50))) rfl hS hA hl.1 ml_X9_44 ⟨Nat.le_of_ble_eq_true rfl, Nat.le_of_ble_eq_true rfl⟩ ⟨Nat.le_of_ble_eq_true rfl, Nat.le_of_ble_eq_true rfl⟩ (Nat.le_of_ble_eq_true rfl) dX9_launch_68 (fun H locs hP hS => ?_)
              refine lv_if_ne (tgt := 80) C0.1 C0.2.1 dX9_launch_71 (by decide) (fun c_71 => ?_) (fun c_71 => ?_)
              · have c_71 := bI_ne c_71
                have hc_71 : inB z 0 50 = true := ((rfl : (decide (0 ≤ z) && decide (z ≤ 50)) = inB z 0 50)).symm.trans c_71
                refine lv_aload_n C0.1 C0.2.1 dX9_launch_80 rfl (lv_at hl 0 rfl) ?_
                refine g20i (v := nI P) C0 hK hP (hd.1 _ (by decide)) 6 (by decide) fl_X9_51 rfl hnP dX9_launch_81 ?_
                refine lv_bipush (v := 6) C0.1 C0.2.1 dX9_launch_84 (by decide) ?_
                refine lv_icmp_ne (tgt := 95) C0.1 C0.2.1 dX9_launch_86 (by decide) (fun c_86 => ?_) (fun c_86 => ?_)
                · have hc_86 : (!decide (6 ≤ nI P)) = true := full_t (n := P) (m := 6) (by decide) (by decide) hP6 c_86
                  obtain ⟨u, hu, hxe⟩ := one_nat (n := L) (by omega) (show oneB x (nI L) = true from hc_10)
                  subst hxe
                  have hPlt := full_lt (n := P) (m := 6) (by decide) (by decide) hP6 c_86
                  have hSz := hS.1
                  obtain ⟨q9, hq9⟩ : ∃ q, H.size = q := ⟨_, rfl⟩
                  refine lv_bipush (v := 6) C0.1 C0.2.1 dX9_launch_95 (by decide) ?_
                  refine mkA (N := 6) C0 hK hS (by decide) (by decide) (by decide) hq9 (Nat.le_of_ble_eq_true rfl) (Nat.le_of_ble_eq_true rfl) dX9_launch_97 (fun H1 hn1 hat ho hS => ?_)
                  have hne : ∀ k, IM k → a k ≠ q9 := fun k hk e9 => by have h9 := (hP k hk).lt; rw [hq9] at h9; exact absurd e9 (Nat.ne_of_lt h9)
                  have hP : WQ D cA a S (up X 87 (fun _ => 0)) IM H1 := fun k hk => (hP k hk).kept (ho _ (by have h9 := (hP k hk).lt; rw [hq9] at h9; exact h9))
                  have hAq : AF a IM sz q9 := Or.inr (by rw [← h0, ← hq9]; exact hSz)
                  refine lv_dup C0.1 C0.2.1 dX9_launch_99 rfl ?_
                  refine lv_iconst (v := 0) C0.1 C0.2.1 dX9_launch_100 (by decide) ?_
                  refine lv_iload_n C0.1 C0.2.1 dX9_launch_101 rfl (lv_at hl 1 rfl) ?_
                  refine rst (j := 0) C0 hK hat hS hAq rfl (by decide) (by decide) dX9_launch_102 (fun H1 locs hat z9 ho hS => ?_)
                  have hP : WQ D cA a S (up X 87 (fun _ => 0)) IM H1 := fun k hk => (hP k hk).kept (ho _ (hne k hk))
                  refine lv_dup C0.1 C0.2.1 dX9_launch_103 rfl ?_
                  refine lv_iconst (v := 1) C0.1 C0.2.1 dX9_launch_104 (by decide) ?_
                  refine lv_iload_n C0.1 C0.2.1 dX9_launch_105 rfl (lv_at hl 2 rfl) ?_
                  refine rst (j := 1) C0 hK hat hS hAq rfl (by decide) (by decide) dX9_launch_106 (fun H1 locs hat z9 ho hS => ?_)
                  have hP : WQ D cA a S (up X 87 (fun _ => 0)) IM H1 := fun k hk => (hP k hk).kept (ho _ (hne k hk))
                  refine lv_dup C0.1 C0.2.1 dX9_launch_107 rfl ?_
                  refine lv_iconst (v := 2) C0.1 C0.2.1 dX9_launch_108 (by decide) ?_
                  refine lv_iload_n C0.1 C0.2.1 dX9_launch_109 rfl (lv_at hl 3 rfl) ?_
                  refine rst (j := 2) C0 hK hat hS hAq rfl (by decide) (by decide) dX9_launch_110 (fun H1 locs hat z9 ho hS => ?_)
                  have hP : WQ D cA a S (up X 87 (fun _ => 0)) IM H1 := fun k hk => (hP k hk).kept (ho _ (hne k hk))
                  refine lv_dup C0.1 C0.2.1 dX9_launch_111 rfl ?_
                  refine lv_iconst (v := 3) C0.1 C0.2.1 dX9_launch_112 (by decide) ?_
                  refine lv_iload C0.1 C0.2.1 dX9_launch_113 (lv_at hl 4 rfl) ?_
                  refine rst (j := 3) C0 hK hat hS hAq rfl (by decide) (by decide) dX9_launch_115 (fun H1 locs hat z9 ho hS => ?_)
                  have hP : WQ D cA a S (up X 87 (fun _ => 0)) IM H1 := fun k hk => (hP k hk).kept (ho _ (hne k hk))
                  refine lv_dup C0.1 C0.2.1 dX9_launch_116 rfl ?_
                  refine lv_iconst (v := 4) C0.1 C0.2.1 dX9_launch_117 (by decide) ?_
                  refine lv_iload C0.1 C0.2.1 dX9_launch_118 (lv_at hl 5 rfl) ?_
                  refine rst (j := 4) C0 hK hat hS hAq rfl (by decide) (by decide) dX9_launch_120 (fun H1 locs hat z9 ho hS => ?_)
                  have hP : WQ D cA a S (up X 87 (fun _ => 0)) IM H1 := fun k hk => (hP k hk).kept (ho _ (hne k hk))
                  refine lv_dup C0.1 C0.2.1 dX9_launch_121 rfl ?_
                  refine lv_iconst (v := 5) C0.1 C0.2.1 dX9_launch_122 (by decide) ?_
                  refine lv_iload C0.1 C0.2.1 dX9_launch_123 (lv_at hl 6 rfl) ?_
                  refine rst (j := 5) C0 hK hat hS hAq rfl (by decide) (by decide) dX9_launch_125 (fun H1 locs hat z9 ho hS => ?_)
                  have hP : WQ D cA a S (up X 87 (fun _ => 0)) IM H1 := fun k hk => (hP k hk).kept (ho _ (hne k hk))
                  refine lv_astore (lv' := [(7, .ref q9), (0, .ref (a 20)), (1, .int (nI u)), (2, .int y), (3, .int d), (4, .int q), (5, .int o), (6, .int z)]) C0.1 C0.2.1 dX9_launch_126 hl (by decide) rfl (fun ls hl => ?_)
                  refine lv_aload C0.1 C0.2.1 dX9_launch_128 (lv_at hl 0 rfl) ?_
                  refine lv_iconst (v := 0) C0.1 C0.2.1 dX9_launch_130 (by decide) ?_
                  refine lv_aload_n C0.1 C0.2.1 dX9_launch_131 rfl (lv_at hl 1 rfl) ?_
                  refine g20 C0 hK hP (hd.1 _ (by decide)) 7 (by decide) fl_X9_22 rfl dX9_launch_132 ?_
                  refine lv_bipush (v := 6) C0.1 C0.2.1 dX9_launch_135 (by decide) ?_
                  refine lv_aload_n C0.1 C0.2.1 dX9_launch_137 rfl (lv_at hl 1 rfl) ?_
                  refine g20i (v := nI P) C0 hK hP (hd.1 _ (by decide)) 6 (by decide) fl_X9_51 rfl hnP dX9_launch_138 ?_
                  refine lv_imul C0.1 C0.2.1 dX9_launch_141 ?_
                  refine lv_bipush (v := 6) C0.1 C0.2.1 dX9_launch_142 (by decide) ?_
                  refine cp4 (n := 6) (d := 6 * P) (up (up (up (up (up (up S 4 (upd (S 4) P (nI u))) 5 (upd (S 5) P y)) 6 (upd (S 6) P d)) 7 (upd (S 7) P q)) 8 (upd (S 8) P o)) 9 (upd (S 9) P z)) C0 hl.1 hK hd hP hat hne hS hA hAq (pk_mul 6 P) rfl (by omega) (fun j => ?_) (fun j9 _ h9 => cm_at (lo := 4) (hi := 10) (fun k9 h8 => by simp only [up]; rw [if_neg (by omega), if_neg (by omega), if_neg (by omega), if_neg (by omega), if_neg (by omega), if_neg (by omega)]) (fun _ => rfl) (by omega) h9) ml_X9_94 (Nat.le_of_ble_eq_true rfl) (Nat.le_of_ble_eq_true rfl) dX9_launch_144 (fun H locs hP hS => ?_)
                  · have hm : j % 6 = 0 ∨ j % 6 = 1 ∨ j % 6 = 2 ∨ j % 6 = 3 ∨ j % 6 = 4 ∨ j % 6 = 5 := by omega
                    show (up (up (up (up (up (up S 4 (upd (S 4) P (nI u))) 5 (upd (S 5) P y)) 6 (upd (S 6) P d)) 7 (upd (S 7) P q)) 8 (upd (S 8) P o)) 9 (upd (S 9) P z)) (4 + j % 6) (j / 6) = (if 6 * P ≤ j ∧ j < 6 * P + 6 then (upd (upd (upd (upd (upd (upd (fun _ => (0 : Int32)) 0 (nI u)) 1 y) 2 d) 3 q) 4 o) 5 z) (0 + (j - 6 * P)) else S (4 + j % 6) (j / 6))
                    by_cases h : j / 6 = P
                    · rw [if_pos (by omega), h]
                      rcases hm with h6 | h6 | h6 | h6 | h6 | h6 <;> rw [h6, show 0 + (j - 6 * P) = j % 6 by omega, h6] <;> simp [up, upd]
                    · rw [if_neg (by omega)]
                      rcases hm with h6 | h6 | h6 | h6 | h6 | h6 <;> rw [h6] <;> simp [up, upd, h]
                  refine lv_aload_n C0.1 C0.2.1 dX9_launch_147 rfl (lv_at hl 1 rfl) ?_
                  refine lv_aload_n C0.1 C0.2.1 dX9_launch_148 rfl (lv_at hl 1 rfl) ?_
                  refine g20i (v := nI P) C0 hK hP (hd.1 _ (by decide)) 6 (by decide) fl_X9_51 rfl hnP dX9_launch_149 ?_
                  refine lv_iconst (v := 0) C0.1 C0.2.1 dX9_launch_152 (by decide) ?_
                  refine lv_aload_n C0.1 C0.2.1 dX9_launch_153 rfl (lv_at hl 1 rfl) ?_
                  refine g20 C0 hK hP (hd.1 _ (by decide)) 5 (by decide) fl_X9_19 rfl dX9_launch_154 ?_
                  refine lv_iload_n C0.1 C0.2.1 dX9_launch_157 rfl (lv_at hl 2 rfl) ?_
                  refine mld (k := 3) (by decide) C0 hK hP (hd.1 _ (by decide)) (v := S 3 u) (vp_in_nI (show u < 8 by omega) (by decide)) ((rg_in (n := 8) (vp_in_nI (show u < 8 by omega) (by decide))).symm.trans (rg_nI (show u < 8 by omega) (by decide))) dX9_launch_158 ?_
                  refine k_X9_setGo_0 hd sId C0 hK hP (by omega) hS hA hl.1 ml_X9_100 ⟨Nat.le_of_ble_eq_true rfl, Nat.le_of_ble_eq_true rfl⟩ ⟨Nat.le_of_ble_eq_true rfl, Nat.le_of_ble_eq_true rfl⟩ (Nat.le_of_ble_eq_true rfl) dX9_launch_159 (fun H locs hP hS => ?_)
                  have hP : WQ D cA a (up (up (up (up (up (up (up S 4 (upd (S 4) P (nI u))) 5 (upd (S 5) P y)) 6 (upd (S 6) P d)) 7 (upd (S 7) P q)) 8 (upd (S 8) P o)) 9 (upd (S 9) P z)) 16 (upd (S 16) P (S 3 u))) (up X 87 (fun _ => 0)) IM H := hP
                  refine lv_aload_n C0.1 C0.2.1 dX9_launch_162 rfl (lv_at hl 1 rfl) ?_
                  refine lv_aload_n C0.1 C0.2.1 dX9_launch_163 rfl (lv_at hl 1 rfl) ?_
                  refine g20i (v := nI P) C0 hK hP (hd.1 _ (by decide)) 6 (by decide) fl_X9_51 rfl hnP dX9_launch_164 ?_
                  refine lv_iconst (v := 1) C0.1 C0.2.1 dX9_launch_167 (by decide) ?_
                  refine lv_iload_n C0.1 C0.2.1 dX9_launch_168 rfl (lv_at hl 3 rfl) ?_
                  refine k_X9_setGo_1 hd sId C0 hK hP (by omega) hS hA hl.1 ml_X9_100 ⟨Nat.le_of_ble_eq_true rfl, Nat.le_of_ble_eq_true rfl⟩ ⟨Nat.le_of_ble_eq_true rfl, Nat.le_of_ble_eq_true rfl⟩ (Nat.le_of_ble_eq_true rfl) dX9_launch_169 (fun H locs hP hS => ?_)
                  have hP : WQ D cA a (up (up (up (up (up (up (up (up S 4 (upd (S 4) P (nI u))) 5 (upd (S 5) P y)) 6 (upd (S 6) P d)) 7 (upd (S 7) P q)) 8 (upd (S 8) P o)) 9 (upd (S 9) P z)) 16 (upd (S 16) P (S 3 u))) 17 (upd (S 17) P y)) (up X 87 (fun _ => 0)) IM H := hP
                  refine lv_aload_n C0.1 C0.2.1 dX9_launch_172 rfl (lv_at hl 1 rfl) ?_
                  refine lv_dup C0.1 C0.2.1 dX9_launch_173 rfl ?_
                  refine g20i (v := nI P) C0 hK hP (hd.1 _ (by decide)) 6 (by decide) fl_X9_51 rfl hnP dX9_launch_174 ?_
                  refine lv_iconst (v := 1) C0.1 C0.2.1 dX9_launch_177 (by decide) ?_
                  refine lv_iadd C0.1 C0.2.1 dX9_launch_178 ?_
                  refine p20 C0 hK hP hS hA (hd.1 _ (by decide)) hd.2.2 6 (by decide) fl_X9_51 rfl (by decide +kernel) (x := (nI P) + 1) (up (up (up (up (up (up (up (up (up S 4 (upd (S 4) P (nI u))) 5 (upd (S 5) P y)) 6 (upd (S 6) P d)) 7 (upd (S 7) P q)) 8 (upd (S 8) P o)) 9 (upd (S 9) P z)) 16 (upd (S 16) P (S 3 u))) 17 (upd (S 17) P y)) 82 (fun _ => (nI P) + 1)) (up X 87 (fun _ => 0)) rfl (fun k9 _ h9 => cm_num (fun k9 h9 => up_ne (by omega)) (fun _ _ => rfl) h9) dX9_launch_179 (fun H locs hP hS => ?_)
                  have hP : WQ D cA a (up (up (up (up (up (up (up (up (up S 4 (upd (S 4) P (nI u))) 5 (upd (S 5) P y)) 6 (upd (S 6) P d)) 7 (upd (S 7) P q)) 8 (upd (S 8) P o)) 9 (upd (S 9) P z)) 16 (upd (S 16) P (S 3 u))) 17 (upd (S 17) P y)) 82 (fun _ => (nI P) + 1)) (up X 87 (fun _ => 0)) IM H := hP
                  refine lv_aload_n C0.1 C0.2.1 dX9_launch_182 rfl (lv_at hl 1 rfl) ?_
                  refine g20i (v := (nI P) + 1) C0 hK hP (hd.1 _ (by decide)) 6 (by decide) fl_X9_51 rfl rfl dX9_launch_183 ?_
                  refine lv_iconst (v := 1) C0.1 C0.2.1 dX9_launch_186 (by decide) ?_
                  refine lv_isub C0.1 C0.2.1 dX9_launch_187 ?_
                  have hP : WQ D cA a (up (up (up (up (up (up (up (up (up S 4 (us (S 4) 6 (nI P) (nI u))) 5 (us (S 5) 6 (nI P) y)) 82 (fun _ => nI P + 1)) 6 (us (S 6) 6 (nI P) d)) 7 (us (S 7) 6 (nI P) q)) 8 (us (S 8) 6 (nI P) o)) 9 (us (S 9) 6 (nI P) z)) 16 (upd (S 16) P (rg (S 3) 8 (nI u)))) 17 (upd (S 17) P y)) (up X 87 (fun _ => 0)) IM H := WQ.congr hP (fun k => by
                      by_cases h_4 : k = 4
                      · subst h_4; exact ((us_nI hPlt (by decide)).symm : (upd (S 4) P (nI u)) = (us (S 4) 6 (nI P) (nI u)))
                      by_cases h_5 : k = 5
                      · subst h_5; exact ((us_nI hPlt (by decide)).symm : (upd (S 5) P y) = (us (S 5) 6 (nI P) y))
                      by_cases h_6 : k = 6
                      · subst h_6; exact ((us_nI hPlt (by decide)).symm : (upd (S 6) P d) = (us (S 6) 6 (nI P) d))
                      by_cases h_7 : k = 7
                      · subst h_7; exact ((us_nI hPlt (by decide)).symm : (upd (S 7) P q) = (us (S 7) 6 (nI P) q))
                      by_cases h_8 : k = 8
                      · subst h_8; exact ((us_nI hPlt (by decide)).symm : (upd (S 8) P o) = (us (S 8) 6 (nI P) o))
                      by_cases h_9 : k = 9
                      · subst h_9; exact ((us_nI hPlt (by decide)).symm : (upd (S 9) P z) = (us (S 9) 6 (nI P) z))
                      by_cases h_16 : k = 16
                      · subst h_16; exact ((by rw [rg_nI (show u < 8 by omega) (by decide)]) : (upd (S 16) P (S 3 u)) = (upd (S 16) P (rg (S 3) 8 (nI u))))
                      by_cases h_17 : k = 17
                      · subst h_17; exact (rfl : (upd (S 17) P y) = (upd (S 17) P y))
                      by_cases h_82 : k = 82
                      · subst h_82; exact (rfl : (fun _ => (nI P) + 1) = (fun _ => nI P + 1))
                      simp only [up, h_4, h_5, h_6, h_7, h_8, h_9, h_16, h_17, h_82, if_false]) (fun _ => rfl)
                  exact rtY C0 hr hlk hP hS (Nat.le_of_ble_eq_true rfl) (Nat.le_of_ble_eq_true rfl) (pok (kd_0 (by simp only [hc_10, hc_18, hc_29, hc_38, hc_49, hc_60, hc_71, hc_86, Bool.and_true, Bool.true_and, Bool.and_false, Bool.false_and, Bool.and_self]) (by simp only [hc_10, hc_18, hc_29, hc_38, hc_49, hc_60, hc_71, hc_86, Bool.and_true, Bool.true_and, Bool.and_false, Bool.false_and, Bool.and_self]) (by simp only [hc_10, hc_18, hc_29, hc_38, hc_49, hc_60, hc_71, hc_86, Bool.and_true, Bool.true_and, Bool.and_false, Bool.false_and, Bool.and_self])) rfl (⟨by rw [nI_1, nI_pred], rfl⟩)) dX9_launch_188
                · have hc_86 : (!decide (6 ≤ nI P)) = false := full_f (n := P) (m := 6) (by decide) (by decide) hP6 c_86
                  refine lv_aload_n C0.1 C0.2.1 dX9_launch_89 rfl (lv_at hl 0 rfl) ?_
                  refine lv_iconst (v := 3) C0.1 C0.2.1 dX9_launch_90 (by decide) ?_
                  refine k_X9_fail hd sId C0 hK hP  (v := 0) rfl hS hA hl.1 ml_X9_73 ⟨Nat.le_of_ble_eq_true rfl, Nat.le_of_ble_eq_true rfl⟩ ⟨Nat.le_of_ble_eq_true rfl, Nat.le_of_ble_eq_true rfl⟩ (Nat.le_of_ble_eq_true rfl) dX9_launch_91 (fun H locs hP hS => ?_)
                  have hP : WQ D cA a S (up X 87 (fun _ => 3)) IM H := WQ.congr (show WQ D cA a S (up (up X 87 (fun _ => 0)) 87 (fun _ => 3)) IM H from hP) (fun _ => rfl) (fun k => by
                      by_cases h_87 : k = 87
                      · subst h_87; rfl
                      simp only [up, h_87, if_false])
                  exact rtY C0 hr hlk hP hS (Nat.le_of_ble_eq_true rfl) (Nat.le_of_ble_eq_true rfl) (pfail (kd_3 (by simp only [hc_10, hc_18, hc_29, hc_38, hc_49, hc_60, hc_71, hc_86, Bool.and_true, Bool.true_and, Bool.and_false, Bool.false_and, Bool.and_self]) (by simp only [hc_10, hc_18, hc_29, hc_38, hc_49, hc_60, hc_71, hc_86, Bool.and_true, Bool.true_and, Bool.and_false, Bool.false_and, Bool.and_self]) (by simp only [hc_10, hc_18, hc_29, hc_38, hc_49, hc_60, hc_71, hc_86, Bool.and_true, Bool.true_and, Bool.and_false, Bool.false_and, Bool.and_self])) rfl (by decide) rfl) dX9_launch_94
              · have c_71 := bI_eq c_71
                have hc_71 : inB z 0 50 = false := ((rfl : (decide (0 ≤ z) && decide (z ≤ 50)) = inB z 0 50)).symm.trans c_71
                refine lv_aload_n C0.1 C0.2.1 dX9_launch_74 rfl (lv_at hl 0 rfl) ?_
                refine lv_iconst (v := 2) C0.1 C0.2.1 dX9_launch_75 (by decide) ?_
                refine k_X9_fail hd sId C0 hK hP  (v := 0) rfl hS hA hl.1 ml_X9_73 ⟨Nat.le_of_ble_eq_true rfl, Nat.le_of_ble_eq_true rfl⟩ ⟨Nat.le_of_ble_eq_true rfl, Nat.le_of_ble_eq_true rfl⟩ (Nat.le_of_ble_eq_true rfl) dX9_launch_76 (fun H locs hP hS => ?_)
                have hP : WQ D cA a S (up X 87 (fun _ => 2)) IM H := WQ.congr (show WQ D cA a S (up (up X 87 (fun _ => 0)) 87 (fun _ => 2)) IM H from hP) (fun _ => rfl) (fun k => by
                    by_cases h_87 : k = 87
                    · subst h_87; rfl
                    simp only [up, h_87, if_false])
                exact rtY C0 hr hlk hP hS (Nat.le_of_ble_eq_true rfl) (Nat.le_of_ble_eq_true rfl) (pfail (kd_2 (by simp only [hc_10, hc_18, hc_29, hc_38, hc_49, hc_60, hc_71, Bool.and_true, Bool.true_and, Bool.and_false, Bool.false_and, Bool.and_self]) (by simp only [hc_10, hc_18, hc_29, hc_38, hc_49, hc_60, hc_71, Bool.and_true, Bool.true_and, Bool.and_false, Bool.false_and, Bool.and_self])) rfl (by decide) rfl) dX9_launch_79
    · have c_18 := bI_eq c_18
      have hc_18 : oneB y (nI L) = false := ((rfl : oneB y (nI L) = oneB y (nI L))).symm.trans c_18
      refine lv_aload_n C0.1 C0.2.1 dX9_launch_21 rfl (lv_at hl 0 rfl) ?_
      refine lv_iconst (v := 1) C0.1 C0.2.1 dX9_launch_22 (by decide) ?_
      refine k_X9_fail hd sId C0 hK hP  (v := 0) rfl hS hA hl.1 ml_X9_73 ⟨Nat.le_of_ble_eq_true rfl, Nat.le_of_ble_eq_true rfl⟩ ⟨Nat.le_of_ble_eq_true rfl, Nat.le_of_ble_eq_true rfl⟩ (Nat.le_of_ble_eq_true rfl) dX9_launch_23 (fun H locs hP hS => ?_)
      have hP : WQ D cA a S (up X 87 (fun _ => 1)) IM H := WQ.congr (show WQ D cA a S (up (up X 87 (fun _ => 0)) 87 (fun _ => 1)) IM H from hP) (fun _ => rfl) (fun k => by
          by_cases h_87 : k = 87
          · subst h_87; rfl
          simp only [up, h_87, if_false])
      exact rtY C0 hr hlk hP hS (Nat.le_of_ble_eq_true rfl) (Nat.le_of_ble_eq_true rfl) (pfail (kd_1 (by simp only [hc_10, hc_18, Bool.and_true, Bool.true_and, Bool.and_false, Bool.false_and, Bool.and_self])) rfl (by decide) rfl) dX9_launch_26
set_option maxHeartbeats 4000000 in
set_option maxRecDepth 100000 in
theorem c_X9_addTraveller (l : Launch) (D : va_G) (cA : ClassId) (a : Adr) (S X : Mem) (sz : Nat) (hd : Hd nM a IM) (x : Int32) (y : Int32) (z : Int32) {L : Nat} {T : Nat} (hnL : S 81 0 = nI L) (hnT : S 85 0 = nI T) (hL8 : L ≤ 8) (hT30 : T ≤ 30) : NYI l yX9_addTraveller cX9_addTraveller 5 (some .int) 2 60 1 5 D cA a S X sz [.ref (a 20), .int x, .int y, .int z] (fun r S1 X1 => X1 87 0 = kd (oneB x (nI L) && oneB y (nI L)) (!decide (x = y) && inB z 0 1000) (!decide (30 ≤ nI T)) 1 2 3 ∧ (kd (oneB x (nI L) && oneB y (nI L)) (!decide (x = y) && inB z 0 1000) (!decide (30 ≤ nI T)) 1 2 3 = 0 → r = nI T ∧ S1 = up (up (up (up (up (up S 20 (upd (S 20) T y)) 21 (upd (S 21) T z)) 22 (upd (S 22) T x)) 23 (upd (S 23) T (-1))) 24 (upd (S 24) T (-1))) 85 (fun _ => nI T + 1)) ∧ (¬ kd (oneB x (nI L) && oneB y (nI L)) (!decide (x = y) && inB z 0 1000) (!decide (30 ≤ nI T)) 1 2 3 = 0 → S1 = S)) := by
  refine yGo (by decide) (Nat.le_of_ble_eq_true rfl) ?_
  intro p e s m args below meth c ls C0 hr hlk h0 hK hY hP hS hl
  obtain ⟨H, hHe⟩ : ∃ H, H = s.heap := ⟨_, rfl⟩
  obtain ⟨locs, hlo⟩ : ∃ L : List Loc, L = [] := ⟨_, rfl⟩
  have hP : WQ D cA a S X IM H := hHe ▸ hP
  have hS : va_S (AF a IM sz) s.heap H locs := by rw [hHe, hlo]; exact hS
  rw [← hHe, ← hlo]
  have hA : ∀ q, AI a IM q → AF a IM sz q := fun _ h => Or.inl h
  refine lv_aload_n C0.1 C0.2.1 dX9_addTraveller_0 rfl (lv_at hl 0 rfl) ?_
  refine lv_iconst (v := 0) C0.1 C0.2.1 dX9_addTraveller_1 (by decide) ?_
  refine p20 C0 hK hP hS hA (hd.1 _ (by decide)) hd.2.2 0 (by decide) fl_X9_40 rfl (by decide +kernel) (x := 0) S (up X 87 (fun _ => 0)) rfl (fun k9 _ h9 => cm_num (fun _ _ => rfl) (fun k9 h9 => up_ne (by omega)) h9) dX9_addTraveller_2 (fun H locs hP hS => ?_)
  have hP : WQ D cA a S (up X 87 (fun _ => 0)) IM H := hP
  refine lv_aload_n C0.1 C0.2.1 dX9_addTraveller_5 rfl (lv_at hl 0 rfl) ?_
  refine lv_iload_n C0.1 C0.2.1 dX9_addTraveller_6 rfl (lv_at hl 1 rfl) ?_
  refine k_X9_isLanding hd sId C0 hK hP hnL hL8 (v := bI (oneB x (nI L))) rfl hS hA hl.1 ml_X9_90 ⟨Nat.le_of_ble_eq_true rfl, Nat.le_of_ble_eq_true rfl⟩ ⟨Nat.le_of_ble_eq_true rfl, Nat.le_of_ble_eq_true rfl⟩ (Nat.le_of_ble_eq_true rfl) dX9_addTraveller_7 (fun H locs hP hS => ?_)
  refine lv_if_eq (tgt := 21) C0.1 C0.2.1 dX9_addTraveller_10 (by decide) (fun c_10 => ?_) (fun c_10 => ?_)
  · have c_10 := bI_eq c_10
    have hc_10 : oneB x (nI L) = false := ((rfl : oneB x (nI L) = oneB x (nI L))).symm.trans c_10
    refine lv_aload_n C0.1 C0.2.1 dX9_addTraveller_21 rfl (lv_at hl 0 rfl) ?_
    refine lv_iconst (v := 1) C0.1 C0.2.1 dX9_addTraveller_22 (by decide) ?_
    refine k_X9_fail hd sId C0 hK hP  (v := 0) rfl hS hA hl.1 ml_X9_73 ⟨Nat.le_of_ble_eq_true rfl, Nat.le_of_ble_eq_true rfl⟩ ⟨Nat.le_of_ble_eq_true rfl, Nat.le_of_ble_eq_true rfl⟩ (Nat.le_of_ble_eq_true rfl) dX9_addTraveller_23 (fun H locs hP hS => ?_)
    have hP : WQ D cA a S (up X 87 (fun _ => 1)) IM H := WQ.congr (show WQ D cA a S (up (up X 87 (fun _ => 0)) 87 (fun _ => 1)) IM H from hP) (fun _ => rfl) (fun k => by
        by_cases h_87 : k = 87
        · subst h_87; rfl
        simp only [up, h_87, if_false])
    exact rtY C0 hr hlk hP hS (Nat.le_of_ble_eq_true rfl) (Nat.le_of_ble_eq_true rfl) (pfail (kd_1 (by simp only [hc_10, Bool.and_true, Bool.true_and, Bool.and_false, Bool.false_and, Bool.and_self])) rfl (by decide) rfl) dX9_addTraveller_26
  · have c_10 := bI_ne c_10
    have hc_10 : oneB x (nI L) = true := ((rfl : oneB x (nI L) = oneB x (nI L))).symm.trans c_10
    refine lv_aload_n C0.1 C0.2.1 dX9_addTraveller_13 rfl (lv_at hl 0 rfl) ?_
    refine lv_iload_n C0.1 C0.2.1 dX9_addTraveller_14 rfl (lv_at hl 2 rfl) ?_
    refine k_X9_isLanding hd sId C0 hK hP hnL hL8 (v := bI (oneB y (nI L))) rfl hS hA hl.1 ml_X9_90 ⟨Nat.le_of_ble_eq_true rfl, Nat.le_of_ble_eq_true rfl⟩ ⟨Nat.le_of_ble_eq_true rfl, Nat.le_of_ble_eq_true rfl⟩ (Nat.le_of_ble_eq_true rfl) dX9_addTraveller_15 (fun H locs hP hS => ?_)
    refine lv_if_ne (tgt := 27) C0.1 C0.2.1 dX9_addTraveller_18 (by decide) (fun c_18 => ?_) (fun c_18 => ?_)
    · have c_18 := bI_ne c_18
      have hc_18 : oneB y (nI L) = true := ((rfl : oneB y (nI L) = oneB y (nI L))).symm.trans c_18
      refine lv_iload_n C0.1 C0.2.1 dX9_addTraveller_27 rfl (lv_at hl 1 rfl) ?_
      refine lv_iload_n C0.1 C0.2.1 dX9_addTraveller_28 rfl (lv_at hl 2 rfl) ?_
      refine lv_icmp_eq (tgt := 43) C0.1 C0.2.1 dX9_addTraveller_29 (by decide) (fun c_29 => ?_) (fun c_29 => ?_)
      · have hc_29 : (!decide (x = y)) = false := by rw [decide_eq_true c_29]; rfl
        refine lv_aload_n C0.1 C0.2.1 dX9_addTraveller_43 rfl (lv_at hl 0 rfl) ?_
        refine lv_iconst (v := 2) C0.1 C0.2.1 dX9_addTraveller_44 (by decide) ?_
        refine k_X9_fail hd sId C0 hK hP  (v := 0) rfl hS hA hl.1 ml_X9_73 ⟨Nat.le_of_ble_eq_true rfl, Nat.le_of_ble_eq_true rfl⟩ ⟨Nat.le_of_ble_eq_true rfl, Nat.le_of_ble_eq_true rfl⟩ (Nat.le_of_ble_eq_true rfl) dX9_addTraveller_45 (fun H locs hP hS => ?_)
        have hP : WQ D cA a S (up X 87 (fun _ => 2)) IM H := WQ.congr (show WQ D cA a S (up (up X 87 (fun _ => 0)) 87 (fun _ => 2)) IM H from hP) (fun _ => rfl) (fun k => by
            by_cases h_87 : k = 87
            · subst h_87; rfl
            simp only [up, h_87, if_false])
        exact rtY C0 hr hlk hP hS (Nat.le_of_ble_eq_true rfl) (Nat.le_of_ble_eq_true rfl) (pfail (kd_2 (by simp only [hc_10, hc_18, hc_29, Bool.and_true, Bool.true_and, Bool.and_false, Bool.false_and, Bool.and_self]) (by simp only [hc_10, hc_18, hc_29, Bool.and_true, Bool.true_and, Bool.and_false, Bool.false_and, Bool.and_self])) rfl (by decide) rfl) dX9_addTraveller_48
      · have hc_29 : (!decide (x = y)) = true := by rw [decide_eq_false c_29]; rfl
        refine lv_iload_n C0.1 C0.2.1 dX9_addTraveller_32 rfl (lv_at hl 3 rfl) ?_
        refine lv_iconst (v := 0) C0.1 C0.2.1 dX9_addTraveller_33 (by decide) ?_
        refine lv_sipush (v := 1000) C0.1 C0.2.1 dX9_addTraveller_34 (by decide) ?_
        refine k_X9_isIn hd s0 C0 hK hP  (v := bI (decide (0 ≤ z) && decide (z ≤ 1000))) rfl hS hA hl.1 ml_X9_44 ⟨Nat.le_of_ble_eq_true rfl, Nat.le_of_ble_eq_true rfl⟩ ⟨Nat.le_of_ble_eq_true rfl, Nat.le_of_ble_eq_true rfl⟩ (Nat.le_of_ble_eq_true rfl) dX9_addTraveller_37 (fun H locs hP hS => ?_)
        refine lv_if_ne (tgt := 49) C0.1 C0.2.1 dX9_addTraveller_40 (by decide) (fun c_40 => ?_) (fun c_40 => ?_)
        · have c_40 := bI_ne c_40
          have hc_40 : inB z 0 1000 = true := ((rfl : (decide (0 ≤ z) && decide (z ≤ 1000)) = inB z 0 1000)).symm.trans c_40
          refine lv_aload_n C0.1 C0.2.1 dX9_addTraveller_49 rfl (lv_at hl 0 rfl) ?_
          refine g20i (v := nI T) C0 hK hP (hd.1 _ (by decide)) 8 (by decide) fl_X9_113 rfl hnT dX9_addTraveller_50 ?_
          refine lv_bipush (v := 30) C0.1 C0.2.1 dX9_addTraveller_53 (by decide) ?_
          refine lv_icmp_ne (tgt := 64) C0.1 C0.2.1 dX9_addTraveller_55 (by decide) (fun c_55 => ?_) (fun c_55 => ?_)
          · have hc_55 : (!decide (30 ≤ nI T)) = true := full_t (n := T) (m := 30) (by decide) (by decide) hT30 c_55
            have hTlt := full_lt (n := T) (m := 30) (by decide) (by decide) hT30 c_55
            have hSz := hS.1
            obtain ⟨q9, hq9⟩ : ∃ q, H.size = q := ⟨_, rfl⟩
            refine lv_iconst (v := 5) C0.1 C0.2.1 dX9_addTraveller_64 (by decide) ?_
            refine mkA (N := 5) C0 hK hS (by decide) (by decide) (by decide) hq9 (Nat.le_of_ble_eq_true rfl) (Nat.le_of_ble_eq_true rfl) dX9_addTraveller_65 (fun H1 hn1 hat ho hS => ?_)
            have hne : ∀ k, IM k → a k ≠ q9 := fun k hk e9 => by have h9 := (hP k hk).lt; rw [hq9] at h9; exact absurd e9 (Nat.ne_of_lt h9)
            have hP : WQ D cA a S (up X 87 (fun _ => 0)) IM H1 := fun k hk => (hP k hk).kept (ho _ (by have h9 := (hP k hk).lt; rw [hq9] at h9; exact h9))
            have hAq : AF a IM sz q9 := Or.inr (by rw [← h0, ← hq9]; exact hSz)
            refine lv_dup C0.1 C0.2.1 dX9_addTraveller_67 rfl ?_
            refine lv_iconst (v := 0) C0.1 C0.2.1 dX9_addTraveller_68 (by decide) ?_
            refine lv_iload_n C0.1 C0.2.1 dX9_addTraveller_69 rfl (lv_at hl 2 rfl) ?_
            refine rst (j := 0) C0 hK hat hS hAq rfl (by decide) (by decide) dX9_addTraveller_70 (fun H1 locs hat z9 ho hS => ?_)
            have hP : WQ D cA a S (up X 87 (fun _ => 0)) IM H1 := fun k hk => (hP k hk).kept (ho _ (hne k hk))
            refine lv_dup C0.1 C0.2.1 dX9_addTraveller_71 rfl ?_
            refine lv_iconst (v := 1) C0.1 C0.2.1 dX9_addTraveller_72 (by decide) ?_
            refine lv_iload_n C0.1 C0.2.1 dX9_addTraveller_73 rfl (lv_at hl 3 rfl) ?_
            refine rst (j := 1) C0 hK hat hS hAq rfl (by decide) (by decide) dX9_addTraveller_74 (fun H1 locs hat z9 ho hS => ?_)
            have hP : WQ D cA a S (up X 87 (fun _ => 0)) IM H1 := fun k hk => (hP k hk).kept (ho _ (hne k hk))
            refine lv_dup C0.1 C0.2.1 dX9_addTraveller_75 rfl ?_
            refine lv_iconst (v := 2) C0.1 C0.2.1 dX9_addTraveller_76 (by decide) ?_
            refine lv_iload_n C0.1 C0.2.1 dX9_addTraveller_77 rfl (lv_at hl 1 rfl) ?_
            refine rst (j := 2) C0 hK hat hS hAq rfl (by decide) (by decide) dX9_addTraveller_78 (fun H1 locs hat z9 ho hS => ?_)
            have hP : WQ D cA a S (up X 87 (fun _ => 0)) IM H1 := fun k hk => (hP k hk).kept (ho _ (hne k hk))
            refine lv_dup C0.1 C0.2.1 dX9_addTraveller_79 rfl ?_
            refine lv_iconst (v := 3) C0.1 C0.2.1 dX9_addTraveller_80 (by decide) ?_
            refine lv_iconst (v := (-1)) C0.1 C0.2.1 dX9_addTraveller_81 (by decide) ?_
            refine rst (j := 3) C0 hK hat hS hAq rfl (by decide) (by decide) dX9_addTraveller_82 (fun H1 locs hat z9 ho hS => ?_)
            have hP : WQ D cA a S (up X 87 (fun _ => 0)) IM H1 := fun k hk => (hP k hk).kept (ho _ (hne k hk))
            refine lv_dup C0.1 C0.2.1 dX9_addTraveller_83 rfl ?_
            refine lv_iconst (v := 4) C0.1 C0.2.1 dX9_addTraveller_84 (by decide) ?_
            refine lv_iconst (v := (-1)) C0.1 C0.2.1 dX9_addTraveller_85 (by decide) ?_
            refine rst (j := 4) C0 hK hat hS hAq rfl (by decide) (by decide) dX9_addTraveller_86 (fun H1 locs hat z9 ho hS => ?_)
            have hP : WQ D cA a S (up X 87 (fun _ => 0)) IM H1 := fun k hk => (hP k hk).kept (ho _ (hne k hk))
            refine lv_astore (lv' := [(4, .ref q9), (0, .ref (a 20)), (1, .int x), (2, .int y), (3, .int z)]) C0.1 C0.2.1 dX9_addTraveller_87 hl (by decide) rfl (fun ls hl => ?_)
            refine lv_aload C0.1 C0.2.1 dX9_addTraveller_89 (lv_at hl 0 rfl) ?_
            refine lv_iconst (v := 0) C0.1 C0.2.1 dX9_addTraveller_91 (by decide) ?_
            refine lv_aload_n C0.1 C0.2.1 dX9_addTraveller_92 rfl (lv_at hl 1 rfl) ?_
            refine g20 C0 hK hP (hd.1 _ (by decide)) 11 (by decide) fl_X9_28 rfl dX9_addTraveller_93 ?_
            refine lv_iconst (v := 5) C0.1 C0.2.1 dX9_addTraveller_96 (by decide) ?_
            refine lv_aload_n C0.1 C0.2.1 dX9_addTraveller_97 rfl (lv_at hl 1 rfl) ?_
            refine g20i (v := nI T) C0 hK hP (hd.1 _ (by decide)) 8 (by decide) fl_X9_113 rfl hnT dX9_addTraveller_98 ?_
            refine lv_imul C0.1 C0.2.1 dX9_addTraveller_101 ?_
            refine lv_iconst (v := 5) C0.1 C0.2.1 dX9_addTraveller_102 (by decide) ?_
            refine cp6 (n := 5) (d := 5 * T) (up (up (up (up (up S 20 (upd (S 20) T y)) 21 (upd (S 21) T z)) 22 (upd (S 22) T x)) 23 (upd (S 23) T (-1))) 24 (upd (S 24) T (-1))) C0 hl.1 hK hd hP hat hne hS hA hAq (pk_mul 5 T) rfl (by omega) (fun j => ?_) (fun j9 _ h9 => cm_at (lo := 20) (hi := 25) (fun k9 h8 => by simp only [up]; rw [if_neg (by omega), if_neg (by omega), if_neg (by omega), if_neg (by omega), if_neg (by omega)]) (fun _ => rfl) (by omega) h9) ml_X9_94 (Nat.le_of_ble_eq_true rfl) (Nat.le_of_ble_eq_true rfl) dX9_addTraveller_103 (fun H locs hP hS => ?_)
            · have hm : j % 5 = 0 ∨ j % 5 = 1 ∨ j % 5 = 2 ∨ j % 5 = 3 ∨ j % 5 = 4 := by omega
              show (up (up (up (up (up S 20 (upd (S 20) T y)) 21 (upd (S 21) T z)) 22 (upd (S 22) T x)) 23 (upd (S 23) T (-1))) 24 (upd (S 24) T (-1))) (20 + j % 5) (j / 5) = (if 5 * T ≤ j ∧ j < 5 * T + 5 then (upd (upd (upd (upd (upd (fun _ => (0 : Int32)) 0 y) 1 z) 2 x) 3 (-1)) 4 (-1)) (0 + (j - 5 * T)) else S (20 + j % 5) (j / 5))
              by_cases h : j / 5 = T
              · rw [if_pos (by omega), h]
                rcases hm with h6 | h6 | h6 | h6 | h6 <;> rw [h6, show 0 + (j - 5 * T) = j % 5 by omega, h6] <;> simp [up, upd]
              · rw [if_neg (by omega)]
                rcases hm with h6 | h6 | h6 | h6 | h6 <;> rw [h6] <;> simp [up, upd, h]
            refine lv_aload_n C0.1 C0.2.1 dX9_addTraveller_106 rfl (lv_at hl 1 rfl) ?_
            refine lv_dup C0.1 C0.2.1 dX9_addTraveller_107 rfl ?_
            refine g20i (v := nI T) C0 hK hP (hd.1 _ (by decide)) 8 (by decide) fl_X9_113 rfl hnT dX9_addTraveller_108 ?_
            refine lv_iconst (v := 1) C0.1 C0.2.1 dX9_addTraveller_111 (by decide) ?_
            refine lv_iadd C0.1 C0.2.1 dX9_addTraveller_112 ?_
            refine p20 C0 hK hP hS hA (hd.1 _ (by decide)) hd.2.2 8 (by decide) fl_X9_113 rfl (by decide +kernel) (x := (nI T) + 1) (up (up (up (up (up (up S 20 (upd (S 20) T y)) 21 (upd (S 21) T z)) 22 (upd (S 22) T x)) 23 (upd (S 23) T (-1))) 24 (upd (S 24) T (-1))) 85 (fun _ => (nI T) + 1)) (up X 87 (fun _ => 0)) rfl (fun k9 _ h9 => cm_num (fun k9 h9 => up_ne (by omega)) (fun _ _ => rfl) h9) dX9_addTraveller_113 (fun H locs hP hS => ?_)
            have hP : WQ D cA a (up (up (up (up (up (up S 20 (upd (S 20) T y)) 21 (upd (S 21) T z)) 22 (upd (S 22) T x)) 23 (upd (S 23) T (-1))) 24 (upd (S 24) T (-1))) 85 (fun _ => (nI T) + 1)) (up X 87 (fun _ => 0)) IM H := hP
            refine lv_aload_n C0.1 C0.2.1 dX9_addTraveller_116 rfl (lv_at hl 1 rfl) ?_
            refine g20i (v := (nI T) + 1) C0 hK hP (hd.1 _ (by decide)) 8 (by decide) fl_X9_113 rfl rfl dX9_addTraveller_117 ?_
            refine lv_iconst (v := 1) C0.1 C0.2.1 dX9_addTraveller_120 (by decide) ?_
            refine lv_isub C0.1 C0.2.1 dX9_addTraveller_121 ?_
            exact rtY C0 hr hlk hP hS (Nat.le_of_ble_eq_true rfl) (Nat.le_of_ble_eq_true rfl) (pok (kd_0 (by simp only [hc_10, hc_18, hc_29, hc_40, hc_55, Bool.and_true, Bool.true_and, Bool.and_false, Bool.false_and, Bool.and_self]) (by simp only [hc_10, hc_18, hc_29, hc_40, hc_55, Bool.and_true, Bool.true_and, Bool.and_false, Bool.false_and, Bool.and_self]) (by simp only [hc_10, hc_18, hc_29, hc_40, hc_55, Bool.and_true, Bool.true_and, Bool.and_false, Bool.false_and, Bool.and_self])) rfl (⟨by rw [nI_1, nI_pred], rfl⟩)) dX9_addTraveller_122
          · have hc_55 : (!decide (30 ≤ nI T)) = false := full_f (n := T) (m := 30) (by decide) (by decide) hT30 c_55
            refine lv_aload_n C0.1 C0.2.1 dX9_addTraveller_58 rfl (lv_at hl 0 rfl) ?_
            refine lv_iconst (v := 3) C0.1 C0.2.1 dX9_addTraveller_59 (by decide) ?_
            refine k_X9_fail hd sId C0 hK hP  (v := 0) rfl hS hA hl.1 ml_X9_73 ⟨Nat.le_of_ble_eq_true rfl, Nat.le_of_ble_eq_true rfl⟩ ⟨Nat.le_of_ble_eq_true rfl, Nat.le_of_ble_eq_true rfl⟩ (Nat.le_of_ble_eq_true rfl) dX9_addTraveller_60 (fun H locs hP hS => ?_)
            have hP : WQ D cA a S (up X 87 (fun _ => 3)) IM H := WQ.congr (show WQ D cA a S (up (up X 87 (fun _ => 0)) 87 (fun _ => 3)) IM H from hP) (fun _ => rfl) (fun k => by
                by_cases h_87 : k = 87
                · subst h_87; rfl
                simp only [up, h_87, if_false])
            exact rtY C0 hr hlk hP hS (Nat.le_of_ble_eq_true rfl) (Nat.le_of_ble_eq_true rfl) (pfail (kd_3 (by simp only [hc_10, hc_18, hc_29, hc_40, hc_55, Bool.and_true, Bool.true_and, Bool.and_false, Bool.false_and, Bool.and_self]) (by simp only [hc_10, hc_18, hc_29, hc_40, hc_55, Bool.and_true, Bool.true_and, Bool.and_false, Bool.false_and, Bool.and_self]) (by simp only [hc_10, hc_18, hc_29, hc_40, hc_55, Bool.and_true, Bool.true_and, Bool.and_false, Bool.false_and, Bool.and_self])) rfl (by decide) rfl) dX9_addTraveller_63
        · have c_40 := bI_eq c_40
          have hc_40 : inB z 0 1000 = false := ((rfl : (decide (0 ≤ z) && decide (z ≤ 1000)) = inB z 0 1000)).symm.trans c_40
          refine lv_aload_n C0.1 C0.2.1 dX9_addTraveller_43 rfl (lv_at hl 0 rfl) ?_
          refine lv_iconst (v := 2) C0.1 C0.2.1 dX9_addTraveller_44 (by decide) ?_
          refine k_X9_fail hd sId C0 hK hP  (v := 0) rfl hS hA hl.1 ml_X9_73 ⟨Nat.le_of_ble_eq_true rfl, Nat.le_of_ble_eq_true rfl⟩ ⟨Nat.le_of_ble_eq_true rfl, Nat.le_of_ble_eq_true rfl⟩ (Nat.le_of_ble_eq_true rfl) dX9_addTraveller_45 (fun H locs hP hS => ?_)
          have hP : WQ D cA a S (up X 87 (fun _ => 2)) IM H := WQ.congr (show WQ D cA a S (up (up X 87 (fun _ => 0)) 87 (fun _ => 2)) IM H from hP) (fun _ => rfl) (fun k => by
              by_cases h_87 : k = 87
              · subst h_87; rfl
              simp only [up, h_87, if_false])
          exact rtY C0 hr hlk hP hS (Nat.le_of_ble_eq_true rfl) (Nat.le_of_ble_eq_true rfl) (pfail (kd_2 (by simp only [hc_10, hc_18, hc_29, hc_40, Bool.and_true, Bool.true_and, Bool.and_false, Bool.false_and, Bool.and_self]) (by simp only [hc_10, hc_18, hc_29, hc_40, Bool.and_true, Bool.true_and, Bool.and_false, Bool.false_and, Bool.and_self])) rfl (by decide) rfl) dX9_addTraveller_48
    · have c_18 := bI_eq c_18
      have hc_18 : oneB y (nI L) = false := ((rfl : oneB y (nI L) = oneB y (nI L))).symm.trans c_18
      refine lv_aload_n C0.1 C0.2.1 dX9_addTraveller_21 rfl (lv_at hl 0 rfl) ?_
      refine lv_iconst (v := 1) C0.1 C0.2.1 dX9_addTraveller_22 (by decide) ?_
      refine k_X9_fail hd sId C0 hK hP  (v := 0) rfl hS hA hl.1 ml_X9_73 ⟨Nat.le_of_ble_eq_true rfl, Nat.le_of_ble_eq_true rfl⟩ ⟨Nat.le_of_ble_eq_true rfl, Nat.le_of_ble_eq_true rfl⟩ (Nat.le_of_ble_eq_true rfl) dX9_addTraveller_23 (fun H locs hP hS => ?_)
      have hP : WQ D cA a S (up X 87 (fun _ => 1)) IM H := WQ.congr (show WQ D cA a S (up (up X 87 (fun _ => 0)) 87 (fun _ => 1)) IM H from hP) (fun _ => rfl) (fun k => by
          by_cases h_87 : k = 87
          · subst h_87; rfl
          simp only [up, h_87, if_false])
      exact rtY C0 hr hlk hP hS (Nat.le_of_ble_eq_true rfl) (Nat.le_of_ble_eq_true rfl) (pfail (kd_1 (by simp only [hc_10, hc_18, Bool.and_true, Bool.true_and, Bool.and_false, Bool.false_and, Bool.and_self])) rfl (by decide) rfl) dX9_addTraveller_26
end CLS
