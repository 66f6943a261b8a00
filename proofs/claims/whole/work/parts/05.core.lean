/-! THE OWN LAYER: one word list for all methods; the world of the class as one map from places to cells. -/
abbrev Mem : Type := Nat → Nat → Int32
abbrev Adr : Type := Nat → Nat
/-- the map of places: 0..33 int rows (25..33 the second traffic's), 40.. the Row objects, 80..89 the other objects -/
def inX (k : Nat) : Bool := (Nat.ble 10 k && Nat.ble k 15) || (Nat.ble 25 k && Nat.ble k 33) || k == 87 || k == 88
def me (S X : Mem) (k : Nat) : Nat → Int32 := if inX k = true then X k else S k
def ln (k : Nat) : Nat := match k with
  | 0 => 196 | 1 => 196 | 2 => 12 | 3 => 8
  | 4 => 6 | 5 => 6 | 6 => 6 | 7 => 6 | 8 => 6 | 9 => 6
  | 10 => 64 | 11 => 64 | 12 => 8 | 13 => 58800 | 14 => 300 | 15 => 196
  | 16 => 6 | 17 => 6 | 18 => 6 | 19 => 6 | 20 => 30 | 21 => 30 | 22 => 30 | 23 => 30 | 24 => 30
  | 25 => 6 | 26 => 6 | 27 => 6 | 28 => 6 | _ => 30
def ct (cA : ClassId) (a : Adr) (S X : Mem) (k : Nat) : va_E :=
  if k < 34 then .inl (cA, ln k, .inl (me S X k)) else if k < 74 then .inr (5, [.ref (a (k - 40))]) else match k with
  | 80 => .inr (4, [.ref (a 40), .ref (a 41), .ref (a 42)])
  | 81 => .inr (3, [.int (S 81 0), .ref (a 43)])
  | 82 => .inr (2, [.int (S 82 0), .ref (a 44), .ref (a 45), .ref (a 46), .ref (a 47), .ref (a 48), .ref (a 49)])
  | 83 => .inr (0, [.ref (a 82), .ref (a 50), .ref (a 51), .ref (a 52)])
  | 84 => .inr (1, [.ref (a 80), .ref (a 81), .ref (a 82), .ref (a 53), .ref (a 54), .ref (a 55)])
  | 85 => .inr (7, [.int (S 85 0), .ref (a 60), .ref (a 61), .ref (a 62), .ref (a 63), .ref (a 64)])
  | 86 => .inr (6, [.ref (a 80), .ref (a 81), .ref (a 82), .ref (a 83), .ref (a 84), .int (S 86 0), .ref (a 56), .ref (a 57), .ref (a 58), .ref (a 59), .ref (a 85)])
  | 87 => .inr (7, [.int (X 87 0), .ref (a 69), .ref (a 70), .ref (a 71), .ref (a 72), .ref (a 73)])
  | 88 => .inr (6, [.ref (a 80), .ref (a 81), .ref (a 82), .ref (a 83), .ref (a 84), .int (X 88 0), .ref (a 65), .ref (a 66), .ref (a 67), .ref (a 68), .ref (a 87)])
  | _ => .inr (8, [.ref (a 80), .ref (a 81), .ref (a 82), .ref (a 83), .ref (a 84), .ref (a 86), .ref (a 88)])
/-- the heap holds the cells of the places I -/
def WP (D : va_G) (cA : ClassId) (a : Adr) (S X : Mem) (I : Nat → Prop) (H : Heap) : Prop := ∀ k, I k → va_at D vwCl (a k, ct cA a S X k) H
/-- the cells that a method may change -/
def AI (a : Adr) (I : Nat → Prop) : Nat → Prop := fun q => ∃ k, I k ∧ a k = q
/-- the places n are among I, which are the class's own and lie apart -/
def Hd (n : List Nat) (a : Adr) (I : Nat → Prop) : Prop := (∀ k ∈ n, I k) ∧ (∀ k, I k → k < 90) ∧ ∀ i j, I i → I j → a i = a j → i = j
theorem Hd.sub {n n' : List Nat} {a : Adr} {I : Nat → Prop} (h : Hd n a I) (hs : ∀ k ∈ n', k ∈ n) : Hd n' a I := ⟨fun k hk => h.1 k (hs k hk), h.2⟩
def nest46 : Cond := .methodLinkNest RX4 46 yX8_rowOf RX8
def nest49 : Cond := .methodLinkNest RX4 49 yX8_columnOf RX8
/-- what is known of the tables -/
def KK (D : va_G) (cA : ClassId) (U : State) : Prop := va_K D vwCl [(cA, .int)] U ∧ va_Nw nest46 U ∧ va_Nw nest49 U
theorem KK.warm {D : va_G} {cA : ClassId} {s U : State} (h : KK D cA s) (hW : s.WarmedH U.vm) : KK D cA U := ⟨va_K.moved hW.alike h.1, va_Nw.warmM hW h.2.1, va_Nw.warmM hW h.2.2⟩
theorem KK.same {D : va_G} {cA : ClassId} {s U : State} (h : KK D cA s) (hvm : s.vm = U.vm) : KK D cA U := ⟨va_K.moved (by rw [hvm]; exact Vm.Alike.refl _) h.1, va_Nw.same rfl hvm h.2.1, va_Nw.same rfl hvm h.2.2⟩
/-- a method's start -/
def PC (D : va_G) (cA : ClassId) (a : Adr) (S X : Mem) (I : Nat → Prop) (av : List Value) : Array Value → State → Prop := va_Pc av (fun U => WP D cA a S X I U.heap ∧ KK D cA U)
theorem PC.blind {D : va_G} {cA : ClassId} {a : Adr} {S X : Mem} {I : Nat → Prop} {av : List Value} : FrameBlind (PC D cA a S X I av) := fun _ _ _ _ h => ⟨h.1, h.2.1, h.2.2.same rfl⟩
abbrev WB (D : va_G) (cA : ClassId) (a : Adr) (I : Nat → Prop) : Mem × Mem → State → Prop := fun u t => WP D cA a u.1 u.2 I t.heap
/-- the ends: an int, a long, nothing; the worlds behind them -/
def QpI (D : va_G) (cA : ClassId) (a : Adr) (I : Nat → Prop) (post : Int32 → Mem → Mem → Prop) : Array Value → State → Outcome → State → Prop := va_Qi (fun r (u : Mem × Mem) => post r u.1 u.2) (WB D cA a I) (AI a I)
def QpL (D : va_G) (cA : ClassId) (a : Adr) (I : Nat → Prop) (post : Int64 → Mem → Mem → Prop) : Array Value → State → Outcome → State → Prop := va_Ql (fun r (u : Mem × Mem) => post r u.1 u.2) (WB D cA a I) (AI a I)
def QpV (D : va_G) (cA : ClassId) (a : Adr) (I : Nat → Prop) (post : Mem → Mem → Prop) : Array Value → State → Outcome → State → Prop := va_Qv (fun (u : Mem × Mem) => post u.1 u.2) (WB D cA a I) (AI a I)
/-- contracts: an int (or boolean), a long, nothing -/
def MI (l : Launch) (y : MethodName) (cc : ByteArray) (n : Nat) (ret : Option FieldType) (fr lo : Nat) (D : va_G) (cA : ClassId) (a : Adr) (S X : Mem) (I : Nat → Prop) (av : List Value) (post : Int32 → Mem → Mem → Prop) : Prop :=
  Met l y (.code y cc n ret :: GW) { frames := fr, cells := 0, slots := 0, locals := lo } (PC D cA a S X I av) (QpI D cA a I post) 0 0 (AI a I)
def ML (l : Launch) (y : MethodName) (cc : ByteArray) (n : Nat) (ret : Option FieldType) (fr lo : Nat) (D : va_G) (cA : ClassId) (a : Adr) (S X : Mem) (I : Nat → Prop) (av : List Value) (post : Int64 → Mem → Mem → Prop) : Prop :=
  Met l y (.code y cc n ret :: GW) { frames := fr, cells := 0, slots := 0, locals := lo } (PC D cA a S X I av) (QpL D cA a I post) 0 0 (AI a I)
def MV (l : Launch) (y : MethodName) (cc : ByteArray) (n : Nat) (ret : Option FieldType) (fr lo : Nat) (D : va_G) (cA : ClassId) (a : Adr) (S X : Mem) (I : Nat → Prop) (av : List Value) (post : Mem → Mem → Prop) : Prop :=
  Met l y (.code y cc n ret :: GW) { frames := fr, cells := 0, slots := 0, locals := lo } (PC D cA a S X I av) (QpV D cA a I post) 0 0 (AI a I)
section OWN
variable {p : Program} {l : Launch} {e : Env} {R : Room} {s : State} {m : MethodId} {args : Array Value} {below : List Frame} {meth : Method} {c : Code} {H : Heap} {locs : List Loc} {cells slots : Nat} {Q : State → Prop}
variable {cc : ByteArray} {nL : Nat} {own : String} {pc : Nat} {ls : Array Slot} {rest : List Value} {D : va_G} {cA : ClassId} {a : Adr} {S X : Mem} {I : Nat → Prop} {H0 : Heap}
theorem va_at.P1 {cl : List vw_C} {q : Nat × va_E} (h : va_at D cl q H) : va_P D cl [q] H := by
  intro k q' hk
  match k, hk with
  | 0, hk => cases hk; exact h
  | k + 1, hk => simp at hk
/-- the start of a body -/
theorem mGo {y : MethodName} {n : Nat} {ret : Option FieldType} {rm : Room} {av : List Value} {Qc : Array Value → State → Outcome → State → Prop} {free : Addr → Prop} (hy : plainName y.cls = true) (hav : (lg_sl av).length ≤ n)
    (body : ∀ (p : Program) (e : Env) (s : State) (m : MethodId) (args : Array Value) (below : List Frame) (meth : Method) (c : Code) (ls : Array Slot), CallFix p m c cc n s args GW y.cls → meth.sig.returnType = ret → meth.locks = false → KK D cA s → WP D cA a S X I s.heap → va_S (AI a I) s.heap s.heap [] → lv_has ls n (lv_args 0 av) → args = av.toArray →
      W p l e rm s m args below meth c s.heap [] 0 0 (MQ below Qc args s 0 0 free) (F0 m 0 ls [])) :
    Met l y (.code y cc n ret :: GW) rm (PC D cA a S X I av) Qc 0 0 free := by
  refine Met.ofW (cc := cc) (maxL := n) (ret := ret) hy rfl ?_
  intro p e s m args below meth c s₁ B hml hv
  obtain ⟨rfl, hP, hK⟩ := hv
  have hts := atoms_spec (ws := .code y cc n ret :: GW) B.pre
  have hl := lv_entry av (n := n) hav
  rw [lg_entry_eq]
  exact body p e s m _ below meth c _ ⟨B.exec, B.bytes, hml, findClass_of_methodNamed B.named, fun w h => hts w (List.mem_cons_of_mem _ h)⟩ B.returns B.notSynchronized hK hP va_S.rf hl rfl
theorem retI {post : Int32 → Mem → Mem → Prop} {v : Int32} {S1 X1 : Mem} (C0 : CallFix p m c cc nL s args GW own) (hr : meth.sig.returnType = some .int) (hlk : meth.locks = false) (hP : WP D cA a S1 X1 I H) (hS : va_S (AI a I) s.heap H locs) (hp : post v S1 X1) (hdg : decode cc pc = .ok (.ireturn, 1)) :
    W p l e R s m args below meth c H locs 0 0 (MQ below (QpI D cA a I post) args s 0 0 (AI a I)) (F0 m pc ls [.int v]) :=
  W.iret C0.1 C0.2.1 hr (fun t ht _ => ⟨⟨v, (S1, X1), rfl, hp, by show WP D cA a S1 X1 I t.heap; rw [ht]; exact hP⟩, hS.F ht⟩) hS.2.2 hdg hlk
theorem retZ {post : Int32 → Mem → Mem → Prop} {v : Int32} {S1 X1 : Mem} (C0 : CallFix p m c cc nL s args GW own) (hr : meth.sig.returnType = some .boolean) (hlk : meth.locks = false) (hP : WP D cA a S1 X1 I H) (hS : va_S (AI a I) s.heap H locs) (hn : narrow .boolean (.int v) = .int v) (hp : post v S1 X1) (hdg : decode cc pc = .ok (.ireturn, 1)) :
    W p l e R s m args below meth c H locs 0 0 (MQ below (QpI D cA a I post) args s 0 0 (AI a I)) (F0 m pc ls [.int v]) :=
  W.zret C0.1 C0.2.1 hr hn (fun t ht _ => ⟨⟨v, (S1, X1), rfl, hp, by show WP D cA a S1 X1 I t.heap; rw [ht]; exact hP⟩, hS.F ht⟩) hS.2.2 hdg hlk
theorem retL {post : Int64 → Mem → Mem → Prop} {v : Int64} {S1 X1 : Mem} (C0 : CallFix p m c cc nL s args GW own) (hr : meth.sig.returnType = some .long) (hlk : meth.locks = false) (hP : WP D cA a S1 X1 I H) (hS : va_S (AI a I) s.heap H locs) (hp : post v S1 X1) (hdg : decode cc pc = .ok (.lreturn, 1)) :
    W p l e R s m args below meth c H locs 0 0 (MQ below (QpL D cA a I post) args s 0 0 (AI a I)) (F0 m pc ls [.long v]) :=
  W.lret C0.1 C0.2.1 hr (fun t ht _ => ⟨⟨v, (S1, X1), rfl, hp, by show WP D cA a S1 X1 I t.heap; rw [ht]; exact hP⟩, hS.F ht⟩) hS.2.2 hdg hlk
theorem retV {post : Mem → Mem → Prop} {S1 X1 : Mem} (C0 : CallFix p m c cc nL s args GW own) (hr : meth.sig.returnType = none) (hlk : meth.locks = false) (hP : WP D cA a S1 X1 I H) (hS : va_S (AI a I) s.heap H locs) (hp : post S1 X1) (hdg : decode cc pc = .ok (.return_, 1)) :
    W p l e R s m args below meth c H locs 0 0 (MQ below (QpV D cA a I post) args s 0 0 (AI a I)) (F0 m pc ls []) :=
  W.vret C0.1 C0.2.1 hr (fun t ht _ => ⟨⟨(S1, X1), rfl, hp, by show WP D cA a S1 X1 I t.heap; rw [ht]; exact hP⟩, hS.F ht⟩) hS.2.2 hdg hlk
/-- getfield of a place's object -/
theorem gf {b ci : Nat} {fs : List Value} {C : String} {T : u_T} {N : Nat} (C0 : CallFix p m c cc nL s args GW own) (hK : KK D cA s) (h : va_at D vwCl (b, .inr (ci, fs)) H) (hin : ∀ w ∈ u_ws C T N, w ∈ GW) (hc : vwCl[ci]? = some (C, T, N)) (j : Nat) (hj : j < N) {idx : Nat}
    (hlink : Cond.fieldLink own idx (T j).1 (T j).2.1 (T j).2.2.1 ∈ GW) {v : Value} (hv : fs[j]? = some v) (hdg : decode cc pc = .ok (.getfield idx, 3))
    (kk : W p l e R s m args below meth c H locs cells slots Q (F0 m (pc + 3) ls (v :: rest))) : W p l e R s m args below meth c H locs cells slots Q (F0 m pc ls (.ref b :: rest)) :=
  va_get C0.1 C0.2.1 C0.2.2.2.2 hin C0.2.2.2.1 hK.1 h.P1 0 rfl hc j hj (C0.2.2.2.2 _ hlink) (fun _ h9 => h9) hv hdg kk
/-- an int row's element and length -/
theorem ald {b n : Nat} {f : Nat → Int32} (C0 : CallFix p m c cc nL s args GW own) (hK : KK D cA s) (h : va_at D vwCl (b, .inl (cA, n, .inl f)) H) {i : Int32} (hin : vp_in i n) (hdg : decode cc pc = .ok (.iaload, 1))
    (kk : W p l e R s m args below meth c H locs cells slots Q (F0 m (pc + 1) ls (.int (f i.toNatClampNeg) :: rest))) : W p l e R s m args below meth c H locs cells slots Q (F0 m pc ls (.int i :: .ref b :: rest)) :=
  va_iald C0.1 C0.2.1 hK.1 h.P1 0 0 rfl rfl hin hdg kk
theorem alen {b n : Nat} {f : Nat → Int32} (C0 : CallFix p m c cc nL s args GW own) (hK : KK D cA s) (h : va_at D vwCl (b, .inl (cA, n, .inl f)) H) (hdg : decode cc pc = .ok (.arraylength, 1))
    (kk : W p l e R s m args below meth c H locs cells slots Q (F0 m (pc + 1) ls (.int (nI n) :: rest))) : W p l e R s m args below meth c H locs cells slots Q (F0 m pc ls (.ref b :: rest)) :=
  va_alen C0.1 C0.2.1 hK.1 h.P1 0 0 rfl rfl rfl hdg kk
end OWN
def up (S : Mem) (k : Nat) (f : Nat → Int32) : Mem := fun j => if j = k then f else S j
theorem up_ne {S : Mem} {k j : Nat} {f : Nat → Int32} (h : j ≠ k) : up S k f j = S j := if_neg h
theorem up_eq {S : Mem} {k : Nat} {f : Nat → Int32} : up S k f k = f := if_pos rfl
/-- a row or a number written: in the one memory or in the other -/
def wS (S : Mem) (k : Nat) (f : Nat → Int32) : Mem := if inX k = true then S else up S k f
def wX (X : Mem) (k : Nat) (f : Nat → Int32) : Mem := if inX k = true then up X k f else X
theorem me_eq (S X : Mem) (k : Nat) (f : Nat → Int32) : me (wS S k f) (wX X k f) k = f := by
  unfold me wS wX
  cases inX k <;> simp [up]
theorem me_ne (S X : Mem) {k j : Nat} (f : Nat → Int32) (h : j ≠ k) : me (wS S k f) (wX X k f) j = me S X j := by
  unfold me wS wX
  cases inX k <;> cases inX j <;> simp [up, h]
/-- what a place holds hangs on the memory at that place alone -/
theorem ct_ne (cA : ClassId) (a : Adr) (S X : Mem) {k j : Nat} (f : Nat → Int32) (h : j ≠ k) : ct cA a (wS S k f) (wX X k f) j = ct cA a S X j := by
  have hs : ∀ i, i ≠ k → wS S k f i = S i := fun i hi => by unfold wS; cases inX k <;> simp [up, hi]
  have hx : ∀ i, i ≠ k → wX X k f i = X i := fun i hi => by unfold wX; cases inX k <;> simp [up, hi]
  unfold ct
  rw [me_ne S X f h]
  split
  · rfl
  · split
    · rfl
    · split <;> first | rfl | rw [hs _ h] | rw [hx _ h]
theorem WP.set {D : va_G} {cA : ClassId} {a : Adr} {S X : Mem} {I : Nat → Prop} {H H1 : Heap} (h : WP D cA a S X I H) (hinj : ∀ i j, I i → I j → a i = a j → i = j) {k : Nat} (hk : I k) (f : Nat → Int32) (he : va_at D vwCl (a k, ct cA a (wS S k f) (wX X k f) k) H1) (hq : ∀ q : Nat, q ≠ a k → H1[q]? = H[q]?) : WP D cA a (wS S k f) (wX X k f) I H1 := by
  intro j hj
  by_cases hjk : j = k
  · subst hjk; exact he
  · rw [ct_ne cA a S X f hjk]
    exact (h j hj).kept (hq _ (fun h1 => hjk (hinj j k hj hk h1)))
theorem ct_arr (cA : ClassId) (a : Adr) (S X : Mem) {k : Nat} (hk : k < 34) : ct cA a S X k = .inl (cA, ln k, .inl (me S X k)) := if_pos hk
theorem ct_row (cA : ClassId) (a : Adr) (S X : Mem) {k : Nat} (hk : k < 34) : ct cA a S X (40 + k) = .inr (5, [.ref (a k)]) := by
  unfold ct
  rw [if_neg (by omega), if_pos (by omega), show 40 + k - 40 = k from by omega]
