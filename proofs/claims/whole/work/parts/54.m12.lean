/-! THE REFERENCE LOOKS AHEAD. -/
theorem KA.mono {a : Adr} {sz sz2 : Nat} {w : Nat × Nat × Nat × Nat} (h : KA a sz2 w) (hs : sz ≤ sz2) : KA a sz w := ⟨h.1, by have := h.2.1; omega, by have := h.2.2.1; omega, by have := h.2.2.2.1; omega, by have := h.2.2.2.2.1; omega, h.2.2.2.2.2⟩
def QzI (D : va_G) (cA : ClassId) (a : Adr) (S : Mem) (sz : Nat) (post : Int32 → Mem → Adr → Prop) : Array Value → State → Outcome → State → Prop := va_Qi (fun r (u : Mem × Adr) => post r u.1 u.2) (fun u t => WQ D cA u.2 S u.1 IM t.heap) (AF a IM sz)
def NZI (l : Launch) (y : MethodName) (cc : ByteArray) (n : Nat) (ret : Option FieldType) (fr lo mc ms : Nat) (D : va_G) (cA : ClassId) (a : Adr) (S X : Mem) (sz : Nat) (av : List Value) (post : Int32 → Mem → Adr → Prop) : Prop :=
  Met l y (.code y cc n ret :: GW) { frames := fr, cells := mc, slots := ms, locals := lo } (PY D cA a S X sz av) (QzI D cA a S sz post) mc ms (AF a IM sz)
section LOOKA
variable {p : Program} {l : Launch} {e : Env} {R : Room} {s : State} {m : MethodId} {args : Array Value} {below : List Frame} {meth : Method} {c : Code} {H : Heap} {locs : List Loc} {cells slots mc ms : Nat} {Q : State → Prop}
variable {cc : ByteArray} {nL : Nat} {own : String} {pc : Nat} {ls : Array Slot} {rest : List Value} {D : va_G} {cA : ClassId} {a : Adr} {S X : Mem} {I : Nat → Prop} {H0 : Heap} {A0 : Nat → Prop} {sz : Nat}
theorem rtZi {post : Int32 → Mem → Adr → Prop} {v : Int32} {X1 : Mem} {a1 : Adr} (C0 : CallFix p m c cc nL s args GW own) (hr : meth.sig.returnType = some .int) (hlk : meth.locks = false) (hP : WQ D cA a1 S X1 IM H) (hS : va_S (AF a IM sz) s.heap H locs) (hc : cells ≤ mc) (hs : slots ≤ ms) (hp : post v X1 a1) (hdg : decode cc pc = .ok (.ireturn, 1)) :
    W p l e R s m args below meth c H locs cells slots (MQ below (QzI D cA a S sz post) args s mc ms (AF a IM sz)) (F0 m pc ls [.int v]) :=
  W.widen hc hs (W.iret C0.1 C0.2.1 hr (fun t ht _ => ⟨⟨v, (X1, a1), rfl, hp, by show WQ D cA a1 S X1 IM t.heap; rw [ht]; exact hP⟩, hS.F ht⟩) hS.2.2 hdg hlk)
theorem qVY {y : MethodName} {by_ : ByteArray} {mL fr lo n idx mc1 ms1 : Nat} {ret : Option FieldType} {As : List Value} {Qc : Array Value → State → Outcome → State → Prop} {free : Nat → Prop}
    (hM : Met l y (.code y by_ mL ret :: GW) { frames := fr, cells := mc1, slots := ms1, locals := lo } (PY D cA a S X H.size (.ref (a 20) :: As)) Qc mc1 ms1 free) (C0 : CallFix p m c cc nL s args GW own) (w1 : Cond.methodLink own idx y ∈ GW) (w2 : Cond.instanceMethod y ∈ GW) (w3 : Cond.selects y.cls y y ∈ GW) (w4 : Cond.initialized y.cls ∈ GW) (w5 : Cond.code y by_ mL ret ∈ GW)
    (hyd : y.cls = y.cls ∧ y.cls ≠ "java/lang/invoke/MethodHandle" ∧ y.cls ≠ "java/lang/invoke/VarHandle" ∧ (parseMethodDescriptor y.desc).map (fun d => d.parameters.length) = some n) (hyc : y.cls = RX9) (hR : fr + 1 ≤ R.frames ∧ 8 + (mL + 11) + lo ≤ R.locals) (hK : KK D cA s) (hY : NY s) (hP : WQ D cA a S X IM H)
    (hn : As.length = n) (hls : ls.size = nL) (hrest : (rest.map fun v => v.category).sum ≤ 8) {st : List Value} (hst : st = As.reverse ++ .ref (a 20) :: rest) (hdg : decode cc pc = .ok (.invokevirtual idx, 3)) (hf : cells + mc1 ≤ R.cells ∧ slots + ms1 ≤ R.slots) :
    va_Run p l e R s m args below meth c H locs cells slots mc1 ms1 (F0 m pc ls st) rest (Qc (Value.ref (a 20) :: As).toArray) free := by
  have hcell : va_at D vwCl (a 20, .inr (9, f20 a S X)) H := hP 20 (by decide)
  refine va_runV (As := As) (C := y.cls) (n := n) C0 hM (cwV n C0.2.2.2.2 (gV w1 w2 w3 w4 w5) rfl rfl rfl hyd hR) ⟨PY.blind, va_recv hK.1 hcell.P1 (q0 := 0) (show vwCl[9]? = some (y.cls, TX9, 15) by rw [hyc]; rfl) rfl, fun U hU hW => ⟨rfl, by rw [hU], by rw [hU]; exact hP, hK.warm hW, hY.warm hW⟩⟩ rfl hn hls hst ?_ hdg hf
  show 2 * 0 + _ ≤ 8
  omega
/-- behind a call: what lies elsewhere is as it was -/
theorem hoIF {st : List Value} {post : Int32 → Mem → Mem → Prop} {a0 : Array Value} (hr : va_Run p l e R s m args below meth c H locs cells slots 0 0 (F0 m pc ls st) rest (QqI D cA a I post a0) (AI a I)) (hS : va_S A0 H0 H locs) (hA : ∀ q, AI a I q → A0 q)
    (kk : ∀ (r : Int32) (S1 X1 : Mem) (H1 : Heap) (locs1 : List Loc), post r S1 X1 → WQ D cA a S1 X1 I H1 → (∀ q : Nat, q < H.size → ¬ AI a I q → H1[q]? = H[q]?) → va_S A0 H0 H1 locs1 → W p l e R s m args below meth c H1 locs1 cells slots Q (F0 m (pc + 3) ls (.int r :: rest))) : W p l e R s m args below meth c H locs cells slots Q (F0 m pc ls st) :=
  va_calli hr hS (fun q _ h => hA q h) hA (fun r u t H1 locs1 ht _ hp hB _ hk hS1 => kk r u.1 u.2 H1 locs1 hp (by rw [← ht]; exact hB) hk hS1)
theorem bbX {cG : ClassId} {S0 : Mem} {w : Nat × Nat × Nat × Nat} {idx sz2 : Nat} (C0 : CallFix p m c cc nL s args GW own) (hd : Hd nM a IM) (hw : KA a sz2 w) (hst : Sta S0 S) (hK : KK D cA s) (hAr : ArrOfT s cG (.array .int)) (hP : WQ D cA a S X IM H) (hKB : KB D cA cG S0 w H) (hS : va_S A0 H0 H locs) (hA : ∀ q, AI a IM q → A0 q) (hlink : Cond.methodLink own idx yX9_bringBack ∈ GW) (hls : ls.size = nL) (hR : 1 ≤ R.frames ∧ 8 + (2 + 11) + 20 ≤ R.locals) (hf : cells + 0 ≤ R.cells ∧ slots + 0 ≤ R.slots) (hdg : decode cc pc = .ok (.invokevirtual idx, 3))
    (kk : ∀ (H1 : Heap) (locs1 : List Loc), WQ D cA (aN a w) S0 X IM H1 → va_S A0 H0 H1 locs1 → W p l e R s m args below meth c H1 locs1 cells slots Q (F0 m (pc + 3) ls [])) : W p l e R s m args below meth c H locs cells slots Q (F0 m pc ls [.ref w.1, .ref (a 20)]) := by
  have hcell : va_at D vwCl (a 20, .inr (9, f20 a S X)) H := hP 20 (by decide)
  refine va_callv (va_runV (As := [.ref w.1]) (C := RX9) (n := 1) (rest := []) C0 (c_X9_bringBack l D cA cG a S S0 X sz2 w hd hw hst) (cwV 1 C0.2.2.2.2 (gV hlink im_X9_bringBack se_X9_bringBack in_X9 co_X9_bringBack) rfl rfl rfl ⟨rfl, by decide⟩ hR) ⟨PBk.blind, va_recv hK.1 hcell.P1 (q0 := 0) rfl rfl, fun U hU hW => ⟨rfl, by rw [hU]; exact hP, by rw [hU]; exact hKB, hK.warm hW, arrOfT_moved hW.alike hAr⟩⟩ rfl rfl hls rfl (by show 2 * 0 + 0 ≤ 8; omega) hdg hf) hS (fun q _ h => hA q h) hA (fun u9 t H1 locs1 ht _ _ hB _ _ hS1 => ?_)
  exact kk H1 locs1 (by rw [← ht]; exact hB) hS1
end LOOKA
section CLS
variable {p : Program} {l : Launch} {e : Env} {R : Room} {s : State} {m : MethodId} {args : Array Value} {below : List Frame} {meth : Method} {c : Code} {H : Heap} {locs : List Loc} {cells slots : Nat} {Q : State → Prop}
variable {cc : ByteArray} {nL : Nat} {own : String} {pc : Nat} {ls : Array Slot} {rest : List Value} {D : va_G} {cA : ClassId} {a : Adr} {S X : Mem} {I : Nat → Prop} {H0 : Heap} {A0 : Nat → Prop}
set_option maxHeartbeats 4000000 in
set_option maxRecDepth 100000 in
theorem c_X9_aground (l : Launch) (D : va_G) (cA : ClassId) (a : Adr) (S X : Mem) (sz : Nat) (hd : Hd nM a IM) (x : Int32) (z : Int32) {P : Nat} {L : Nat} {T : Nat} {h : Nat} {F : Int32 → Int32 → Int32} (hnP : S 82 0 = nI P) (hnL : S 81 0 = nI L) (hnT : S 85 0 = nI T) (hT30 : T ≤ 30) (hnH : S 86 0 = nI h) (hhp : h + 400 < 2 ^ 31) (hTW : TW S P L) (hTl : TlW S P) (hFW : FW F S P L) (hWi : WiW S L T) : NZI l yX9_aground cX9_aground 6 (some .int) 7 180 4 178 D cA a S X sz [.ref (a 20), .int x, .int z] (fun r X1 a1 => (X1 87 0 = kd (oneB x (nI P)) (inB z 1 100) (true) 1 2 3 ∧ (kd (oneB x (nI P)) (inB z 1 100) (true) 1 2 3 = 0 → r = agS F S P T h (nv x) (nv z) ∧ S = S) ∧ (¬ kd (oneB x (nI P)) (inB z 1 100) (true) 1 2 3 = 0 → S = S)) ∧ (∀ k, a1 k = a k ∨ sz ≤ a1 k) ∧ Hd nM a1 IM ∧ a1 20 = a 20) := by
  refine yGo (by decide) (Nat.le_of_ble_eq_true rfl) ?_
  intro p e s m args below meth c ls C0 hr hlk h0 hK hY hP hS hl
  obtain ⟨H, hHe⟩ : ∃ H, H = s.heap := ⟨_, rfl⟩
  obtain ⟨locs, hlo⟩ : ∃ L : List Loc, L = [] := ⟨_, rfl⟩
  have hP : WQ D cA a S X IM H := hHe ▸ hP
  have hS : va_S (AF a IM sz) s.heap H locs := by rw [hHe, hlo]; exact hS
  rw [← hHe, ← hlo]
  have hA : ∀ q, AI a IM q → AF a IM sz q := fun _ h => Or.inl h
  obtain ⟨hLnk, hP6, hL8, h17, h16, h8, h3, h2⟩ := id hTW
  refine lv_aload_n C0.1 C0.2.1 dX9_aground_0 rfl (lv_at hl 0 rfl) ?_
  refine lv_iconst (v := 0) C0.1 C0.2.1 dX9_aground_1 (by decide) ?_
  refine p20 C0 hK hP hS hA (hd.1 _ (by decide)) hd.2.2 0 (by decide) fl_X9_40 rfl (by decide +kernel) (x := 0) S (up X 87 (fun _ => 0)) rfl (fun k9 _ h9 => cm_num (fun _ _ => rfl) (fun k9 h9 => up_ne (by omega)) h9) dX9_aground_2 (fun H locs hP hS => ?_)
  have hP : WQ D cA a S (up X 87 (fun _ => 0)) IM H := hP
  refine lv_aload_n C0.1 C0.2.1 dX9_aground_5 rfl (lv_at hl 0 rfl) ?_
  refine lv_iload_n C0.1 C0.2.1 dX9_aground_6 rfl (lv_at hl 1 rfl) ?_
  refine k_X9_isPunt hd sId C0 hK hP hnP hP6 (v := bI (oneB x (nI P))) rfl hS hA hl.1 ml_X9_104 ⟨Nat.le_of_ble_eq_true rfl, Nat.le_of_ble_eq_true rfl⟩ ⟨Nat.le_of_ble_eq_true rfl, Nat.le_of_ble_eq_true rfl⟩ (Nat.le_of_ble_eq_true rfl) dX9_aground_7 (fun H locs hP hS => ?_)
  refine lv_if_ne (tgt := 19) C0.1 C0.2.1 dX9_aground_10 (by decide) (fun c_10 => ?_) (fun c_10 => ?_)
  · have c_10 := bI_ne c_10
    have hc_10 : oneB x (nI P) = true := ((rfl : oneB x (nI P) = oneB x (nI P))).symm.trans c_10
    refine lv_iload_n C0.1 C0.2.1 dX9_aground_19 rfl (lv_at hl 2 rfl) ?_
    refine lv_iconst (v := 1) C0.1 C0.2.1 dX9_aground_20 (by decide) ?_
    refine lv_bipush (v := 100) C0.1 C0.2.1 dX9_aground_21 (by decide) ?_
    refine k_X9_isIn hd s0 C0 hK hP  (v := bI (decide (1 ≤ z) && decide (z ≤ 100))) rfl hS hA hl.1 ml_X9_44 ⟨Nat.le_of_ble_eq_true rfl, Nat.le_of_ble_eq_true rfl⟩ ⟨Nat.le_of_ble_eq_true rfl, Nat.le_of_ble_eq_true rfl⟩ (Nat.le_of_ble_eq_true rfl) dX9_aground_23 (fun H locs hP hS => ?_)
    refine lv_if_ne (tgt := 35) C0.1 C0.2.1 dX9_aground_26 (by decide) (fun c_26 => ?_) (fun c_26 => ?_)
    · have c_26 := bI_ne c_26
      have hc_26 : inB z 1 100 = true := ((rfl : (decide (1 ≤ z) && decide (z ≤ 100)) = inB z 1 100)).symm.trans c_26
      obtain ⟨u, hu, hxe⟩ := one_nat (n := P) (by omega) (show oneB x (nI P) = true from hc_10)
      subst hxe
      obtain ⟨N, hN, hze⟩ := in_nat (m := 100) (by decide) (show inB z 0 (nI 100) = true from in_low hc_26)
      subst hze
      have hSz : sz ≤ H.size := by rw [← h0]; exact hS.1
      refine lv_aload_n C0.1 C0.2.1 dX9_aground_35 rfl (lv_at hl 0 rfl) ?_
      refine va_callr (qVY (n := 0) (As := []) (c_X9_kept l D cA a S (up X 87 (fun _ => 0)) H.size hd) C0 ml_X9_182 im_X9_kept se_X9_kept in_X9 co_X9_kept ⟨rfl, by decide⟩ rfl ⟨Nat.le_of_ble_eq_true rfl, Nat.le_of_ble_eq_true rfl⟩ hK hY hP rfl hl.1 (Nat.le_of_ble_eq_true rfl) rfl dX9_aground_36 ⟨Nat.le_of_ble_eq_true rfl, Nat.le_of_ble_eq_true rfl⟩) hS (fun q _ h => AF.up hS h0 q h) (AF.up hS h0) (fun u9 g9 t9 H9 locs9 ht9 hal9 _ hB9 _ _ hS => ?_)
      obtain ⟨cG, w9⟩ := u9
      obtain ⟨hP, hKB, hw, hAr⟩ := hB9
      rw [ht9] at hP hKB
      have hAr : ArrOfT s cG (.array .int) := arrOfT_moved hal9.symm hAr
      have hw := hw.mono hSz
      obtain ⟨w, hwe⟩ : ∃ w : Nat × Nat × Nat × Nat, w = (g9, w9) := ⟨_, rfl⟩
      have hg9 : g9 = w.1 := by rw [hwe]
      simp only [] at hKB hw
      rw [← hwe] at hKB hw
      rw [hg9]
      refine lv_astore_n (lv' := [(3, .ref w.1), (0, .ref (a 20)), (1, .int (nI u)), (2, .int (nI N))]) C0.1 C0.2.1 dX9_aground_39 rfl hl (by decide) rfl (fun ls hl => ?_)
      refine lv_iconst (v := 0) C0.1 C0.2.1 dX9_aground_40 (by decide) ?_
      refine lv_istore (lv' := [(4, .int 0), (3, .ref w.1), (0, .ref (a 20)), (1, .int (nI u)), (2, .int (nI N))]) C0.1 C0.2.1 dX9_aground_41 hl (by decide) rfl (fun ls hl => ?_)
      have tail : ∀ (v : Int32) (i : Nat) (Xv : Mem), v = agS F S P T h u N → Xv 87 0 = 0 → ∀ (H : Heap) (locs : List Loc) (ls : Array Slot), WQ D cA a (hrsM F S P T h i).1 Xv IM H → KB D cA cG S w H → va_S (AF a IM sz) s.heap H locs → lv_has ls 6 [(3, .ref w.1), (0, .ref (a 20))] → W p l e { frames := 7, cells := 4, slots := 178, locals := 180 } s m args below meth c H locs (0 + 4) (0 + 178) (MQ below (QzI D cA a S sz (fun r X1 a1 => (X1 87 0 = kd (oneB (nI u) (nI P)) (inB (nI N) 1 100) (true) 1 2 3 ∧ (kd (oneB (nI u) (nI P)) (inB (nI N) 1 100) (true) 1 2 3 = 0 → r = agS F S P T h (nv (nI u)) (nv (nI N)) ∧ S = S) ∧ (¬ kd (oneB (nI u) (nI P)) (inB (nI N) 1 100) (true) 1 2 3 = 0 → S = S)) ∧ (∀ k, a1 k = a k ∨ sz ≤ a1 k) ∧ Hd nM a1 IM ∧ a1 20 = a 20)) args s 4 178 (AF a IM sz)) (F0 m 82 ls [.int v]) := by
        intro v i Xv hv hX0 H locs ls hP hKB hS hl
        refine lv_istore (lv' := [(5, .int v), (3, .ref w.1), (0, .ref (a 20))]) C0.1 C0.2.1 dX9_aground_82 hl (by decide) rfl (fun ls hl => ?_)
        refine lv_aload_n C0.1 C0.2.1 dX9_aground_84 rfl (lv_at hl 2 rfl) ?_
        refine lv_aload_n C0.1 C0.2.1 dX9_aground_85 rfl (lv_at hl 1 rfl) ?_
        refine bbX C0 hd hw (hrsM_sta F S P T h i) hK hAr hP hKB hS hA ml_X9_186 hl.1 ⟨Nat.le_of_ble_eq_true rfl, Nat.le_of_ble_eq_true rfl⟩ ⟨Nat.le_of_ble_eq_true rfl, Nat.le_of_ble_eq_true rfl⟩ dX9_aground_86 (fun H locs hP hS => ?_)
        refine lv_iload C0.1 C0.2.1 dX9_aground_89 (lv_at hl 0 rfl) ?_
        exact rtZi C0 hr hlk hP hS (Nat.le_of_ble_eq_true rfl) (Nat.le_of_ble_eq_true rfl) ⟨pok (kd_0 (by simp only [hc_10, hc_26, Bool.and_true, Bool.true_and]) (by simp only [hc_10, hc_26, Bool.and_true, Bool.true_and]) rfl) hX0 ⟨by rw [nv_nI (by omega), nv_nI (by omega)]; exact hv, rfl⟩, aN_or hw, aN_hd hd hw, rfl⟩ dX9_aground_91
      have loop43 : ∀ (n i : Nat) (Xv : Mem), i ≤ N → N + 1 ≤ i + n → Xv 87 0 = 0 → agS F S P T h u N = fndF (fun k => agrS (hrsM F S P T h k).1 u (h + k)) i (N + 1 - i) → ∀ (H : Heap) (locs : List Loc) (ls : Array Slot), WQ D cA a (hrsM F S P T h i).1 Xv IM H → KB D cA cG S w H → va_S (AF a IM sz) s.heap H locs → lv_has ls 6 [(4, .int (nI i)), (3, .ref w.1), (0, .ref (a 20)), (1, .int (nI u)), (2, .int (nI N))] → W p l e { frames := 7, cells := 4, slots := 178, locals := 180 } s m args below meth c H locs (0 + 4) (0 + 178) (MQ below (QzI D cA a S sz (fun r X1 a1 => (X1 87 0 = kd (oneB (nI u) (nI P)) (inB (nI N) 1 100) (true) 1 2 3 ∧ (kd (oneB (nI u) (nI P)) (inB (nI N) 1 100) (true) 1 2 3 = 0 → r = agS F S P T h (nv (nI u)) (nv (nI N)) ∧ S = S) ∧ (¬ kd (oneB (nI u) (nI P)) (inB (nI N) 1 100) (true) 1 2 3 = 0 → S = S)) ∧ (∀ k, a1 k = a k ∨ sz ≤ a1 k) ∧ Hd nM a1 IM ∧ a1 20 = a 20)) args s 4 178 (AF a IM sz)) (F0 m 43 ls []) := by
        intro n
        induction n with
        | zero => intro i Xv hi hf hX0 hfd; exfalso; omega
        | succ n ih =>
          intro i Xv hi hf hX0 hfd H locs ls hP hKB hS hl
          obtain ⟨ce, hce196, hce⟩ := (hrsM_TW (F := F) (T := T) (h := h) hTW i).2.2.2.2.1 u hu
          have h68 : ∀ (H : Heap) (locs : List Loc), (i < N → agrS (hrsM F S P T h i).1 u (h + i) = true) → WQ D cA a (hrsM F S P T h i).1 Xv IM H → KB D cA cG S w H → va_S (AF a IM sz) s.heap H locs → W p l e { frames := 7, cells := 4, slots := 178, locals := 180 } s m args below meth c H locs (0 + 4) (0 + 178) (MQ below (QzI D cA a S sz (fun r X1 a1 => (X1 87 0 = kd (oneB (nI u) (nI P)) (inB (nI N) 1 100) (true) 1 2 3 ∧ (kd (oneB (nI u) (nI P)) (inB (nI N) 1 100) (true) 1 2 3 = 0 → r = agS F S P T h (nv (nI u)) (nv (nI N)) ∧ S = S) ∧ (¬ kd (oneB (nI u) (nI P)) (inB (nI N) 1 100) (true) 1 2 3 = 0 → S = S)) ∧ (∀ k, a1 k = a k ∨ sz ≤ a1 k) ∧ Hd nM a1 IM ∧ a1 20 = a 20)) args s 4 178 (AF a IM sz)) (F0 m 68 ls []) := by
            intro H locs hT hP hKB hS
            refine lv_aload_n C0.1 C0.2.1 dX9_aground_68 rfl (lv_at hl 2 rfl) ?_
            refine lv_iload_n C0.1 C0.2.1 dX9_aground_69 rfl (lv_at hl 3 rfl) ?_
            refine hoIF (qV (n := 1) (c_X9_isAground l D cA a (hrsM F S P T h i).1 Xv IM hd u (by omega) hce196 hce (h := h + i) (hrsM_86 hnH i) (by omega)) C0 ml_X9_122 im_X9_isAground se_X9_isAground in_X9 co_X9_isAground ⟨rfl, by decide⟩ ⟨Nat.le_of_ble_eq_true rfl, Nat.le_of_ble_eq_true rfl⟩ hK hP (hd.1 _ (by decide)) rfl rfl rfl hl.1 (Nat.le_of_ble_eq_true rfl) rfl dX9_aground_70 ⟨Nat.le_of_ble_eq_true rfl, Nat.le_of_ble_eq_true rfl⟩) hS hA (fun r9 S9 X9 H locs hp hP hk hS => ?_)
            obtain ⟨e1, e2, e3⟩ := hp
            rw [e2, e3] at hP
            rw [e1]
            have hKB := hKB.kept hw hk
            refine lv_if_eq (tgt := 81) C0.1 C0.2.1 dX9_aground_73 (by decide) (fun c_73 => ?_) (fun c_73 => ?_)
            · have c_73 := bI_eq c_73
              have hiN : i = N := by apply Classical.byContradiction; intro q9; have h9 := hT (by omega); unfold agrS at h9; rw [c_73] at h9; cases h9
              refine lv_iconst (v := (-1)) C0.1 C0.2.1 dX9_aground_81 (by decide) ?_
              exact tail _ i Xv (by rw [hfd, show N + 1 - i = 0 + 1 by omega, fndF_no (P := fun k => agrS (hrsM F S P T h k).1 u (h + k)) (by show ¬ agrS _ u (h + i) = true; unfold agrS; rw [c_73]; exact Bool.false_ne_true)]; rfl) hX0 _ _ _ hP hKB hS (lv_sub hl [1, 2] rfl)
            · have c_73 := bI_ne c_73
              refine lv_iload C0.1 C0.2.1 dX9_aground_76 (lv_at hl 0 rfl) ?_
              refine lv_goto (tgt := 82) C0.1 C0.2.1 dX9_aground_78 (by decide) ?_
              exact tail _ i Xv (by rw [hfd, show N + 1 - i = N - i + 1 by omega, fndF_yes (P := fun k => agrS (hrsM F S P T h k).1 u (h + k)) (show agrS _ u (h + i) = true from c_73)]) hX0 _ _ _ hP hKB hS (lv_sub hl [1, 2] rfl)
          refine lv_iload C0.1 C0.2.1 dX9_aground_43 (lv_at hl 0 rfl) ?_
          refine lv_iload_n C0.1 C0.2.1 dX9_aground_45 rfl (lv_at hl 4 rfl) ?_
          refine lv_icmp_ge (tgt := 68) C0.1 C0.2.1 dX9_aground_46 (by decide) (fun c_46 => ?_) (fun c_46 => ?_)
          · exact h68 _ _ (fun q9 => absurd ((nI_leI (by omega) (by omega)).mp c_46) (by omega)) hP hKB hS
          · have hlt : i < N := Nat.not_le.mp fun q => c_46 (nI_le q (by omega))
            refine lv_aload_n C0.1 C0.2.1 dX9_aground_49 rfl (lv_at hl 2 rfl) ?_
            refine lv_iload_n C0.1 C0.2.1 dX9_aground_50 rfl (lv_at hl 3 rfl) ?_
            refine hoIF (qV (n := 1) (c_X9_isAground l D cA a (hrsM F S P T h i).1 Xv IM hd u (by omega) hce196 hce (h := h + i) (hrsM_86 hnH i) (by omega)) C0 ml_X9_122 im_X9_isAground se_X9_isAground in_X9 co_X9_isAground ⟨rfl, by decide⟩ ⟨Nat.le_of_ble_eq_true rfl, Nat.le_of_ble_eq_true rfl⟩ hK hP (hd.1 _ (by decide)) rfl rfl rfl hl.1 (Nat.le_of_ble_eq_true rfl) rfl dX9_aground_51 ⟨Nat.le_of_ble_eq_true rfl, Nat.le_of_ble_eq_true rfl⟩) hS hA (fun r9 S9 X9 H locs hp hP hk hS => ?_)
            obtain ⟨e1, e2, e3⟩ := hp
            rw [e2, e3] at hP
            rw [e1]
            have hKB := hKB.kept hw hk
            refine lv_if_ne (tgt := 68) C0.1 C0.2.1 dX9_aground_54 (by decide) (fun c_54 => ?_) (fun c_54 => ?_)
            · exact h68 _ _ (fun _ => bI_ne c_54) hP hKB hS
            · have c_54 := bI_eq c_54
              refine lv_aload_n C0.1 C0.2.1 dX9_aground_57 rfl (lv_at hl 2 rfl) ?_
              refine hoIF (qV (n := 0) (c_X9_hourOn l D cA a (hrsM F S P T h i).1 Xv IM hd (F := F) (P := P) (L := L) (T := T) ((congrFun (hrsM_sta F S P T h i 82 (by omega)) 0).trans hnP) ((congrFun (hrsM_sta F S P T h i 81 (by omega)) 0).trans hnL) ((congrFun (hrsM_sta F S P T h i 85 (by omega)) 0).trans hnT) hT30 (h := h + i) (hrsM_86 hnH i) (by omega) (hrsM_TW hTW i) (hTl.sta (hrsM_sta F S P T h i)) (hFW.sta (hrsM_sta F S P T h i)) (hWi.sta (hrsM_sta F S P T h i))) C0 ml_X9_168 im_X9_hourOn se_X9_hourOn in_X9 co_X9_hourOn ⟨rfl, by decide⟩ ⟨Nat.le_of_ble_eq_true rfl, Nat.le_of_ble_eq_true rfl⟩ hK hP (hd.1 _ (by decide)) rfl rfl rfl hl.1 (Nat.le_of_ble_eq_true rfl) rfl dX9_aground_58 ⟨Nat.le_of_ble_eq_true rfl, Nat.le_of_ble_eq_true rfl⟩) hS hA (fun r9 S9 X9 H locs hp hP hk hS => ?_)
              obtain ⟨-, e2, hXk⟩ := hp
              rw [e2] at hP
              have hKB := hKB.kept hw hk
              have hP : WQ D cA a (hrsM F S P T h (i + 1)).1 X9 IM H := hP
              refine lv_pop C0.1 C0.2.1 dX9_aground_61 rfl ?_
              refine lv_iinc (v := nI (i + 1)) (lv' := [(4, .int (nI (i + 1))), (3, .ref w.1), (0, .ref (a 20)), (1, .int (nI u)), (2, .int (nI N))]) C0.1 C0.2.1 dX9_aground_62 hl (k := 0) rfl (nI_1 _) (by decide) rfl (fun ls hl => ?_)
              refine lv_goto (tgt := 43) C0.1 C0.2.1 dX9_aground_65 (by decide) ?_
              exact ih (i + 1) X9 (by omega) (by omega) ((congrFun (hXk 87 (by decide) (by decide) (by decide)) 0).trans hX0) (by rw [hfd, show N + 1 - i = N + 1 - (i + 1) + 1 by omega, fndF_no (P := fun k => agrS (hrsM F S P T h k).1 u (h + k)) (by show ¬ agrS _ u (h + i) = true; unfold agrS; rw [c_54]; exact Bool.false_ne_true)]) _ _ _ hP hKB hS hl
      have hP : WQ D cA a (hrsM F S P T h 0).1 (up X 87 (fun _ => 0)) IM H9 := hP
      exact loop43 (N + 1) 0 _ (by omega) (by omega) rfl rfl _ _ _ hP hKB hS (lv_sub hl [0, 1, 2, 3, 4] rfl)
    · have c_26 := bI_eq c_26
      have hc_26 : inB z 1 100 = false := ((rfl : (decide (1 ≤ z) && decide (z ≤ 100)) = inB z 1 100)).symm.trans c_26
      refine lv_aload_n C0.1 C0.2.1 dX9_aground_29 rfl (lv_at hl 0 rfl) ?_
      refine lv_iconst (v := 2) C0.1 C0.2.1 dX9_aground_30 (by decide) ?_
      refine k_X9_fail hd sId C0 hK hP  (v := 0) rfl hS hA hl.1 ml_X9_73 ⟨Nat.le_of_ble_eq_true rfl, Nat.le_of_ble_eq_true rfl⟩ ⟨Nat.le_of_ble_eq_true rfl, Nat.le_of_ble_eq_true rfl⟩ (Nat.le_of_ble_eq_true rfl) dX9_aground_31 (fun H locs hP hS => ?_)
      have hP : WQ D cA a S (up X 87 (fun _ => 2)) IM H := WQ.congr (show WQ D cA a S (up (up X 87 (fun _ => 0)) 87 (fun _ => 2)) IM H from hP) (fun _ => rfl) (fun k => by
          by_cases h_87 : k = 87
          · subst h_87; rfl
          simp only [up, h_87, if_false])
      exact rtZi C0 hr hlk hP hS (Nat.le_of_ble_eq_true rfl) (Nat.le_of_ble_eq_true rfl) ⟨(pfail (kd_2 (by simp only [hc_10, hc_26, Bool.and_true, Bool.true_and, Bool.and_false, Bool.false_and, Bool.and_self]) (by simp only [hc_10, hc_26, Bool.and_true, Bool.true_and, Bool.and_false, Bool.false_and, Bool.and_self])) rfl (by decide) rfl), fun _ => Or.inl rfl, hd, rfl⟩ dX9_aground_34
  · have c_10 := bI_eq c_10
    have hc_10 : oneB x (nI P) = false := ((rfl : oneB x (nI P) = oneB x (nI P))).symm.trans c_10
    refine lv_aload_n C0.1 C0.2.1 dX9_aground_13 rfl (lv_at hl 0 rfl) ?_
    refine lv_iconst (v := 1) C0.1 C0.2.1 dX9_aground_14 (by decide) ?_
    refine k_X9_fail hd sId C0 hK hP  (v := 0) rfl hS hA hl.1 ml_X9_73 ⟨Nat.le_of_ble_eq_true rfl, Nat.le_of_ble_eq_true rfl⟩ ⟨Nat.le_of_ble_eq_true rfl, Nat.le_of_ble_eq_true rfl⟩ (Nat.le_of_ble_eq_true rfl) dX9_aground_15 (fun H locs hP hS => ?_)
    have hP : WQ D cA a S (up X 87 (fun _ => 1)) IM H := WQ.congr (show WQ D cA a S (up (up X 87 (fun _ => 0)) 87 (fun _ => 1)) IM H from hP) (fun _ => rfl) (fun k => by
        by_cases h_87 : k = 87
        · subst h_87; rfl
        simp only [up, h_87, if_false])
    exact rtZi C0 hr hlk hP hS (Nat.le_of_ble_eq_true rfl) (Nat.le_of_ble_eq_true rfl) ⟨(pfail (kd_1 (by simp only [hc_10, Bool.and_true, Bool.true_and, Bool.and_false, Bool.false_and, Bool.and_self])) rfl (by decide) rfl), fun _ => Or.inl rfl, hd, rfl⟩ dX9_aground_18
set_option maxHeartbeats 4000000 in
set_option maxRecDepth 100000 in
theorem c_X9_arrives (l : Launch) (D : va_G) (cA : ClassId) (a : Adr) (S X : Mem) (sz : Nat) (hd : Hd nM a IM) (x : Int32) {P : Nat} {L : Nat} {T : Nat} {h : Nat} {F : Int32 → Int32 → Int32} (hnP : S 82 0 = nI P) (hnL : S 81 0 = nI L) (hnT : S 85 0 = nI T) (hT30 : T ≤ 30) (hnH : S 86 0 = nI h) (hhp : h + 400 < 2 ^ 31) (hTW : TW S P L) (hTl : TlW S P) (hFW : FW F S P L) (hWi : WiW S L T) : NZI l yX9_arrives cX9_arrives 4 (some .int) 7 180 4 178 D cA a S X sz [.ref (a 20), .int x] (fun r X1 a1 => (X1 87 0 = kd (oneB x (nI T)) (true) (true) 1 2 3 ∧ (kd (oneB x (nI T)) (true) (true) 1 2 3 = 0 → r = arS F S P T h (nv x) ∧ S = S) ∧ (¬ kd (oneB x (nI T)) (true) (true) 1 2 3 = 0 → S = S)) ∧ (∀ k, a1 k = a k ∨ sz ≤ a1 k) ∧ Hd nM a1 IM ∧ a1 20 = a 20) := by
  refine yGo (by decide) (Nat.le_of_ble_eq_true rfl) ?_
  intro p e s m args below meth c ls C0 hr hlk h0 hK hY hP hS hl
  obtain ⟨H, hHe⟩ : ∃ H, H = s.heap := ⟨_, rfl⟩
  obtain ⟨locs, hlo⟩ : ∃ L : List Loc, L = [] := ⟨_, rfl⟩
  have hP : WQ D cA a S X IM H := hHe ▸ hP
  have hS : va_S (AF a IM sz) s.heap H locs := by rw [hHe, hlo]; exact hS
  rw [← hHe, ← hlo]
  have hA : ∀ q, AI a IM q → AF a IM sz q := fun _ h => Or.inl h
  obtain ⟨hLnk, hP6, hL8, h17, h16, h8, h3, h2⟩ := id hTW
  refine lv_aload_n C0.1 C0.2.1 dX9_arrives_0 rfl (lv_at hl 0 rfl) ?_
  refine lv_iconst (v := 0) C0.1 C0.2.1 dX9_arrives_1 (by decide) ?_
  refine p20 C0 hK hP hS hA (hd.1 _ (by decide)) hd.2.2 0 (by decide) fl_X9_40 rfl (by decide +kernel) (x := 0) S (up X 87 (fun _ => 0)) rfl (fun k9 _ h9 => cm_num (fun _ _ => rfl) (fun k9 h9 => up_ne (by omega)) h9) dX9_arrives_2 (fun H locs hP hS => ?_)
  have hP : WQ D cA a S (up X 87 (fun _ => 0)) IM H := hP
  refine lv_iload_n C0.1 C0.2.1 dX9_arrives_5 rfl (lv_at hl 1 rfl) ?_
  refine lv_iconst (v := 0) C0.1 C0.2.1 dX9_arrives_6 (by decide) ?_
  refine lv_aload_n C0.1 C0.2.1 dX9_arrives_7 rfl (lv_at hl 0 rfl) ?_
  refine g20i (v := nI T) C0 hK hP (hd.1 _ (by decide)) 8 (by decide) fl_X9_113 rfl hnT dX9_arrives_8 ?_
  refine lv_iconst (v := 1) C0.1 C0.2.1 dX9_arrives_11 (by decide) ?_
  refine lv_isub C0.1 C0.2.1 dX9_arrives_12 ?_
  refine k_X9_isIn hd s0 C0 hK hP  (v := bI (decide (0 ≤ x) && decide (x ≤ ((nI T) - 1)))) rfl hS hA hl.1 ml_X9_44 ⟨Nat.le_of_ble_eq_true rfl, Nat.le_of_ble_eq_true rfl⟩ ⟨Nat.le_of_ble_eq_true rfl, Nat.le_of_ble_eq_true rfl⟩ (Nat.le_of_ble_eq_true rfl) dX9_arrives_13 (fun H locs hP hS => ?_)
  refine lv_if_ne (tgt := 25) C0.1 C0.2.1 dX9_arrives_16 (by decide) (fun c_16 => ?_) (fun c_16 => ?_)
  · have c_16 := bI_ne c_16
    have hc_16 : oneB x (nI T) = true := (one_pred (x := x) (n := T) (by omega)).symm.trans c_16
    obtain ⟨t, ht, hxe⟩ := one_nat (n := T) (by omega) (show oneB x (nI T) = true from hc_16)
    subst hxe
    have hSz : sz ≤ H.size := by rw [← h0]; exact hS.1
    refine lv_aload_n C0.1 C0.2.1 dX9_arrives_25 rfl (lv_at hl 0 rfl) ?_
    refine va_callr (qVY (n := 0) (As := []) (c_X9_kept l D cA a S (up X 87 (fun _ => 0)) H.size hd) C0 ml_X9_182 im_X9_kept se_X9_kept in_X9 co_X9_kept ⟨rfl, by decide⟩ rfl ⟨Nat.le_of_ble_eq_true rfl, Nat.le_of_ble_eq_true rfl⟩ hK hY hP rfl hl.1 (Nat.le_of_ble_eq_true rfl) rfl dX9_arrives_26 ⟨Nat.le_of_ble_eq_true rfl, Nat.le_of_ble_eq_true rfl⟩) hS (fun q _ h => AF.up hS h0 q h) (AF.up hS h0) (fun u9 g9 t9 H9 locs9 ht9 hal9 _ hB9 _ _ hS => ?_)
    obtain ⟨cG, w9⟩ := u9
    obtain ⟨hP, hKB, hw, hAr⟩ := hB9
    rw [ht9] at hP hKB
    have hAr : ArrOfT s cG (.array .int) := arrOfT_moved hal9.symm hAr
    have hw := hw.mono hSz
    obtain ⟨w, hwe⟩ : ∃ w : Nat × Nat × Nat × Nat, w = (g9, w9) := ⟨_, rfl⟩
    have hg9 : g9 = w.1 := by rw [hwe]
    simp only [] at hKB hw
    rw [← hwe] at hKB hw
    rw [hg9]
    refine lv_astore_n (lv' := [(2, .ref w.1), (0, .ref (a 20)), (1, .int (nI t))]) C0.1 C0.2.1 dX9_arrives_29 rfl hl (by decide) rfl (fun ls hl => ?_)
    refine lv_iconst (v := 0) C0.1 C0.2.1 dX9_arrives_30 (by decide) ?_
    refine lv_istore_n (lv' := [(3, .int 0), (2, .ref w.1), (0, .ref (a 20)), (1, .int (nI t))]) C0.1 C0.2.1 dX9_arrives_31 rfl hl (by decide) rfl (fun ls hl => ?_)
    have loop32 : ∀ (n i : Nat) (Xv : Mem), i ≤ 400 → 401 ≤ i + n → Xv 87 0 = 0 → arS F S P T h t = arF F S P T h t i (400 - i) → ∀ (H : Heap) (locs : List Loc) (ls : Array Slot), WQ D cA a (hrsM F S P T h i).1 Xv IM H → KB D cA cG S w H → va_S (AF a IM sz) s.heap H locs → lv_has ls 4 [(3, .int (nI i)), (2, .ref w.1), (0, .ref (a 20)), (1, .int (nI t))] → W p l e { frames := 7, cells := 4, slots := 178, locals := 180 } s m args below meth c H locs (0 + 4) (0 + 178) (MQ below (QzI D cA a S sz (fun r X1 a1 => (X1 87 0 = kd (oneB (nI t) (nI T)) (true) (true) 1 2 3 ∧ (kd (oneB (nI t) (nI T)) (true) (true) 1 2 3 = 0 → r = arS F S P T h (nv (nI t)) ∧ S = S) ∧ (¬ kd (oneB (nI t) (nI T)) (true) (true) 1 2 3 = 0 → S = S)) ∧ (∀ k, a1 k = a k ∨ sz ≤ a1 k) ∧ Hd nM a1 IM ∧ a1 20 = a 20)) args s 4 178 (AF a IM sz)) (F0 m 32 ls []) := by
      intro n
      induction n with
      | zero => intro i Xv hi hf hX0 hfd; exfalso; omega
      | succ n ih =>
        intro i Xv hi hf hX0 hfd H locs ls hP hKB hS hl
        have h58 : ∀ (H : Heap) (locs : List Loc), arS F S P T h t = (hrsM F S P T h i).1 24 t → WQ D cA a (hrsM F S P T h i).1 Xv IM H → KB D cA cG S w H → va_S (AF a IM sz) s.heap H locs → W p l e { frames := 7, cells := 4, slots := 178, locals := 180 } s m args below meth c H locs (0 + 4) (0 + 178) (MQ below (QzI D cA a S sz (fun r X1 a1 => (X1 87 0 = kd (oneB (nI t) (nI T)) (true) (true) 1 2 3 ∧ (kd (oneB (nI t) (nI T)) (true) (true) 1 2 3 = 0 → r = arS F S P T h (nv (nI t)) ∧ S = S) ∧ (¬ kd (oneB (nI t) (nI T)) (true) (true) 1 2 3 = 0 → S = S)) ∧ (∀ k, a1 k = a k ∨ sz ≤ a1 k) ∧ Hd nM a1 IM ∧ a1 20 = a 20)) args s 4 178 (AF a IM sz)) (F0 m 58 ls []) := by
          intro H locs hT hP hKB hS
          refine lv_aload_n C0.1 C0.2.1 dX9_arrives_58 rfl (lv_at hl 2 rfl) ?_
          refine lv_iload_n C0.1 C0.2.1 dX9_arrives_59 rfl (lv_at hl 3 rfl) ?_
          refine lv_iconst (v := 4) C0.1 C0.2.1 dX9_arrives_60 (by decide) ?_
          refine hoIF (qV (n := 2) (c_X9_who_4 l D cA a (hrsM F S P T h i).1 Xv IM hd t (by omega)) C0 ml_X9_116 im_X9_who se_X9_who in_X9 co_X9_who ⟨rfl, by decide⟩ ⟨Nat.le_of_ble_eq_true rfl, Nat.le_of_ble_eq_true rfl⟩ hK hP (hd.1 _ (by decide)) rfl rfl rfl hl.1 (Nat.le_of_ble_eq_true rfl) rfl dX9_arrives_61 ⟨Nat.le_of_ble_eq_true rfl, Nat.le_of_ble_eq_true rfl⟩) hS hA (fun r9 S9 X9 H locs hp hP hk hS => ?_)
          obtain ⟨e1, e2, e3⟩ := hp
          rw [e2, e3] at hP
          rw [e1]
          have hKB := hKB.kept hw hk
          refine lv_istore_n (lv' := [(3, .int ((hrsM F S P T h i).1 24 t)), (2, .ref w.1), (0, .ref (a 20)), (1, .int (nI t))]) C0.1 C0.2.1 dX9_arrives_64 rfl hl (by decide) rfl (fun ls hl => ?_)
          refine lv_aload_n C0.1 C0.2.1 dX9_arrives_65 rfl (lv_at hl 2 rfl) ?_
          refine lv_aload_n C0.1 C0.2.1 dX9_arrives_66 rfl (lv_at hl 1 rfl) ?_
          refine bbX C0 hd hw (hrsM_sta F S P T h i) hK hAr hP hKB hS hA ml_X9_186 hl.1 ⟨Nat.le_of_ble_eq_true rfl, Nat.le_of_ble_eq_true rfl⟩ ⟨Nat.le_of_ble_eq_true rfl, Nat.le_of_ble_eq_true rfl⟩ dX9_arrives_67 (fun H locs hP hS => ?_)
          refine lv_iload_n C0.1 C0.2.1 dX9_arrives_70 rfl (lv_at hl 0 rfl) ?_
          exact rtZi C0 hr hlk hP hS (Nat.le_of_ble_eq_true rfl) (Nat.le_of_ble_eq_true rfl) ⟨pok (kd_0 (by simp only [hc_16]) rfl rfl) hX0 ⟨by rw [nv_nI (by omega)]; exact hT.symm, rfl⟩, aN_or hw, aN_hd hd hw, rfl⟩ dX9_arrives_71
        refine lv_iload_n C0.1 C0.2.1 dX9_arrives_32 rfl (lv_at hl 0 rfl) ?_
        refine lv_sipush (v := 400) C0.1 C0.2.1 dX9_arrives_33 (by decide) ?_
        refine lv_icmp_ge (tgt := 58) C0.1 C0.2.1 dX9_arrives_36 (by decide) (fun c_36 => ?_) (fun c_36 => ?_)
        · have hge : 400 ≤ i := (nI_leI (a := 400) (by omega) (by omega)).mp c_36
          exact h58 _ _ (hfd.trans (by rw [show 400 - i = 0 by omega]; rfl)) hP hKB hS
        · have hlt : i < 400 := Nat.not_le.mp fun q => c_36 (nI_le (a := 400) q (by omega))
          refine lv_aload_n C0.1 C0.2.1 dX9_arrives_39 rfl (lv_at hl 2 rfl) ?_
          refine lv_iload_n C0.1 C0.2.1 dX9_arrives_40 rfl (lv_at hl 3 rfl) ?_
          refine hoIF (qV (n := 1) (c_X9_hasCome l D cA a (hrsM F S P T h i).1 Xv IM hd t (by omega)) C0 ml_X9_144 im_X9_hasCome se_X9_hasCome in_X9 co_X9_hasCome ⟨rfl, by decide⟩ ⟨Nat.le_of_ble_eq_true rfl, Nat.le_of_ble_eq_true rfl⟩ hK hP (hd.1 _ (by decide)) rfl rfl rfl hl.1 (Nat.le_of_ble_eq_true rfl) rfl dX9_arrives_41 ⟨Nat.le_of_ble_eq_true rfl, Nat.le_of_ble_eq_true rfl⟩) hS hA (fun r9 S9 X9 H locs hp hP hk hS => ?_)
          obtain ⟨e1, e2, e3⟩ := hp
          rw [e2, e3] at hP
          rw [e1]
          have hKB := hKB.kept hw hk
          refine lv_if_ne (tgt := 58) C0.1 C0.2.1 dX9_arrives_44 (by decide) (fun c_44 => ?_) (fun c_44 => ?_)
          · exact h58 _ _ (hfd.trans (arF_yes (show comS _ t = true from bI_ne c_44))) hP hKB hS
          · have c_44 := bI_eq c_44
            refine lv_aload_n C0.1 C0.2.1 dX9_arrives_47 rfl (lv_at hl 2 rfl) ?_
            refine hoIF (qV (n := 0) (c_X9_hourOn l D cA a (hrsM F S P T h i).1 Xv IM hd (F := F) (P := P) (L := L) (T := T) ((congrFun (hrsM_sta F S P T h i 82 (by omega)) 0).trans hnP) ((congrFun (hrsM_sta F S P T h i 81 (by omega)) 0).trans hnL) ((congrFun (hrsM_sta F S P T h i 85 (by omega)) 0).trans hnT) hT30 (h := h + i) (hrsM_86 hnH i) (by omega) (hrsM_TW hTW i) (hTl.sta (hrsM_sta F S P T h i)) (hFW.sta (hrsM_sta F S P T h i)) (hWi.sta (hrsM_sta F S P T h i))) C0 ml_X9_168 im_X9_hourOn se_X9_hourOn in_X9 co_X9_hourOn ⟨rfl, by decide⟩ ⟨Nat.le_of_ble_eq_true rfl, Nat.le_of_ble_eq_true rfl⟩ hK hP (hd.1 _ (by decide)) rfl rfl rfl hl.1 (Nat.le_of_ble_eq_true rfl) rfl dX9_arrives_48 ⟨Nat.le_of_ble_eq_true rfl, Nat.le_of_ble_eq_true rfl⟩) hS hA (fun r9 S9 X9 H locs hp hP hk hS => ?_)
            obtain ⟨-, e2, hXk⟩ := hp
            rw [e2] at hP
            have hKB := hKB.kept hw hk
            have hP : WQ D cA a (hrsM F S P T h (i + 1)).1 X9 IM H := hP
            refine lv_pop C0.1 C0.2.1 dX9_arrives_51 rfl ?_
            refine lv_iinc (v := nI (i + 1)) (lv' := [(3, .int (nI (i + 1))), (2, .ref w.1), (0, .ref (a 20)), (1, .int (nI t))]) C0.1 C0.2.1 dX9_arrives_52 hl (k := 0) rfl (nI_1 _) (by decide) rfl (fun ls hl => ?_)
            refine lv_goto (tgt := 32) C0.1 C0.2.1 dX9_arrives_55 (by decide) ?_
            exact ih (i + 1) X9 (by omega) (by omega) ((congrFun (hXk 87 (by decide) (by decide) (by decide)) 0).trans hX0) (hfd.trans (by rw [show 400 - i = 400 - (i + 1) + 1 by omega]; exact if_neg (by show ¬ comS _ t = true; unfold comS; rw [c_44]; exact Bool.false_ne_true))) _ _ _ hP hKB hS hl
    have hP : WQ D cA a (hrsM F S P T h 0).1 (up X 87 (fun _ => 0)) IM H9 := hP
    exact loop32 401 0 _ (by omega) (by omega) rfl rfl _ _ _ hP hKB hS (lv_sub hl [0, 1, 2, 3] rfl)
  · have c_16 := bI_eq c_16
    have hc_16 : oneB x (nI T) = false := (one_pred (x := x) (n := T) (by omega)).symm.trans c_16
    refine lv_aload_n C0.1 C0.2.1 dX9_arrives_19 rfl (lv_at hl 0 rfl) ?_
    refine lv_iconst (v := 1) C0.1 C0.2.1 dX9_arrives_20 (by decide) ?_
    refine k_X9_fail hd sId C0 hK hP  (v := 0) rfl hS hA hl.1 ml_X9_73 ⟨Nat.le_of_ble_eq_true rfl, Nat.le_of_ble_eq_true rfl⟩ ⟨Nat.le_of_ble_eq_true rfl, Nat.le_of_ble_eq_true rfl⟩ (Nat.le_of_ble_eq_true rfl) dX9_arrives_21 (fun H locs hP hS => ?_)
    have hP : WQ D cA a S (up X 87 (fun _ => 1)) IM H := WQ.congr (show WQ D cA a S (up (up X 87 (fun _ => 0)) 87 (fun _ => 1)) IM H from hP) (fun _ => rfl) (fun k => by
        by_cases h_87 : k = 87
        · subst h_87; rfl
        simp only [up, h_87, if_false])
    exact rtZi C0 hr hlk hP hS (Nat.le_of_ble_eq_true rfl) (Nat.le_of_ble_eq_true rfl) ⟨(pfail (kd_1 (by simp only [hc_16, Bool.and_true, Bool.true_and, Bool.and_false, Bool.false_and, Bool.and_self])) rfl (by decide) rfl), fun _ => Or.inl rfl, hd, rfl⟩ dX9_arrives_24
end CLS
