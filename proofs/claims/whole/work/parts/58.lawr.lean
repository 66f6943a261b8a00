/-! THE LAW'S ROWS. -/
/-- the two worlds and the cell of the answer lie apart, and above n0 -/
def AP (a b : Adr) (og n0 : Nat) : Prop := ∀ k, IM k → (∀ j, IF j → b k ≠ a j) ∧ b k ≠ og ∧ n0 ≤ b k
theorem AP.new {a b b1 : Adr} {og n0 sz : Nat} (h : AP a b og n0) (hn : n0 ≤ sz) (ha : ∀ j, IF j → a j < sz) (ho : og < sz) (hb : ∀ k, b1 k = b k ∨ sz ≤ b1 k) : AP a b1 og n0 := fun k hk => by
  rcases hb k with e | e
  · rw [e]; exact h k hk
  · exact ⟨fun j hj q => absurd (ha j hj) (by omega), by omega, by omega⟩
theorem kd_inv {c1 c2 c3 : Bool} {k1 k2 k3 : Int32} (h1 : ¬ k1 = 0) (h2 : ¬ k2 = 0) (h3 : ¬ k3 = 0) (h : kd c1 c2 c3 k1 k2 k3 = 0) : c1 = true ∧ c2 = true ∧ c3 = true := by
  unfold kd at h
  split at h
  · rename_i q1
    split at h
    · rename_i q2
      split at h
      · rename_i q3; exact ⟨q1, q2, q3⟩
      · exact absurd h h3
    · exact absurd h h2
  · exact absurd h h1
theorem kd_t3 {c1 c2 : Bool} {k1 k2 k3 k4 : Int32} : kd c1 c2 true k1 k2 k3 = kd c1 c2 true k1 k2 k4 := by
  unfold kd; simp
theorem kd_t2 {c1 : Bool} {k1 k2 k3 k4 k5 : Int32} : kd c1 true true k1 k2 k3 = kd c1 true true k1 k4 k5 := by
  unfold kd; simp
/-- a mean compares equal to itself -/
theorem mn_cmp0 : ∀ i, i < 69 → ∀ j, j < 69 → Op.cmpValue (FP.dcmp (mnD (nI (69 * i + j))) (mnD (nI (69 * i + j)))) CmpOp.l = 0 := by decide +kernel
theorem mn_cmp {x : Int32} (h : ∃ q, q ≤ 4704 ∧ x = nI q) : Op.cmpValue (FP.dcmp (mnD x) (mnD x)) CmpOp.l = 0 := by
  obtain ⟨q, hq, rfl⟩ := h
  have h1 := mn_cmp0 (q / 69) (by omega) (q % 69) (by omega)
  rwa [Nat.div_add_mod] at h1
section LAWR
variable {p : Program} {l : Launch} {e : Env} {R : Room} {s : State} {m : MethodId} {args : Array Value} {below : List Frame} {meth : Method} {c : Code} {H : Heap} {locs : List Loc} {cells slots mc ms : Nat} {Q : State → Prop}
variable {cc : ByteArray} {nL : Nat} {own : String} {pc : Nat} {ls : Array Slot} {rest : List Value} {D : va_G} {cA cL : ClassId} {a b : Adr} {S X Z : Mem} {H0 : Heap} {A0 : Nat → Prop} {sz og n0 : Nat} {f : Nat → Int64}
theorem lv_lcmp (hexec : p.tables.exec = Jvm.exec) (hb : c.code = cc) {x y : Int64} (hdg : decode cc pc = .ok (.lcmp, 1)) (he : x = y)
    (k : W p l e R s m args below meth c H locs cells slots Q (F0 m (pc + 1) ls (.int 0 :: rest))) : W p l e R s m args below meth c H locs cells slots Q (F0 m pc ls (.long y :: .long x :: rest)) := by
  subst he
  intro T hT X
  obtain ⟨t, a, b⟩ := k T hT X
  refine ⟨t, ?_, b⟩
  have hgt : ¬ (x > x) := fun q => absurd q Int64.lt_irrefl
  jvm_step X.here [X.here.top, hexec, hb, hdg, hgt]
  exact a
/-- the one long read -/
theorem lld (C0 : CallFix p m c cc nL s args GW own) (hAr : ArrOfT s cL .long) (hO : va_at D vwCl (og, lcell cL f) H) (hdg : decode cc pc = .ok (.laload, 1))
    (kk : W p l e R s m args below meth c H locs cells slots Q (F0 m (pc + 1) ls (.long (f 0) :: rest))) : W p l e R s m args below meth c H locs cells slots Q (F0 m pc ls (.int 0 :: .ref og :: rest)) := by
  have hO : H[og]? = some (vp_cell cL (1, .inr (.inl f))) := hO
  have h0 : (0 : Int32).toNatClampNeg = 0 := by decide
  refine W.lald (v := .long (f 0)) C0.1 C0.2.1 hO (hAr 1 (fun j => .long (f j))) (fun q => by cases q) (by show ¬ ((0 : Int32) < 0 ∨ (arrV _ _ _).slots.size ≤ _); rw [arrV_size, h0]; exact (by decide : ¬ ((0 : Int32) < 0 ∨ (1 : Nat) ≤ 0))) (by show (arrV _ _ _).slots[_]? = _; rw [h0]; exact arrV_read _ _ Nat.zero_lt_one) rfl rfl hdg kk
theorem wq_keep (hW : WQ D cA b S Z IM H) (hP : AP a b og n0) {H1 : Heap} (hk : ∀ q : Nat, q < H.size → ¬ AL a H.size og q → H1[q]? = H[q]?) : WQ D cA b S Z IM H1 := fun k h => by
  have hlt : b k < H.size := (hW k h).lt
  refine (hW k h).kept (hk _ hlt fun q => ?_)
  rcases q with (⟨j, hj, e⟩ | q) | q
  · exact (hP k h).1 j hj e.symm
  · omega
  · exact (hP k h).2.1 q
theorem wp_keep (hW : WP D cA a S X IF H) (hP : AP a b og n0) {H1 : Heap} (hk : ∀ q : Nat, q < H.size → ¬ AI b IM q → H1[q]? = H[q]?) : WP D cA a S X IF H1 := fun k h => by
  refine (hW k h).kept (hk _ (hW k h).lt fun q => ?_)
  obtain ⟨j, hj, e⟩ := q
  exact (hP j hj).1 k h e
theorem og_keep (hO : va_at D vwCl (og, lcell cL f) H) (hP : AP a b og n0) {H1 : Heap} (hk : ∀ q : Nat, q < H.size → ¬ AI b IM q → H1[q]? = H[q]?) : va_at D vwCl (og, lcell cL f) H1 := by
  refine hO.kept (hk _ hO.lt fun q => ?_)
  obtain ⟨j, hj, e⟩ := q
  exact (hP j hj).2.1 e
theorem afb {P : Nat → Prop} {H1 : Heap} (hk : ∀ q : Nat, q < H.size → ¬ AF b IM H.size q → H1[q]? = H[q]?) : ∀ q : Nat, q < H.size → ¬ AI b IM q → H1[q]? = H[q]? := fun q h1 h2 => hk q h1 (fun q9 => q9.elim h2 (fun h => by omega))
theorem ap_ai (hP : AP a b og s.heap.size) : ∀ q, AI b IM q → s.heap.size ≤ q := fun q ⟨j, hj, e⟩ => e ▸ (hP j hj).2.2
theorem ap_af (hP : AP a b og s.heap.size) (hz : s.heap.size ≤ H.size) : ∀ q, AF b IM H.size q → s.heap.size ≤ q := fun q h => h.elim (ap_ai hP q) (fun h => Nat.le_trans hz h)
/-- a wrapper called -/
theorem hoLw {y : MethodName} {by_ : ByteArray} {mL idx n fr lo : Nat} {hh : List (Nat × Nat × Nat × Nat)} {As : List Value} {post : Int32 → Mem → Mem → Int64 → Prop}
    (hM : Met l y (.codeWith y by_ mL (some .int) hh :: GW) { frames := fr, cells := mc, slots := ms, locals := lo } (PLw D cA cL a S X H.size og f As) (QLw D cA cL a H.size og post) mc ms (AL a H.size og))
    (C0 : CallFix p m c cc nL s args GW own) (w1 : Cond.methodLink own idx y ∈ GW) (w2 : Cond.static y ∈ GW) (w4 : Cond.initialized y.cls ∈ GW) (w5 : Cond.codeWith y by_ mL (some .int) hh ∈ GW)
    (hyd : y.cls ≠ "java/lang/invoke/MethodHandle" ∧ y.cls ≠ "java/lang/invoke/VarHandle" ∧ (parseMethodDescriptor y.desc).map (fun d => d.parameters.length) = some n) (hR : fr + 1 ≤ R.frames ∧ 8 + (mL + 11) + lo ≤ R.locals)
    (hK : KK D cA s) (hX : XX A0 s) (hN : NC3 s) (hAr : ArrOfT s cL .long) (hP : WP D cA a S X IF H) (hO : va_at D vwCl (og, lcell cL f) H) (hS : va_S A0 s.heap H locs) (hA : ∀ q, AL a H.size og q → A0 q)
    (hn : As.length = n) (hls : ls.size = nL) {st : List Value} (hst : st = As.reverse) (hdg : decode cc pc = .ok (.invokestatic idx, 3)) (hf : cells + mc ≤ R.cells ∧ slots + ms ≤ R.slots)
    (kk : ∀ (r : Int32) (S1 X1 : Mem) (f1 : Nat → Int64) (H1 : Heap) (locs1 : List Loc), post r S1 X1 (f1 0) → WP D cA a S1 X1 IF H1 → va_at D vwCl (og, lcell cL f1) H1 → (∀ q : Nat, q < H.size → ¬ AL a H.size og q → H1[q]? = H[q]?) → va_S A0 s.heap H1 locs1 → W p l e R s m args below meth c H1 locs1 (cells + mc) (slots + ms) Q (F0 m (pc + 3) ls [.int r])) : W p l e R s m args below meth c H locs cells slots Q (F0 m pc ls st) := by
  refine va_calli (vx_runSW (As := As) (rest := []) C0 hM (vx_cwSW n C0.2.2.2.2 (gS w1 w2 w4 w5) rfl rfl rfl hyd hR) ⟨PLw.blind, fun U hU hW => ⟨rfl, by rw [hU], by rw [hU]; exact hP, by rw [hU]; exact hO, hK.warm hW, hX.go hW (by rw [hU]; exact hS) hA, hN.moved hW.alike, arrOfT_moved hW.alike hAr⟩⟩ rfl hn hls (by rw [hst, List.append_nil]) (by show 2 * 0 + 0 ≤ 8; omega) hdg hf) hS (fun q _ h => hA q h) hA (fun r u t H1 locs1 ht _ hp hB _ hk hS1 => ?_)
  obtain ⟨S1, X1, f1⟩ := u
  have hB : WP D cA a S1 X1 IF t.heap ∧ va_at D vwCl (og, lcell cL f1) t.heap := hB
  rw [ht] at hB
  exact kk r S1 X1 f1 H1 locs1 hp hB.1 hB.2 hk hS1
/-- a call of the reference that makes rows -/
theorem hoY {st : List Value} {post : Int32 → Mem → Mem → Prop} {a0 : Array Value} (hr : va_Run p l e R s m args below meth c H locs cells slots mc ms (F0 m pc ls st) rest (QyI D cA b H.size post a0) (AF b IM H.size)) (hS : va_S A0 H0 H locs) (hA : ∀ q, AF b IM H.size q → A0 q)
    (kk : ∀ (r : Int32) (S1 Z1 : Mem) (H1 : Heap) (locs1 : List Loc), post r S1 Z1 → WQ D cA b S1 Z1 IM H1 → (∀ q : Nat, q < H.size → ¬ AF b IM H.size q → H1[q]? = H[q]?) → va_S A0 H0 H1 locs1 → W p l e R s m args below meth c H1 locs1 (cells + mc) (slots + ms) Q (F0 m (pc + 3) ls (.int r :: rest))) : W p l e R s m args below meth c H locs cells slots Q (F0 m pc ls st) :=
  va_calli hr hS (fun q _ h => hA q h) hA (fun r u t H1 locs1 ht _ hp hB _ hk hS1 => kk r u.1 u.2 H1 locs1 hp (by rw [← ht]; exact hB) hk hS1)
theorem hoZ {st : List Value} {post : Int32 → Mem → Adr → Prop} {a0 : Array Value} (hr : va_Run p l e R s m args below meth c H locs cells slots mc ms (F0 m pc ls st) rest (QzI D cA b S H.size post a0) (AF b IM H.size)) (hS : va_S A0 H0 H locs) (hA : ∀ q, AF b IM H.size q → A0 q)
    (kk : ∀ (r : Int32) (Z1 : Mem) (b1 : Adr) (H1 : Heap) (locs1 : List Loc), post r Z1 b1 → WQ D cA b1 S Z1 IM H1 → (∀ q : Nat, q < H.size → ¬ AF b IM H.size q → H1[q]? = H[q]?) → va_S A0 H0 H1 locs1 → W p l e R s m args below meth c H1 locs1 (cells + mc) (slots + ms) Q (F0 m (pc + 3) ls (.int r :: rest))) : W p l e R s m args below meth c H locs cells slots Q (F0 m pc ls st) :=
  va_calli hr hS (fun q _ h => hA q h) hA (fun r u t H1 locs1 ht _ hp hB _ hk hS1 => kk r u.1 u.2 H1 locs1 hp (by rw [← ht]; exact hB) hk hS1)
/-- a number of the script -/
theorem larg {i k L scr p0 p4 : Nat} {n : Int} {xs : Nat → Int32} {lv : List (Nat × Value)} (C0 : CallFix p m c cc nL s args GW own) (hX : va_X scr L xs s H0) (hbl : scr < H0.size) (hbA : ¬ A0 scr) (hS : va_S A0 H0 H locs) (hl : lv_has ls nL lv) (h0 : lv[p0]? = some (0, .ref scr)) (h4 : lv[p4]? = some (4, .int (nI i))) (hk : Int32.ofInt n = nI k) (hi : i + k < L) (hL : L ≤ 3584)
    (d0 : decode cc pc = .ok (.aload_n 0, 1)) (d1 : decode cc (pc + 1) = .ok (.iload 4, 2)) (d2 : decode cc (pc + 1 + 2) = .ok (.iconst n, 1)) (d3 : decode cc (pc + 1 + 2 + 1) = .ok (.iadd, 1)) (d4 : decode cc (pc + 1 + 2 + 1 + 1) = .ok (.iaload, 1))
    (kk : W p l e R s m args below meth c H locs cells slots Q (F0 m (pc + 1 + 2 + 1 + 1 + 1) ls (.int (xs (i + k)) :: rest))) : W p l e R s m args below meth c H locs cells slots Q (F0 m pc ls rest) := by
  refine lv_aload_n C0.1 C0.2.1 d0 rfl (lv_at hl p0 h0) ?_
  refine lv_iload C0.1 C0.2.1 d1 (lv_at hl p4 h4) ?_
  refine lv_iconst (v := nI k) C0.1 C0.2.1 d2 hk ?_
  refine lv_iadd C0.1 C0.2.1 d3 ?_
  rw [nI_add]
  refine va_sld C0.1 C0.2.1 hX hbl hbA hS (vp_in_nI hi (by omega)) d4 ?_
  rw [nI_clamp (by omega)]
  exact kk
theorem largb {i k L scr p0 p4 : Nat} {n : Int} {xs : Nat → Int32} {lv : List (Nat × Value)} (C0 : CallFix p m c cc nL s args GW own) (hX : va_X scr L xs s H0) (hbl : scr < H0.size) (hbA : ¬ A0 scr) (hS : va_S A0 H0 H locs) (hl : lv_has ls nL lv) (h0 : lv[p0]? = some (0, .ref scr)) (h4 : lv[p4]? = some (4, .int (nI i))) (hk : (Int8.ofInt n).toInt32 = nI k) (hi : i + k < L) (hL : L ≤ 3584)
    (d0 : decode cc pc = .ok (.aload_n 0, 1)) (d1 : decode cc (pc + 1) = .ok (.iload 4, 2)) (d2 : decode cc (pc + 1 + 2) = .ok (.bipush n, 2)) (d3 : decode cc (pc + 1 + 2 + 2) = .ok (.iadd, 1)) (d4 : decode cc (pc + 1 + 2 + 2 + 1) = .ok (.iaload, 1))
    (kk : W p l e R s m args below meth c H locs cells slots Q (F0 m (pc + 1 + 2 + 2 + 1 + 1) ls (.int (xs (i + k)) :: rest))) : W p l e R s m args below meth c H locs cells slots Q (F0 m pc ls rest) := by
  refine lv_aload_n C0.1 C0.2.1 d0 rfl (lv_at hl p0 h0) ?_
  refine lv_iload C0.1 C0.2.1 d1 (lv_at hl p4 h4) ?_
  refine lv_bipush (v := nI k) C0.1 C0.2.1 d2 hk ?_
  refine lv_iadd C0.1 C0.2.1 d3 ?_
  rw [nI_add]
  refine va_sld C0.1 C0.2.1 hX hbl hbA hS (vp_in_nI hi (by omega)) d4 ?_
  rw [nI_clamp (by omega)]
  exact kk
abbrev lv5 (scr i og : Nat) (a b : Adr) : List (Nat × Value) := [(4, .int (nI i)), (3, .ref og), (2, .ref (b 20)), (1, .ref (a 89)), (0, .ref scr)]
/-- the end of a call's row: what was thrown, the numbers compared -/
theorem ltail {i scr t : Nat} {off : Int} {k5 b6 : Int32} (C0 : CallFix p m c cc nL s args GW RL) (hAr : ArrOfT s cL .long) (hK : KK D cA s) (hdb : Hd nM b IM) (hAP : AP a b og s.heap.size) (hA : A0 = fun q => s.heap.size ≤ q) (hP : WP D cA a S X IF H) (hQ : WQ D cA b S Z IM H) (hO : va_at D vwCl (og, lcell cL f) H) (hS : va_S A0 s.heap H locs) (hk : k5 = Z 87 0) (h0 : k5 = 0 → f 0 = b6.toInt64) (hR : 1 ≤ R.frames ∧ 8 + (1 + 11) + 0 ≤ R.locals) (hf : cells ≤ R.cells ∧ slots ≤ R.slots)
    (hl : lv_has ls nL ([(6, .int b6), (5, .int k5)] ++ lv5 scr i og a b))
    (d0 : decode cc t = .ok (.aload_n 2, 1)) (d1 : decode cc (t + 1) = .ok (.invokevirtual 83, 3)) (d2 : decode cc (t + 1 + 3) = .ok (.iload 5, 2)) (d3 : decode cc (t + 1 + 3 + 2) = .ok (.if_icmp .eq 5, 3)) (d4 : decode cc (t + 11) = .ok (.iload 5, 2)) (d5 : decode cc (t + 11 + 2) = .ok (.ifCond .ne 15, 3))
    (d6 : decode cc (t + 11 + 2 + 3) = .ok (.aload_n 3, 1)) (d7 : decode cc (t + 11 + 2 + 3 + 1) = .ok (.iconst 0, 1)) (d8 : decode cc (t + 11 + 2 + 3 + 1 + 1) = .ok (.laload, 1)) (d9 : decode cc (t + 11 + 2 + 3 + 1 + 1 + 1) = .ok (.iload 6, 2)) (d10 : decode cc (t + 11 + 2 + 3 + 1 + 1 + 1 + 2) = .ok (.i2l, 1)) (d11 : decode cc (t + 11 + 2 + 3 + 1 + 1 + 1 + 2 + 1) = .ok (.lcmp, 1)) (d12 : decode cc (t + 11 + 2 + 3 + 1 + 1 + 1 + 2 + 1 + 1) = .ok (.ifCond .eq 5, 3)) (d13 : decode cc (t + 28) = .ok (.goto off, 3)) (ht : ((t + 28 : Nat) : Int) + off = ((1477 : Nat) : Int))
    (kk : ∀ (H1 : Heap) (locs1 : List Loc), WP D cA a S X IF H1 → WQ D cA b S Z IM H1 → va_at D vwCl (og, lcell cL f) H1 → va_S A0 s.heap H1 locs1 → W p l e R s m args below meth c H1 locs1 cells slots Q (F0 m 1477 ls [])) : W p l e R s m args below meth c H locs cells slots Q (F0 m t ls []) := by
  have hl : lv_has ls nL [(6, .int b6), (5, .int k5), (4, .int (nI i)), (3, .ref og), (2, .ref (b 20)), (1, .ref (a 89)), (0, .ref scr)] := hl
  refine lv_aload_n C0.1 C0.2.1 d0 rfl (lv_at hl 4 rfl) ?_
  refine hoIF (qV (n := 0) (As := []) (c_X9_thrown l D cA b S Z IM hdb) C0 ml_L_83 im_X9_thrown se_X9_thrown in_X9 co_X9_thrown ⟨rfl, by decide⟩ hR hK hQ (hdb.1 20 (by decide)) rfl rfl rfl hl.1 (Nat.le_of_ble_eq_true rfl) rfl d1 hf) hS (fun q h => by rw [hA]; exact ap_ai hAP q h) (fun r S1 Z1 H1 locs1 hp hQ hkeep hS => ?_)
  obtain ⟨hr, e1, e2⟩ := hp
  have hQ : WQ D cA b S Z IM H1 := by rw [e1, e2] at hQ; exact hQ
  have hP := wp_keep hP hAP hkeep
  have hO := og_keep hO hAP hkeep
  refine lv_iload C0.1 C0.2.1 d2 (lv_at hl 1 rfl) ?_
  refine lv_icmp_eq (tgt := t + 11) C0.1 C0.2.1 d3 (by omega) (fun _ => ?_) (fun h => absurd (hr.trans hk.symm) h)
  refine lv_iload C0.1 C0.2.1 d4 (lv_at hl 1 rfl) ?_
  have hend : W p l e R s m args below meth c H1 locs1 cells slots Q (F0 m (t + 28) ls []) := lv_goto (tgt := 1477) C0.1 C0.2.1 d13 ht (kk H1 locs1 hP hQ hO hS)
  refine lv_if_ne (tgt := t + 28) C0.1 C0.2.1 d5 (by omega) (fun _ => hend) (fun hz => ?_)
  refine lv_aload_n C0.1 C0.2.1 d6 rfl (lv_at hl 3 rfl) ?_
  refine lv_iconst (v := 0) C0.1 C0.2.1 d7 (by decide) ?_
  refine lld C0 hAr hO d8 ?_
  refine lv_iload C0.1 C0.2.1 d9 (lv_at hl 0 rfl) ?_
  refine lv_i2l C0.1 C0.2.1 d10 rfl ?_
  refine lv_lcmp C0.1 C0.2.1 d11 (h0 hz) ?_
  exact lv_if_eq (tgt := t + 28) C0.1 C0.2.1 d12 (by omega) (fun _ => hend) (fun h => absurd rfl h)
end LAWR
