/-! THE REFERENCE KEEPS, AND BRINGS BACK. -/
abbrev nmClo : MethodName := ⟨"[I", "clone", "()Ljava/lang/Object;"⟩
abbrev nmObC : MethodName := ⟨"java/lang/Object", "clone", "()Ljava/lang/Object;"⟩
theorem ml_X9_178 : Cond.methodLink RX9 178 nmClo ∈ GW := gw 1176 (by decide +kernel) (by decide +kernel)
theorem sa_clo : Cond.sameMethod "[I" "java/lang/Object" "clone" "()Ljava/lang/Object;" ∈ GW := gw 1177 (by decide +kernel) (by decide +kernel)
theorem nt_clo : Cond.native nmObC ∈ GW := gw 1178 (by decide +kernel) (by decide +kernel)
theorem im_clo : Cond.instanceMethod nmObC ∈ GW := gw 1179 (by decide +kernel) (by decide +kernel)
theorem se_clo : Cond.selects "[I" nmClo nmObC ∈ GW := gw 1180 (by decide +kernel) (by decide +kernel)
theorem co_X9_kept : Cond.code yX9_kept cX9_kept 1 (some (.array (.array .int))) ∈ GW := gw 1173 (by decide +kernel) (by decide +kernel)
theorem nmI2 : (FieldType.array .int).toString = "[I" := by decide +kernel
abbrev rfs (cG : ClassId) (f : Nat → Option Nat) : va_E := .inl (cG, 3, .inr (.inr (.inr (.inr f))))
section KEEP
variable {p : Program} {l : Launch} {e : Env} {R : Room} {s : State} {m : MethodId} {args : Array Value} {below : List Frame} {meth : Method} {c : Code} {H : Heap} {locs : List Loc} {cells slots mc ms : Nat} {Q : State → Prop}
variable {cc : ByteArray} {nL : Nat} {own : String} {pc : Nat} {ls : Array Slot} {rest : List Value} {D : va_G} {cA : ClassId} {a : Adr} {S X : Mem} {I : Nat → Prop} {H0 : Heap} {A0 : Nat → Prop} {sz : Nat} {ws : va_W}
theorem clX {idx i0 b N : Nat} {f : Nat → Int32} (C0 : CallFix p m c cc nL s args GW own) (hls : ls.size = nL) (hK : KK D cA s) (hY : NY s) (hP : va_P D vwCl ws H) (hD : va_D A0 ws) (hS : va_S A0 H0 H locs) (hA0 : ∀ q, H0.size ≤ q → A0 q) (ha : ws[i0]? = some (b, .inl (cA, N, .inl f))) (hlink : Cond.methodLink own idx nmClo ∈ GW) (hfr : 1 ≤ R.frames) (hlo : (rest.map fun v => v.category).sum + 14 ≤ R.locals) (hc : cells + 1 ≤ R.cells) (hs : slots + N ≤ R.slots) (hdg : decode cc pc = .ok (.invokevirtual idx, 3))
    (kk : ∀ (q : Nat) (H1 : Heap), va_P D vwCl (ws ++ [(q, .inl (cA, N, .inl f))]) H1 → va_D A0 (ws ++ [(q, .inl (cA, N, .inl f))]) → va_S A0 H0 H1 locs → W p l e R s m args below meth c H1 locs (cells + 1) (slots + N) Q (F0 m (pc + 3) ls (.ref q :: rest))) : W p l e R s m args below meth c H locs cells slots Q (F0 m pc ls (.ref b :: rest)) :=
  va_clone C0.1 C0.2.1 (C0.2.2.1.trans hls.symm) C0.2.2.2.1 (C0.2.2.2.2 _ hlink) (C0.2.2.2.2 _ sa_clo) (C0.2.2.2.2 _ nt_clo) (C0.2.2.2.2 _ im_clo) (C0.2.2.2.2 _ se_clo) hY.2 hK.1 hP hD hS hA0 i0 0 (x := (N, .inl f)) (ty := .int) ha rfl (va_nm_int (hK.1.2 0 _ rfl).2) (fun i v hv => va_fit (cA := cA) (n := N) (F := fun j => .int (f j)) (fun _ _ => rfl) i v hv) hfr hlo hc hs hdg (fun q H1 _ hP1 hD1 hS1 => kk q H1 hP1 hD1 hS1)
theorem anX {idx : Nat} (C0 : CallFix p m c cc nL s args GW own) (hY : NY s) (hP : va_P D vwCl ws H) (hD : va_D A0 ws) (hS : va_S A0 H0 H locs) (hA0 : ∀ q, H0.size ≤ q → A0 q) (hlink : Cond.classLink own idx "[I" ∈ GW) (hc : cells + 1 ≤ R.cells) (hs : slots + 3 ≤ R.slots) (hdg : decode cc pc = .ok (.anewarray idx, 3))
    (kk : ∀ (q : Nat) (cG : ClassId) (kA : Class) (comp : ClassId) (H1 : Heap), s.vm.classes[cG]? = some kA → kA.kind = .array comp (.array .int) → s.vm.findClass "[I" = some comp → va_P D vwCl (ws ++ [(q, rfs cG fun _ => none)]) H1 → va_D A0 (ws ++ [(q, rfs cG fun _ => none)]) → va_S A0 H0 H1 locs → W p l e R s m args below meth c H1 locs (cells + 1) (slots + 3) Q (F0 m (pc + 3) ls (.ref q :: rest))) : W p l e R s m args below meth c H locs cells slots Q (F0 m pc ls (.int 3 :: rest)) := by
  have hn : (3 : Int32).toNatClampNeg = 3 := by decide
  refine W.anewA (t := .int) C0.1 C0.2.1 C0.2.2.2.1 (by rw [nmI2]; exact C0.2.2.2.2 _ hlink) (aoSame (U := s) rfl hY.1) rfl hdg rfl (by decide) (by rw [hn]; decide) hc (by rw [hn]; exact hs) fun cA1 kA comp f1 f2 f3 f4 => ?_
  rw [hn]
  generalize hH1 : H.push ({ cls := cA1, slots := Array.replicate 3 .null, vm := .none } : Cell) = H1
  have z1 : H1.size = H.size + 1 := by rw [← hH1, Array.size_push]
  have e1 : H1[H.size]? = some (arrV cA1 3 (fun _ => .null)) := by rw [← hH1, Array.getElem?_push_size, ← arrV_new]
  have o1 : ∀ q : Nat, q < H.size → H1[q]? = H[q]? := fun q hq => by rw [← hH1, Array.getElem?_push, if_neg (Nat.ne_of_lt hq)]
  refine kk H.size cA1 kA comp H1 f2 f3 (by rw [← nmI2]; exact f4) ((hP.kept fun k x hx => o1 x.1 ((hP k x hx).lt)).app (fun k x hx => ?_)) (hD.push hP rfl (hA0 _ hS.1)) ⟨Nat.le_trans hS.1 (by omega), fun x h1 h2 => (o1 x (Nat.lt_of_lt_of_le h1 hS.1)).trans (hS.2.1 x h1 h2), hS.2.2⟩
  have hz : k < 1 := (List.getElem?_eq_some_iff.mp hx).1
  rw [show k = 0 by omega] at hx
  cases hx
  show H1[H.size]? = some (vp_cell _ _)
  rw [vp_cell_q]
  exact e1
theorem asX {i0 iv g v N j : Nat} {cG comp : ClassId} {kA : Class} {f : Nat → Option Nat} {fv : Nat → Int32} (C0 : CallFix p m c cc nL s args GW own) (hK : KK D cA s) (h1 : s.vm.classes[cG]? = some kA) (h2 : kA.kind = .array comp (.array .int)) (h3 : s.vm.findClass "[I" = some comp) (hP : va_P D vwCl ws H) (hD : va_D A0 ws) (hS : va_S A0 H0 H locs) (hg : ws[i0]? = some (g, rfs cG f)) (hv : ws[iv]? = some (v, .inl (cA, N, .inl fv))) {i : Int32} (hi : i = nI j) (hj : j < 3) (hdg : decode cc pc = .ok (.aastore, 1))
    (kk : ∀ (H1 : Heap) (locs1 : List Loc), va_P D vwCl (ws.set i0 (g, rfs cG (va_up f j (some v)))) H1 → va_D A0 (ws.set i0 (g, rfs cG (va_up f j (some v)))) → va_S A0 H0 H1 locs1 → W p l e R s m args below meth c H1 locs1 cells slots Q (F0 m (pc + 1) ls rest)) : W p l e R s m args below meth c H locs cells slots Q (F0 m pc ls (.ref v :: .int i :: .ref g :: rest)) := by
  subst hi
  have hcm : comp = cA := Option.some.inj (h3.symm.trans (va_nm_int (hK.1.2 0 _ rfl).2))
  subst hcm
  obtain ⟨-, kC, hkC, -⟩ := (hK.1.2 0 _ rfl).1 0 (fun _ => .null)
  have hn : (nI j).toNatClampNeg = j := nI_clamp (by omega)
  refine W.aast C0.1 C0.2.1 (hP i0 _ hg) (fun q h => by cases h) (fun h => by cases h) h1 h2 rfl hkC ⟨nI_pos (by omega), by show _ < (arrV _ _ _).slots.size; rw [arrV_size, hn]; exact hj⟩ (hP iv _ hv) (fun q h => by cases h) hkC (va_asg _ _) rfl rfl hdg fun H1 e z oq => ?_
  refine kk H1 _ (hP.set hD hg ?_ oq) (hD.set hg) (hS.put z oq (hD.2 i0 _ hg))
  show H1[g]? = some (vp_cell _ _)
  rw [e]
  rw [vp_cell_q, vp_cell_q, arrV_store, hn]
  congr 2
  funext q
  by_cases hq : q = j
  · subst hq
    simp [updV, va_up, va_rf]
  · simp [updV, va_up, hq]
theorem alX {g j v : Nat} {cG : ClassId} {f : Nat → Option Nat} (C0 : CallFix p m c cc nL s args GW own) (hAr : ArrOfT s cG (.array .int)) (hg : va_at D vwCl (g, rfs cG f) H) {i : Int32} (hi : i = nI j) (hj : j < 3) (hf : f j = some v) (hdg : decode cc pc = .ok (.aaload, 1)) (kk : W p l e R s m args below meth c H locs cells slots Q (F0 m (pc + 1) ls (.ref v :: rest))) : W p l e R s m args below meth c H locs cells slots Q (F0 m pc ls (.int i :: .ref g :: rest)) := by
  subst hi
  have hn : (nI j).toNatClampNeg = j := nI_clamp (by omega)
  refine W.aald (v := .ref v) (ty := .array .int) C0.1 C0.2.1 hg (hAr 3 (fun j => va_rf (f j))) rfl (fun q => by cases q) (by show ¬ (nI j < 0 ∨ (arrV _ _ _).slots.size ≤ _); rw [arrV_size]; exact vp_in_nI (N := 3) hj (by decide)) ?_ rfl rfl hdg kk
  show (arrV _ _ _).slots[_]? = _
  rw [hn, arrV_read _ _ hj, hf]
  rfl
/-- a field of the reference's object, whatever its kind -/
theorem po20 {b j idx : Nat} {fs : List Value} {v : Value} {ty : FieldType} (C0 : CallFix p m c cc nL s args GW own) (hK : KK D cA s) (hat : va_at D vwCl (b, .inr (9, fs)) H) (hlen : fs.length = 15) (hS : va_S A0 H0 H locs) (hA : A0 b) (hj : j < 15) (hlink : Cond.fieldLink own idx (TX9 j).1 (TX9 j).2.1 (TX9 j).2.2.1 ∈ GW) (hfin : (TX9 j).2.2.2 = false) (hd : parseFieldDescriptor (TX9 j).2.2.1 = some ty) (hnar : narrow ty v = v) (hfit : fits ty v = true) (hdg : decode cc pc = .ok (.putfield idx, 3))
    (kk : ∀ (H1 : Heap) (locs1 : List Loc), va_at D vwCl (b, .inr (9, fs.set j v)) H1 → H1.size = H.size → (∀ y : Nat, y ≠ b → H1[y]? = H[y]?) → va_S A0 H0 H1 locs1 → W p l e R s m args below meth c H1 locs1 cells slots Q (F0 m (pc + 3) ls rest)) : W p l e R s m args below meth c H locs cells slots Q (F0 m pc ls (v :: .ref b :: rest)) := by
  have hts := C0.2.2.2.2
  have hap := va_apart (own := own) hts us_X9 tyX9 tyX9_ok nmX9 hK.1 (ci := 9) rfl
  obtain ⟨r, h1, cell, q1, q2, q3, q4⟩ := hat
  have hr : r = (RX9, TX9, 15) := Option.some.inj (h1.symm.trans rfl)
  subst hr
  obtain ⟨hS1, hfc, kC, hkC, hkind⟩ := hK.1.1 9 _ rfl
  obtain ⟨cf, kf, fi, fd, hi, hsl⟩ := hS1 j hj
  have hlay := hts _ (us_X9 _ (u_in_lay hj))
  unfold u_lay at hlay
  rw [if_neg (by rw [hfin]; decide)] at hlay
  have hst := (u_facts hfc hkC (u_lays hts us_X9 hj) hi).1
  have h6 := u_store hfc hkC hkind hlay hi hd hnar hfit
  refine W.putK C0.1 C0.2.1 (f := fd) ⟨C0.2.2.2.1, hts _ hlink, ⟨_, _, _, hi⟩, hst⟩ (by rw [q2]; exact h6) q1 q3 (by rw [hsl]; exact k2_hasslot (q4 j hj)) rfl rfl hdg fun H' e1 e2 e3 => ?_
  rw [hsl] at e1 ⊢
  exact kk H' _ ⟨_, rfl, t_OB.to (V := updV (vp_V fs) j v) ⟨_, e1, q2, q3, t_set q4 hap hj _⟩ (fun i _ => vp_updV_set (by rw [hlen]; exact hj) _ i)⟩ e2 e3 (hS.put e2 e3 hA)
/-- the kept rows: w = (the row of rows, going, people, hour) -/
def kF (w : Nat × Nat × Nat × Nat) : Nat → Option Nat := va_up (va_up (va_up (fun _ => none) 0 (some w.2.1)) 1 (some w.2.2.1)) 2 (some w.2.2.2)
def KB (D : va_G) (cA cG : ClassId) (S : Mem) (w : Nat × Nat × Nat × Nat) (H : Heap) : Prop := va_at D vwCl (w.1, rfs cG (kF w)) H ∧ va_at D vwCl (w.2.1, .inl (cA, 24, .inl (rwm S m0 5))) H ∧ va_at D vwCl (w.2.2.1, .inl (cA, 150, .inl (rwm S m0 6))) H ∧ va_at D vwCl (w.2.2.2, .inl (cA, 1, .inl fun _ => S 86 0)) H
def KA (a : Adr) (sz : Nat) (w : Nat × Nat × Nat × Nat) : Prop := (∀ k, IM k → a k ≠ w.1 ∧ a k ≠ w.2.1 ∧ a k ≠ w.2.2.1 ∧ a k ≠ w.2.2.2) ∧ sz ≤ w.1 ∧ sz ≤ w.2.1 ∧ sz ≤ w.2.2.1 ∧ sz ≤ w.2.2.2 ∧ w.2.1 ≠ w.2.2.1
theorem KB.kept {cG : ClassId} {w : Nat × Nat × Nat × Nat} {H1 : Heap} (h : KB D cA cG S w H) (hw : KA a sz w) (hk : ∀ q : Nat, q < H.size → ¬ AI a IM q → H1[q]? = H[q]?) : KB D cA cG S w H1 := by
  have no : ∀ q, (∀ k, IM k → a k ≠ q) → ¬ AI a IM q := fun q hq ⟨k, hk, e⟩ => hq k hk e
  exact ⟨h.1.kept (hk _ h.1.lt (no _ fun k hk => (hw.1 k hk).1)), h.2.1.kept (hk _ h.2.1.lt (no _ fun k hk => (hw.1 k hk).2.1)), h.2.2.1.kept (hk _ h.2.2.1.lt (no _ fun k hk => (hw.1 k hk).2.2.1)), h.2.2.2.kept (hk _ h.2.2.2.lt (no _ fun k hk => (hw.1 k hk).2.2.2))⟩
/-- the reference's places when the kept rows have come back -/
def aN (a : Adr) (w : Nat × Nat × Nat × Nat) : Adr := fun k => if k = 5 then w.2.1 else if k = 6 then w.2.2.1 else a k
theorem aN_hd {w : Nat × Nat × Nat × Nat} (hd : Hd nM a IM) (hw : KA a sz w) : Hd nM (aN a w) IM := by
  refine ⟨fun k h => h, hd.2.1, fun i j hi hj e => ?_⟩
  unfold aN at e
  obtain ⟨h1, -, -, -, -, h2⟩ := hw
  by_cases i5 : i = 5
  · rw [if_pos i5] at e
    by_cases j5 : j = 5
    · omega
    · rw [if_neg j5] at e
      by_cases j6 : j = 6
      · rw [if_pos j6] at e; exact absurd e h2
      · rw [if_neg j6] at e; exact absurd e.symm (h1 j hj).2.1
  · rw [if_neg i5] at e
    by_cases i6 : i = 6
    · rw [if_pos i6] at e
      by_cases j5 : j = 5
      · rw [if_pos j5] at e; exact absurd e.symm h2
      · rw [if_neg j5] at e
        by_cases j6 : j = 6
        · omega
        · rw [if_neg j6] at e; exact absurd e.symm (h1 j hj).2.2.1
    · rw [if_neg i6] at e
      by_cases j5 : j = 5
      · rw [if_pos j5] at e; exact absurd e (h1 i hi).2.1
      · rw [if_neg j5] at e
        by_cases j6 : j = 6
        · rw [if_pos j6] at e; exact absurd e (h1 i hi).2.2.1
        · rw [if_neg j6] at e; exact hd.2.2 i j hi hj e
theorem aN_or {w : Nat × Nat × Nat × Nat} (hw : KA a sz w) (k : Nat) : aN a w k = a k ∨ sz ≤ aN a w k := by
  obtain ⟨-, -, h1, h2, -⟩ := hw
  unfold aN
  by_cases h5 : k = 5
  · rw [if_pos h5]; exact Or.inr h1
  · rw [if_neg h5]
    by_cases h6 : k = 6
    · rw [if_pos h6]; exact Or.inr h2
    · rw [if_neg h6]; exact Or.inl rfl
end KEEP
def QKp (D : va_G) (cA : ClassId) (a : Adr) (S X : Mem) (sz : Nat) : Array Value → State → Outcome → State → Prop := va_Qr (fun u : ClassId × Nat × Nat × Nat => True) (fun u g t => WQ D cA a S X IM t.heap ∧ KB D cA u.1 S (g, u.2) t.heap ∧ KA a sz (g, u.2) ∧ ArrOfT t u.1 (.array .int)) (AF a IM sz)

set_option maxHeartbeats 4000000 in
set_option maxRecDepth 100000 in
theorem c_X9_kept (l : Launch) (D : va_G) (cA : ClassId) (a : Adr) (S X : Mem) (sz : Nat) (hd : Hd nM a IM) : Met l yX9_kept (.code yX9_kept cX9_kept 1 (some (.array (.array .int))) :: GW) { frames := 1, cells := 4, slots := 178, locals := 40 } (PY D cA a S X sz [.ref (a 20)]) (QKp D cA a S X sz) 4 178 (AF a IM sz) := by
  refine yGo (by decide) (Nat.le_of_ble_eq_true rfl) ?_
  intro p e s m args below meth c ls C0 hr hlk h0 hK hY hP hS hl
  have hA0 : ∀ q, s.heap.size ≤ q → AF a IM sz q := fun q h => Or.inr (h0 ▸ h)
  have hPl := wlP hP
  have hDl : va_D (AF a IM sz) (wl cA a S X) := by
    have h9 := wlD1 (cA := cA) (a := a) (S := S) (X := X) (A0 := fun _ => True) (q := s.heap.size) (ex := .inr (0, [])) hd (fun _ _ => trivial) trivial (fun k hk e => absurd e (Nat.ne_of_lt (hP k hk).lt))
    refine ⟨fun i j x y hi hj e => ?_, fun i x h => ?_⟩
    · have := h9.1 (i + 1) (j + 1) x y hi hj e
      omega
    · obtain ⟨-, rfl, hk⟩ := wl_at h
      exact Or.inl ⟨_, hk, rfl⟩
  refine lv_iconst (v := 3) C0.1 C0.2.1 dX9_kept_0 (by decide) ?_
  refine anX C0 hY hPl hDl hS hA0 cl_X9_177 (Nat.le_of_ble_eq_true rfl) (Nat.le_of_ble_eq_true rfl) dX9_kept_1 (fun g cG kA comp H1 h1 h2 h3 hPl hDl hS => ?_)
  refine lv_dup C0.1 C0.2.1 dX9_kept_4 rfl ?_
  refine lv_iconst (v := 0) C0.1 C0.2.1 dX9_kept_5 (by decide) ?_
  refine lv_aload_n C0.1 C0.2.1 dX9_kept_6 rfl (lv_at hl 0 rfl) ?_
  refine gf C0 hK (hPl 10 _ rfl) us_X9 rfl 10 (by decide) fl_X9_25 rfl dX9_kept_7 ?_
  refine clX (i0 := 5) (N := 24) (f := rwm S X 5) C0 hl.1 hK hY hPl hDl hS hA0 rfl ml_X9_178 (Nat.le_of_ble_eq_true rfl) (Nat.le_of_ble_eq_true rfl) (Nat.le_of_ble_eq_true rfl) (Nat.le_of_ble_eq_true rfl) dX9_kept_10 (fun g1 H1 hPl hDl hS => ?_)
  refine va_castA C0.1 C0.2.1 C0.2.2.2.1 (C0.2.2.2.2 _ cl_X9_177) hPl 12 rfl (va_nm_int (hK.1.2 0 _ rfl).2) dX9_kept_13 ?_
  refine asX (i0 := 11) (iv := 12) (j := 0) (N := 24) (fv := rwm S X 5) C0 hK h1 h2 h3 hPl hDl hS rfl rfl rfl (by decide) dX9_kept_16 (fun H1 locs hPl hDl hS => ?_)
  refine lv_dup C0.1 C0.2.1 dX9_kept_17 rfl ?_
  refine lv_iconst (v := 1) C0.1 C0.2.1 dX9_kept_18 (by decide) ?_
  refine lv_aload_n C0.1 C0.2.1 dX9_kept_19 rfl (lv_at hl 0 rfl) ?_
  refine gf C0 hK (hPl 10 _ rfl) us_X9 rfl 11 (by decide) fl_X9_28 rfl dX9_kept_20 ?_
  refine clX (i0 := 6) (N := 150) (f := rwm S X 6) C0 hl.1 hK hY hPl hDl hS hA0 rfl ml_X9_178 (Nat.le_of_ble_eq_true rfl) (Nat.le_of_ble_eq_true rfl) (Nat.le_of_ble_eq_true rfl) (Nat.le_of_ble_eq_true rfl) dX9_kept_23 (fun g2 H1 hPl hDl hS => ?_)
  refine va_castA C0.1 C0.2.1 C0.2.2.2.1 (C0.2.2.2.2 _ cl_X9_177) hPl 13 rfl (va_nm_int (hK.1.2 0 _ rfl).2) dX9_kept_26 ?_
  refine asX (i0 := 11) (iv := 13) (j := 1) (N := 150) (fv := rwm S X 6) C0 hK h1 h2 h3 hPl hDl hS rfl rfl rfl (by decide) dX9_kept_29 (fun H1 locs hPl hDl hS => ?_)
  refine lv_dup C0.1 C0.2.1 dX9_kept_30 rfl ?_
  refine lv_iconst (v := 2) C0.1 C0.2.1 dX9_kept_31 (by decide) ?_
  refine lv_iconst (v := 1) C0.1 C0.2.1 dX9_kept_32 (by decide) ?_
  have hS9 := hS.1
  refine mkA (N := 1) C0 hK hS (by decide) (by decide) (by decide) rfl (Nat.le_of_ble_eq_true rfl) (Nat.le_of_ble_eq_true rfl) dX9_kept_33 (fun H2 hn2 hat ho hS => ?_)
  have hDl := hDl.push (e := .inl (cA, 1, .inl fun _ => 0)) hPl rfl (hA0 _ hS9)
  have hPl := (hPl.kept fun k x hx => ho x.1 ((hPl k x hx).lt)).app hat.P1
  generalize H1.size = g3 at hDl hPl hat
  refine lv_dup C0.1 C0.2.1 dX9_kept_35 rfl ?_
  refine lv_iconst (v := 0) C0.1 C0.2.1 dX9_kept_36 (by decide) ?_
  refine lv_aload_n C0.1 C0.2.1 dX9_kept_37 rfl (lv_at hl 0 rfl) ?_
  refine gf C0 hK (hPl 10 _ rfl) us_X9 rfl 9 (by decide) fl_X9_54 rfl dX9_kept_38 ?_
  refine rst (j := 0) (N := 1) C0 hK hat hS (hDl.2 14 _ rfl) rfl (by decide) (by decide) dX9_kept_41 (fun H1 locs hat z9 ho hS => ?_)
  have hPl := hPl.set hDl (p := 14) rfl hat ho
  have hDl := hDl.set (p := 14) (e := .inl (cA, 1, .inl (upd (fun _ => 0) 0 (S 86 0)))) rfl
  refine asX (i0 := 11) (iv := 14) (j := 2) (N := 1) (fv := upd (fun _ => 0) 0 (S 86 0)) C0 hK h1 h2 h3 hPl hDl hS rfl rfl rfl (by decide) dX9_kept_42 (fun H1 locs hPl hDl hS => ?_)
  have hap : ∀ i j : Nat, i < 15 → j < 15 → i ≠ j → ∀ x y : Nat × va_E, _ → _ → x.1 ≠ y.1 := fun i j hi hj hne x y hx hy e => hne (hDl.1 i j x y hx hy e)
  have hg3 : va_at D vwCl (g3, .inl (cA, 1, .inl fun _ => S 86 0)) H1 := by
    have h9 := hPl 14 _ rfl
    refine Eq.trans h9 ?_
    show some (vp_cell _ _) = some (vp_cell _ _)
    rw [vp_cell_i, vp_cell_i]
    congr 1
  have hnk : ∀ k, IM k → ∃ i, i < 11 ∧ k = wk i := fun k hk => by
    have h9 : k = 0 ∨ k = 1 ∨ k = 2 ∨ k = 3 ∨ k = 4 ∨ k = 5 ∨ k = 6 ∨ k = 7 ∨ k = 8 ∨ k = 9 ∨ k = 20 := by simpa [nM] using hk
    rcases h9 with rfl | rfl | rfl | rfl | rfl | rfl | rfl | rfl | rfl | rfl | rfl
    · exact ⟨0, by decide, rfl⟩
    · exact ⟨1, by decide, rfl⟩
    · exact ⟨2, by decide, rfl⟩
    · exact ⟨3, by decide, rfl⟩
    · exact ⟨4, by decide, rfl⟩
    · exact ⟨5, by decide, rfl⟩
    · exact ⟨6, by decide, rfl⟩
    · exact ⟨7, by decide, rfl⟩
    · exact ⟨8, by decide, rfl⟩
    · exact ⟨9, by decide, rfl⟩
    · exact ⟨10, by decide, rfl⟩
  have hwl : ∀ i, i < 11 → ∃ x, x = (a (wk i), cm cA a S X (wk i)) ∧ (wl cA a S X ++ [(g, rfs cG (kF (g, g1, g2, g3))), (g1, .inl (cA, 24, .inl (rwm S X 5))), (g2, .inl (cA, 150, .inl (rwm S X 6))), (g3, .inl (cA, 1, .inl (upd (fun _ => 0) 0 (S 86 0))))])[i]? = some x := fun i hi => by
    match i, hi with
    | 0, _ => exact ⟨_, rfl, rfl⟩
    | 1, _ => exact ⟨_, rfl, rfl⟩
    | 2, _ => exact ⟨_, rfl, rfl⟩
    | 3, _ => exact ⟨_, rfl, rfl⟩
    | 4, _ => exact ⟨_, rfl, rfl⟩
    | 5, _ => exact ⟨_, rfl, rfl⟩
    | 6, _ => exact ⟨_, rfl, rfl⟩
    | 7, _ => exact ⟨_, rfl, rfl⟩
    | 8, _ => exact ⟨_, rfl, rfl⟩
    | 9, _ => exact ⟨_, rfl, rfl⟩
    | 10, _ => exact ⟨_, rfl, rfl⟩
  have hPl : va_P D vwCl (wl cA a S X ++ [(g, rfs cG (kF (g, g1, g2, g3))), (g1, .inl (cA, 24, .inl (rwm S X 5))), (g2, .inl (cA, 150, .inl (rwm S X 6))), (g3, .inl (cA, 1, .inl (upd (fun _ => 0) 0 (S 86 0))))]) H1 := hPl
  have hDl : va_D (AF a IM sz) (wl cA a S X ++ [(g, rfs cG (kF (g, g1, g2, g3))), (g1, .inl (cA, 24, .inl (rwm S X 5))), (g2, .inl (cA, 150, .inl (rwm S X 6))), (g3, .inl (cA, 1, .inl (upd (fun _ => 0) 0 (S 86 0))))]) := hDl
  have hne : ∀ k, IM k → a k ≠ g ∧ a k ≠ g1 ∧ a k ≠ g2 ∧ a k ≠ g3 := fun k hk => by
    obtain ⟨i, hi, rfl⟩ := hnk k hk
    obtain ⟨x, rfl, hx⟩ := hwl i hi
    exact ⟨fun e => by have := hDl.1 i 11 _ _ hx rfl e; omega, fun e => by have := hDl.1 i 12 _ _ hx rfl e; omega, fun e => by have := hDl.1 i 13 _ _ hx rfl e; omega, fun e => by have := hDl.1 i 14 _ _ hx rfl e; omega⟩
  have hsz : ∀ q, AF a IM sz q → (∀ k, IM k → a k ≠ q) → sz ≤ q := fun q h h9 => h.elim (fun ⟨k, hk, e⟩ => absurd e (h9 k hk)) id
  have hAr : ∀ t : State, s.WarmedH t.vm → ArrOfT t cG (.array .int) := fun t hW => arrOfT_moved hW.alike (fun N z => ⟨(fun k h => by cases h), kA, h1, comp, h2⟩)
  refine W.aret C0.1 C0.2.1 hr (Or.inr ⟨_, rfl⟩) (Or.inr ⟨g, rfl⟩) (fun t ht hW => ⟨⟨(cG, g1, g2, g3), g, rfl, trivial, ?_⟩, hS.F ht⟩) hS.2.2 dX9_kept_43 hlk
  show WQ D cA a S X IM t.heap ∧ KB D cA cG S (g, g1, g2, g3) t.heap ∧ KA a sz (g, g1, g2, g3) ∧ ArrOfT t cG (.array .int)
  rw [ht]
  refine ⟨fun k hk => ?_, ⟨hPl 11 _ rfl, hPl 12 _ rfl, hPl 13 _ rfl, hg3⟩, ⟨hne, hsz _ (hDl.2 11 _ rfl) (fun k hk => (hne k hk).1), hsz _ (hDl.2 12 _ rfl) (fun k hk => (hne k hk).2.1), hsz _ (hDl.2 13 _ rfl) (fun k hk => (hne k hk).2.2.1), hsz _ (hDl.2 14 _ rfl) (fun k hk => (hne k hk).2.2.2), fun e => by have := hDl.1 12 13 _ _ rfl rfl e; omega⟩, hAr t hW⟩
  obtain ⟨i, hi, rfl⟩ := hnk k hk
  obtain ⟨x, rfl, hx⟩ := hwl i hi
  exact hPl i _ hx
def PBk (D : va_G) (cA cG : ClassId) (a : Adr) (S S0 X : Mem) (w : Nat × Nat × Nat × Nat) : Array Value → State → Prop := va_Pc [.ref (a 20), .ref w.1] (fun U => WQ D cA a S X IM U.heap ∧ KB D cA cG S0 w U.heap ∧ KK D cA U ∧ ArrOfT U cG (.array .int))
theorem PBk.blind {D : va_G} {cA cG : ClassId} {a : Adr} {S S0 X : Mem} {w : Nat × Nat × Nat × Nat} : FrameBlind (PBk D cA cG a S S0 X w) := fun _ _ _ _ h => ⟨h.1, h.2.1, h.2.2.1, h.2.2.2.1.same rfl, h.2.2.2.2⟩
def QBk (D : va_G) (cA : ClassId) (a : Adr) (S0 X : Mem) (w : Nat × Nat × Nat × Nat) : Array Value → State → Outcome → State → Prop := va_Qv (fun _ : Unit => True) (fun _ t => WQ D cA (aN a w) S0 X IM t.heap) (AI a IM)
set_option maxHeartbeats 4000000 in
set_option maxRecDepth 100000 in
theorem c_X9_bringBack (l : Launch) (D : va_G) (cA cG : ClassId) (a : Adr) (S S0 X : Mem) (sz : Nat) (w : Nat × Nat × Nat × Nat) (hd : Hd nM a IM) (hw : KA a sz w) (hst : Sta S0 S) : Met l yX9_bringBack (.code yX9_bringBack cX9_bringBack 2 none :: GW) { frames := 0, cells := 0, slots := 0, locals := 20 } (PBk D cA cG a S S0 X w) (QBk D cA a S0 X w) 0 0 (AI a IM) := by
  refine Met.ofW (cc := cX9_bringBack) (maxL := 2) (ret := none) (by decide) rfl ?_
  intro p e s m args below meth c s₁ B hml hv
  obtain ⟨rfl, hP, hKB, hK, hAr⟩ := hv
  have hts := atoms_spec (ws := .code yX9_bringBack cX9_bringBack 2 none :: GW) B.pre
  have hl := lv_entry [.ref (a 20), .ref w.1] (n := 2) (Nat.le_of_ble_eq_true rfl)
  rw [lg_entry_eq]
  have C0 : CallFix p m c cX9_bringBack 2 s _ GW RX9 := ⟨B.exec, B.bytes, hml, findClass_of_methodNamed B.named, fun w h => hts w (List.mem_cons_of_mem _ h)⟩
  have hlk := B.notSynchronized
  have hr := B.returns
  have hS : va_S (AI a IM) s.heap s.heap [] := va_S.rf
  have hA20 : AI a IM (a 20) := ⟨20, by decide, rfl⟩
  have ho20 : va_at D vwCl (a 20, .inr (9, f20 a S X)) s.heap := hP 20 (by decide)
  generalize (lg_sl ([.ref (a 20), .ref w.1])  ++ List.replicate (2 - (lg_sl ([.ref (a 20), .ref w.1])).length) Slot.unset).toArray = ls at hl ⊢
  have hl : lv_has ls 2 [(0, .ref (a 20)), (1, .ref w.1)] := hl
  refine lv_aload_n C0.1 C0.2.1 dX9_bringBack_0 rfl (lv_at hl 0 rfl) ?_
  refine lv_aload_n C0.1 C0.2.1 dX9_bringBack_1 rfl (lv_at hl 1 rfl) ?_
  refine lv_iconst (v := 0) C0.1 C0.2.1 dX9_bringBack_2 (by decide) ?_
  refine alX (j := 0) (v := w.2.1) C0 hAr hKB.1 rfl (by decide) rfl dX9_bringBack_3 ?_
  refine po20 (j := 10) (ty := .array .int) C0 hK ho20 rfl hS hA20 (by decide) fl_X9_25 rfl (by decide +kernel) rfl rfl dX9_bringBack_4 (fun H1 locs ho20 z1 k1 hS => ?_)
  have g1 : w.1 ≠ a 20 := fun e => (hw.1 20 (by decide)).1 e.symm
  refine lv_aload_n C0.1 C0.2.1 dX9_bringBack_7 rfl (lv_at hl 0 rfl) ?_
  refine lv_aload_n C0.1 C0.2.1 dX9_bringBack_8 rfl (lv_at hl 1 rfl) ?_
  refine lv_iconst (v := 1) C0.1 C0.2.1 dX9_bringBack_9 (by decide) ?_
  refine alX (j := 1) (v := w.2.2.1) C0 hAr (hKB.1.kept (k1 _ g1)) rfl (by decide) rfl dX9_bringBack_10 ?_
  refine po20 (j := 11) (ty := .array .int) C0 hK ho20 rfl hS hA20 (by decide) fl_X9_28 rfl (by decide +kernel) rfl rfl dX9_bringBack_11 (fun H2 locs ho20 z2 k2 hS => ?_)
  refine lv_aload_n C0.1 C0.2.1 dX9_bringBack_14 rfl (lv_at hl 0 rfl) ?_
  refine lv_aload_n C0.1 C0.2.1 dX9_bringBack_15 rfl (lv_at hl 1 rfl) ?_
  refine lv_iconst (v := 2) C0.1 C0.2.1 dX9_bringBack_16 (by decide) ?_
  refine alX (j := 2) (v := w.2.2.2) C0 hAr (hKB.1.kept ((k2 _ g1).trans (k1 _ g1))) rfl (by decide) rfl dX9_bringBack_17 ?_
  refine lv_iconst (v := 0) C0.1 C0.2.1 dX9_bringBack_18 (by decide) ?_
  have g4 : w.2.2.2 ≠ a 20 := fun e => (hw.1 20 (by decide)).2.2.2 e.symm
  refine ald C0 hK (hKB.2.2.2.kept ((k2 _ g4).trans (k1 _ g4))) (show vp_in 0 1 from vp_in_nI (n := 0) (by decide) (by decide)) dX9_bringBack_19 ?_
  refine po20 (j := 9) (ty := .int) C0 hK ho20 rfl hS hA20 (by decide) fl_X9_54 rfl (by decide +kernel) rfl rfl dX9_bringBack_20 (fun H3 locs ho20 z3 k3 hS => ?_)
  have k9 : ∀ y : Nat, y ≠ a 20 → H3[y]? = s.heap[y]? := fun y hy => (k3 y hy).trans ((k2 y hy).trans (k1 y hy))
  refine W.vret C0.1 C0.2.1 hr (fun t ht _ => ⟨⟨(), rfl, trivial, ?_⟩, hS.F ht⟩) hS.2.2 dX9_bringBack_23 hlk
  show WQ D cA (aN a w) S0 X IM t.heap
  rw [ht]
  intro k hk
  have h9 : k = 0 ∨ k = 1 ∨ k = 2 ∨ k = 3 ∨ k = 4 ∨ k = 5 ∨ k = 6 ∨ k = 7 ∨ k = 8 ∨ k = 9 ∨ k = 20 := by simpa [nM] using hk
  have old : ∀ k, IM k → k < 10 → k ≠ 5 → k ≠ 6 → rwm S0 X k = rwm S X k → va_at D vwCl (aN a w k, cm cA (aN a w) S0 X k) H3 := fun k hk h10 h5 h6 e => by
    have h8 := hP k hk
    rw [cm_arr cA a S X h10] at h8
    rw [cm_arr cA _ S0 X h10, show aN a w k = a k by unfold aN; rw [if_neg h5, if_neg h6], e]
    exact h8.kept (k9 _ (fun e9 => by have := hd.2.2 k 20 hk (by decide) e9; omega))
  rcases h9 with rfl | rfl | rfl | rfl | rfl | rfl | rfl | rfl | rfl | rfl | rfl
  · exact old 0 (by decide) (by decide) (by decide) (by decide) (hst 0 (by omega)).symm
  · exact old 1 (by decide) (by decide) (by decide) (by decide) (hst 1 (by omega)).symm
  · exact old 2 (by decide) (by decide) (by decide) (by decide) (hst 2 (by omega)).symm
  · exact old 3 (by decide) (by decide) (by decide) (by decide) (hst 3 (by omega)).symm
  · exact old 4 (by decide) (by decide) (by decide) (by decide) (funext fun i => (congrFun (hst (4 + i % 6) (by omega)) _).symm)
  · exact hKB.2.1.kept (k9 _ (fun e => (hw.1 20 (by decide)).2.1 e.symm))
  · exact hKB.2.2.1.kept (k9 _ (fun e => (hw.1 20 (by decide)).2.2.1 e.symm))
  · exact old 7 (by decide) (by decide) (by decide) (by decide) rfl
  · exact old 8 (by decide) (by decide) (by decide) (by decide) rfl
  · exact old 9 (by decide) (by decide) (by decide) (by decide) rfl
  · have e : cm cA (aN a w) S0 X 20 = .inr (9, (((f20 a S X).set 10 (.ref w.2.1)).set 11 (.ref w.2.2.1)).set 9 (.int (S0 86 0))) := by
      show (.inr (9, f20 (aN a w) S0 X) : va_E) = .inr (9, f20 a S X |>.set 10 (.ref w.2.1) |>.set 11 (.ref w.2.2.1) |>.set 9 (.int (S0 86 0)))
      have e1 := hst 81 (by omega)
      have e2 := hst 82 (by omega)
      have e3 := hst 85 (by omega)
      simp [f20, aN, e1, e2, e3]
    rw [e]
    exact ho20
