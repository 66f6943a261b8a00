section NEED
variable {p : Program} {l : Launch} {e : Env} {R : Room} {s : State} {m : MethodId} {args : Array Value} {below : List Frame} {meth : Method} {c : Code} {H : Heap} {locs : List Loc} {cells slots mc ms : Nat} {Q : State → Prop}
variable {cc : ByteArray} {nL : Nat} {own : String} {pc : Nat} {ls : Array Slot} {rest : List Value} {D : va_G} {cA : ClassId} {a : Adr} {S X : Mem} {I : Nat → Prop} {H0 : Heap} {A0 : Nat → Prop} {sz : Nat}
set_option maxHeartbeats 4000000 in
set_option maxRecDepth 100000 in
theorem c_X8_needIndex (l : Launch) (hfl : l.stackTraces = false) (D : va_G) (cA : ClassId) (a : Adr) (S X : Mem) (I : Nat → Prop) (sz : Nat) (b : Bool) : MXV l yX8_needIndex cX8_needIndex 1 none 6 82 1 6 D cA a S X I sz [.int (bI b)] (fun S1 X1 => b = true ∧ S1 = S ∧ X1 = X) (fun E S1 X1 => E = xI ∧ b = false ∧ S1 = S ∧ X1 = X) := by
  refine mGoX (by decide) (Nat.le_of_ble_eq_true rfl) ?_
  intro p e s m args below meth c ls C0 hr hlk hex hsz hK hX hP hS hl
  refine lv_iload_n C0.1 C0.2.1 dX8_needIndex_0 rfl (lv_at hl 0 rfl) ?_
  refine lv_if_ne (tgt := 15) C0.1 C0.2.1 dX8_needIndex_1 (by decide) (fun c1 => ?_) (fun c1 => ?_)
  · exact retXV C0 hr hlk hP hS (Nat.zero_le _) (Nat.zero_le _) ⟨bI_ne c1, rfl, rfl⟩ dX8_needIndex_15
  · exact thr hfl C0 hlk hex hK hX hP hS (by decide) xk_I xi_I hX.2.1.1 xg_I xb_I hX.1.1 xo_I hl.1 dX8_needIndex_4 dX8_needIndex_7 dX8_needIndex_8 dX8_needIndex_11 dX8_needIndex_14 (by decide) (Nat.le_of_ble_eq_true rfl) (Nat.le_of_ble_eq_true rfl) (Nat.le_of_ble_eq_true rfl) (Nat.le_of_ble_eq_true rfl) (Nat.le_of_ble_eq_true rfl) ⟨rfl, bI_eq c1, rfl, rfl⟩
theorem k_X8_needIndex {px' : String → Mem → Mem → Prop} {Qc : Array Value → State → Outcome → State → Prop} {b : Bool} (hfl : l.stackTraces = false) (C0 : CallFix p m c cc nL s args GW own) (hlk : meth.locks = false) (hex : ∀ x ∈ c.exceptionTable.toList, False) (h0 : s.heap.size = sz) (hK : KK D cA s) (hX : XX (AF a I sz) s) (hP : WP D cA a S X I H) (hS : va_S (AF a I sz) s.heap H locs) (hls : ls.size = nL) {idx : Nat} (hlink : Cond.methodLink own idx yX8_needIndex ∈ GW) (hR : 7 ≤ R.frames ∧ 102 ≤ R.locals) (hf : cells + 1 ≤ R.cells ∧ slots + 6 ≤ R.slots) (hc : cells + 1 ≤ mc) (hs : slots + 6 ≤ ms) (hrest : (rest.map fun v => v.category).sum ≤ 8) (hdg : decode cc pc = .ok (.invokestatic idx, 3)) (hpx : b = false → px' xI S X)
    (kk : b = true → ∀ (H1 : Heap) (locs1 : List Loc), WP D cA a S X I H1 → va_S (AF a I sz) s.heap H1 locs1 → W p l e R s m args below meth c H1 locs1 (cells + 1) (slots + 6) (vx_MQ below Qc (XxC D cA a I sz px') args s mc ms (AF a I sz)) (F0 m (pc + 3) ls rest)) :
    W p l e R s m args below meth c H locs cells slots (vx_MQ below Qc (XxC D cA a I sz px') args s mc ms (AF a I sz)) (F0 m pc ls (.int (bI b) :: rest)) :=
  goXV (xrS (n := 1) (c_X8_needIndex l hfl D cA a S X I H.size b) C0 hlink sm_X8_needIndex in_X8 co_X8_needIndex (by decide) hR hK hX hP hS (AF.up hS h0) rfl hls hrest rfl hdg hf) hS h0 hlk hex (fun E S1 X1 h => by obtain ⟨rfl, hb, rfl, rfl⟩ := h; exact hpx hb) hc hs (fun S1 X1 H1 locs1 h hP1 hS1 => by obtain ⟨hb, rfl, rfl⟩ := h; exact kk hb H1 locs1 hP1 hS1)
set_option maxHeartbeats 4000000 in
set_option maxRecDepth 100000 in
theorem c_X8_needArgument (l : Launch) (hfl : l.stackTraces = false) (D : va_G) (cA : ClassId) (a : Adr) (S X : Mem) (I : Nat → Prop) (sz : Nat) (b : Bool) : MXV l yX8_needArgument cX8_needArgument 1 none 6 82 1 6 D cA a S X I sz [.int (bI b)] (fun S1 X1 => b = true ∧ S1 = S ∧ X1 = X) (fun E S1 X1 => E = xA ∧ b = false ∧ S1 = S ∧ X1 = X) := by
  refine mGoX (by decide) (Nat.le_of_ble_eq_true rfl) ?_
  intro p e s m args below meth c ls C0 hr hlk hex hsz hK hX hP hS hl
  refine lv_iload_n C0.1 C0.2.1 dX8_needArgument_0 rfl (lv_at hl 0 rfl) ?_
  refine lv_if_ne (tgt := 15) C0.1 C0.2.1 dX8_needArgument_1 (by decide) (fun c1 => ?_) (fun c1 => ?_)
  · exact retXV C0 hr hlk hP hS (Nat.zero_le _) (Nat.zero_le _) ⟨bI_ne c1, rfl, rfl⟩ dX8_needArgument_15
  · exact thr hfl C0 hlk hex hK hX hP hS (by decide) xk_A xi_A hX.2.1.2.1 xg_A xb_A hX.1.2.1 xo_A hl.1 dX8_needArgument_4 dX8_needArgument_7 dX8_needArgument_8 dX8_needArgument_11 dX8_needArgument_14 (by decide) (Nat.le_of_ble_eq_true rfl) (Nat.le_of_ble_eq_true rfl) (Nat.le_of_ble_eq_true rfl) (Nat.le_of_ble_eq_true rfl) (Nat.le_of_ble_eq_true rfl) ⟨rfl, bI_eq c1, rfl, rfl⟩
theorem k_X8_needArgument {px' : String → Mem → Mem → Prop} {Qc : Array Value → State → Outcome → State → Prop} {b : Bool} (hfl : l.stackTraces = false) (C0 : CallFix p m c cc nL s args GW own) (hlk : meth.locks = false) (hex : ∀ x ∈ c.exceptionTable.toList, False) (h0 : s.heap.size = sz) (hK : KK D cA s) (hX : XX (AF a I sz) s) (hP : WP D cA a S X I H) (hS : va_S (AF a I sz) s.heap H locs) (hls : ls.size = nL) {idx : Nat} (hlink : Cond.methodLink own idx yX8_needArgument ∈ GW) (hR : 7 ≤ R.frames ∧ 102 ≤ R.locals) (hf : cells + 1 ≤ R.cells ∧ slots + 6 ≤ R.slots) (hc : cells + 1 ≤ mc) (hs : slots + 6 ≤ ms) (hrest : (rest.map fun v => v.category).sum ≤ 8) (hdg : decode cc pc = .ok (.invokestatic idx, 3)) (hpx : b = false → px' xA S X)
    (kk : b = true → ∀ (H1 : Heap) (locs1 : List Loc), WP D cA a S X I H1 → va_S (AF a I sz) s.heap H1 locs1 → W p l e R s m args below meth c H1 locs1 (cells + 1) (slots + 6) (vx_MQ below Qc (XxC D cA a I sz px') args s mc ms (AF a I sz)) (F0 m (pc + 3) ls rest)) :
    W p l e R s m args below meth c H locs cells slots (vx_MQ below Qc (XxC D cA a I sz px') args s mc ms (AF a I sz)) (F0 m pc ls (.int (bI b) :: rest)) :=
  goXV (xrS (n := 1) (c_X8_needArgument l hfl D cA a S X I H.size b) C0 hlink sm_X8_needArgument in_X8 co_X8_needArgument (by decide) hR hK hX hP hS (AF.up hS h0) rfl hls hrest rfl hdg hf) hS h0 hlk hex (fun E S1 X1 h => by obtain ⟨rfl, hb, rfl, rfl⟩ := h; exact hpx hb) hc hs (fun S1 X1 H1 locs1 h hP1 hS1 => by obtain ⟨hb, rfl, rfl⟩ := h; exact kk hb H1 locs1 hP1 hS1)
set_option maxHeartbeats 4000000 in
set_option maxRecDepth 100000 in
theorem c_X8_needState (l : Launch) (hfl : l.stackTraces = false) (D : va_G) (cA : ClassId) (a : Adr) (S X : Mem) (I : Nat → Prop) (sz : Nat) (b : Bool) : MXV l yX8_needState cX8_needState 1 none 6 82 1 6 D cA a S X I sz [.int (bI b)] (fun S1 X1 => b = true ∧ S1 = S ∧ X1 = X) (fun E S1 X1 => E = xS ∧ b = false ∧ S1 = S ∧ X1 = X) := by
  refine mGoX (by decide) (Nat.le_of_ble_eq_true rfl) ?_
  intro p e s m args below meth c ls C0 hr hlk hex hsz hK hX hP hS hl
  refine lv_iload_n C0.1 C0.2.1 dX8_needState_0 rfl (lv_at hl 0 rfl) ?_
  refine lv_if_ne (tgt := 15) C0.1 C0.2.1 dX8_needState_1 (by decide) (fun c1 => ?_) (fun c1 => ?_)
  · exact retXV C0 hr hlk hP hS (Nat.zero_le _) (Nat.zero_le _) ⟨bI_ne c1, rfl, rfl⟩ dX8_needState_15
  · exact thr hfl C0 hlk hex hK hX hP hS (by decide) xk_S xi_S hX.2.1.2.2 xg_S xb_S hX.1.2.2.1 xo_S hl.1 dX8_needState_4 dX8_needState_7 dX8_needState_8 dX8_needState_11 dX8_needState_14 (by decide) (Nat.le_of_ble_eq_true rfl) (Nat.le_of_ble_eq_true rfl) (Nat.le_of_ble_eq_true rfl) (Nat.le_of_ble_eq_true rfl) (Nat.le_of_ble_eq_true rfl) ⟨rfl, bI_eq c1, rfl, rfl⟩
theorem k_X8_needState {px' : String → Mem → Mem → Prop} {Qc : Array Value → State → Outcome → State → Prop} {b : Bool} (hfl : l.stackTraces = false) (C0 : CallFix p m c cc nL s args GW own) (hlk : meth.locks = false) (hex : ∀ x ∈ c.exceptionTable.toList, False) (h0 : s.heap.size = sz) (hK : KK D cA s) (hX : XX (AF a I sz) s) (hP : WP D cA a S X I H) (hS : va_S (AF a I sz) s.heap H locs) (hls : ls.size = nL) {idx : Nat} (hlink : Cond.methodLink own idx yX8_needState ∈ GW) (hR : 7 ≤ R.frames ∧ 102 ≤ R.locals) (hf : cells + 1 ≤ R.cells ∧ slots + 6 ≤ R.slots) (hc : cells + 1 ≤ mc) (hs : slots + 6 ≤ ms) (hrest : (rest.map fun v => v.category).sum ≤ 8) (hdg : decode cc pc = .ok (.invokestatic idx, 3)) (hpx : b = false → px' xS S X)
    (kk : b = true → ∀ (H1 : Heap) (locs1 : List Loc), WP D cA a S X I H1 → va_S (AF a I sz) s.heap H1 locs1 → W p l e R s m args below meth c H1 locs1 (cells + 1) (slots + 6) (vx_MQ below Qc (XxC D cA a I sz px') args s mc ms (AF a I sz)) (F0 m (pc + 3) ls rest)) :
    W p l e R s m args below meth c H locs cells slots (vx_MQ below Qc (XxC D cA a I sz px') args s mc ms (AF a I sz)) (F0 m pc ls (.int (bI b) :: rest)) :=
  goXV (xrS (n := 1) (c_X8_needState l hfl D cA a S X I H.size b) C0 hlink sm_X8_needState in_X8 co_X8_needState (by decide) hR hK hX hP hS (AF.up hS h0) rfl hls hrest rfl hdg hf) hS h0 hlk hex (fun E S1 X1 h => by obtain ⟨rfl, hb, rfl, rfl⟩ := h; exact hpx hb) hc hs (fun S1 X1 H1 locs1 h hP1 hS1 => by obtain ⟨hb, rfl, rfl⟩ := h; exact kk hb H1 locs1 hP1 hS1)
end NEED
abbrev nF : List Nat := [0, 1, 2, 3, 4, 5, 6, 7, 8, 9, 10, 11, 12, 13, 14, 15, 16, 17, 18, 19, 20, 21, 22, 23, 24, 25, 26, 27, 28, 29, 30, 31, 32, 33, 40, 41, 42, 43, 44, 45, 46, 47, 48, 49, 50, 51, 52, 53, 54, 55, 56, 57, 58, 59, 60, 61, 62, 63, 64, 65, 66, 67, 68, 69, 70, 71, 72, 73, 80, 81, 82, 83, 84, 85, 86, 87, 88, 89]
/-- which exception, by what does not hold -/
def pxB (c1 c2 c3 : Bool) (S X : Mem) : String → Mem → Mem → Prop := fun E S1 X1 => S1 = S ∧ X1 = X ∧ ((E = xI ∧ c1 = false) ∨ (E = xA ∧ c1 = true ∧ c2 = false) ∨ (E = xS ∧ c1 = true ∧ c2 = true ∧ c3 = false))
abbrev oneB (x n : Int32) : Bool := decide (0 ≤ x) && decide (x < n)
abbrev plB (x y : Int32) : Bool := oneB x 14 && oneB y 14
abbrev inB (x lo hi : Int32) : Bool := decide (lo ≤ x) && decide (x ≤ hi)
