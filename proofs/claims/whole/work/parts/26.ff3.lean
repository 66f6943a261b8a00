theorem pxB_I {c1 c2 c3 : Bool} {S X : Mem} (h : c1 = false) : pxB c1 c2 c3 S X xI S X := ⟨rfl, rfl, Or.inl ⟨rfl, h⟩⟩
theorem pxB_A {c1 c2 c3 : Bool} {S X : Mem} (h1 : c1 = true) (h : c2 = false) : pxB c1 c2 c3 S X xA S X := ⟨rfl, rfl, Or.inr (Or.inl ⟨rfl, h1, h⟩)⟩
theorem pxB_S {c1 c2 c3 : Bool} {S X : Mem} (h1 : c1 = true) (h2 : c2 = true) (h : c3 = false) : pxB c1 c2 c3 S X xS S X := ⟨rfl, rfl, Or.inr (Or.inr ⟨rfl, h1, h2, h⟩)⟩
theorem one_nat {x : Int32} {n : Nat} (hn : n < 2 ^ 31) (h : oneB x (nI n) = true) : ∃ i, i < n ∧ x = nI i := by
  simp only [oneB, Bool.and_eq_true, decide_eq_true_eq] at h
  obtain ⟨i, hi, rfl⟩ := nI_of (Int32.not_lt.mpr h.1)
  exact ⟨i, (nI_ltI hi hn).mp h.2, rfl⟩
def celR (S : Mem) (P L h : Nat) (k w : Int32) : Int32 :=
  if w = 0 then rg (S 0) 196 k else if w = 1 then dpt S k (lvS S h) else if w = 2 then rg (S 1) 196 k else if w = 3 then bI (decide (dpt S k (lvS S h) < rg (S 1) 196 k)) else if w = 4 then fndF (fun j => decide (rg (S 3) 8 (nI j) = k)) 0 L else nI (cnt (fun j => decide (S 16 j = k)) P)
theorem in_nat {x : Int32} {m : Nat} (hm : m < 2 ^ 31) (h : inB x 0 (nI m) = true) : ∃ i, i ≤ m ∧ x = nI i := by
  simp only [inB, Bool.and_eq_true, decide_eq_true_eq] at h
  obtain ⟨i, hi, rfl⟩ := nI_of (Int32.not_lt.mpr h.1)
  exact ⟨i, (nI_leI hi hm).mp h.2, rfl⟩
section CLS
variable {p : Program} {l : Launch} {e : Env} {R : Room} {s : State} {m : MethodId} {args : Array Value} {below : List Frame} {meth : Method} {c : Code} {H : Heap} {locs : List Loc} {cells slots : Nat} {Q : State → Prop}
variable {cc : ByteArray} {nL : Nat} {own : String} {pc : Nat} {ls : Array Slot} {rest : List Value} {D : va_G} {cA : ClassId} {a : Adr} {S X : Mem} {I : Nat → Prop} {H0 : Heap} {A0 : Nat → Prop}
set_option maxHeartbeats 4000000 in
set_option maxRecDepth 100000 in
theorem c_X8_setGround (l : Launch) (hfl : l.stackTraces = false) (D : va_G) (cA : ClassId) (a : Adr) (S X : Mem) (I : Nat → Prop) (sz : Nat) (hd : Hd nF a I) (x : Int32) (y : Int32) (z : Int32) : MXI l yX8_setGround cX8_setGround 5 (some .int) 7 102 2 12 D cA a S X I sz [.ref (a 89), .int x, .int y, .int z] (fun r S1 X1 => (plB x y) = true ∧ (inB z 0 20) = true ∧ (true) = true ∧ r = (rg (S 0) 196 (x + 14 * y)) ∧ S1 = (up S 0 (us (S 0) 196 (x + 14 * y) z)) ∧ X1 = (up X 14 (fl (X 14) 300 0))) (pxB (plB x y) (inB z 0 20) (true) S X) := by
  refine mGoX (by decide) (Nat.le_of_ble_eq_true rfl) ?_
  intro p e s m args below meth c ls C0 hr hlk hex h0 hK hX hP hS hl
  obtain ⟨H, hHe⟩ : ∃ H, H = s.heap := ⟨_, rfl⟩
  obtain ⟨locs, hlo⟩ : ∃ L : List Loc, L = [] := ⟨_, rfl⟩
  have hP : WP D cA a S X I H := hHe ▸ hP
  have hS : va_S (AF a I sz) s.heap H locs := by rw [hHe, hlo]; exact hS
  rw [← hHe, ← hlo]
  have hA : ∀ q, AI a I q → AF a I sz q := fun _ h => Or.inl h
  refine lv_iload_n C0.1 C0.2.1 dX8_setGround_0 rfl (lv_at hl 1 rfl) ?_
  refine lv_iload_n C0.1 C0.2.1 dX8_setGround_1 rfl (lv_at hl 2 rfl) ?_
  refine k_X8_onPlain hd s0 C0 hK hP  (v := bI ((decide (0 ≤ x) && decide (x < 14)) && (decide (0 ≤ y) && decide (y < 14)))) rfl hS hA hl.1 ml_X8_60 ⟨Nat.le_of_ble_eq_true rfl, Nat.le_of_ble_eq_true rfl⟩ ⟨Nat.le_of_ble_eq_true rfl, Nat.le_of_ble_eq_true rfl⟩ (Nat.le_of_ble_eq_true rfl) dX8_setGround_2 (fun H locs hP hS => ?_)
  refine k_X8_needIndex (b := ((decide (0 ≤ x) && decide (x < 14)) && (decide (0 ≤ y) && decide (y < 14)))) hfl C0 hlk hex h0 hK hX hP hS hl.1 ml_X8_64 ⟨Nat.le_of_ble_eq_true rfl, Nat.le_of_ble_eq_true rfl⟩ ⟨Nat.le_of_ble_eq_true rfl, Nat.le_of_ble_eq_true rfl⟩ (Nat.le_of_ble_eq_true rfl) (Nat.le_of_ble_eq_true rfl) (Nat.le_of_ble_eq_true rfl) dX8_setGround_5 (fun hb => pxB_I (by simp only [Bool.and_true, Bool.true_and, Bool.and_false, Bool.false_and, Bool.not_true, Bool.not_false, hb])) (fun hb_5 H locs hP hS => ?_)
  refine lv_iload_n C0.1 C0.2.1 dX8_setGround_8 rfl (lv_at hl 3 rfl) ?_
  refine lv_iconst (v := 0) C0.1 C0.2.1 dX8_setGround_9 (by decide) ?_
  refine lv_bipush (v := 20) C0.1 C0.2.1 dX8_setGround_10 (by decide) ?_
  refine k_X8_within hd s0 C0 hK hP  (v := bI (decide (0 ≤ z) && decide (z ≤ 20))) rfl hS hA hl.1 ml_X8_68 ⟨Nat.le_of_ble_eq_true rfl, Nat.le_of_ble_eq_true rfl⟩ ⟨Nat.le_of_ble_eq_true rfl, Nat.le_of_ble_eq_true rfl⟩ (Nat.le_of_ble_eq_true rfl) dX8_setGround_12 (fun H locs hP hS => ?_)
  refine k_X8_needArgument (b := (decide (0 ≤ z) && decide (z ≤ 20))) hfl C0 hlk hex h0 hK hX hP hS hl.1 ml_X8_72 ⟨Nat.le_of_ble_eq_true rfl, Nat.le_of_ble_eq_true rfl⟩ ⟨Nat.le_of_ble_eq_true rfl, Nat.le_of_ble_eq_true rfl⟩ (Nat.le_of_ble_eq_true rfl) (Nat.le_of_ble_eq_true rfl) (Nat.le_of_ble_eq_true rfl) dX8_setGround_15 (fun hb => pxB_A (by simp only [hb_5, Bool.and_true, Bool.true_and, Bool.and_false, Bool.false_and, Bool.not_true, Bool.not_false, hb]) (by simp only [hb_5, Bool.and_true, Bool.true_and, Bool.and_false, Bool.false_and, Bool.not_true, Bool.not_false, hb])) (fun hb_15 H locs hP hS => ?_)
  refine lv_aload_n C0.1 C0.2.1 dX8_setGround_18 rfl (lv_at hl 0 rfl) ?_
  refine g89_plain C0 hK hP (hd.1 _ (by decide)) fl_X8_12 dX8_setGround_19 ?_
  refine g80_ground C0 hK hP (hd.1 _ (by decide)) fl_X8_75 dX8_setGround_22 ?_
  refine lv_iload_n C0.1 C0.2.1 dX8_setGround_25 rfl (lv_at hl 1 rfl) ?_
  refine lv_iload_n C0.1 C0.2.1 dX8_setGround_26 rfl (lv_at hl 2 rfl) ?_
  refine k_X8_cellOf hd s0 C0 hK hP  (v := x + 14 * y) rfl hS hA hl.1 ml_X8_79 ⟨Nat.le_of_ble_eq_true rfl, Nat.le_of_ble_eq_true rfl⟩ ⟨Nat.le_of_ble_eq_true rfl, Nat.le_of_ble_eq_true rfl⟩ (Nat.le_of_ble_eq_true rfl) dX8_setGround_27 (fun H locs hP hS => ?_)
  refine lv_iload_n C0.1 C0.2.1 dX8_setGround_30 rfl (lv_at hl 3 rfl) ?_
  refine k_X5_put (v := rg (S 0) 196 (x + 14 * y)) 0 (by decide) hd (by decide) (by decide) C0 hK hP rfl hS hA hl.1 ml_X8_83 ⟨Nat.le_of_ble_eq_true rfl, Nat.le_of_ble_eq_true rfl⟩ ⟨Nat.le_of_ble_eq_true rfl, Nat.le_of_ble_eq_true rfl⟩ (Nat.le_of_ble_eq_true rfl) dX8_setGround_31 (fun H locs hP hS => ?_)
  have hP : WP D cA a (up S 0 (us (S 0) 196 (x + 14 * y) z)) X I H := hP
  refine lv_istore (lv' := [(4, .int (rg (S 0) 196 (x + 14 * y))), (0, .ref (a 89)), (1, .int x), (2, .int y), (3, .int z)]) C0.1 C0.2.1 dX8_setGround_34 hl (by decide) rfl (fun ls hl => ?_)
  refine lv_aload_n C0.1 C0.2.1 dX8_setGround_36 rfl (lv_at hl 1 rfl) ?_
  refine g89_charts C0 hK hP (hd.1 _ (by decide)) fl_X8_44 dX8_setGround_37 ?_
  refine k_X1_forget hd sTF C0 hK hP  hS hA hl.1 ml_X8_88 ⟨Nat.le_of_ble_eq_true rfl, Nat.le_of_ble_eq_true rfl⟩ ⟨Nat.le_of_ble_eq_true rfl, Nat.le_of_ble_eq_true rfl⟩ (Nat.le_of_ble_eq_true rfl) dX8_setGround_40 (fun H locs hP hS => ?_)
  have hP : WP D cA a (up S 0 (us (S 0) 196 (x + 14 * y) z)) (up X 14 (fl (X 14) 300 0)) I H := hP
  refine lv_iload C0.1 C0.2.1 dX8_setGround_43 (lv_at hl 0 rfl) ?_
  exact retXI C0 hr hlk hP hS (Nat.le_of_ble_eq_true rfl) (Nat.le_of_ble_eq_true rfl) ⟨by simp only [hb_5, hb_15, Bool.and_true, Bool.true_and, Bool.and_false, Bool.false_and, Bool.not_true, Bool.not_false], by simp only [hb_5, hb_15, Bool.and_true, Bool.true_and, Bool.and_false, Bool.false_and, Bool.not_true, Bool.not_false], by simp only [hb_5, hb_15, Bool.and_true, Bool.true_and, Bool.and_false, Bool.false_and, Bool.not_true, Bool.not_false], rfl, rfl, rfl⟩ dX8_setGround_45
set_option maxHeartbeats 4000000 in
set_option maxRecDepth 100000 in
theorem c_X8_setWater (l : Launch) (hfl : l.stackTraces = false) (D : va_G) (cA : ClassId) (a : Adr) (S X : Mem) (I : Nat → Prop) (sz : Nat) (hd : Hd nF a I) (x : Int32) (z : Int32) : MXI l yX8_setWater cX8_setWater 3 (some .int) 7 102 2 12 D cA a S X I sz [.ref (a 89), .int x, .int z] (fun r S1 X1 => (oneB x 12) = true ∧ (inB z 0 24) = true ∧ (true) = true ∧ r = (rg (S 2) 12 x) ∧ S1 = (up S 2 (us (S 2) 12 x z)) ∧ X1 = X) (pxB (oneB x 12) (inB z 0 24) (true) S X) := by
  refine mGoX (by decide) (Nat.le_of_ble_eq_true rfl) ?_
  intro p e s m args below meth c ls C0 hr hlk hex h0 hK hX hP hS hl
  obtain ⟨H, hHe⟩ : ∃ H, H = s.heap := ⟨_, rfl⟩
  obtain ⟨locs, hlo⟩ : ∃ L : List Loc, L = [] := ⟨_, rfl⟩
  have hP : WP D cA a S X I H := hHe ▸ hP
  have hS : va_S (AF a I sz) s.heap H locs := by rw [hHe, hlo]; exact hS
  rw [← hHe, ← hlo]
  have hA : ∀ q, AI a I q → AF a I sz q := fun _ h => Or.inl h
  refine lv_iload_n C0.1 C0.2.1 dX8_setWater_0 rfl (lv_at hl 1 rfl) ?_
  refine lv_bipush (v := 12) C0.1 C0.2.1 dX8_setWater_1 (by decide) ?_
  refine k_X8_isOneOf hd s0 C0 hK hP  (v := bI (decide (0 ≤ x) && decide (x < 12))) rfl hS hA hl.1 ml_X8_91 ⟨Nat.le_of_ble_eq_true rfl, Nat.le_of_ble_eq_true rfl⟩ ⟨Nat.le_of_ble_eq_true rfl, Nat.le_of_ble_eq_true rfl⟩ (Nat.le_of_ble_eq_true rfl) dX8_setWater_3 (fun H locs hP hS => ?_)
  refine k_X8_needIndex (b := (decide (0 ≤ x) && decide (x < 12))) hfl C0 hlk hex h0 hK hX hP hS hl.1 ml_X8_64 ⟨Nat.le_of_ble_eq_true rfl, Nat.le_of_ble_eq_true rfl⟩ ⟨Nat.le_of_ble_eq_true rfl, Nat.le_of_ble_eq_true rfl⟩ (Nat.le_of_ble_eq_true rfl) (Nat.le_of_ble_eq_true rfl) (Nat.le_of_ble_eq_true rfl) dX8_setWater_6 (fun hb => pxB_I (by simp only [Bool.and_true, Bool.true_and, Bool.and_false, Bool.false_and, Bool.not_true, Bool.not_false, hb])) (fun hb_6 H locs hP hS => ?_)
  refine lv_iload_n C0.1 C0.2.1 dX8_setWater_9 rfl (lv_at hl 2 rfl) ?_
  refine lv_iconst (v := 0) C0.1 C0.2.1 dX8_setWater_10 (by decide) ?_
  refine lv_bipush (v := 24) C0.1 C0.2.1 dX8_setWater_11 (by decide) ?_
  refine k_X8_within hd s0 C0 hK hP  (v := bI (decide (0 ≤ z) && decide (z ≤ 24))) rfl hS hA hl.1 ml_X8_68 ⟨Nat.le_of_ble_eq_true rfl, Nat.le_of_ble_eq_true rfl⟩ ⟨Nat.le_of_ble_eq_true rfl, Nat.le_of_ble_eq_true rfl⟩ (Nat.le_of_ble_eq_true rfl) dX8_setWater_13 (fun H locs hP hS => ?_)
  refine k_X8_needArgument (b := (decide (0 ≤ z) && decide (z ≤ 24))) hfl C0 hlk hex h0 hK hX hP hS hl.1 ml_X8_72 ⟨Nat.le_of_ble_eq_true rfl, Nat.le_of_ble_eq_true rfl⟩ ⟨Nat.le_of_ble_eq_true rfl, Nat.le_of_ble_eq_true rfl⟩ (Nat.le_of_ble_eq_true rfl) (Nat.le_of_ble_eq_true rfl) (Nat.le_of_ble_eq_true rfl) dX8_setWater_16 (fun hb => pxB_A (by simp only [hb_6, Bool.and_true, Bool.true_and, Bool.and_false, Bool.false_and, Bool.not_true, Bool.not_false, hb]) (by simp only [hb_6, Bool.and_true, Bool.true_and, Bool.and_false, Bool.false_and, Bool.not_true, Bool.not_false, hb])) (fun hb_16 H locs hP hS => ?_)
  refine lv_aload_n C0.1 C0.2.1 dX8_setWater_19 rfl (lv_at hl 0 rfl) ?_
  refine g89_plain C0 hK hP (hd.1 _ (by decide)) fl_X8_12 dX8_setWater_20 ?_
  refine g80_water C0 hK hP (hd.1 _ (by decide)) fl_X8_94 dX8_setWater_23 ?_
  refine lv_iload_n C0.1 C0.2.1 dX8_setWater_26 rfl (lv_at hl 1 rfl) ?_
  refine lv_iload_n C0.1 C0.2.1 dX8_setWater_27 rfl (lv_at hl 2 rfl) ?_
  refine k_X5_put (v := rg (S 2) 12 x) 2 (by decide) hd (by decide) (by decide) C0 hK hP rfl hS hA hl.1 ml_X8_83 ⟨Nat.le_of_ble_eq_true rfl, Nat.le_of_ble_eq_true rfl⟩ ⟨Nat.le_of_ble_eq_true rfl, Nat.le_of_ble_eq_true rfl⟩ (Nat.le_of_ble_eq_true rfl) dX8_setWater_28 (fun H locs hP hS => ?_)
  have hP : WP D cA a (up S 2 (us (S 2) 12 x z)) X I H := hP
  exact retXI C0 hr hlk hP hS (Nat.le_of_ble_eq_true rfl) (Nat.le_of_ble_eq_true rfl) ⟨by simp only [hb_6, hb_16, Bool.and_true, Bool.true_and, Bool.and_false, Bool.false_and, Bool.not_true, Bool.not_false], by simp only [hb_6, hb_16, Bool.and_true, Bool.true_and, Bool.and_false, Bool.false_and, Bool.not_true, Bool.not_false], by simp only [hb_6, hb_16, Bool.and_true, Bool.true_and, Bool.and_false, Bool.false_and, Bool.not_true, Bool.not_false], rfl, rfl, rfl⟩ dX8_setWater_31
set_option maxHeartbeats 4000000 in
set_option maxRecDepth 100000 in
theorem c_X8_setStake (l : Launch) (hfl : l.stackTraces = false) (D : va_G) (cA : ClassId) (a : Adr) (S X : Mem) (I : Nat → Prop) (sz : Nat) (hd : Hd nF a I) (x : Int32) (y : Int32) (z : Int32) : MXI l yX8_setStake cX8_setStake 4 (some .int) 7 102 2 12 D cA a S X I sz [.ref (a 89), .int x, .int y, .int z] (fun r S1 X1 => (plB x y) = true ∧ (inB z 0 9) = true ∧ (true) = true ∧ r = (rg (S 1) 196 (x + 14 * y)) ∧ S1 = (up S 1 (us (S 1) 196 (x + 14 * y) z)) ∧ X1 = X) (pxB (plB x y) (inB z 0 9) (true) S X) := by
  refine mGoX (by decide) (Nat.le_of_ble_eq_true rfl) ?_
  intro p e s m args below meth c ls C0 hr hlk hex h0 hK hX hP hS hl
  obtain ⟨H, hHe⟩ : ∃ H, H = s.heap := ⟨_, rfl⟩
  obtain ⟨locs, hlo⟩ : ∃ L : List Loc, L = [] := ⟨_, rfl⟩
  have hP : WP D cA a S X I H := hHe ▸ hP
  have hS : va_S (AF a I sz) s.heap H locs := by rw [hHe, hlo]; exact hS
  rw [← hHe, ← hlo]
  have hA : ∀ q, AI a I q → AF a I sz q := fun _ h => Or.inl h
  refine lv_iload_n C0.1 C0.2.1 dX8_setStake_0 rfl (lv_at hl 1 rfl) ?_
  refine lv_iload_n C0.1 C0.2.1 dX8_setStake_1 rfl (lv_at hl 2 rfl) ?_
  refine k_X8_onPlain hd s0 C0 hK hP  (v := bI ((decide (0 ≤ x) && decide (x < 14)) && (decide (0 ≤ y) && decide (y < 14)))) rfl hS hA hl.1 ml_X8_60 ⟨Nat.le_of_ble_eq_true rfl, Nat.le_of_ble_eq_true rfl⟩ ⟨Nat.le_of_ble_eq_true rfl, Nat.le_of_ble_eq_true rfl⟩ (Nat.le_of_ble_eq_true rfl) dX8_setStake_2 (fun H locs hP hS => ?_)
  refine k_X8_needIndex (b := ((decide (0 ≤ x) && decide (x < 14)) && (decide (0 ≤ y) && decide (y < 14)))) hfl C0 hlk hex h0 hK hX hP hS hl.1 ml_X8_64 ⟨Nat.le_of_ble_eq_true rfl, Nat.le_of_ble_eq_true rfl⟩ ⟨Nat.le_of_ble_eq_true rfl, Nat.le_of_ble_eq_true rfl⟩ (Nat.le_of_ble_eq_true rfl) (Nat.le_of_ble_eq_true rfl) (Nat.le_of_ble_eq_true rfl) dX8_setStake_5 (fun hb => pxB_I (by simp only [Bool.and_true, Bool.true_and, Bool.and_false, Bool.false_and, Bool.not_true, Bool.not_false, hb])) (fun hb_5 H locs hP hS => ?_)
  refine lv_iload_n C0.1 C0.2.1 dX8_setStake_8 rfl (lv_at hl 3 rfl) ?_
  refine lv_iconst (v := 0) C0.1 C0.2.1 dX8_setStake_9 (by decide) ?_
  refine lv_bipush (v := 9) C0.1 C0.2.1 dX8_setStake_10 (by decide) ?_
  refine k_X8_within hd s0 C0 hK hP  (v := bI (decide (0 ≤ z) && decide (z ≤ 9))) rfl hS hA hl.1 ml_X8_68 ⟨Nat.le_of_ble_eq_true rfl, Nat.le_of_ble_eq_true rfl⟩ ⟨Nat.le_of_ble_eq_true rfl, Nat.le_of_ble_eq_true rfl⟩ (Nat.le_of_ble_eq_true rfl) dX8_setStake_12 (fun H locs hP hS => ?_)
  refine k_X8_needArgument (b := (decide (0 ≤ z) && decide (z ≤ 9))) hfl C0 hlk hex h0 hK hX hP hS hl.1 ml_X8_72 ⟨Nat.le_of_ble_eq_true rfl, Nat.le_of_ble_eq_true rfl⟩ ⟨Nat.le_of_ble_eq_true rfl, Nat.le_of_ble_eq_true rfl⟩ (Nat.le_of_ble_eq_true rfl) (Nat.le_of_ble_eq_true rfl) (Nat.le_of_ble_eq_true rfl) dX8_setStake_15 (fun hb => pxB_A (by simp only [hb_5, Bool.and_true, Bool.true_and, Bool.and_false, Bool.false_and, Bool.not_true, Bool.not_false, hb]) (by simp only [hb_5, Bool.and_true, Bool.true_and, Bool.and_false, Bool.false_and, Bool.not_true, Bool.not_false, hb])) (fun hb_15 H locs hP hS => ?_)
  refine lv_aload_n C0.1 C0.2.1 dX8_setStake_18 rfl (lv_at hl 0 rfl) ?_
  refine g89_plain C0 hK hP (hd.1 _ (by decide)) fl_X8_12 dX8_setStake_19 ?_
  refine g80_stake C0 hK hP (hd.1 _ (by decide)) fl_X8_97 dX8_setStake_22 ?_
  refine lv_iload_n C0.1 C0.2.1 dX8_setStake_25 rfl (lv_at hl 1 rfl) ?_
  refine lv_iload_n C0.1 C0.2.1 dX8_setStake_26 rfl (lv_at hl 2 rfl) ?_
  refine k_X8_cellOf hd s0 C0 hK hP  (v := x + 14 * y) rfl hS hA hl.1 ml_X8_79 ⟨Nat.le_of_ble_eq_true rfl, Nat.le_of_ble_eq_true rfl⟩ ⟨Nat.le_of_ble_eq_true rfl, Nat.le_of_ble_eq_true rfl⟩ (Nat.le_of_ble_eq_true rfl) dX8_setStake_27 (fun H locs hP hS => ?_)
  refine lv_iload_n C0.1 C0.2.1 dX8_setStake_30 rfl (lv_at hl 3 rfl) ?_
  refine k_X5_put (v := rg (S 1) 196 (x + 14 * y)) 1 (by decide) hd (by decide) (by decide) C0 hK hP rfl hS hA hl.1 ml_X8_83 ⟨Nat.le_of_ble_eq_true rfl, Nat.le_of_ble_eq_true rfl⟩ ⟨Nat.le_of_ble_eq_true rfl, Nat.le_of_ble_eq_true rfl⟩ (Nat.le_of_ble_eq_true rfl) dX8_setStake_31 (fun H locs hP hS => ?_)
  have hP : WP D cA a (up S 1 (us (S 1) 196 (x + 14 * y) z)) X I H := hP
  exact retXI C0 hr hlk hP hS (Nat.le_of_ble_eq_true rfl) (Nat.le_of_ble_eq_true rfl) ⟨by simp only [hb_5, hb_15, Bool.and_true, Bool.true_and, Bool.and_false, Bool.false_and, Bool.not_true, Bool.not_false], by simp only [hb_5, hb_15, Bool.and_true, Bool.true_and, Bool.and_false, Bool.false_and, Bool.not_true, Bool.not_false], by simp only [hb_5, hb_15, Bool.and_true, Bool.true_and, Bool.and_false, Bool.false_and, Bool.not_true, Bool.not_false], rfl, rfl, rfl⟩ dX8_setStake_34
set_option maxHeartbeats 4000000 in
set_option maxRecDepth 100000 in
theorem c_X8_cell (l : Launch) (hfl : l.stackTraces = false) (D : va_G) (cA : ClassId) (a : Adr) (S X : Mem) (I : Nat → Prop) (sz : Nat) (hd : Hd nF a I) (x : Int32) (y : Int32) (w : Int32) {P : Nat} {L : Nat} {h : Nat} (hnP : S 82 0 = nI P) (hnL : S 81 0 = nI L) (hnH : S 86 0 = nI h) (hh : h < 2 ^ 31) (hP6 : P ≤ 6) (hL8 : L ≤ 8) : MXI l yX8_cell cX8_cell 6 (some .int) 7 102 1 6 D cA a S X I sz [.ref (a 89), .int x, .int y, .int w] (fun r S1 X1 => (plB x y && oneB w 6) = true ∧ (true) = true ∧ (true) = true ∧ r = (celR S P L h (x + 14 * y) w) ∧ S1 = S ∧ X1 = X) (pxB (plB x y && oneB w 6) (true) (true) S X) := by
  refine mGoX (by decide) (Nat.le_of_ble_eq_true rfl) ?_
  intro p e s m args below meth c ls C0 hr hlk hex h0 hK hX hP hS hl
  obtain ⟨H, hHe⟩ : ∃ H, H = s.heap := ⟨_, rfl⟩
  obtain ⟨locs, hlo⟩ : ∃ L : List Loc, L = [] := ⟨_, rfl⟩
  have hP : WP D cA a S X I H := hHe ▸ hP
  have hS : va_S (AF a I sz) s.heap H locs := by rw [hHe, hlo]; exact hS
  rw [← hHe, ← hlo]
  have hA : ∀ q, AI a I q → AF a I sz q := fun _ h => Or.inl h
  refine lv_iload_n C0.1 C0.2.1 dX8_cell_0 rfl (lv_at hl 1 rfl) ?_
  refine lv_iload_n C0.1 C0.2.1 dX8_cell_1 rfl (lv_at hl 2 rfl) ?_
  refine k_X8_onPlain hd s0 C0 hK hP  (v := bI ((decide (0 ≤ x) && decide (x < 14)) && (decide (0 ≤ y) && decide (y < 14)))) rfl hS hA hl.1 ml_X8_60 ⟨Nat.le_of_ble_eq_true rfl, Nat.le_of_ble_eq_true rfl⟩ ⟨Nat.le_of_ble_eq_true rfl, Nat.le_of_ble_eq_true rfl⟩ (Nat.le_of_ble_eq_true rfl) dX8_cell_2 (fun H locs hP hS => ?_)
  refine lv_if_eq (tgt := 21) C0.1 C0.2.1 dX8_cell_5 (by decide) (fun c_5 => ?_) (fun c_5 => ?_)
  · have c_5 := bI_eq c_5
    refine lv_iconst (v := 0) C0.1 C0.2.1 dX8_cell_21 (by decide) ?_
    refine k_X8_needIndex (b := false) hfl C0 hlk hex h0 hK hX hP hS hl.1 ml_X8_64 ⟨Nat.le_of_ble_eq_true rfl, Nat.le_of_ble_eq_true rfl⟩ ⟨Nat.le_of_ble_eq_true rfl, Nat.le_of_ble_eq_true rfl⟩ (Nat.le_of_ble_eq_true rfl) (Nat.le_of_ble_eq_true rfl) (Nat.le_of_ble_eq_true rfl) dX8_cell_22 (fun _ => pxB_I (by simp only [c_5, Bool.and_true, Bool.true_and, Bool.and_false, Bool.false_and, Bool.not_true, Bool.not_false])) (fun hb_22 => absurd hb_22 Bool.false_ne_true)
  · have c_5 := bI_ne c_5
    refine lv_iload_n C0.1 C0.2.1 dX8_cell_8 rfl (lv_at hl 3 rfl) ?_
    refine lv_bipush (v := 6) C0.1 C0.2.1 dX8_cell_9 (by decide) ?_
    refine k_X8_isOneOf hd s0 C0 hK hP  (v := bI (decide (0 ≤ w) && decide (w < 6))) rfl hS hA hl.1 ml_X8_91 ⟨Nat.le_of_ble_eq_true rfl, Nat.le_of_ble_eq_true rfl⟩ ⟨Nat.le_of_ble_eq_true rfl, Nat.le_of_ble_eq_true rfl⟩ (Nat.le_of_ble_eq_true rfl) dX8_cell_11 (fun H locs hP hS => ?_)
    refine lv_if_eq (tgt := 21) C0.1 C0.2.1 dX8_cell_14 (by decide) (fun c_14 => ?_) (fun c_14 => ?_)
    · have c_14 := bI_eq c_14
      refine lv_iconst (v := 0) C0.1 C0.2.1 dX8_cell_21 (by decide) ?_
      refine k_X8_needIndex (b := false) hfl C0 hlk hex h0 hK hX hP hS hl.1 ml_X8_64 ⟨Nat.le_of_ble_eq_true rfl, Nat.le_of_ble_eq_true rfl⟩ ⟨Nat.le_of_ble_eq_true rfl, Nat.le_of_ble_eq_true rfl⟩ (Nat.le_of_ble_eq_true rfl) (Nat.le_of_ble_eq_true rfl) (Nat.le_of_ble_eq_true rfl) dX8_cell_22 (fun _ => pxB_I (by simp only [c_5, c_14, Bool.and_true, Bool.true_and, Bool.and_false, Bool.false_and, Bool.not_true, Bool.not_false])) (fun hb_22 => absurd hb_22 Bool.false_ne_true)
    · have c_14 := bI_ne c_14
      refine lv_iconst (v := 1) C0.1 C0.2.1 dX8_cell_17 (by decide) ?_
      refine lv_goto (tgt := 22) C0.1 C0.2.1 dX8_cell_18 (by decide) ?_
      refine k_X8_needIndex (b := true) hfl C0 hlk hex h0 hK hX hP hS hl.1 ml_X8_64 ⟨Nat.le_of_ble_eq_true rfl, Nat.le_of_ble_eq_true rfl⟩ ⟨Nat.le_of_ble_eq_true rfl, Nat.le_of_ble_eq_true rfl⟩ (Nat.le_of_ble_eq_true rfl) (Nat.le_of_ble_eq_true rfl) (Nat.le_of_ble_eq_true rfl) dX8_cell_22 (fun hb => absurd hb.symm Bool.false_ne_true) (fun hb_22 H locs hP hS => ?_)
      refine lv_iload_n C0.1 C0.2.1 dX8_cell_25 rfl (lv_at hl 1 rfl) ?_
      refine lv_iload_n C0.1 C0.2.1 dX8_cell_26 rfl (lv_at hl 2 rfl) ?_
      refine k_X8_cellOf hd s0 C0 hK hP  (v := x + 14 * y) rfl hS hA hl.1 ml_X8_79 ⟨Nat.le_of_ble_eq_true rfl, Nat.le_of_ble_eq_true rfl⟩ ⟨Nat.le_of_ble_eq_true rfl, Nat.le_of_ble_eq_true rfl⟩ (Nat.le_of_ble_eq_true rfl) dX8_cell_27 (fun H locs hP hS => ?_)
      refine lv_istore (lv' := [(4, .int (x + 14 * y)), (0, .ref (a 89)), (1, .int x), (2, .int y), (3, .int w)]) C0.1 C0.2.1 dX8_cell_30 hl (by decide) rfl (fun ls hl => ?_)
      refine lv_aload_n C0.1 C0.2.1 dX8_cell_32 rfl (lv_at hl 1 rfl) ?_
      refine g89_now C0 hK hP (hd.1 _ (by decide)) fl_X8_53 dX8_cell_33 ?_
      refine k_X6_level hd sTF C0 hK hP hnH hh (v := S 2 (h % 12)) rfl hS hA hl.1 ml_X8_100 ⟨Nat.le_of_ble_eq_true rfl, Nat.le_of_ble_eq_true rfl⟩ ⟨Nat.le_of_ble_eq_true rfl, Nat.le_of_ble_eq_true rfl⟩ (Nat.le_of_ble_eq_true rfl) dX8_cell_36 (fun H locs hP hS => ?_)
      refine lv_istore (lv' := [(5, .int (S 2 (h % 12))), (4, .int (x + 14 * y)), (0, .ref (a 89)), (1, .int x), (2, .int y), (3, .int w)]) C0.1 C0.2.1 dX8_cell_39 hl (by decide) rfl (fun ls hl => ?_)
      refine lv_iload_n C0.1 C0.2.1 dX8_cell_41 rfl (lv_at hl 5 rfl) ?_
      by_cases k_42_0 : w = 0
      · refine lv_tableIn (off := 34) (tgt := 76) C0.1 C0.2.1 dX8_cell_42 (by rw [k_42_0]; decide) (by rw [k_42_0]; decide) (by rw [k_42_0]; decide) (by decide) ?_
        refine lv_aload_n C0.1 C0.2.1 dX8_cell_76 rfl (lv_at hl 2 rfl) ?_
        refine g89_plain C0 hK hP (hd.1 _ (by decide)) fl_X8_12 dX8_cell_77 ?_
        refine g80_ground C0 hK hP (hd.1 _ (by decide)) fl_X8_75 dX8_cell_80 ?_
        refine lv_iload C0.1 C0.2.1 dX8_cell_83 (lv_at hl 1 rfl) ?_
        refine k_X5_get (v := rg (S 0) 196 (x + 14 * y)) 0 (by decide) hd (by decide) (by decide) C0 hK hP rfl hS hA hl.1 ml_X8_104 ⟨Nat.le_of_ble_eq_true rfl, Nat.le_of_ble_eq_true rfl⟩ ⟨Nat.le_of_ble_eq_true rfl, Nat.le_of_ble_eq_true rfl⟩ (Nat.le_of_ble_eq_true rfl) dX8_cell_85 (fun H locs hP hS => ?_)
        exact retXI C0 hr hlk hP hS (Nat.le_of_ble_eq_true rfl) (Nat.le_of_ble_eq_true rfl) ⟨by simp only [c_5, c_14, Bool.and_true, Bool.true_and, Bool.and_false, Bool.false_and, Bool.not_true, Bool.not_false], by simp only [c_5, c_14, Bool.and_true, Bool.true_and, Bool.and_false, Bool.false_and, Bool.not_true, Bool.not_false], by simp only [c_5, c_14, Bool.and_true, Bool.true_and, Bool.and_false, Bool.false_and, Bool.not_true, Bool.not_false], by unfold celR; rw [k_42_0]; rfl, rfl, rfl⟩ dX8_cell_88
      by_cases k_42_1 : w = 1
      · refine lv_tableIn (off := 47) (tgt := 89) C0.1 C0.2.1 dX8_cell_42 (by rw [k_42_1]; decide) (by rw [k_42_1]; decide) (by rw [k_42_1]; decide) (by decide) ?_
        refine lv_aload_n C0.1 C0.2.1 dX8_cell_89 rfl (lv_at hl 2 rfl) ?_
        refine g89_plain C0 hK hP (hd.1 _ (by decide)) fl_X8_12 dX8_cell_90 ?_
        refine lv_iload C0.1 C0.2.1 dX8_cell_93 (lv_at hl 1 rfl) ?_
        refine lv_iload C0.1 C0.2.1 dX8_cell_95 (lv_at hl 0 rfl) ?_
        refine k_X4_depth hd sTF C0 hK hP  (v := dpt S (x + 14 * y) (S 2 (h % 12))) rfl hS hA hl.1 ml_X8_108 ⟨Nat.le_of_ble_eq_true rfl, Nat.le_of_ble_eq_true rfl⟩ ⟨Nat.le_of_ble_eq_true rfl, Nat.le_of_ble_eq_true rfl⟩ (Nat.le_of_ble_eq_true rfl) dX8_cell_97 (fun H locs hP hS => ?_)
        exact retXI C0 hr hlk hP hS (Nat.le_of_ble_eq_true rfl) (Nat.le_of_ble_eq_true rfl) ⟨by simp only [c_5, c_14, Bool.and_true, Bool.true_and, Bool.and_false, Bool.false_and, Bool.not_true, Bool.not_false], by simp only [c_5, c_14, Bool.and_true, Bool.true_and, Bool.and_false, Bool.false_and, Bool.not_true, Bool.not_false], by simp only [c_5, c_14, Bool.and_true, Bool.true_and, Bool.and_false, Bool.false_and, Bool.not_true, Bool.not_false], by unfold celR; rw [k_42_1]; rfl, rfl, rfl⟩ dX8_cell_100
      by_cases k_42_2 : w = 2
      · refine lv_tableIn (off := 59) (tgt := 101) C0.1 C0.2.1 dX8_cell_42 (by rw [k_42_2]; decide) (by rw [k_42_2]; decide) (by rw [k_42_2]; decide) (by decide) ?_
        refine lv_aload_n C0.1 C0.2.1 dX8_cell_101 rfl (lv_at hl 2 rfl) ?_
        refine g89_plain C0 hK hP (hd.1 _ (by decide)) fl_X8_12 dX8_cell_102 ?_
        refine g80_stake C0 hK hP (hd.1 _ (by decide)) fl_X8_97 dX8_cell_105 ?_
        refine lv_iload C0.1 C0.2.1 dX8_cell_108 (lv_at hl 1 rfl) ?_
        refine k_X5_get (v := rg (S 1) 196 (x + 14 * y)) 1 (by decide) hd (by decide) (by decide) C0 hK hP rfl hS hA hl.1 ml_X8_104 ⟨Nat.le_of_ble_eq_true rfl, Nat.le_of_ble_eq_true rfl⟩ ⟨Nat.le_of_ble_eq_true rfl, Nat.le_of_ble_eq_true rfl⟩ (Nat.le_of_ble_eq_true rfl) dX8_cell_110 (fun H locs hP hS => ?_)
        exact retXI C0 hr hlk hP hS (Nat.le_of_ble_eq_true rfl) (Nat.le_of_ble_eq_true rfl) ⟨by simp only [c_5, c_14, Bool.and_true, Bool.true_and, Bool.and_false, Bool.false_and, Bool.not_true, Bool.not_false], by simp only [c_5, c_14, Bool.and_true, Bool.true_and, Bool.and_false, Bool.false_and, Bool.not_true, Bool.not_false], by simp only [c_5, c_14, Bool.and_true, Bool.true_and, Bool.and_false, Bool.false_and, Bool.not_true, Bool.not_false], by unfold celR; rw [k_42_2]; rfl, rfl, rfl⟩ dX8_cell_113
      by_cases k_42_3 : w = 3
      · refine lv_tableIn (off := 72) (tgt := 114) C0.1 C0.2.1 dX8_cell_42 (by rw [k_42_3]; decide) (by rw [k_42_3]; decide) (by rw [k_42_3]; decide) (by decide) ?_
        refine lv_aload_n C0.1 C0.2.1 dX8_cell_114 rfl (lv_at hl 2 rfl) ?_
        refine g89_plain C0 hK hP (hd.1 _ (by decide)) fl_X8_12 dX8_cell_115 ?_
        refine lv_iload C0.1 C0.2.1 dX8_cell_118 (lv_at hl 1 rfl) ?_
        refine lv_iload C0.1 C0.2.1 dX8_cell_120 (lv_at hl 0 rfl) ?_
        refine k_X4_showsStake hd sTF C0 hK hP  (v := bI (decide (dpt S (x + 14 * y) (S 2 (h % 12)) < rg (S 1) 196 (x + 14 * y)))) rfl hS hA hl.1 ml_X8_111 ⟨Nat.le_of_ble_eq_true rfl, Nat.le_of_ble_eq_true rfl⟩ ⟨Nat.le_of_ble_eq_true rfl, Nat.le_of_ble_eq_true rfl⟩ (Nat.le_of_ble_eq_true rfl) dX8_cell_122 (fun H locs hP hS => ?_)
        refine lv_if_eq (tgt := 132) C0.1 C0.2.1 dX8_cell_125 (by decide) (fun c_125 => ?_) (fun c_125 => ?_)
        · have c_125 := bI_eq c_125
          refine lv_iconst (v := 0) C0.1 C0.2.1 dX8_cell_132 (by decide) ?_
          exact retXI C0 hr hlk hP hS (Nat.le_of_ble_eq_true rfl) (Nat.le_of_ble_eq_true rfl) ⟨by simp only [c_5, c_14, c_125, Bool.and_true, Bool.true_and, Bool.and_false, Bool.false_and, Bool.not_true, Bool.not_false], by simp only [c_5, c_14, c_125, Bool.and_true, Bool.true_and, Bool.and_false, Bool.false_and, Bool.not_true, Bool.not_false], by simp only [c_5, c_14, c_125, Bool.and_true, Bool.true_and, Bool.and_false, Bool.false_and, Bool.not_true, Bool.not_false], by unfold celR lvS; rw [k_42_3]; show _ = bI _; rw [c_125]; rfl, rfl, rfl⟩ dX8_cell_133
        · have c_125 := bI_ne c_125
          refine lv_iconst (v := 1) C0.1 C0.2.1 dX8_cell_128 (by decide) ?_
          refine lv_goto (tgt := 133) C0.1 C0.2.1 dX8_cell_129 (by decide) ?_
          exact retXI C0 hr hlk hP hS (Nat.le_of_ble_eq_true rfl) (Nat.le_of_ble_eq_true rfl) ⟨by simp only [c_5, c_14, c_125, Bool.and_true, Bool.true_and, Bool.and_false, Bool.false_and, Bool.not_true, Bool.not_false], by simp only [c_5, c_14, c_125, Bool.and_true, Bool.true_and, Bool.and_false, Bool.false_and, Bool.not_true, Bool.not_false], by simp only [c_5, c_14, c_125, Bool.and_true, Bool.true_and, Bool.and_false, Bool.false_and, Bool.not_true, Bool.not_false], by unfold celR lvS; rw [k_42_3]; show _ = bI _; rw [c_125]; rfl, rfl, rfl⟩ dX8_cell_133
      by_cases k_42_4 : w = 4
      · refine lv_tableIn (off := 92) (tgt := 134) C0.1 C0.2.1 dX8_cell_42 (by rw [k_42_4]; decide) (by rw [k_42_4]; decide) (by rw [k_42_4]; decide) (by decide) ?_
        refine lv_aload_n C0.1 C0.2.1 dX8_cell_134 rfl (lv_at hl 2 rfl) ?_
        refine g89_landings C0 hK hP (hd.1 _ (by decide)) fl_X8_19 dX8_cell_135 ?_
        refine lv_iload C0.1 C0.2.1 dX8_cell_138 (lv_at hl 1 rfl) ?_
        refine k_X3_on hd sTF C0 hK hP hnL hL8 (v := fndF (fun j => decide (rg (S 3) 8 (nI j) = (x + 14 * y))) 0 L) rfl hS hA hl.1 ml_X8_114 ⟨Nat.le_of_ble_eq_true rfl, Nat.le_of_ble_eq_true rfl⟩ ⟨Nat.le_of_ble_eq_true rfl, Nat.le_of_ble_eq_true rfl⟩ (Nat.le_of_ble_eq_true rfl) dX8_cell_140 (fun H locs hP hS => ?_)
        exact retXI C0 hr hlk hP hS (Nat.le_of_ble_eq_true rfl) (Nat.le_of_ble_eq_true rfl) ⟨by simp only [c_5, c_14, Bool.and_true, Bool.true_and, Bool.and_false, Bool.false_and, Bool.not_true, Bool.not_false], by simp only [c_5, c_14, Bool.and_true, Bool.true_and, Bool.and_false, Bool.false_and, Bool.not_true, Bool.not_false], by simp only [c_5, c_14, Bool.and_true, Bool.true_and, Bool.and_false, Bool.false_and, Bool.not_true, Bool.not_false], by unfold celR; rw [k_42_4]; rfl, rfl, rfl⟩ dX8_cell_143
      refine lv_tableOut (tgt := 144) C0.1 C0.2.1 dX8_cell_42 (sw_out4 k_42_0 k_42_1 k_42_2 k_42_3 k_42_4) (by decide) ?_
      refine lv_aload_n C0.1 C0.2.1 dX8_cell_144 rfl (lv_at hl 2 rfl) ?_
      refine g89_now C0 hK hP (hd.1 _ (by decide)) fl_X8_53 dX8_cell_145 ?_
      refine g86_cell C0 hK hP (hd.1 _ (by decide)) fl_X8_117 dX8_cell_148 ?_
      refine lv_iload C0.1 C0.2.1 dX8_cell_151 (lv_at hl 1 rfl) ?_
      refine lv_aload_n C0.1 C0.2.1 dX8_cell_153 rfl (lv_at hl 2 rfl) ?_
      refine g89_fleet C0 hK hP (hd.1 _ (by decide)) fl_X8_26 dX8_cell_154 ?_
      refine g82_number (v := nI P) C0 hK hP (hd.1 _ (by decide)) fl_X8_120 hnP dX8_cell_157 ?_
      refine k_X5_howMany (v := nI (cnt (fun j => decide ((S 16) j = (x + 14 * y))) P)) 16 (by decide) hd (by decide) (by decide) C0 hK hP (show P ≤ 6 by omega) rfl hS hA hl.1 ml_X8_124 ⟨Nat.le_of_ble_eq_true rfl, Nat.le_of_ble_eq_true rfl⟩ ⟨Nat.le_of_ble_eq_true rfl, Nat.le_of_ble_eq_true rfl⟩ (Nat.le_of_ble_eq_true rfl) dX8_cell_160 (fun H locs hP hS => ?_)
      exact retXI C0 hr hlk hP hS (Nat.le_of_ble_eq_true rfl) (Nat.le_of_ble_eq_true rfl) ⟨by simp only [c_5, c_14, Bool.and_true, Bool.true_and, Bool.and_false, Bool.false_and, Bool.not_true, Bool.not_false], by simp only [c_5, c_14, Bool.and_true, Bool.true_and, Bool.and_false, Bool.false_and, Bool.not_true, Bool.not_false], by simp only [c_5, c_14, Bool.and_true, Bool.true_and, Bool.and_false, Bool.false_and, Bool.not_true, Bool.not_false], by unfold celR; rw [if_neg k_42_0, if_neg k_42_1, if_neg k_42_2, if_neg k_42_3, if_neg k_42_4], rfl, rfl⟩ dX8_cell_163
set_option maxHeartbeats 4000000 in
set_option maxRecDepth 100000 in
theorem c_X8_addLanding (l : Launch) (hfl : l.stackTraces = false) (D : va_G) (cA : ClassId) (a : Adr) (S X : Mem) (I : Nat → Prop) (sz : Nat) (hd : Hd nF a I) (x : Int32) (y : Int32) {L : Nat} (hnL : S 81 0 = nI L) (hL8 : L ≤ 8) : MXI l yX8_addLanding cX8_addLanding 4 (some .int) 7 102 2 12 D cA a S X I sz [.ref (a 89), .int x, .int y] (fun r S1 X1 => (plB x y) = true ∧ (true) = true ∧ (decide ((fndF (fun j => decide (rg (S 3) 8 (nI j) = x + 14 * y)) 0 L) = -1) && !decide (8 ≤ nI L)) = true ∧ r = (S 81 0) ∧ S1 = (up (up S 3 (us (S 3) 8 (S 81 0) (x + 14 * y))) 81 (fun _ => S 81 0 + 1)) ∧ X1 = X) (pxB (plB x y) (true) (decide ((fndF (fun j => decide (rg (S 3) 8 (nI j) = x + 14 * y)) 0 L) = -1) && !decide (8 ≤ nI L)) S X) := by
  refine mGoX (by decide) (Nat.le_of_ble_eq_true rfl) ?_
  intro p e s m args below meth c ls C0 hr hlk hex h0 hK hX hP hS hl
  obtain ⟨H, hHe⟩ : ∃ H, H = s.heap := ⟨_, rfl⟩
  obtain ⟨locs, hlo⟩ : ∃ L : List Loc, L = [] := ⟨_, rfl⟩
  have hP : WP D cA a S X I H := hHe ▸ hP
  have hS : va_S (AF a I sz) s.heap H locs := by rw [hHe, hlo]; exact hS
  rw [← hHe, ← hlo]
  have hA : ∀ q, AI a I q → AF a I sz q := fun _ h => Or.inl h
  refine lv_iload_n C0.1 C0.2.1 dX8_addLanding_0 rfl (lv_at hl 1 rfl) ?_
  refine lv_iload_n C0.1 C0.2.1 dX8_addLanding_1 rfl (lv_at hl 2 rfl) ?_
  refine k_X8_onPlain hd s0 C0 hK hP  (v := bI ((decide (0 ≤ x) && decide (x < 14)) && (decide (0 ≤ y) && decide (y < 14)))) rfl hS hA hl.1 ml_X8_60 ⟨Nat.le_of_ble_eq_true rfl, Nat.le_of_ble_eq_true rfl⟩ ⟨Nat.le_of_ble_eq_true rfl, Nat.le_of_ble_eq_true rfl⟩ (Nat.le_of_ble_eq_true rfl) dX8_addLanding_2 (fun H locs hP hS => ?_)
  refine k_X8_needIndex (b := ((decide (0 ≤ x) && decide (x < 14)) && (decide (0 ≤ y) && decide (y < 14)))) hfl C0 hlk hex h0 hK hX hP hS hl.1 ml_X8_64 ⟨Nat.le_of_ble_eq_true rfl, Nat.le_of_ble_eq_true rfl⟩ ⟨Nat.le_of_ble_eq_true rfl, Nat.le_of_ble_eq_true rfl⟩ (Nat.le_of_ble_eq_true rfl) (Nat.le_of_ble_eq_true rfl) (Nat.le_of_ble_eq_true rfl) dX8_addLanding_5 (fun hb => pxB_I (by simp only [Bool.and_true, Bool.true_and, Bool.and_false, Bool.false_and, Bool.not_true, Bool.not_false, hb])) (fun hb_5 H locs hP hS => ?_)
  refine lv_iload_n C0.1 C0.2.1 dX8_addLanding_8 rfl (lv_at hl 1 rfl) ?_
  refine lv_iload_n C0.1 C0.2.1 dX8_addLanding_9 rfl (lv_at hl 2 rfl) ?_
  refine k_X8_cellOf hd s0 C0 hK hP  (v := x + 14 * y) rfl hS hA hl.1 ml_X8_79 ⟨Nat.le_of_ble_eq_true rfl, Nat.le_of_ble_eq_true rfl⟩ ⟨Nat.le_of_ble_eq_true rfl, Nat.le_of_ble_eq_true rfl⟩ (Nat.le_of_ble_eq_true rfl) dX8_addLanding_10 (fun H locs hP hS => ?_)
  refine lv_istore_n (lv' := [(3, .int (x + 14 * y)), (0, .ref (a 89)), (1, .int x), (2, .int y)]) C0.1 C0.2.1 dX8_addLanding_13 rfl hl (by decide) rfl (fun ls hl => ?_)
  refine lv_aload_n C0.1 C0.2.1 dX8_addLanding_14 rfl (lv_at hl 1 rfl) ?_
  refine g89_landings C0 hK hP (hd.1 _ (by decide)) fl_X8_19 dX8_addLanding_15 ?_
  refine lv_iload_n C0.1 C0.2.1 dX8_addLanding_18 rfl (lv_at hl 0 rfl) ?_
  refine k_X3_on hd sTF C0 hK hP hnL hL8 (v := fndF (fun j => decide (rg (S 3) 8 (nI j) = (x + 14 * y))) 0 L) rfl hS hA hl.1 ml_X8_114 ⟨Nat.le_of_ble_eq_true rfl, Nat.le_of_ble_eq_true rfl⟩ ⟨Nat.le_of_ble_eq_true rfl, Nat.le_of_ble_eq_true rfl⟩ (Nat.le_of_ble_eq_true rfl) dX8_addLanding_19 (fun H locs hP hS => ?_)
  refine lv_iconst (v := (-1)) C0.1 C0.2.1 dX8_addLanding_22 (by decide) ?_
  refine lv_icmp_ne (tgt := 42) C0.1 C0.2.1 dX8_addLanding_23 (by decide) (fun c_23 => ?_) (fun c_23 => ?_)
  · refine lv_iconst (v := 0) C0.1 C0.2.1 dX8_addLanding_42 (by decide) ?_
    refine k_X8_needState (b := false) hfl C0 hlk hex h0 hK hX hP hS hl.1 ml_X8_128 ⟨Nat.le_of_ble_eq_true rfl, Nat.le_of_ble_eq_true rfl⟩ ⟨Nat.le_of_ble_eq_true rfl, Nat.le_of_ble_eq_true rfl⟩ (Nat.le_of_ble_eq_true rfl) (Nat.le_of_ble_eq_true rfl) (Nat.le_of_ble_eq_true rfl) dX8_addLanding_43 (fun _ => pxB_S (by simp only [hb_5, decide_eq_false c_23, Bool.and_true, Bool.true_and, Bool.and_false, Bool.false_and, Bool.not_true, Bool.not_false]) (by simp only [hb_5, decide_eq_false c_23, Bool.and_true, Bool.true_and, Bool.and_false, Bool.false_and, Bool.not_true, Bool.not_false]) (by simp only [hb_5, decide_eq_false c_23, Bool.and_true, Bool.true_and, Bool.and_false, Bool.false_and, Bool.not_true, Bool.not_false])) (fun hb_43 => absurd hb_43 Bool.false_ne_true)
  · refine lv_aload_n C0.1 C0.2.1 dX8_addLanding_26 rfl (lv_at hl 1 rfl) ?_
    refine g89_landings C0 hK hP (hd.1 _ (by decide)) fl_X8_19 dX8_addLanding_27 ?_
    refine g81_number (v := nI L) C0 hK hP (hd.1 _ (by decide)) fl_X8_127 hnL dX8_addLanding_30 ?_
    refine lv_bipush (v := 8) C0.1 C0.2.1 dX8_addLanding_33 (by decide) ?_
    refine lv_icmp_ge (tgt := 42) C0.1 C0.2.1 dX8_addLanding_35 (by decide) (fun c_35 => ?_) (fun c_35 => ?_)
    · refine lv_iconst (v := 0) C0.1 C0.2.1 dX8_addLanding_42 (by decide) ?_
      refine k_X8_needState (b := false) hfl C0 hlk hex h0 hK hX hP hS hl.1 ml_X8_128 ⟨Nat.le_of_ble_eq_true rfl, Nat.le_of_ble_eq_true rfl⟩ ⟨Nat.le_of_ble_eq_true rfl, Nat.le_of_ble_eq_true rfl⟩ (Nat.le_of_ble_eq_true rfl) (Nat.le_of_ble_eq_true rfl) (Nat.le_of_ble_eq_true rfl) dX8_addLanding_43 (fun _ => pxB_S (by simp only [hb_5, decide_eq_true c_23, decide_eq_true c_35, Bool.and_true, Bool.true_and, Bool.and_false, Bool.false_and, Bool.not_true, Bool.not_false]) (by simp only [hb_5, decide_eq_true c_23, decide_eq_true c_35, Bool.and_true, Bool.true_and, Bool.and_false, Bool.false_and, Bool.not_true, Bool.not_false]) (by simp only [hb_5, decide_eq_true c_23, decide_eq_true c_35, Bool.and_true, Bool.true_and, Bool.and_false, Bool.false_and, Bool.not_true, Bool.not_false])) (fun hb_43 => absurd hb_43 Bool.false_ne_true)
    · refine lv_iconst (v := 1) C0.1 C0.2.1 dX8_addLanding_38 (by decide) ?_
      refine lv_goto (tgt := 43) C0.1 C0.2.1 dX8_addLanding_39 (by decide) ?_
      refine k_X8_needState (b := true) hfl C0 hlk hex h0 hK hX hP hS hl.1 ml_X8_128 ⟨Nat.le_of_ble_eq_true rfl, Nat.le_of_ble_eq_true rfl⟩ ⟨Nat.le_of_ble_eq_true rfl, Nat.le_of_ble_eq_true rfl⟩ (Nat.le_of_ble_eq_true rfl) (Nat.le_of_ble_eq_true rfl) (Nat.le_of_ble_eq_true rfl) dX8_addLanding_43 (fun hb => absurd hb.symm Bool.false_ne_true) (fun hb_43 H locs hP hS => ?_)
      refine lv_aload_n C0.1 C0.2.1 dX8_addLanding_46 rfl (lv_at hl 1 rfl) ?_
      refine g89_landings C0 hK hP (hd.1 _ (by decide)) fl_X8_19 dX8_addLanding_47 ?_
      refine lv_iload_n C0.1 C0.2.1 dX8_addLanding_50 rfl (lv_at hl 0 rfl) ?_
      refine k_X3_add hd sTF C0 hK hP  (v := ((S 81) 0)) rfl hS hA hl.1 ml_X8_131 ⟨Nat.le_of_ble_eq_true rfl, Nat.le_of_ble_eq_true rfl⟩ ⟨Nat.le_of_ble_eq_true rfl, Nat.le_of_ble_eq_true rfl⟩ (Nat.le_of_ble_eq_true rfl) dX8_addLanding_51 (fun H locs hP hS => ?_)
      have hP : WP D cA a (up (up S 3 (us (S 3) 8 ((S 81) 0) (x + 14 * y))) 81 (fun _ => (S 81) 0 + 1)) X I H := hP
      exact retXI C0 hr hlk hP hS (Nat.le_of_ble_eq_true rfl) (Nat.le_of_ble_eq_true rfl) ⟨by simp only [hb_5, decide_eq_true c_23, decide_eq_false c_35, Bool.and_true, Bool.true_and, Bool.and_false, Bool.false_and, Bool.not_true, Bool.not_false], by simp only [hb_5, decide_eq_true c_23, decide_eq_false c_35, Bool.and_true, Bool.true_and, Bool.and_false, Bool.false_and, Bool.not_true, Bool.not_false], by simp only [hb_5, decide_eq_true c_23, decide_eq_false c_35, Bool.and_true, Bool.true_and, Bool.and_false, Bool.false_and, Bool.not_true, Bool.not_false], rfl, rfl, rfl⟩ dX8_addLanding_54
set_option maxHeartbeats 4000000 in
set_option maxRecDepth 100000 in
theorem c_X8_setToll (l : Launch) (hfl : l.stackTraces = false) (D : va_G) (cA : ClassId) (a : Adr) (S X : Mem) (I : Nat → Prop) (sz : Nat) (hd : Hd nF a I) (x : Int32) (z : Int32) {P : Nat} (hnP : S 82 0 = nI P) : MXI l yX8_setToll cX8_setToll 3 (some .int) 7 102 2 12 D cA a S X I sz [.ref (a 89), .int x, .int z] (fun r S1 X1 => (oneB x (nI P)) = true ∧ (inB z 0 50) = true ∧ (true) = true ∧ r = (rg (S 9) 6 x) ∧ S1 = (up S 9 (us (S 9) 6 x z)) ∧ X1 = X) (pxB (oneB x (nI P)) (inB z 0 50) (true) S X) := by
  refine mGoX (by decide) (Nat.le_of_ble_eq_true rfl) ?_
  intro p e s m args below meth c ls C0 hr hlk hex h0 hK hX hP hS hl
  obtain ⟨H, hHe⟩ : ∃ H, H = s.heap := ⟨_, rfl⟩
  obtain ⟨locs, hlo⟩ : ∃ L : List Loc, L = [] := ⟨_, rfl⟩
  have hP : WP D cA a S X I H := hHe ▸ hP
  have hS : va_S (AF a I sz) s.heap H locs := by rw [hHe, hlo]; exact hS
  rw [← hHe, ← hlo]
  have hA : ∀ q, AI a I q → AF a I sz q := fun _ h => Or.inl h
  refine lv_iload_n C0.1 C0.2.1 dX8_setToll_0 rfl (lv_at hl 1 rfl) ?_
  refine lv_aload_n C0.1 C0.2.1 dX8_setToll_1 rfl (lv_at hl 0 rfl) ?_
  refine g89_fleet C0 hK hP (hd.1 _ (by decide)) fl_X8_26 dX8_setToll_2 ?_
  refine g82_number (v := nI P) C0 hK hP (hd.1 _ (by decide)) fl_X8_120 hnP dX8_setToll_5 ?_
  refine k_X8_isOneOf hd s0 C0 hK hP  (v := bI (decide (0 ≤ x) && decide (x < (nI P)))) rfl hS hA hl.1 ml_X8_91 ⟨Nat.le_of_ble_eq_true rfl, Nat.le_of_ble_eq_true rfl⟩ ⟨Nat.le_of_ble_eq_true rfl, Nat.le_of_ble_eq_true rfl⟩ (Nat.le_of_ble_eq_true rfl) dX8_setToll_8 (fun H locs hP hS => ?_)
  refine k_X8_needIndex (b := (decide (0 ≤ x) && decide (x < (nI P)))) hfl C0 hlk hex h0 hK hX hP hS hl.1 ml_X8_64 ⟨Nat.le_of_ble_eq_true rfl, Nat.le_of_ble_eq_true rfl⟩ ⟨Nat.le_of_ble_eq_true rfl, Nat.le_of_ble_eq_true rfl⟩ (Nat.le_of_ble_eq_true rfl) (Nat.le_of_ble_eq_true rfl) (Nat.le_of_ble_eq_true rfl) dX8_setToll_11 (fun hb => pxB_I (by simp only [Bool.and_true, Bool.true_and, Bool.and_false, Bool.false_and, Bool.not_true, Bool.not_false, hb])) (fun hb_11 H locs hP hS => ?_)
  refine lv_iload_n C0.1 C0.2.1 dX8_setToll_14 rfl (lv_at hl 2 rfl) ?_
  refine lv_iconst (v := 0) C0.1 C0.2.1 dX8_setToll_15 (by decide) ?_
  refine lv_bipush (v := 50) C0.1 C0.2.1 dX8_setToll_16 (by decide) ?_
  refine k_X8_within hd s0 C0 hK hP  (v := bI (decide (0 ≤ z) && decide (z ≤ 50))) rfl hS hA hl.1 ml_X8_68 ⟨Nat.le_of_ble_eq_true rfl, Nat.le_of_ble_eq_true rfl⟩ ⟨Nat.le_of_ble_eq_true rfl, Nat.le_of_ble_eq_true rfl⟩ (Nat.le_of_ble_eq_true rfl) dX8_setToll_18 (fun H locs hP hS => ?_)
  refine k_X8_needArgument (b := (decide (0 ≤ z) && decide (z ≤ 50))) hfl C0 hlk hex h0 hK hX hP hS hl.1 ml_X8_72 ⟨Nat.le_of_ble_eq_true rfl, Nat.le_of_ble_eq_true rfl⟩ ⟨Nat.le_of_ble_eq_true rfl, Nat.le_of_ble_eq_true rfl⟩ (Nat.le_of_ble_eq_true rfl) (Nat.le_of_ble_eq_true rfl) (Nat.le_of_ble_eq_true rfl) dX8_setToll_21 (fun hb => pxB_A (by simp only [hb_11, Bool.and_true, Bool.true_and, Bool.and_false, Bool.false_and, Bool.not_true, Bool.not_false, hb]) (by simp only [hb_11, Bool.and_true, Bool.true_and, Bool.and_false, Bool.false_and, Bool.not_true, Bool.not_false, hb])) (fun hb_21 H locs hP hS => ?_)
  refine lv_aload_n C0.1 C0.2.1 dX8_setToll_24 rfl (lv_at hl 0 rfl) ?_
  refine g89_fleet C0 hK hP (hd.1 _ (by decide)) fl_X8_26 dX8_setToll_25 ?_
  refine g82_toll C0 hK hP (hd.1 _ (by decide)) fl_X8_148 dX8_setToll_28 ?_
  refine lv_iload_n C0.1 C0.2.1 dX8_setToll_31 rfl (lv_at hl 1 rfl) ?_
  refine lv_iload_n C0.1 C0.2.1 dX8_setToll_32 rfl (lv_at hl 2 rfl) ?_
  refine k_X5_put (v := rg (S 9) 6 x) 9 (by decide) hd (by decide) (by decide) C0 hK hP rfl hS hA hl.1 ml_X8_83 ⟨Nat.le_of_ble_eq_true rfl, Nat.le_of_ble_eq_true rfl⟩ ⟨Nat.le_of_ble_eq_true rfl, Nat.le_of_ble_eq_true rfl⟩ (Nat.le_of_ble_eq_true rfl) dX8_setToll_33 (fun H locs hP hS => ?_)
  have hP : WP D cA a (up S 9 (us (S 9) 6 x z)) X I H := hP
  exact retXI C0 hr hlk hP hS (Nat.le_of_ble_eq_true rfl) (Nat.le_of_ble_eq_true rfl) ⟨by simp only [hb_11, hb_21, Bool.and_true, Bool.true_and, Bool.and_false, Bool.false_and, Bool.not_true, Bool.not_false], by simp only [hb_11, hb_21, Bool.and_true, Bool.true_and, Bool.and_false, Bool.false_and, Bool.not_true, Bool.not_false], by simp only [hb_11, hb_21, Bool.and_true, Bool.true_and, Bool.and_false, Bool.false_and, Bool.not_true, Bool.not_false], rfl, rfl, rfl⟩ dX8_setToll_36
set_option maxHeartbeats 4000000 in
set_option maxRecDepth 100000 in
theorem c_X8_punt (l : Launch) (hfl : l.stackTraces = false) (D : va_G) (cA : ClassId) (a : Adr) (S X : Mem) (I : Nat → Prop) (sz : Nat) (hd : Hd nF a I) (x : Int32) (w : Int32) {P : Nat} {L : Nat} {T : Nat} {h : Nat} (hnP : S 82 0 = nI P) (hnT : S 85 0 = nI T) (hT30 : T ≤ 30) (hnH : S 86 0 = nI h) (hh : h < 2 ^ 31) (hC : CacheOk S X P) (hTW : TW S P L) : MXI l yX8_punt cX8_punt 3 (some .int) 7 141 1 6 D cA a S X I sz [.ref (a 89), .int x, .int w] (fun r S1 X1 => (oneB x (nI P) && oneB w 9) = true ∧ (true) = true ∧ (true) = true ∧ r = (punS S T h (nv x) w) ∧ S1 = S ∧ CacheOk S X1 P ∧ (∀ k, k ≠ 13 → k ≠ 14 → k ≠ 15 → X1 k = X k)) (pxB (oneB x (nI P) && oneB w 9) (true) (true) S X) := by
  refine mGoX (by decide) (Nat.le_of_ble_eq_true rfl) ?_
  intro p e s m args below meth c ls C0 hr hlk hex h0 hK hX hP hS hl
  obtain ⟨H, hHe⟩ : ∃ H, H = s.heap := ⟨_, rfl⟩
  obtain ⟨locs, hlo⟩ : ∃ L : List Loc, L = [] := ⟨_, rfl⟩
  have hP : WP D cA a S X I H := hHe ▸ hP
  have hS : va_S (AF a I sz) s.heap H locs := by rw [hHe, hlo]; exact hS
  rw [← hHe, ← hlo]
  have hA : ∀ q, AI a I q → AF a I sz q := fun _ h => Or.inl h
  obtain ⟨hLnk, hP6, hL8, h17, h16, h8, h3, h2⟩ := id hTW
  refine lv_iload_n C0.1 C0.2.1 dX8_punt_0 rfl (lv_at hl 1 rfl) ?_
  refine lv_aload_n C0.1 C0.2.1 dX8_punt_1 rfl (lv_at hl 0 rfl) ?_
  refine g89_fleet C0 hK hP (hd.1 _ (by decide)) fl_X8_26 dX8_punt_2 ?_
  refine g82_number (v := nI P) C0 hK hP (hd.1 _ (by decide)) fl_X8_120 hnP dX8_punt_5 ?_
  refine k_X8_isOneOf hd s0 C0 hK hP  (v := bI (decide (0 ≤ x) && decide (x < (nI P)))) rfl hS hA hl.1 ml_X8_91 ⟨Nat.le_of_ble_eq_true rfl, Nat.le_of_ble_eq_true rfl⟩ ⟨Nat.le_of_ble_eq_true rfl, Nat.le_of_ble_eq_true rfl⟩ (Nat.le_of_ble_eq_true rfl) dX8_punt_8 (fun H locs hP hS => ?_)
  refine lv_if_eq (tgt := 27) C0.1 C0.2.1 dX8_punt_11 (by decide) (fun c_11 => ?_) (fun c_11 => ?_)
  · have c_11 := bI_eq c_11
    refine lv_iconst (v := 0) C0.1 C0.2.1 dX8_punt_27 (by decide) ?_
    refine k_X8_needIndex (b := false) hfl C0 hlk hex h0 hK hX hP hS hl.1 ml_X8_64 ⟨Nat.le_of_ble_eq_true rfl, Nat.le_of_ble_eq_true rfl⟩ ⟨Nat.le_of_ble_eq_true rfl, Nat.le_of_ble_eq_true rfl⟩ (Nat.le_of_ble_eq_true rfl) (Nat.le_of_ble_eq_true rfl) (Nat.le_of_ble_eq_true rfl) dX8_punt_28 (fun _ => pxB_I (by simp only [c_11, Bool.and_true, Bool.true_and, Bool.and_false, Bool.false_and, Bool.not_true, Bool.not_false])) (fun hb_28 => absurd hb_28 Bool.false_ne_true)
  · have c_11 := bI_ne c_11
    refine lv_iload_n C0.1 C0.2.1 dX8_punt_14 rfl (lv_at hl 2 rfl) ?_
    refine lv_bipush (v := 9) C0.1 C0.2.1 dX8_punt_15 (by decide) ?_
    refine k_X8_isOneOf hd s0 C0 hK hP  (v := bI (decide (0 ≤ w) && decide (w < 9))) rfl hS hA hl.1 ml_X8_91 ⟨Nat.le_of_ble_eq_true rfl, Nat.le_of_ble_eq_true rfl⟩ ⟨Nat.le_of_ble_eq_true rfl, Nat.le_of_ble_eq_true rfl⟩ (Nat.le_of_ble_eq_true rfl) dX8_punt_17 (fun H locs hP hS => ?_)
    refine lv_if_eq (tgt := 27) C0.1 C0.2.1 dX8_punt_20 (by decide) (fun c_20 => ?_) (fun c_20 => ?_)
    · have c_20 := bI_eq c_20
      refine lv_iconst (v := 0) C0.1 C0.2.1 dX8_punt_27 (by decide) ?_
      refine k_X8_needIndex (b := false) hfl C0 hlk hex h0 hK hX hP hS hl.1 ml_X8_64 ⟨Nat.le_of_ble_eq_true rfl, Nat.le_of_ble_eq_true rfl⟩ ⟨Nat.le_of_ble_eq_true rfl, Nat.le_of_ble_eq_true rfl⟩ (Nat.le_of_ble_eq_true rfl) (Nat.le_of_ble_eq_true rfl) (Nat.le_of_ble_eq_true rfl) dX8_punt_28 (fun _ => pxB_I (by simp only [c_11, c_20, Bool.and_true, Bool.true_and, Bool.and_false, Bool.false_and, Bool.not_true, Bool.not_false])) (fun hb_28 => absurd hb_28 Bool.false_ne_true)
    · have c_20 := bI_ne c_20
      refine lv_iconst (v := 1) C0.1 C0.2.1 dX8_punt_23 (by decide) ?_
      refine lv_goto (tgt := 28) C0.1 C0.2.1 dX8_punt_24 (by decide) ?_
      refine k_X8_needIndex (b := true) hfl C0 hlk hex h0 hK hX hP hS hl.1 ml_X8_64 ⟨Nat.le_of_ble_eq_true rfl, Nat.le_of_ble_eq_true rfl⟩ ⟨Nat.le_of_ble_eq_true rfl, Nat.le_of_ble_eq_true rfl⟩ (Nat.le_of_ble_eq_true rfl) (Nat.le_of_ble_eq_true rfl) (Nat.le_of_ble_eq_true rfl) dX8_punt_28 (fun hb => absurd hb.symm Bool.false_ne_true) (fun hb_28 H locs hP hS => ?_)
      obtain ⟨u, hu, hxe⟩ := one_nat (n := P) (by omega) (show oneB x (nI P) = true from c_11)
      subst hxe
      refine lv_aload_n C0.1 C0.2.1 dX8_punt_31 rfl (lv_at hl 0 rfl) ?_
      refine lv_iload_n C0.1 C0.2.1 dX8_punt_32 rfl (lv_at hl 1 rfl) ?_
      refine lv_iload_n C0.1 C0.2.1 dX8_punt_33 rfl (lv_at hl 2 rfl) ?_
      refine k_X8_tellPunt hd sId C0 hK hP hnP hnT hT30 hnH hh hC hTW hu hS hA hl.1 ml_X8_151 ⟨Nat.le_of_ble_eq_true rfl, Nat.le_of_ble_eq_true rfl⟩ ⟨Nat.le_of_ble_eq_true rfl, Nat.le_of_ble_eq_true rfl⟩ (Nat.le_of_ble_eq_true rfl) dX8_punt_34 (fun v_4 S_2 X_3 H locs hx_1 hP hS => ?_)
      obtain ⟨hrv, hs1, hC1, hxf⟩ := hx_1
      rw [hs1] at hP
      subst hrv
      exact retXI C0 hr hlk hP hS (Nat.le_of_ble_eq_true rfl) (Nat.le_of_ble_eq_true rfl) ⟨by simp only [c_11, c_20, Bool.and_true, Bool.true_and, Bool.and_false, Bool.false_and, Bool.not_true, Bool.not_false], by simp only [c_11, c_20, Bool.and_true, Bool.true_and, Bool.and_false, Bool.false_and, Bool.not_true, Bool.not_false], by simp only [c_11, c_20, Bool.and_true, Bool.true_and, Bool.and_false, Bool.false_and, Bool.not_true, Bool.not_false], by rw [nv_nI (by omega)], rfl, hC1, hxf⟩ dX8_punt_37
set_option maxHeartbeats 4000000 in
set_option maxRecDepth 100000 in
theorem c_X8_addTraveller (l : Launch) (hfl : l.stackTraces = false) (D : va_G) (cA : ClassId) (a : Adr) (S X : Mem) (I : Nat → Prop) (sz : Nat) (hd : Hd nF a I) (x : Int32) (y : Int32) (z : Int32) {L : Nat} {T : Nat} (hnL : S 81 0 = nI L) (hnT : S 85 0 = nI T) (hL8 : L ≤ 8) (hT30 : T ≤ 30) : MXI l yX8_addTraveller cX8_addTraveller 4 (some .int) 7 102 4 24 D cA a S X I sz [.ref (a 89), .int x, .int y, .int z] (fun r S1 X1 => (oneB x (nI L) && oneB y (nI L)) = true ∧ (!decide (x = y) && inB z 0 1000) = true ∧ (!decide (30 ≤ nI T)) = true ∧ r = (nI T) ∧ S1 = (up (up (up (up (up (up S 20 (upd (S 20) T y)) 21 (upd (S 21) T z)) 22 (upd (S 22) T x)) 23 (upd (S 23) T (-1))) 24 (upd (S 24) T (-1))) 85 (fun _ => nI T + 1)) ∧ X1 = X) (pxB (oneB x (nI L) && oneB y (nI L)) (!decide (x = y) && inB z 0 1000) (!decide (30 ≤ nI T)) S X) := by
  refine mGoX (by decide) (Nat.le_of_ble_eq_true rfl) ?_
  intro p e s m args below meth c ls C0 hr hlk hex h0 hK hX hP hS hl
  obtain ⟨H, hHe⟩ : ∃ H, H = s.heap := ⟨_, rfl⟩
  obtain ⟨locs, hlo⟩ : ∃ L : List Loc, L = [] := ⟨_, rfl⟩
  have hP : WP D cA a S X I H := hHe ▸ hP
  have hS : va_S (AF a I sz) s.heap H locs := by rw [hHe, hlo]; exact hS
  rw [← hHe, ← hlo]
  have hA : ∀ q, AI a I q → AF a I sz q := fun _ h => Or.inl h
  refine lv_iload_n C0.1 C0.2.1 dX8_addTraveller_0 rfl (lv_at hl 1 rfl) ?_
  refine lv_aload_n C0.1 C0.2.1 dX8_addTraveller_1 rfl (lv_at hl 0 rfl) ?_
  refine g89_landings C0 hK hP (hd.1 _ (by decide)) fl_X8_19 dX8_addTraveller_2 ?_
  refine g81_number (v := nI L) C0 hK hP (hd.1 _ (by decide)) fl_X8_127 hnL dX8_addTraveller_5 ?_
  refine k_X8_isOneOf hd s0 C0 hK hP  (v := bI (decide (0 ≤ x) && decide (x < (nI L)))) rfl hS hA hl.1 ml_X8_91 ⟨Nat.le_of_ble_eq_true rfl, Nat.le_of_ble_eq_true rfl⟩ ⟨Nat.le_of_ble_eq_true rfl, Nat.le_of_ble_eq_true rfl⟩ (Nat.le_of_ble_eq_true rfl) dX8_addTraveller_8 (fun H locs hP hS => ?_)
  refine lv_if_eq (tgt := 32) C0.1 C0.2.1 dX8_addTraveller_11 (by decide) (fun c_11 => ?_) (fun c_11 => ?_)
  · have c_11 := bI_eq c_11
    refine lv_iconst (v := 0) C0.1 C0.2.1 dX8_addTraveller_32 (by decide) ?_
    refine k_X8_needIndex (b := false) hfl C0 hlk hex h0 hK hX hP hS hl.1 ml_X8_64 ⟨Nat.le_of_ble_eq_true rfl, Nat.le_of_ble_eq_true rfl⟩ ⟨Nat.le_of_ble_eq_true rfl, Nat.le_of_ble_eq_true rfl⟩ (Nat.le_of_ble_eq_true rfl) (Nat.le_of_ble_eq_true rfl) (Nat.le_of_ble_eq_true rfl) dX8_addTraveller_33 (fun _ => pxB_I (by simp only [c_11, Bool.and_true, Bool.true_and, Bool.and_false, Bool.false_and, Bool.not_true, Bool.not_false])) (fun hb_33 => absurd hb_33 Bool.false_ne_true)
  · have c_11 := bI_ne c_11
    refine lv_iload_n C0.1 C0.2.1 dX8_addTraveller_14 rfl (lv_at hl 2 rfl) ?_
    refine lv_aload_n C0.1 C0.2.1 dX8_addTraveller_15 rfl (lv_at hl 0 rfl) ?_
    refine g89_landings C0 hK hP (hd.1 _ (by decide)) fl_X8_19 dX8_addTraveller_16 ?_
    refine g81_number (v := nI L) C0 hK hP (hd.1 _ (by decide)) fl_X8_127 hnL dX8_addTraveller_19 ?_
    refine k_X8_isOneOf hd s0 C0 hK hP  (v := bI (decide (0 ≤ y) && decide (y < (nI L)))) rfl hS hA hl.1 ml_X8_91 ⟨Nat.le_of_ble_eq_true rfl, Nat.le_of_ble_eq_true rfl⟩ ⟨Nat.le_of_ble_eq_true rfl, Nat.le_of_ble_eq_true rfl⟩ (Nat.le_of_ble_eq_true rfl) dX8_addTraveller_22 (fun H locs hP hS => ?_)
    refine lv_if_eq (tgt := 32) C0.1 C0.2.1 dX8_addTraveller_25 (by decide) (fun c_25 => ?_) (fun c_25 => ?_)
    · have c_25 := bI_eq c_25
      refine lv_iconst (v := 0) C0.1 C0.2.1 dX8_addTraveller_32 (by decide) ?_
      refine k_X8_needIndex (b := false) hfl C0 hlk hex h0 hK hX hP hS hl.1 ml_X8_64 ⟨Nat.le_of_ble_eq_true rfl, Nat.le_of_ble_eq_true rfl⟩ ⟨Nat.le_of_ble_eq_true rfl, Nat.le_of_ble_eq_true rfl⟩ (Nat.le_of_ble_eq_true rfl) (Nat.le_of_ble_eq_true rfl) (Nat.le_of_ble_eq_true rfl) dX8_addTraveller_33 (fun _ => pxB_I (by simp only [c_11, c_25, Bool.and_true, Bool.true_and, Bool.and_false, Bool.false_and, Bool.not_true, Bool.not_false])) (fun hb_33 => absurd hb_33 Bool.false_ne_true)
    · have c_25 := bI_ne c_25
      refine lv_iconst (v := 1) C0.1 C0.2.1 dX8_addTraveller_28 (by decide) ?_
      refine lv_goto (tgt := 33) C0.1 C0.2.1 dX8_addTraveller_29 (by decide) ?_
      refine k_X8_needIndex (b := true) hfl C0 hlk hex h0 hK hX hP hS hl.1 ml_X8_64 ⟨Nat.le_of_ble_eq_true rfl, Nat.le_of_ble_eq_true rfl⟩ ⟨Nat.le_of_ble_eq_true rfl, Nat.le_of_ble_eq_true rfl⟩ (Nat.le_of_ble_eq_true rfl) (Nat.le_of_ble_eq_true rfl) (Nat.le_of_ble_eq_true rfl) dX8_addTraveller_33 (fun hb => absurd hb.symm Bool.false_ne_true) (fun hb_33 H locs hP hS => ?_)
      refine lv_iload_n C0.1 C0.2.1 dX8_addTraveller_36 rfl (lv_at hl 1 rfl) ?_
      refine lv_iload_n C0.1 C0.2.1 dX8_addTraveller_37 rfl (lv_at hl 2 rfl) ?_
      refine lv_icmp_eq (tgt := 45) C0.1 C0.2.1 dX8_addTraveller_38 (by decide) (fun c_38 => ?_) (fun c_38 => ?_)
      · refine lv_iconst (v := 0) C0.1 C0.2.1 dX8_addTraveller_45 (by decide) ?_
        refine k_X8_needArgument (b := false) hfl C0 hlk hex h0 hK hX hP hS hl.1 ml_X8_72 ⟨Nat.le_of_ble_eq_true rfl, Nat.le_of_ble_eq_true rfl⟩ ⟨Nat.le_of_ble_eq_true rfl, Nat.le_of_ble_eq_true rfl⟩ (Nat.le_of_ble_eq_true rfl) (Nat.le_of_ble_eq_true rfl) (Nat.le_of_ble_eq_true rfl) dX8_addTraveller_46 (fun _ => pxB_A (by simp only [c_11, c_25, decide_eq_true c_38, Bool.and_true, Bool.true_and, Bool.and_false, Bool.false_and, Bool.not_true, Bool.not_false]) (by simp only [c_11, c_25, decide_eq_true c_38, Bool.and_true, Bool.true_and, Bool.and_false, Bool.false_and, Bool.not_true, Bool.not_false])) (fun hb_46 => absurd hb_46 Bool.false_ne_true)
      · refine lv_iconst (v := 1) C0.1 C0.2.1 dX8_addTraveller_41 (by decide) ?_
        refine lv_goto (tgt := 46) C0.1 C0.2.1 dX8_addTraveller_42 (by decide) ?_
        refine k_X8_needArgument (b := true) hfl C0 hlk hex h0 hK hX hP hS hl.1 ml_X8_72 ⟨Nat.le_of_ble_eq_true rfl, Nat.le_of_ble_eq_true rfl⟩ ⟨Nat.le_of_ble_eq_true rfl, Nat.le_of_ble_eq_true rfl⟩ (Nat.le_of_ble_eq_true rfl) (Nat.le_of_ble_eq_true rfl) (Nat.le_of_ble_eq_true rfl) dX8_addTraveller_46 (fun hb => absurd hb.symm Bool.false_ne_true) (fun hb_46 H locs hP hS => ?_)
        refine lv_iload_n C0.1 C0.2.1 dX8_addTraveller_49 rfl (lv_at hl 3 rfl) ?_
        refine lv_iconst (v := 0) C0.1 C0.2.1 dX8_addTraveller_50 (by decide) ?_
        refine lv_sipush (v := 1000) C0.1 C0.2.1 dX8_addTraveller_51 (by decide) ?_
        refine k_X8_within hd s0 C0 hK hP  (v := bI (decide (0 ≤ z) && decide (z ≤ 1000))) rfl hS hA hl.1 ml_X8_68 ⟨Nat.le_of_ble_eq_true rfl, Nat.le_of_ble_eq_true rfl⟩ ⟨Nat.le_of_ble_eq_true rfl, Nat.le_of_ble_eq_true rfl⟩ (Nat.le_of_ble_eq_true rfl) dX8_addTraveller_54 (fun H locs hP hS => ?_)
        refine k_X8_needArgument (b := (decide (0 ≤ z) && decide (z ≤ 1000))) hfl C0 hlk hex h0 hK hX hP hS hl.1 ml_X8_72 ⟨Nat.le_of_ble_eq_true rfl, Nat.le_of_ble_eq_true rfl⟩ ⟨Nat.le_of_ble_eq_true rfl, Nat.le_of_ble_eq_true rfl⟩ (Nat.le_of_ble_eq_true rfl) (Nat.le_of_ble_eq_true rfl) (Nat.le_of_ble_eq_true rfl) dX8_addTraveller_57 (fun hb => pxB_A (by simp only [c_11, c_25, decide_eq_false c_38, Bool.and_true, Bool.true_and, Bool.and_false, Bool.false_and, Bool.not_true, Bool.not_false, hb]) (by simp only [c_11, c_25, decide_eq_false c_38, Bool.and_true, Bool.true_and, Bool.and_false, Bool.false_and, Bool.not_true, Bool.not_false, hb])) (fun hb_57 H locs hP hS => ?_)
        refine lv_aload_n C0.1 C0.2.1 dX8_addTraveller_60 rfl (lv_at hl 0 rfl) ?_
        refine g89_now C0 hK hP (hd.1 _ (by decide)) fl_X8_53 dX8_addTraveller_61 ?_
        refine g86_travellers C0 hK hP (hd.1 _ (by decide)) fl_X8_163 dX8_addTraveller_64 ?_
        refine g85_number (v := nI T) C0 hK hP (hd.1 _ (by decide)) fl_X8_172 hnT dX8_addTraveller_67 ?_
        refine lv_bipush (v := 30) C0.1 C0.2.1 dX8_addTraveller_70 (by decide) ?_
        refine lv_icmp_ge (tgt := 79) C0.1 C0.2.1 dX8_addTraveller_72 (by decide) (fun c_72 => ?_) (fun c_72 => ?_)
        · refine lv_iconst (v := 0) C0.1 C0.2.1 dX8_addTraveller_79 (by decide) ?_
          refine k_X8_needState (b := false) hfl C0 hlk hex h0 hK hX hP hS hl.1 ml_X8_128 ⟨Nat.le_of_ble_eq_true rfl, Nat.le_of_ble_eq_true rfl⟩ ⟨Nat.le_of_ble_eq_true rfl, Nat.le_of_ble_eq_true rfl⟩ (Nat.le_of_ble_eq_true rfl) (Nat.le_of_ble_eq_true rfl) (Nat.le_of_ble_eq_true rfl) dX8_addTraveller_80 (fun _ => pxB_S (by simp only [c_11, c_25, decide_eq_false c_38, hb_57, decide_eq_true c_72, Bool.and_true, Bool.true_and, Bool.and_false, Bool.false_and, Bool.not_true, Bool.not_false]) (by simp only [c_11, c_25, decide_eq_false c_38, hb_57, decide_eq_true c_72, Bool.and_true, Bool.true_and, Bool.and_false, Bool.false_and, Bool.not_true, Bool.not_false]) (by simp only [c_11, c_25, decide_eq_false c_38, hb_57, decide_eq_true c_72, Bool.and_true, Bool.true_and, Bool.and_false, Bool.false_and, Bool.not_true, Bool.not_false])) (fun hb_80 => absurd hb_80 Bool.false_ne_true)
        · refine lv_iconst (v := 1) C0.1 C0.2.1 dX8_addTraveller_75 (by decide) ?_
          refine lv_goto (tgt := 80) C0.1 C0.2.1 dX8_addTraveller_76 (by decide) ?_
          refine k_X8_needState (b := true) hfl C0 hlk hex h0 hK hX hP hS hl.1 ml_X8_128 ⟨Nat.le_of_ble_eq_true rfl, Nat.le_of_ble_eq_true rfl⟩ ⟨Nat.le_of_ble_eq_true rfl, Nat.le_of_ble_eq_true rfl⟩ (Nat.le_of_ble_eq_true rfl) (Nat.le_of_ble_eq_true rfl) (Nat.le_of_ble_eq_true rfl) dX8_addTraveller_80 (fun hb => absurd hb.symm Bool.false_ne_true) (fun hb_80 H locs hP hS => ?_)
          have hT : T < 30 := Nat.not_le.mp fun q => c_72 (nI_le q (by omega))
          refine lv_aload_n C0.1 C0.2.1 dX8_addTraveller_83 rfl (lv_at hl 0 rfl) ?_
          refine g89_now C0 hK hP (hd.1 _ (by decide)) fl_X8_53 dX8_addTraveller_84 ?_
          refine g86_travellers C0 hK hP (hd.1 _ (by decide)) fl_X8_163 dX8_addTraveller_87 ?_
          refine lv_iload_n C0.1 C0.2.1 dX8_addTraveller_90 rfl (lv_at hl 1 rfl) ?_
          refine lv_iload_n C0.1 C0.2.1 dX8_addTraveller_91 rfl (lv_at hl 2 rfl) ?_
          refine lv_iload_n C0.1 C0.2.1 dX8_addTraveller_92 rfl (lv_at hl 3 rfl) ?_
          refine k_X7_add hd sTF C0 hK hP hnT hT (v := nI T) rfl hS hA hl.1 ml_X8_186 ⟨Nat.le_of_ble_eq_true rfl, Nat.le_of_ble_eq_true rfl⟩ ⟨Nat.le_of_ble_eq_true rfl, Nat.le_of_ble_eq_true rfl⟩ (Nat.le_of_ble_eq_true rfl) dX8_addTraveller_93 (fun H locs hP hS => ?_)
          have hP : WP D cA a (up (up (up (up (up (up S 20 (upd (S 20) T y)) 21 (upd (S 21) T z)) 22 (upd (S 22) T x)) 23 (upd (S 23) T (-1))) 24 (upd (S 24) T (-1))) 85 (fun _ => nI T + 1)) X I H := hP
          exact retXI C0 hr hlk hP hS (Nat.le_of_ble_eq_true rfl) (Nat.le_of_ble_eq_true rfl) ⟨by simp only [c_11, c_25, decide_eq_false c_38, hb_57, decide_eq_false c_72, Bool.and_true, Bool.true_and, Bool.and_false, Bool.false_and, Bool.not_true, Bool.not_false], by simp only [c_11, c_25, decide_eq_false c_38, hb_57, decide_eq_false c_72, Bool.and_true, Bool.true_and, Bool.and_false, Bool.false_and, Bool.not_true, Bool.not_false], by simp only [c_11, c_25, decide_eq_false c_38, hb_57, decide_eq_false c_72, Bool.and_true, Bool.true_and, Bool.and_false, Bool.false_and, Bool.not_true, Bool.not_false], rfl, rfl, rfl⟩ dX8_addTraveller_96
set_option maxHeartbeats 4000000 in
set_option maxRecDepth 100000 in
theorem c_X8_traveller (l : Launch) (hfl : l.stackTraces = false) (D : va_G) (cA : ClassId) (a : Adr) (S X : Mem) (I : Nat → Prop) (sz : Nat) (hd : Hd nF a I) (x : Int32) (w : Int32) {P : Nat} {L : Nat} {T : Nat} (hnT : S 85 0 = nI T) (hT30 : T ≤ 30) (hCh : ChainsOk S X P) (hTW : TW S P L) (hTr : TrW S P L T) : MXI l yX8_traveller cX8_traveller 3 (some .int) 7 102 1 6 D cA a S X I sz [.ref (a 89), .int x, .int w] (fun r S1 X1 => (oneB x (nI T) && oneB w 7) = true ∧ (true) = true ∧ (true) = true ∧ r = (trvS S P (nv x) w) ∧ S1 = S ∧ X1 = X) (pxB (oneB x (nI T) && oneB w 7) (true) (true) S X) := by
  refine mGoX (by decide) (Nat.le_of_ble_eq_true rfl) ?_
  intro p e s m args below meth c ls C0 hr hlk hex h0 hK hX hP hS hl
  obtain ⟨H, hHe⟩ : ∃ H, H = s.heap := ⟨_, rfl⟩
  obtain ⟨locs, hlo⟩ : ∃ L : List Loc, L = [] := ⟨_, rfl⟩
  have hP : WP D cA a S X I H := hHe ▸ hP
  have hS : va_S (AF a I sz) s.heap H locs := by rw [hHe, hlo]; exact hS
  rw [← hHe, ← hlo]
  have hA : ∀ q, AI a I q → AF a I sz q := fun _ h => Or.inl h
  obtain ⟨hLnk, hP6, hL8, h17, h16, h8, h3, h2⟩ := id hTW
  refine lv_iload_n C0.1 C0.2.1 dX8_traveller_0 rfl (lv_at hl 1 rfl) ?_
  refine lv_aload_n C0.1 C0.2.1 dX8_traveller_1 rfl (lv_at hl 0 rfl) ?_
  refine g89_now C0 hK hP (hd.1 _ (by decide)) fl_X8_53 dX8_traveller_2 ?_
  refine g86_travellers C0 hK hP (hd.1 _ (by decide)) fl_X8_163 dX8_traveller_5 ?_
  refine g85_number (v := nI T) C0 hK hP (hd.1 _ (by decide)) fl_X8_172 hnT dX8_traveller_8 ?_
  refine k_X8_isOneOf hd s0 C0 hK hP  (v := bI (decide (0 ≤ x) && decide (x < (nI T)))) rfl hS hA hl.1 ml_X8_91 ⟨Nat.le_of_ble_eq_true rfl, Nat.le_of_ble_eq_true rfl⟩ ⟨Nat.le_of_ble_eq_true rfl, Nat.le_of_ble_eq_true rfl⟩ (Nat.le_of_ble_eq_true rfl) dX8_traveller_11 (fun H locs hP hS => ?_)
  refine lv_if_eq (tgt := 30) C0.1 C0.2.1 dX8_traveller_14 (by decide) (fun c_14 => ?_) (fun c_14 => ?_)
  · have c_14 := bI_eq c_14
    refine lv_iconst (v := 0) C0.1 C0.2.1 dX8_traveller_30 (by decide) ?_
    refine k_X8_needIndex (b := false) hfl C0 hlk hex h0 hK hX hP hS hl.1 ml_X8_64 ⟨Nat.le_of_ble_eq_true rfl, Nat.le_of_ble_eq_true rfl⟩ ⟨Nat.le_of_ble_eq_true rfl, Nat.le_of_ble_eq_true rfl⟩ (Nat.le_of_ble_eq_true rfl) (Nat.le_of_ble_eq_true rfl) (Nat.le_of_ble_eq_true rfl) dX8_traveller_31 (fun _ => pxB_I (by simp only [c_14, Bool.and_true, Bool.true_and, Bool.and_false, Bool.false_and, Bool.not_true, Bool.not_false])) (fun hb_31 => absurd hb_31 Bool.false_ne_true)
  · have c_14 := bI_ne c_14
    refine lv_iload_n C0.1 C0.2.1 dX8_traveller_17 rfl (lv_at hl 2 rfl) ?_
    refine lv_bipush (v := 7) C0.1 C0.2.1 dX8_traveller_18 (by decide) ?_
    refine k_X8_isOneOf hd s0 C0 hK hP  (v := bI (decide (0 ≤ w) && decide (w < 7))) rfl hS hA hl.1 ml_X8_91 ⟨Nat.le_of_ble_eq_true rfl, Nat.le_of_ble_eq_true rfl⟩ ⟨Nat.le_of_ble_eq_true rfl, Nat.le_of_ble_eq_true rfl⟩ (Nat.le_of_ble_eq_true rfl) dX8_traveller_20 (fun H locs hP hS => ?_)
    refine lv_if_eq (tgt := 30) C0.1 C0.2.1 dX8_traveller_23 (by decide) (fun c_23 => ?_) (fun c_23 => ?_)
    · have c_23 := bI_eq c_23
      refine lv_iconst (v := 0) C0.1 C0.2.1 dX8_traveller_30 (by decide) ?_
      refine k_X8_needIndex (b := false) hfl C0 hlk hex h0 hK hX hP hS hl.1 ml_X8_64 ⟨Nat.le_of_ble_eq_true rfl, Nat.le_of_ble_eq_true rfl⟩ ⟨Nat.le_of_ble_eq_true rfl, Nat.le_of_ble_eq_true rfl⟩ (Nat.le_of_ble_eq_true rfl) (Nat.le_of_ble_eq_true rfl) (Nat.le_of_ble_eq_true rfl) dX8_traveller_31 (fun _ => pxB_I (by simp only [c_14, c_23, Bool.and_true, Bool.true_and, Bool.and_false, Bool.false_and, Bool.not_true, Bool.not_false])) (fun hb_31 => absurd hb_31 Bool.false_ne_true)
    · have c_23 := bI_ne c_23
      refine lv_iconst (v := 1) C0.1 C0.2.1 dX8_traveller_26 (by decide) ?_
      refine lv_goto (tgt := 31) C0.1 C0.2.1 dX8_traveller_27 (by decide) ?_
      refine k_X8_needIndex (b := true) hfl C0 hlk hex h0 hK hX hP hS hl.1 ml_X8_64 ⟨Nat.le_of_ble_eq_true rfl, Nat.le_of_ble_eq_true rfl⟩ ⟨Nat.le_of_ble_eq_true rfl, Nat.le_of_ble_eq_true rfl⟩ (Nat.le_of_ble_eq_true rfl) (Nat.le_of_ble_eq_true rfl) (Nat.le_of_ble_eq_true rfl) dX8_traveller_31 (fun hb => absurd hb.symm Bool.false_ne_true) (fun hb_31 H locs hP hS => ?_)
      obtain ⟨t, ht, hxe⟩ := one_nat (n := T) (by omega) (show oneB x (nI T) = true from c_14)
      subst hxe
      refine lv_aload_n C0.1 C0.2.1 dX8_traveller_34 rfl (lv_at hl 0 rfl) ?_
      refine lv_iload_n C0.1 C0.2.1 dX8_traveller_35 rfl (lv_at hl 1 rfl) ?_
      refine lv_iload_n C0.1 C0.2.1 dX8_traveller_36 rfl (lv_at hl 2 rfl) ?_
      refine k_X8_tellTraveller hd sId C0 hK hP hnT hT30 hCh hTW hTr ht (v := trvS S P t w) rfl hS hA hl.1 ml_X8_189 ⟨Nat.le_of_ble_eq_true rfl, Nat.le_of_ble_eq_true rfl⟩ ⟨Nat.le_of_ble_eq_true rfl, Nat.le_of_ble_eq_true rfl⟩ (Nat.le_of_ble_eq_true rfl) dX8_traveller_37 (fun H locs hP hS => ?_)
      exact retXI C0 hr hlk hP hS (Nat.le_of_ble_eq_true rfl) (Nat.le_of_ble_eq_true rfl) ⟨by simp only [c_14, c_23, Bool.and_true, Bool.true_and, Bool.and_false, Bool.false_and, Bool.not_true, Bool.not_false], by simp only [c_14, c_23, Bool.and_true, Bool.true_and, Bool.and_false, Bool.false_and, Bool.not_true, Bool.not_false], by simp only [c_14, c_23, Bool.and_true, Bool.true_and, Bool.and_false, Bool.false_and, Bool.not_true, Bool.not_false], by rw [nv_nI (by omega)], rfl, rfl⟩ dX8_traveller_40
set_option maxHeartbeats 4000000 in
set_option maxRecDepth 100000 in
theorem c_X8_landing (l : Launch) (hfl : l.stackTraces = false) (D : va_G) (cA : ClassId) (a : Adr) (S X : Mem) (I : Nat → Prop) (sz : Nat) (hd : Hd nF a I) (x : Int32) (w : Int32) {P : Nat} {L : Nat} {T : Nat} (hnP : S 82 0 = nI P) (hnL : S 81 0 = nI L) (hnT : S 85 0 = nI T) (hT30 : T ≤ 30) (hTW : TW S P L) : MXI l yX8_landing cX8_landing 3 (some .int) 7 109 1 6 D cA a S X I sz [.ref (a 89), .int x, .int w] (fun r S1 X1 => (oneB x (nI L) && oneB w 5) = true ∧ (true) = true ∧ (true) = true ∧ r = (lanS S P T (nv x) w) ∧ S1 = S ∧ X1 = X) (pxB (oneB x (nI L) && oneB w 5) (true) (true) S X) := by
  refine mGoX (by decide) (Nat.le_of_ble_eq_true rfl) ?_
  intro p e s m args below meth c ls C0 hr hlk hex h0 hK hX hP hS hl
  obtain ⟨H, hHe⟩ : ∃ H, H = s.heap := ⟨_, rfl⟩
  obtain ⟨locs, hlo⟩ : ∃ L : List Loc, L = [] := ⟨_, rfl⟩
  have hP : WP D cA a S X I H := hHe ▸ hP
  have hS : va_S (AF a I sz) s.heap H locs := by rw [hHe, hlo]; exact hS
  rw [← hHe, ← hlo]
  have hA : ∀ q, AI a I q → AF a I sz q := fun _ h => Or.inl h
  obtain ⟨hLnk, hP6, hL8, h17, h16, h8, h3, h2⟩ := id hTW
  refine lv_iload_n C0.1 C0.2.1 dX8_landing_0 rfl (lv_at hl 1 rfl) ?_
  refine lv_aload_n C0.1 C0.2.1 dX8_landing_1 rfl (lv_at hl 0 rfl) ?_
  refine g89_landings C0 hK hP (hd.1 _ (by decide)) fl_X8_19 dX8_landing_2 ?_
  refine g81_number (v := nI L) C0 hK hP (hd.1 _ (by decide)) fl_X8_127 hnL dX8_landing_5 ?_
  refine k_X8_isOneOf hd s0 C0 hK hP  (v := bI (decide (0 ≤ x) && decide (x < (nI L)))) rfl hS hA hl.1 ml_X8_91 ⟨Nat.le_of_ble_eq_true rfl, Nat.le_of_ble_eq_true rfl⟩ ⟨Nat.le_of_ble_eq_true rfl, Nat.le_of_ble_eq_true rfl⟩ (Nat.le_of_ble_eq_true rfl) dX8_landing_8 (fun H locs hP hS => ?_)
  refine lv_if_eq (tgt := 26) C0.1 C0.2.1 dX8_landing_11 (by decide) (fun c_11 => ?_) (fun c_11 => ?_)
  · have c_11 := bI_eq c_11
    refine lv_iconst (v := 0) C0.1 C0.2.1 dX8_landing_26 (by decide) ?_
    refine k_X8_needIndex (b := false) hfl C0 hlk hex h0 hK hX hP hS hl.1 ml_X8_64 ⟨Nat.le_of_ble_eq_true rfl, Nat.le_of_ble_eq_true rfl⟩ ⟨Nat.le_of_ble_eq_true rfl, Nat.le_of_ble_eq_true rfl⟩ (Nat.le_of_ble_eq_true rfl) (Nat.le_of_ble_eq_true rfl) (Nat.le_of_ble_eq_true rfl) dX8_landing_27 (fun _ => pxB_I (by simp only [c_11, Bool.and_true, Bool.true_and, Bool.and_false, Bool.false_and, Bool.not_true, Bool.not_false])) (fun hb_27 => absurd hb_27 Bool.false_ne_true)
  · have c_11 := bI_ne c_11
    refine lv_iload_n C0.1 C0.2.1 dX8_landing_14 rfl (lv_at hl 2 rfl) ?_
    refine lv_iconst (v := 5) C0.1 C0.2.1 dX8_landing_15 (by decide) ?_
    refine k_X8_isOneOf hd s0 C0 hK hP  (v := bI (decide (0 ≤ w) && decide (w < 5))) rfl hS hA hl.1 ml_X8_91 ⟨Nat.le_of_ble_eq_true rfl, Nat.le_of_ble_eq_true rfl⟩ ⟨Nat.le_of_ble_eq_true rfl, Nat.le_of_ble_eq_true rfl⟩ (Nat.le_of_ble_eq_true rfl) dX8_landing_16 (fun H locs hP hS => ?_)
    refine lv_if_eq (tgt := 26) C0.1 C0.2.1 dX8_landing_19 (by decide) (fun c_19 => ?_) (fun c_19 => ?_)
    · have c_19 := bI_eq c_19
      refine lv_iconst (v := 0) C0.1 C0.2.1 dX8_landing_26 (by decide) ?_
      refine k_X8_needIndex (b := false) hfl C0 hlk hex h0 hK hX hP hS hl.1 ml_X8_64 ⟨Nat.le_of_ble_eq_true rfl, Nat.le_of_ble_eq_true rfl⟩ ⟨Nat.le_of_ble_eq_true rfl, Nat.le_of_ble_eq_true rfl⟩ (Nat.le_of_ble_eq_true rfl) (Nat.le_of_ble_eq_true rfl) (Nat.le_of_ble_eq_true rfl) dX8_landing_27 (fun _ => pxB_I (by simp only [c_11, c_19, Bool.and_true, Bool.true_and, Bool.and_false, Bool.false_and, Bool.not_true, Bool.not_false])) (fun hb_27 => absurd hb_27 Bool.false_ne_true)
    · have c_19 := bI_ne c_19
      refine lv_iconst (v := 1) C0.1 C0.2.1 dX8_landing_22 (by decide) ?_
      refine lv_goto (tgt := 27) C0.1 C0.2.1 dX8_landing_23 (by decide) ?_
      refine k_X8_needIndex (b := true) hfl C0 hlk hex h0 hK hX hP hS hl.1 ml_X8_64 ⟨Nat.le_of_ble_eq_true rfl, Nat.le_of_ble_eq_true rfl⟩ ⟨Nat.le_of_ble_eq_true rfl, Nat.le_of_ble_eq_true rfl⟩ (Nat.le_of_ble_eq_true rfl) (Nat.le_of_ble_eq_true rfl) (Nat.le_of_ble_eq_true rfl) dX8_landing_27 (fun hb => absurd hb.symm Bool.false_ne_true) (fun hb_27 H locs hP hS => ?_)
      obtain ⟨u, hx, hxe⟩ := one_nat (n := L) (by omega) (show oneB x (nI L) = true from c_11)
      subst hxe
      refine lv_aload_n C0.1 C0.2.1 dX8_landing_30 rfl (lv_at hl 0 rfl) ?_
      refine lv_iload_n C0.1 C0.2.1 dX8_landing_31 rfl (lv_at hl 1 rfl) ?_
      refine lv_iload_n C0.1 C0.2.1 dX8_landing_32 rfl (lv_at hl 2 rfl) ?_
      refine k_X8_tellLanding hd sId C0 hK hP hnP hnT hT30 hTW hx (v := lanS S P T u w) rfl hS hA hl.1 ml_X8_210 ⟨Nat.le_of_ble_eq_true rfl, Nat.le_of_ble_eq_true rfl⟩ ⟨Nat.le_of_ble_eq_true rfl, Nat.le_of_ble_eq_true rfl⟩ (Nat.le_of_ble_eq_true rfl) dX8_landing_33 (fun H locs hP hS => ?_)
      exact retXI C0 hr hlk hP hS (Nat.le_of_ble_eq_true rfl) (Nat.le_of_ble_eq_true rfl) ⟨by simp only [c_11, c_19, Bool.and_true, Bool.true_and, Bool.and_false, Bool.false_and, Bool.not_true, Bool.not_false], by simp only [c_11, c_19, Bool.and_true, Bool.true_and, Bool.and_false, Bool.false_and, Bool.not_true, Bool.not_false], by simp only [c_11, c_19, Bool.and_true, Bool.true_and, Bool.and_false, Bool.false_and, Bool.not_true, Bool.not_false], by rw [nv_nI (by omega)], rfl, rfl⟩ dX8_landing_36
set_option maxHeartbeats 4000000 in
set_option maxRecDepth 100000 in
theorem c_X8_count (l : Launch) (hfl : l.stackTraces = false) (D : va_G) (cA : ClassId) (a : Adr) (S X : Mem) (I : Nat → Prop) (sz : Nat) (hd : Hd nF a I) (w : Int32) {P : Nat} {L : Nat} {T : Nat} {h : Nat} (hnP : S 82 0 = nI P) (hnL : S 81 0 = nI L) (hnT : S 85 0 = nI T) (hT30 : T ≤ 30) (hnH : S 86 0 = nI h) (hh : h < 2 ^ 31) (hTW : TW S P L) (hTr : TrW S P L T) : MXI l yX8_count cX8_count 2 (some .int) 7 126 1 6 D cA a S X I sz [.ref (a 89), .int w] (fun r S1 X1 => (oneB w 11) = true ∧ (true) = true ∧ (true) = true ∧ r = (couS S P L T h w) ∧ S1 = S ∧ X1 = X) (pxB (oneB w 11) (true) (true) S X) := by
  refine mGoX (by decide) (Nat.le_of_ble_eq_true rfl) ?_
  intro p e s m args below meth c ls C0 hr hlk hex h0 hK hX hP hS hl
  obtain ⟨H, hHe⟩ : ∃ H, H = s.heap := ⟨_, rfl⟩
  obtain ⟨locs, hlo⟩ : ∃ L : List Loc, L = [] := ⟨_, rfl⟩
  have hP : WP D cA a S X I H := hHe ▸ hP
  have hS : va_S (AF a I sz) s.heap H locs := by rw [hHe, hlo]; exact hS
  rw [← hHe, ← hlo]
  have hA : ∀ q, AI a I q → AF a I sz q := fun _ h => Or.inl h
  obtain ⟨hLnk, hP6, hL8, h17, h16, h8, h3, h2⟩ := id hTW
  refine lv_iload_n C0.1 C0.2.1 dX8_count_0 rfl (lv_at hl 1 rfl) ?_
  refine lv_bipush (v := 11) C0.1 C0.2.1 dX8_count_1 (by decide) ?_
  refine k_X8_isOneOf hd s0 C0 hK hP  (v := bI (decide (0 ≤ w) && decide (w < 11))) rfl hS hA hl.1 ml_X8_91 ⟨Nat.le_of_ble_eq_true rfl, Nat.le_of_ble_eq_true rfl⟩ ⟨Nat.le_of_ble_eq_true rfl, Nat.le_of_ble_eq_true rfl⟩ (Nat.le_of_ble_eq_true rfl) dX8_count_3 (fun H locs hP hS => ?_)
  refine k_X8_needIndex (b := (decide (0 ≤ w) && decide (w < 11))) hfl C0 hlk hex h0 hK hX hP hS hl.1 ml_X8_64 ⟨Nat.le_of_ble_eq_true rfl, Nat.le_of_ble_eq_true rfl⟩ ⟨Nat.le_of_ble_eq_true rfl, Nat.le_of_ble_eq_true rfl⟩ (Nat.le_of_ble_eq_true rfl) (Nat.le_of_ble_eq_true rfl) (Nat.le_of_ble_eq_true rfl) dX8_count_6 (fun hb => pxB_I (by simp only [Bool.and_true, Bool.true_and, Bool.and_false, Bool.false_and, Bool.not_true, Bool.not_false, hb])) (fun hb_6 H locs hP hS => ?_)
  refine lv_aload_n C0.1 C0.2.1 dX8_count_9 rfl (lv_at hl 0 rfl) ?_
  refine lv_iload_n C0.1 C0.2.1 dX8_count_10 rfl (lv_at hl 1 rfl) ?_
  refine k_X8_tellCount hd sId C0 hK hP hnP hnL hnT hT30 hnH hh hTW hTr (v := couS S P L T h w) rfl hS hA hl.1 ml_X8_225 ⟨Nat.le_of_ble_eq_true rfl, Nat.le_of_ble_eq_true rfl⟩ ⟨Nat.le_of_ble_eq_true rfl, Nat.le_of_ble_eq_true rfl⟩ (Nat.le_of_ble_eq_true rfl) dX8_count_11 (fun H locs hP hS => ?_)
  exact retXI C0 hr hlk hP hS (Nat.le_of_ble_eq_true rfl) (Nat.le_of_ble_eq_true rfl) ⟨by simp only [hb_6, Bool.and_true, Bool.true_and, Bool.and_false, Bool.false_and, Bool.not_true, Bool.not_false], by simp only [hb_6, Bool.and_true, Bool.true_and, Bool.and_false, Bool.false_and, Bool.not_true, Bool.not_false], by simp only [hb_6, Bool.and_true, Bool.true_and, Bool.and_false, Bool.false_and, Bool.not_true, Bool.not_false], rfl, rfl, rfl⟩ dX8_count_14
set_option maxHeartbeats 4000000 in
set_option maxRecDepth 100000 in
theorem c_X8_crossing (l : Launch) (hfl : l.stackTraces = false) (D : va_G) (cA : ClassId) (a : Adr) (S X : Mem) (I : Nat → Prop) (sz : Nat) (hd : Hd nF a I) (x : Int32) (z : Int32) {P : Nat} {L : Nat} (hnP : S 82 0 = nI P) (hC : CacheOk S X P) (hTW : TW S P L) : MXI l yX8_crossing cX8_crossing 3 (some .int) 7 121 2 12 D cA a S X I sz [.ref (a 89), .int x, .int z] (fun r S1 X1 => (oneB x (nI P)) = true ∧ (inB z 0 24) = true ∧ (true) = true ∧ r = (crsS S (nv x) z) ∧ S1 = S ∧ CacheOk S X1 P ∧ (∀ k, k ≠ 13 → k ≠ 14 → k ≠ 15 → X1 k = X k)) (pxB (oneB x (nI P)) (inB z 0 24) (true) S X) := by
  refine mGoX (by decide) (Nat.le_of_ble_eq_true rfl) ?_
  intro p e s m args below meth c ls C0 hr hlk hex h0 hK hX hP hS hl
  obtain ⟨H, hHe⟩ : ∃ H, H = s.heap := ⟨_, rfl⟩
  obtain ⟨locs, hlo⟩ : ∃ L : List Loc, L = [] := ⟨_, rfl⟩
  have hP : WP D cA a S X I H := hHe ▸ hP
  have hS : va_S (AF a I sz) s.heap H locs := by rw [hHe, hlo]; exact hS
  rw [← hHe, ← hlo]
  have hA : ∀ q, AI a I q → AF a I sz q := fun _ h => Or.inl h
  obtain ⟨hLnk, hP6, hL8, h17, h16, h8, h3, h2⟩ := id hTW
  refine lv_iload_n C0.1 C0.2.1 dX8_crossing_0 rfl (lv_at hl 1 rfl) ?_
  refine lv_aload_n C0.1 C0.2.1 dX8_crossing_1 rfl (lv_at hl 0 rfl) ?_
  refine g89_fleet C0 hK hP (hd.1 _ (by decide)) fl_X8_26 dX8_crossing_2 ?_
  refine g82_number (v := nI P) C0 hK hP (hd.1 _ (by decide)) fl_X8_120 hnP dX8_crossing_5 ?_
  refine k_X8_isOneOf hd s0 C0 hK hP  (v := bI (decide (0 ≤ x) && decide (x < (nI P)))) rfl hS hA hl.1 ml_X8_91 ⟨Nat.le_of_ble_eq_true rfl, Nat.le_of_ble_eq_true rfl⟩ ⟨Nat.le_of_ble_eq_true rfl, Nat.le_of_ble_eq_true rfl⟩ (Nat.le_of_ble_eq_true rfl) dX8_crossing_8 (fun H locs hP hS => ?_)
  refine k_X8_needIndex (b := (decide (0 ≤ x) && decide (x < (nI P)))) hfl C0 hlk hex h0 hK hX hP hS hl.1 ml_X8_64 ⟨Nat.le_of_ble_eq_true rfl, Nat.le_of_ble_eq_true rfl⟩ ⟨Nat.le_of_ble_eq_true rfl, Nat.le_of_ble_eq_true rfl⟩ (Nat.le_of_ble_eq_true rfl) (Nat.le_of_ble_eq_true rfl) (Nat.le_of_ble_eq_true rfl) dX8_crossing_11 (fun hb => pxB_I (by simp only [Bool.and_true, Bool.true_and, Bool.and_false, Bool.false_and, Bool.not_true, Bool.not_false, hb])) (fun hb_11 H locs hP hS => ?_)
  refine lv_iload_n C0.1 C0.2.1 dX8_crossing_14 rfl (lv_at hl 2 rfl) ?_
  refine lv_iconst (v := 0) C0.1 C0.2.1 dX8_crossing_15 (by decide) ?_
  refine lv_bipush (v := 24) C0.1 C0.2.1 dX8_crossing_16 (by decide) ?_
  refine k_X8_within hd s0 C0 hK hP  (v := bI (decide (0 ≤ z) && decide (z ≤ 24))) rfl hS hA hl.1 ml_X8_68 ⟨Nat.le_of_ble_eq_true rfl, Nat.le_of_ble_eq_true rfl⟩ ⟨Nat.le_of_ble_eq_true rfl, Nat.le_of_ble_eq_true rfl⟩ (Nat.le_of_ble_eq_true rfl) dX8_crossing_18 (fun H locs hP hS => ?_)
  refine k_X8_needArgument (b := (decide (0 ≤ z) && decide (z ≤ 24))) hfl C0 hlk hex h0 hK hX hP hS hl.1 ml_X8_72 ⟨Nat.le_of_ble_eq_true rfl, Nat.le_of_ble_eq_true rfl⟩ ⟨Nat.le_of_ble_eq_true rfl, Nat.le_of_ble_eq_true rfl⟩ (Nat.le_of_ble_eq_true rfl) (Nat.le_of_ble_eq_true rfl) (Nat.le_of_ble_eq_true rfl) dX8_crossing_21 (fun hb => pxB_A (by simp only [hb_11, Bool.and_true, Bool.true_and, Bool.and_false, Bool.false_and, Bool.not_true, Bool.not_false, hb]) (by simp only [hb_11, Bool.and_true, Bool.true_and, Bool.and_false, Bool.false_and, Bool.not_true, Bool.not_false, hb])) (fun hb_21 H locs hP hS => ?_)
  obtain ⟨u, hu, hxe⟩ := one_nat (n := P) (by omega) (show oneB x (nI P) = true from hb_11)
  subst hxe
  obtain ⟨z0, hv25, hze⟩ := in_nat (m := 24) (by decide) (show inB z 0 (nI 24) = true from hb_21)
  subst hze
  have hv25 : z0 < 25 := by omega
  refine lv_aload_n C0.1 C0.2.1 dX8_crossing_24 rfl (lv_at hl 0 rfl) ?_
  refine lv_iload_n C0.1 C0.2.1 dX8_crossing_25 rfl (lv_at hl 1 rfl) ?_
  refine lv_iload_n C0.1 C0.2.1 dX8_crossing_26 rfl (lv_at hl 2 rfl) ?_
  refine k_X8_crossingAt hd sId C0 hK hP hC hTW hu hv25 hS hA hl.1 ml_X8_249 ⟨Nat.le_of_ble_eq_true rfl, Nat.le_of_ble_eq_true rfl⟩ ⟨Nat.le_of_ble_eq_true rfl, Nat.le_of_ble_eq_true rfl⟩ (Nat.le_of_ble_eq_true rfl) dX8_crossing_27 (fun v_4 S_2 X_3 H locs hx_1 hP hS => ?_)
  obtain ⟨hrv, hs1, hC1, hxf⟩ := hx_1
  rw [hs1] at hP
  subst hrv
  exact retXI C0 hr hlk hP hS (Nat.le_of_ble_eq_true rfl) (Nat.le_of_ble_eq_true rfl) ⟨by simp only [hb_11, hb_21, Bool.and_true, Bool.true_and, Bool.and_false, Bool.false_and, Bool.not_true, Bool.not_false], by simp only [hb_11, hb_21, Bool.and_true, Bool.true_and, Bool.and_false, Bool.false_and, Bool.not_true, Bool.not_false], by simp only [hb_11, hb_21, Bool.and_true, Bool.true_and, Bool.and_false, Bool.false_and, Bool.not_true, Bool.not_false], by rw [nv_nI (by omega)], rfl, hC1, hxf⟩ dX8_crossing_30
end CLS
