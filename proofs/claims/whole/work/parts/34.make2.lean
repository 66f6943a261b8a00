set_option maxHeartbeats 4000000 in
set_option maxRecDepth 100000 in
theorem c_X7_init (l : Launch) (D : va_G) (cA : ClassId) (q sz : Nat) : MK l yX7_init cX7_init 1 3 33 10 155 D cA q sz (.inr (7, [.int 0, .null, .null, .null, .null, .null])) (fun _ => True) [] (sz + 10) (.inr (7, [.int 0, .ref (sz + 0), .ref (sz + 2), .ref (sz + 4), .ref (sz + 6), .ref (sz + 8)])) [(sz + 0, .inr (5, [.ref (sz + 1)])), (sz + 1, .inl (cA, 30, .inl fun _ => 0)), (sz + 2, .inr (5, [.ref (sz + 3)])), (sz + 3, .inl (cA, 30, .inl fun _ => 0)), (sz + 4, .inr (5, [.ref (sz + 5)])), (sz + 5, .inl (cA, 30, .inl fun _ => 0)), (sz + 6, .inr (5, [.ref (sz + 7)])), (sz + 7, .inl (cA, 30, .inl fun _ => 0)), (sz + 8, .inr (5, [.ref (sz + 9)])), (sz + 9, .inl (cA, 30, .inl fun _ => 0))] (fun _ => True) (FK q sz) := by
  refine mGoK (by decide) rfl (Nat.le_of_ble_eq_true rfl) ?_
  intro p e s m args below meth c ls C0 hr hlk hin2 hsz hq hR hK hNX _ hS hl
  obtain ⟨H, hHe⟩ : ∃ H, H = s.heap := ⟨_, rfl⟩
  obtain ⟨locs, hlo⟩ : ∃ L : List Loc, L = [] := ⟨_, rfl⟩
  have hS : va_S (FK q sz) s.heap H locs := by rw [hHe, hlo]; exact hS
  have hB : BW D q sz 0 (.inr (7, [.int 0, .null, .null, .null, .null, .null])) [] H := ⟨hq, by rw [hHe]; exact hsz, by rw [hHe]; exact hR, NW.nil⟩
  rw [← hHe, ← hlo]
  refine lv_aload_n C0.1 C0.2.1 dX7_init_0 rfl (lv_at hl 0 rfl) ?_
  refine oK C0 ml_X7_3 hl.1 ⟨Nat.le_of_ble_eq_true rfl, Nat.le_of_ble_eq_true rfl⟩ dX7_init_1 ?_
  refine lv_aload_n C0.1 C0.2.1 dX7_init_4 rfl (lv_at hl 0 rfl) ?_
  refine mkN (ci := 5) (N := 1) (n := sz + 0) [.null] C0 hK us_X5 tyX5 tyX5_ok cl_X7_9 it_X5 in_X5 hS rfl (fun j hj => by rcases (show j = 0 by omega) with rfl <;> rfl) hB.2.1 (Nat.le_of_ble_eq_true rfl) (Nat.le_of_ble_eq_true rfl) dX7_init_5 (fun H h9 hO ho hS => ?_)
  have hN := hB.new h9 ho
  refine lv_dup C0.1 C0.2.1 dX7_init_8 rfl ?_
  refine lv_bipush (v := nI 30) C0.1 C0.2.1 dX7_init_9 (by decide) ?_
  refine rK (n := 1) hN.2.1 (c_X5_init l D cA (sz + 0) ((sz + 0) + 1) 30 (Nat.le_of_ble_eq_true rfl)) C0 ml_X7_11 im_X5_init in_X5 co_X5_init rfl ⟨by decide, by decide, by decide +kernel⟩ ⟨Nat.le_of_ble_eq_true rfl, Nat.le_of_ble_eq_true rfl⟩ hK hNX hO trivial hS (fun x h => FK.up h) rfl hl.1 (Nat.le_of_ble_eq_true rfl) rfl dX7_init_11 ⟨Nat.le_of_ble_eq_true rfl, Nat.le_of_ble_eq_true rfl⟩ (fun H locs hn hO hW2 _ ho hS => ?_)
  have hB := hN.done (m := 1) hn hO hW2 ho
  have hB : BW D q sz 2 (.inr (7, [.int 0, .null, .null, .null, .null, .null])) [(sz + 0, .inr (5, [.ref (sz + 1)])), (sz + 1, .inl (cA, 30, .inl fun _ => 0))] H := hB
  refine pK C0 hin2 hK hB.2.2.1 hS (Or.inl rfl) us_X7 tyX7 tyX7_ok nmX7 rfl 1 (by decide) fl_X7_14 rfl rfl (ty := tyX7 1) (by decide +kernel) rfl rfl (Nat.le_of_ble_eq_true rfl) dX7_init_14 (fun H locs h2 hR ho hS => ?_)
  have hB : BW D q sz 2 (.inr (7, [.int 0, .ref (sz + 0), .null, .null, .null, .null])) [(sz + 0, .inr (5, [.ref (sz + 1)])), (sz + 1, .inl (cA, 30, .inl fun _ => 0))] H := hB.put h2 hR ho
  refine lv_aload_n C0.1 C0.2.1 dX7_init_17 rfl (lv_at hl 0 rfl) ?_
  refine mkN (ci := 5) (N := 1) (n := sz + 2) [.null] C0 hK us_X5 tyX5 tyX5_ok cl_X7_9 it_X5 in_X5 hS rfl (fun j hj => by rcases (show j = 0 by omega) with rfl <;> rfl) hB.2.1 (Nat.le_of_ble_eq_true rfl) (Nat.le_of_ble_eq_true rfl) dX7_init_18 (fun H h9 hO ho hS => ?_)
  have hN := hB.new h9 ho
  refine lv_dup C0.1 C0.2.1 dX7_init_21 rfl ?_
  refine lv_bipush (v := nI 30) C0.1 C0.2.1 dX7_init_22 (by decide) ?_
  refine rK (n := 1) hN.2.1 (c_X5_init l D cA (sz + 2) ((sz + 2) + 1) 30 (Nat.le_of_ble_eq_true rfl)) C0 ml_X7_11 im_X5_init in_X5 co_X5_init rfl ⟨by decide, by decide, by decide +kernel⟩ ⟨Nat.le_of_ble_eq_true rfl, Nat.le_of_ble_eq_true rfl⟩ hK hNX hO trivial hS (fun x h => FK.up h) rfl hl.1 (Nat.le_of_ble_eq_true rfl) rfl dX7_init_24 ⟨Nat.le_of_ble_eq_true rfl, Nat.le_of_ble_eq_true rfl⟩ (fun H locs hn hO hW2 _ ho hS => ?_)
  have hB := hN.done (m := 1) hn hO hW2 ho
  have hB : BW D q sz 4 (.inr (7, [.int 0, .ref (sz + 0), .null, .null, .null, .null])) [(sz + 0, .inr (5, [.ref (sz + 1)])), (sz + 1, .inl (cA, 30, .inl fun _ => 0)), (sz + 2, .inr (5, [.ref (sz + 3)])), (sz + 3, .inl (cA, 30, .inl fun _ => 0))] H := hB
  refine pK C0 hin2 hK hB.2.2.1 hS (Or.inl rfl) us_X7 tyX7 tyX7_ok nmX7 rfl 2 (by decide) fl_X7_20 rfl rfl (ty := tyX7 2) (by decide +kernel) rfl rfl (Nat.le_of_ble_eq_true rfl) dX7_init_27 (fun H locs h2 hR ho hS => ?_)
  have hB : BW D q sz 4 (.inr (7, [.int 0, .ref (sz + 0), .ref (sz + 2), .null, .null, .null])) [(sz + 0, .inr (5, [.ref (sz + 1)])), (sz + 1, .inl (cA, 30, .inl fun _ => 0)), (sz + 2, .inr (5, [.ref (sz + 3)])), (sz + 3, .inl (cA, 30, .inl fun _ => 0))] H := hB.put h2 hR ho
  refine lv_aload_n C0.1 C0.2.1 dX7_init_30 rfl (lv_at hl 0 rfl) ?_
  refine mkN (ci := 5) (N := 1) (n := sz + 4) [.null] C0 hK us_X5 tyX5 tyX5_ok cl_X7_9 it_X5 in_X5 hS rfl (fun j hj => by rcases (show j = 0 by omega) with rfl <;> rfl) hB.2.1 (Nat.le_of_ble_eq_true rfl) (Nat.le_of_ble_eq_true rfl) dX7_init_31 (fun H h9 hO ho hS => ?_)
  have hN := hB.new h9 ho
  refine lv_dup C0.1 C0.2.1 dX7_init_34 rfl ?_
  refine lv_bipush (v := nI 30) C0.1 C0.2.1 dX7_init_35 (by decide) ?_
  refine rK (n := 1) hN.2.1 (c_X5_init l D cA (sz + 4) ((sz + 4) + 1) 30 (Nat.le_of_ble_eq_true rfl)) C0 ml_X7_11 im_X5_init in_X5 co_X5_init rfl ⟨by decide, by decide, by decide +kernel⟩ ⟨Nat.le_of_ble_eq_true rfl, Nat.le_of_ble_eq_true rfl⟩ hK hNX hO trivial hS (fun x h => FK.up h) rfl hl.1 (Nat.le_of_ble_eq_true rfl) rfl dX7_init_37 ⟨Nat.le_of_ble_eq_true rfl, Nat.le_of_ble_eq_true rfl⟩ (fun H locs hn hO hW2 _ ho hS => ?_)
  have hB := hN.done (m := 1) hn hO hW2 ho
  have hB : BW D q sz 6 (.inr (7, [.int 0, .ref (sz + 0), .ref (sz + 2), .null, .null, .null])) [(sz + 0, .inr (5, [.ref (sz + 1)])), (sz + 1, .inl (cA, 30, .inl fun _ => 0)), (sz + 2, .inr (5, [.ref (sz + 3)])), (sz + 3, .inl (cA, 30, .inl fun _ => 0)), (sz + 4, .inr (5, [.ref (sz + 5)])), (sz + 5, .inl (cA, 30, .inl fun _ => 0))] H := hB
  refine pK C0 hin2 hK hB.2.2.1 hS (Or.inl rfl) us_X7 tyX7 tyX7_ok nmX7 rfl 3 (by decide) fl_X7_23 rfl rfl (ty := tyX7 3) (by decide +kernel) rfl rfl (Nat.le_of_ble_eq_true rfl) dX7_init_40 (fun H locs h2 hR ho hS => ?_)
  have hB : BW D q sz 6 (.inr (7, [.int 0, .ref (sz + 0), .ref (sz + 2), .ref (sz + 4), .null, .null])) [(sz + 0, .inr (5, [.ref (sz + 1)])), (sz + 1, .inl (cA, 30, .inl fun _ => 0)), (sz + 2, .inr (5, [.ref (sz + 3)])), (sz + 3, .inl (cA, 30, .inl fun _ => 0)), (sz + 4, .inr (5, [.ref (sz + 5)])), (sz + 5, .inl (cA, 30, .inl fun _ => 0))] H := hB.put h2 hR ho
  refine lv_aload_n C0.1 C0.2.1 dX7_init_43 rfl (lv_at hl 0 rfl) ?_
  refine mkN (ci := 5) (N := 1) (n := sz + 6) [.null] C0 hK us_X5 tyX5 tyX5_ok cl_X7_9 it_X5 in_X5 hS rfl (fun j hj => by rcases (show j = 0 by omega) with rfl <;> rfl) hB.2.1 (Nat.le_of_ble_eq_true rfl) (Nat.le_of_ble_eq_true rfl) dX7_init_44 (fun H h9 hO ho hS => ?_)
  have hN := hB.new h9 ho
  refine lv_dup C0.1 C0.2.1 dX7_init_47 rfl ?_
  refine lv_bipush (v := nI 30) C0.1 C0.2.1 dX7_init_48 (by decide) ?_
  refine rK (n := 1) hN.2.1 (c_X5_init l D cA (sz + 6) ((sz + 6) + 1) 30 (Nat.le_of_ble_eq_true rfl)) C0 ml_X7_11 im_X5_init in_X5 co_X5_init rfl ⟨by decide, by decide, by decide +kernel⟩ ⟨Nat.le_of_ble_eq_true rfl, Nat.le_of_ble_eq_true rfl⟩ hK hNX hO trivial hS (fun x h => FK.up h) rfl hl.1 (Nat.le_of_ble_eq_true rfl) rfl dX7_init_50 ⟨Nat.le_of_ble_eq_true rfl, Nat.le_of_ble_eq_true rfl⟩ (fun H locs hn hO hW2 _ ho hS => ?_)
  have hB := hN.done (m := 1) hn hO hW2 ho
  have hB : BW D q sz 8 (.inr (7, [.int 0, .ref (sz + 0), .ref (sz + 2), .ref (sz + 4), .null, .null])) [(sz + 0, .inr (5, [.ref (sz + 1)])), (sz + 1, .inl (cA, 30, .inl fun _ => 0)), (sz + 2, .inr (5, [.ref (sz + 3)])), (sz + 3, .inl (cA, 30, .inl fun _ => 0)), (sz + 4, .inr (5, [.ref (sz + 5)])), (sz + 5, .inl (cA, 30, .inl fun _ => 0)), (sz + 6, .inr (5, [.ref (sz + 7)])), (sz + 7, .inl (cA, 30, .inl fun _ => 0))] H := hB
  refine pK C0 hin2 hK hB.2.2.1 hS (Or.inl rfl) us_X7 tyX7 tyX7_ok nmX7 rfl 4 (by decide) fl_X7_26 rfl rfl (ty := tyX7 4) (by decide +kernel) rfl rfl (Nat.le_of_ble_eq_true rfl) dX7_init_53 (fun H locs h2 hR ho hS => ?_)
  have hB : BW D q sz 8 (.inr (7, [.int 0, .ref (sz + 0), .ref (sz + 2), .ref (sz + 4), .ref (sz + 6), .null])) [(sz + 0, .inr (5, [.ref (sz + 1)])), (sz + 1, .inl (cA, 30, .inl fun _ => 0)), (sz + 2, .inr (5, [.ref (sz + 3)])), (sz + 3, .inl (cA, 30, .inl fun _ => 0)), (sz + 4, .inr (5, [.ref (sz + 5)])), (sz + 5, .inl (cA, 30, .inl fun _ => 0)), (sz + 6, .inr (5, [.ref (sz + 7)])), (sz + 7, .inl (cA, 30, .inl fun _ => 0))] H := hB.put h2 hR ho
  refine lv_aload_n C0.1 C0.2.1 dX7_init_56 rfl (lv_at hl 0 rfl) ?_
  refine mkN (ci := 5) (N := 1) (n := sz + 8) [.null] C0 hK us_X5 tyX5 tyX5_ok cl_X7_9 it_X5 in_X5 hS rfl (fun j hj => by rcases (show j = 0 by omega) with rfl <;> rfl) hB.2.1 (Nat.le_of_ble_eq_true rfl) (Nat.le_of_ble_eq_true rfl) dX7_init_57 (fun H h9 hO ho hS => ?_)
  have hN := hB.new h9 ho
  refine lv_dup C0.1 C0.2.1 dX7_init_60 rfl ?_
  refine lv_bipush (v := nI 30) C0.1 C0.2.1 dX7_init_61 (by decide) ?_
  refine rK (n := 1) hN.2.1 (c_X5_init l D cA (sz + 8) ((sz + 8) + 1) 30 (Nat.le_of_ble_eq_true rfl)) C0 ml_X7_11 im_X5_init in_X5 co_X5_init rfl ⟨by decide, by decide, by decide +kernel⟩ ⟨Nat.le_of_ble_eq_true rfl, Nat.le_of_ble_eq_true rfl⟩ hK hNX hO trivial hS (fun x h => FK.up h) rfl hl.1 (Nat.le_of_ble_eq_true rfl) rfl dX7_init_63 ⟨Nat.le_of_ble_eq_true rfl, Nat.le_of_ble_eq_true rfl⟩ (fun H locs hn hO hW2 _ ho hS => ?_)
  have hB := hN.done (m := 1) hn hO hW2 ho
  have hB : BW D q sz 10 (.inr (7, [.int 0, .ref (sz + 0), .ref (sz + 2), .ref (sz + 4), .ref (sz + 6), .null])) [(sz + 0, .inr (5, [.ref (sz + 1)])), (sz + 1, .inl (cA, 30, .inl fun _ => 0)), (sz + 2, .inr (5, [.ref (sz + 3)])), (sz + 3, .inl (cA, 30, .inl fun _ => 0)), (sz + 4, .inr (5, [.ref (sz + 5)])), (sz + 5, .inl (cA, 30, .inl fun _ => 0)), (sz + 6, .inr (5, [.ref (sz + 7)])), (sz + 7, .inl (cA, 30, .inl fun _ => 0)), (sz + 8, .inr (5, [.ref (sz + 9)])), (sz + 9, .inl (cA, 30, .inl fun _ => 0))] H := hB
  refine pK C0 hin2 hK hB.2.2.1 hS (Or.inl rfl) us_X7 tyX7 tyX7_ok nmX7 rfl 5 (by decide) fl_X7_29 rfl rfl (ty := tyX7 5) (by decide +kernel) rfl rfl (Nat.le_of_ble_eq_true rfl) dX7_init_66 (fun H locs h2 hR ho hS => ?_)
  have hB : BW D q sz 10 (.inr (7, [.int 0, .ref (sz + 0), .ref (sz + 2), .ref (sz + 4), .ref (sz + 6), .ref (sz + 8)])) [(sz + 0, .inr (5, [.ref (sz + 1)])), (sz + 1, .inl (cA, 30, .inl fun _ => 0)), (sz + 2, .inr (5, [.ref (sz + 3)])), (sz + 3, .inl (cA, 30, .inl fun _ => 0)), (sz + 4, .inr (5, [.ref (sz + 5)])), (sz + 5, .inl (cA, 30, .inl fun _ => 0)), (sz + 6, .inr (5, [.ref (sz + 7)])), (sz + 7, .inl (cA, 30, .inl fun _ => 0)), (sz + 8, .inr (5, [.ref (sz + 9)])), (sz + 9, .inl (cA, 30, .inl fun _ => 0))] H := hB.put h2 hR ho
  exact retK C0 hr hlk hS rfl rfl hB.2.1 hB.2.2.1 hB.2.2.2 trivial dX7_init_69
set_option maxHeartbeats 4000000 in
set_option maxRecDepth 100000 in
theorem c_X3_init (l : Launch) (D : va_G) (cA : ClassId) (q sz : Nat) : MK l yX3_init cX3_init 1 3 33 2 9 D cA q sz (.inr (3, [.int 0, .null])) (fun _ => True) [] (sz + 2) (.inr (3, [.int 0, .ref (sz + 0)])) [(sz + 0, .inr (5, [.ref (sz + 1)])), (sz + 1, .inl (cA, 8, .inl fun _ => 0))] (fun _ => True) (FK q sz) := by
  refine mGoK (by decide) rfl (Nat.le_of_ble_eq_true rfl) ?_
  intro p e s m args below meth c ls C0 hr hlk hin2 hsz hq hR hK hNX _ hS hl
  obtain ⟨H, hHe⟩ : ∃ H, H = s.heap := ⟨_, rfl⟩
  obtain ⟨locs, hlo⟩ : ∃ L : List Loc, L = [] := ⟨_, rfl⟩
  have hS : va_S (FK q sz) s.heap H locs := by rw [hHe, hlo]; exact hS
  have hB : BW D q sz 0 (.inr (3, [.int 0, .null])) [] H := ⟨hq, by rw [hHe]; exact hsz, by rw [hHe]; exact hR, NW.nil⟩
  rw [← hHe, ← hlo]
  refine lv_aload_n C0.1 C0.2.1 dX3_init_0 rfl (lv_at hl 0 rfl) ?_
  refine oK C0 ml_X3_3 hl.1 ⟨Nat.le_of_ble_eq_true rfl, Nat.le_of_ble_eq_true rfl⟩ dX3_init_1 ?_
  refine lv_aload_n C0.1 C0.2.1 dX3_init_4 rfl (lv_at hl 0 rfl) ?_
  refine mkN (ci := 5) (N := 1) (n := sz + 0) [.null] C0 hK us_X5 tyX5 tyX5_ok cl_X3_9 it_X5 in_X5 hS rfl (fun j hj => by rcases (show j = 0 by omega) with rfl <;> rfl) hB.2.1 (Nat.le_of_ble_eq_true rfl) (Nat.le_of_ble_eq_true rfl) dX3_init_5 (fun H h9 hO ho hS => ?_)
  have hN := hB.new h9 ho
  refine lv_dup C0.1 C0.2.1 dX3_init_8 rfl ?_
  refine lv_bipush (v := nI 8) C0.1 C0.2.1 dX3_init_9 (by decide) ?_
  refine rK (n := 1) hN.2.1 (c_X5_init l D cA (sz + 0) ((sz + 0) + 1) 8 (Nat.le_of_ble_eq_true rfl)) C0 ml_X3_11 im_X5_init in_X5 co_X5_init rfl ⟨by decide, by decide, by decide +kernel⟩ ⟨Nat.le_of_ble_eq_true rfl, Nat.le_of_ble_eq_true rfl⟩ hK hNX hO trivial hS (fun x h => FK.up h) rfl hl.1 (Nat.le_of_ble_eq_true rfl) rfl dX3_init_11 ⟨Nat.le_of_ble_eq_true rfl, Nat.le_of_ble_eq_true rfl⟩ (fun H locs hn hO hW2 _ ho hS => ?_)
  have hB := hN.done (m := 1) hn hO hW2 ho
  have hB : BW D q sz 2 (.inr (3, [.int 0, .null])) [(sz + 0, .inr (5, [.ref (sz + 1)])), (sz + 1, .inl (cA, 8, .inl fun _ => 0))] H := hB
  refine pK C0 hin2 hK hB.2.2.1 hS (Or.inl rfl) us_X3 tyX3 tyX3_ok nmX3 rfl 1 (by decide) fl_X3_14 rfl rfl (ty := tyX3 1) (by decide +kernel) rfl rfl (Nat.le_of_ble_eq_true rfl) dX3_init_14 (fun H locs h2 hR ho hS => ?_)
  have hB : BW D q sz 2 (.inr (3, [.int 0, .ref (sz + 0)])) [(sz + 0, .inr (5, [.ref (sz + 1)])), (sz + 1, .inl (cA, 8, .inl fun _ => 0))] H := hB.put h2 hR ho
  exact retK C0 hr hlk hS rfl rfl hB.2.1 hB.2.2.1 hB.2.2.2 trivial dX3_init_17
set_option maxHeartbeats 4000000 in
set_option maxRecDepth 100000 in
theorem c_X2_init (l : Launch) (D : va_G) (cA : ClassId) (q sz : Nat) : MK l yX2_init cX2_init 1 3 33 12 42 D cA q sz (.inr (2, [.int 0, .null, .null, .null, .null, .null, .null])) (fun _ => True) [] (sz + 12) (.inr (2, [.int 0, .ref (sz + 0), .ref (sz + 2), .ref (sz + 4), .ref (sz + 6), .ref (sz + 8), .ref (sz + 10)])) [(sz + 0, .inr (5, [.ref (sz + 1)])), (sz + 1, .inl (cA, 6, .inl fun _ => 0)), (sz + 2, .inr (5, [.ref (sz + 3)])), (sz + 3, .inl (cA, 6, .inl fun _ => 0)), (sz + 4, .inr (5, [.ref (sz + 5)])), (sz + 5, .inl (cA, 6, .inl fun _ => 0)), (sz + 6, .inr (5, [.ref (sz + 7)])), (sz + 7, .inl (cA, 6, .inl fun _ => 0)), (sz + 8, .inr (5, [.ref (sz + 9)])), (sz + 9, .inl (cA, 6, .inl fun _ => 0)), (sz + 10, .inr (5, [.ref (sz + 11)])), (sz + 11, .inl (cA, 6, .inl fun _ => 0))] (fun _ => True) (FK q sz) := by
  refine mGoK (by decide) rfl (Nat.le_of_ble_eq_true rfl) ?_
  intro p e s m args below meth c ls C0 hr hlk hin2 hsz hq hR hK hNX _ hS hl
  obtain ⟨H, hHe⟩ : ∃ H, H = s.heap := ⟨_, rfl⟩
  obtain ⟨locs, hlo⟩ : ∃ L : List Loc, L = [] := ⟨_, rfl⟩
  have hS : va_S (FK q sz) s.heap H locs := by rw [hHe, hlo]; exact hS
  have hB : BW D q sz 0 (.inr (2, [.int 0, .null, .null, .null, .null, .null, .null])) [] H := ⟨hq, by rw [hHe]; exact hsz, by rw [hHe]; exact hR, NW.nil⟩
  rw [← hHe, ← hlo]
  refine lv_aload_n C0.1 C0.2.1 dX2_init_0 rfl (lv_at hl 0 rfl) ?_
  refine oK C0 ml_X2_3 hl.1 ⟨Nat.le_of_ble_eq_true rfl, Nat.le_of_ble_eq_true rfl⟩ dX2_init_1 ?_
  refine lv_aload_n C0.1 C0.2.1 dX2_init_4 rfl (lv_at hl 0 rfl) ?_
  refine mkN (ci := 5) (N := 1) (n := sz + 0) [.null] C0 hK us_X5 tyX5 tyX5_ok cl_X2_9 it_X5 in_X5 hS rfl (fun j hj => by rcases (show j = 0 by omega) with rfl <;> rfl) hB.2.1 (Nat.le_of_ble_eq_true rfl) (Nat.le_of_ble_eq_true rfl) dX2_init_5 (fun H h9 hO ho hS => ?_)
  have hN := hB.new h9 ho
  refine lv_dup C0.1 C0.2.1 dX2_init_8 rfl ?_
  refine lv_bipush (v := nI 6) C0.1 C0.2.1 dX2_init_9 (by decide) ?_
  refine rK (n := 1) hN.2.1 (c_X5_init l D cA (sz + 0) ((sz + 0) + 1) 6 (Nat.le_of_ble_eq_true rfl)) C0 ml_X2_11 im_X5_init in_X5 co_X5_init rfl ⟨by decide, by decide, by decide +kernel⟩ ⟨Nat.le_of_ble_eq_true rfl, Nat.le_of_ble_eq_true rfl⟩ hK hNX hO trivial hS (fun x h => FK.up h) rfl hl.1 (Nat.le_of_ble_eq_true rfl) rfl dX2_init_11 ⟨Nat.le_of_ble_eq_true rfl, Nat.le_of_ble_eq_true rfl⟩ (fun H locs hn hO hW2 _ ho hS => ?_)
  have hB := hN.done (m := 1) hn hO hW2 ho
  have hB : BW D q sz 2 (.inr (2, [.int 0, .null, .null, .null, .null, .null, .null])) [(sz + 0, .inr (5, [.ref (sz + 1)])), (sz + 1, .inl (cA, 6, .inl fun _ => 0))] H := hB
  refine pK C0 hin2 hK hB.2.2.1 hS (Or.inl rfl) us_X2 tyX2 tyX2_ok nmX2 rfl 1 (by decide) fl_X2_14 rfl rfl (ty := tyX2 1) (by decide +kernel) rfl rfl (Nat.le_of_ble_eq_true rfl) dX2_init_14 (fun H locs h2 hR ho hS => ?_)
  have hB : BW D q sz 2 (.inr (2, [.int 0, .ref (sz + 0), .null, .null, .null, .null, .null])) [(sz + 0, .inr (5, [.ref (sz + 1)])), (sz + 1, .inl (cA, 6, .inl fun _ => 0))] H := hB.put h2 hR ho
  refine lv_aload_n C0.1 C0.2.1 dX2_init_17 rfl (lv_at hl 0 rfl) ?_
  refine mkN (ci := 5) (N := 1) (n := sz + 2) [.null] C0 hK us_X5 tyX5 tyX5_ok cl_X2_9 it_X5 in_X5 hS rfl (fun j hj => by rcases (show j = 0 by omega) with rfl <;> rfl) hB.2.1 (Nat.le_of_ble_eq_true rfl) (Nat.le_of_ble_eq_true rfl) dX2_init_18 (fun H h9 hO ho hS => ?_)
  have hN := hB.new h9 ho
  refine lv_dup C0.1 C0.2.1 dX2_init_21 rfl ?_
  refine lv_bipush (v := nI 6) C0.1 C0.2.1 dX2_init_22 (by decide) ?_
  refine rK (n := 1) hN.2.1 (c_X5_init l D cA (sz + 2) ((sz + 2) + 1) 6 (Nat.le_of_ble_eq_true rfl)) C0 ml_X2_11 im_X5_init in_X5 co_X5_init rfl ⟨by decide, by decide, by decide +kernel⟩ ⟨Nat.le_of_ble_eq_true rfl, Nat.le_of_ble_eq_true rfl⟩ hK hNX hO trivial hS (fun x h => FK.up h) rfl hl.1 (Nat.le_of_ble_eq_true rfl) rfl dX2_init_24 ⟨Nat.le_of_ble_eq_true rfl, Nat.le_of_ble_eq_true rfl⟩ (fun H locs hn hO hW2 _ ho hS => ?_)
  have hB := hN.done (m := 1) hn hO hW2 ho
  have hB : BW D q sz 4 (.inr (2, [.int 0, .ref (sz + 0), .null, .null, .null, .null, .null])) [(sz + 0, .inr (5, [.ref (sz + 1)])), (sz + 1, .inl (cA, 6, .inl fun _ => 0)), (sz + 2, .inr (5, [.ref (sz + 3)])), (sz + 3, .inl (cA, 6, .inl fun _ => 0))] H := hB
  refine pK C0 hin2 hK hB.2.2.1 hS (Or.inl rfl) us_X2 tyX2 tyX2_ok nmX2 rfl 2 (by decide) fl_X2_20 rfl rfl (ty := tyX2 2) (by decide +kernel) rfl rfl (Nat.le_of_ble_eq_true rfl) dX2_init_27 (fun H locs h2 hR ho hS => ?_)
  have hB : BW D q sz 4 (.inr (2, [.int 0, .ref (sz + 0), .ref (sz + 2), .null, .null, .null, .null])) [(sz + 0, .inr (5, [.ref (sz + 1)])), (sz + 1, .inl (cA, 6, .inl fun _ => 0)), (sz + 2, .inr (5, [.ref (sz + 3)])), (sz + 3, .inl (cA, 6, .inl fun _ => 0))] H := hB.put h2 hR ho
  refine lv_aload_n C0.1 C0.2.1 dX2_init_30 rfl (lv_at hl 0 rfl) ?_
  refine mkN (ci := 5) (N := 1) (n := sz + 4) [.null] C0 hK us_X5 tyX5 tyX5_ok cl_X2_9 it_X5 in_X5 hS rfl (fun j hj => by rcases (show j = 0 by omega) with rfl <;> rfl) hB.2.1 (Nat.le_of_ble_eq_true rfl) (Nat.le_of_ble_eq_true rfl) dX2_init_31 (fun H h9 hO ho hS => ?_)
  have hN := hB.new h9 ho
  refine lv_dup C0.1 C0.2.1 dX2_init_34 rfl ?_
  refine lv_bipush (v := nI 6) C0.1 C0.2.1 dX2_init_35 (by decide) ?_
  refine rK (n := 1) hN.2.1 (c_X5_init l D cA (sz + 4) ((sz + 4) + 1) 6 (Nat.le_of_ble_eq_true rfl)) C0 ml_X2_11 im_X5_init in_X5 co_X5_init rfl ⟨by decide, by decide, by decide +kernel⟩ ⟨Nat.le_of_ble_eq_true rfl, Nat.le_of_ble_eq_true rfl⟩ hK hNX hO trivial hS (fun x h => FK.up h) rfl hl.1 (Nat.le_of_ble_eq_true rfl) rfl dX2_init_37 ⟨Nat.le_of_ble_eq_true rfl, Nat.le_of_ble_eq_true rfl⟩ (fun H locs hn hO hW2 _ ho hS => ?_)
  have hB := hN.done (m := 1) hn hO hW2 ho
  have hB : BW D q sz 6 (.inr (2, [.int 0, .ref (sz + 0), .ref (sz + 2), .null, .null, .null, .null])) [(sz + 0, .inr (5, [.ref (sz + 1)])), (sz + 1, .inl (cA, 6, .inl fun _ => 0)), (sz + 2, .inr (5, [.ref (sz + 3)])), (sz + 3, .inl (cA, 6, .inl fun _ => 0)), (sz + 4, .inr (5, [.ref (sz + 5)])), (sz + 5, .inl (cA, 6, .inl fun _ => 0))] H := hB
  refine pK C0 hin2 hK hB.2.2.1 hS (Or.inl rfl) us_X2 tyX2 tyX2_ok nmX2 rfl 3 (by decide) fl_X2_23 rfl rfl (ty := tyX2 3) (by decide +kernel) rfl rfl (Nat.le_of_ble_eq_true rfl) dX2_init_40 (fun H locs h2 hR ho hS => ?_)
  have hB : BW D q sz 6 (.inr (2, [.int 0, .ref (sz + 0), .ref (sz + 2), .ref (sz + 4), .null, .null, .null])) [(sz + 0, .inr (5, [.ref (sz + 1)])), (sz + 1, .inl (cA, 6, .inl fun _ => 0)), (sz + 2, .inr (5, [.ref (sz + 3)])), (sz + 3, .inl (cA, 6, .inl fun _ => 0)), (sz + 4, .inr (5, [.ref (sz + 5)])), (sz + 5, .inl (cA, 6, .inl fun _ => 0))] H := hB.put h2 hR ho
  refine lv_aload_n C0.1 C0.2.1 dX2_init_43 rfl (lv_at hl 0 rfl) ?_
  refine mkN (ci := 5) (N := 1) (n := sz + 6) [.null] C0 hK us_X5 tyX5 tyX5_ok cl_X2_9 it_X5 in_X5 hS rfl (fun j hj => by rcases (show j = 0 by omega) with rfl <;> rfl) hB.2.1 (Nat.le_of_ble_eq_true rfl) (Nat.le_of_ble_eq_true rfl) dX2_init_44 (fun H h9 hO ho hS => ?_)
  have hN := hB.new h9 ho
  refine lv_dup C0.1 C0.2.1 dX2_init_47 rfl ?_
  refine lv_bipush (v := nI 6) C0.1 C0.2.1 dX2_init_48 (by decide) ?_
  refine rK (n := 1) hN.2.1 (c_X5_init l D cA (sz + 6) ((sz + 6) + 1) 6 (Nat.le_of_ble_eq_true rfl)) C0 ml_X2_11 im_X5_init in_X5 co_X5_init rfl ⟨by decide, by decide, by decide +kernel⟩ ⟨Nat.le_of_ble_eq_true rfl, Nat.le_of_ble_eq_true rfl⟩ hK hNX hO trivial hS (fun x h => FK.up h) rfl hl.1 (Nat.le_of_ble_eq_true rfl) rfl dX2_init_50 ⟨Nat.le_of_ble_eq_true rfl, Nat.le_of_ble_eq_true rfl⟩ (fun H locs hn hO hW2 _ ho hS => ?_)
  have hB := hN.done (m := 1) hn hO hW2 ho
  have hB : BW D q sz 8 (.inr (2, [.int 0, .ref (sz + 0), .ref (sz + 2), .ref (sz + 4), .null, .null, .null])) [(sz + 0, .inr (5, [.ref (sz + 1)])), (sz + 1, .inl (cA, 6, .inl fun _ => 0)), (sz + 2, .inr (5, [.ref (sz + 3)])), (sz + 3, .inl (cA, 6, .inl fun _ => 0)), (sz + 4, .inr (5, [.ref (sz + 5)])), (sz + 5, .inl (cA, 6, .inl fun _ => 0)), (sz + 6, .inr (5, [.ref (sz + 7)])), (sz + 7, .inl (cA, 6, .inl fun _ => 0))] H := hB
  refine pK C0 hin2 hK hB.2.2.1 hS (Or.inl rfl) us_X2 tyX2 tyX2_ok nmX2 rfl 4 (by decide) fl_X2_26 rfl rfl (ty := tyX2 4) (by decide +kernel) rfl rfl (Nat.le_of_ble_eq_true rfl) dX2_init_53 (fun H locs h2 hR ho hS => ?_)
  have hB : BW D q sz 8 (.inr (2, [.int 0, .ref (sz + 0), .ref (sz + 2), .ref (sz + 4), .ref (sz + 6), .null, .null])) [(sz + 0, .inr (5, [.ref (sz + 1)])), (sz + 1, .inl (cA, 6, .inl fun _ => 0)), (sz + 2, .inr (5, [.ref (sz + 3)])), (sz + 3, .inl (cA, 6, .inl fun _ => 0)), (sz + 4, .inr (5, [.ref (sz + 5)])), (sz + 5, .inl (cA, 6, .inl fun _ => 0)), (sz + 6, .inr (5, [.ref (sz + 7)])), (sz + 7, .inl (cA, 6, .inl fun _ => 0))] H := hB.put h2 hR ho
  refine lv_aload_n C0.1 C0.2.1 dX2_init_56 rfl (lv_at hl 0 rfl) ?_
  refine mkN (ci := 5) (N := 1) (n := sz + 8) [.null] C0 hK us_X5 tyX5 tyX5_ok cl_X2_9 it_X5 in_X5 hS rfl (fun j hj => by rcases (show j = 0 by omega) with rfl <;> rfl) hB.2.1 (Nat.le_of_ble_eq_true rfl) (Nat.le_of_ble_eq_true rfl) dX2_init_57 (fun H h9 hO ho hS => ?_)
  have hN := hB.new h9 ho
  refine lv_dup C0.1 C0.2.1 dX2_init_60 rfl ?_
  refine lv_bipush (v := nI 6) C0.1 C0.2.1 dX2_init_61 (by decide) ?_
  refine rK (n := 1) hN.2.1 (c_X5_init l D cA (sz + 8) ((sz + 8) + 1) 6 (Nat.le_of_ble_eq_true rfl)) C0 ml_X2_11 im_X5_init in_X5 co_X5_init rfl ⟨by decide, by decide, by decide +kernel⟩ ⟨Nat.le_of_ble_eq_true rfl, Nat.le_of_ble_eq_true rfl⟩ hK hNX hO trivial hS (fun x h => FK.up h) rfl hl.1 (Nat.le_of_ble_eq_true rfl) rfl dX2_init_63 ⟨Nat.le_of_ble_eq_true rfl, Nat.le_of_ble_eq_true rfl⟩ (fun H locs hn hO hW2 _ ho hS => ?_)
  have hB := hN.done (m := 1) hn hO hW2 ho
  have hB : BW D q sz 10 (.inr (2, [.int 0, .ref (sz + 0), .ref (sz + 2), .ref (sz + 4), .ref (sz + 6), .null, .null])) [(sz + 0, .inr (5, [.ref (sz + 1)])), (sz + 1, .inl (cA, 6, .inl fun _ => 0)), (sz + 2, .inr (5, [.ref (sz + 3)])), (sz + 3, .inl (cA, 6, .inl fun _ => 0)), (sz + 4, .inr (5, [.ref (sz + 5)])), (sz + 5, .inl (cA, 6, .inl fun _ => 0)), (sz + 6, .inr (5, [.ref (sz + 7)])), (sz + 7, .inl (cA, 6, .inl fun _ => 0)), (sz + 8, .inr (5, [.ref (sz + 9)])), (sz + 9, .inl (cA, 6, .inl fun _ => 0))] H := hB
  refine pK C0 hin2 hK hB.2.2.1 hS (Or.inl rfl) us_X2 tyX2 tyX2_ok nmX2 rfl 5 (by decide) fl_X2_29 rfl rfl (ty := tyX2 5) (by decide +kernel) rfl rfl (Nat.le_of_ble_eq_true rfl) dX2_init_66 (fun H locs h2 hR ho hS => ?_)
  have hB : BW D q sz 10 (.inr (2, [.int 0, .ref (sz + 0), .ref (sz + 2), .ref (sz + 4), .ref (sz + 6), .ref (sz + 8), .null])) [(sz + 0, .inr (5, [.ref (sz + 1)])), (sz + 1, .inl (cA, 6, .inl fun _ => 0)), (sz + 2, .inr (5, [.ref (sz + 3)])), (sz + 3, .inl (cA, 6, .inl fun _ => 0)), (sz + 4, .inr (5, [.ref (sz + 5)])), (sz + 5, .inl (cA, 6, .inl fun _ => 0)), (sz + 6, .inr (5, [.ref (sz + 7)])), (sz + 7, .inl (cA, 6, .inl fun _ => 0)), (sz + 8, .inr (5, [.ref (sz + 9)])), (sz + 9, .inl (cA, 6, .inl fun _ => 0))] H := hB.put h2 hR ho
  refine lv_aload_n C0.1 C0.2.1 dX2_init_69 rfl (lv_at hl 0 rfl) ?_
  refine mkN (ci := 5) (N := 1) (n := sz + 10) [.null] C0 hK us_X5 tyX5 tyX5_ok cl_X2_9 it_X5 in_X5 hS rfl (fun j hj => by rcases (show j = 0 by omega) with rfl <;> rfl) hB.2.1 (Nat.le_of_ble_eq_true rfl) (Nat.le_of_ble_eq_true rfl) dX2_init_70 (fun H h9 hO ho hS => ?_)
  have hN := hB.new h9 ho
  refine lv_dup C0.1 C0.2.1 dX2_init_73 rfl ?_
  refine lv_bipush (v := nI 6) C0.1 C0.2.1 dX2_init_74 (by decide) ?_
  refine rK (n := 1) hN.2.1 (c_X5_init l D cA (sz + 10) ((sz + 10) + 1) 6 (Nat.le_of_ble_eq_true rfl)) C0 ml_X2_11 im_X5_init in_X5 co_X5_init rfl ⟨by decide, by decide, by decide +kernel⟩ ⟨Nat.le_of_ble_eq_true rfl, Nat.le_of_ble_eq_true rfl⟩ hK hNX hO trivial hS (fun x h => FK.up h) rfl hl.1 (Nat.le_of_ble_eq_true rfl) rfl dX2_init_76 ⟨Nat.le_of_ble_eq_true rfl, Nat.le_of_ble_eq_true rfl⟩ (fun H locs hn hO hW2 _ ho hS => ?_)
  have hB := hN.done (m := 1) hn hO hW2 ho
  have hB : BW D q sz 12 (.inr (2, [.int 0, .ref (sz + 0), .ref (sz + 2), .ref (sz + 4), .ref (sz + 6), .ref (sz + 8), .null])) [(sz + 0, .inr (5, [.ref (sz + 1)])), (sz + 1, .inl (cA, 6, .inl fun _ => 0)), (sz + 2, .inr (5, [.ref (sz + 3)])), (sz + 3, .inl (cA, 6, .inl fun _ => 0)), (sz + 4, .inr (5, [.ref (sz + 5)])), (sz + 5, .inl (cA, 6, .inl fun _ => 0)), (sz + 6, .inr (5, [.ref (sz + 7)])), (sz + 7, .inl (cA, 6, .inl fun _ => 0)), (sz + 8, .inr (5, [.ref (sz + 9)])), (sz + 9, .inl (cA, 6, .inl fun _ => 0)), (sz + 10, .inr (5, [.ref (sz + 11)])), (sz + 11, .inl (cA, 6, .inl fun _ => 0))] H := hB
  refine pK C0 hin2 hK hB.2.2.1 hS (Or.inl rfl) us_X2 tyX2 tyX2_ok nmX2 rfl 6 (by decide) fl_X2_32 rfl rfl (ty := tyX2 6) (by decide +kernel) rfl rfl (Nat.le_of_ble_eq_true rfl) dX2_init_79 (fun H locs h2 hR ho hS => ?_)
  have hB : BW D q sz 12 (.inr (2, [.int 0, .ref (sz + 0), .ref (sz + 2), .ref (sz + 4), .ref (sz + 6), .ref (sz + 8), .ref (sz + 10)])) [(sz + 0, .inr (5, [.ref (sz + 1)])), (sz + 1, .inl (cA, 6, .inl fun _ => 0)), (sz + 2, .inr (5, [.ref (sz + 3)])), (sz + 3, .inl (cA, 6, .inl fun _ => 0)), (sz + 4, .inr (5, [.ref (sz + 5)])), (sz + 5, .inl (cA, 6, .inl fun _ => 0)), (sz + 6, .inr (5, [.ref (sz + 7)])), (sz + 7, .inl (cA, 6, .inl fun _ => 0)), (sz + 8, .inr (5, [.ref (sz + 9)])), (sz + 9, .inl (cA, 6, .inl fun _ => 0)), (sz + 10, .inr (5, [.ref (sz + 11)])), (sz + 11, .inl (cA, 6, .inl fun _ => 0))] H := hB.put h2 hR ho
  exact retK C0 hr hlk hS rfl rfl hB.2.1 hB.2.2.1 hB.2.2.2 trivial dX2_init_82
set_option maxHeartbeats 4000000 in
set_option maxRecDepth 100000 in
theorem c_X1_init (l : Launch) (D : va_G) (cA : ClassId) (q sz : Nat) (w1 : Nat) (w2 : Nat) (w3 : Nat) : MK l yX1_init cX1_init 4 3 33 6 59299 D cA q sz (.inr (1, [.null, .null, .null, .null, .null, .null])) (fun _ => True) [.ref w1, .ref w2, .ref w3] (sz + 6) (.inr (1, [.ref w1, .ref w2, .ref w3, .ref (sz + 0), .ref (sz + 2), .ref (sz + 4)])) [(sz + 0, .inr (5, [.ref (sz + 1)])), (sz + 1, .inl (cA, 58800, .inl fun _ => 0)), (sz + 2, .inr (5, [.ref (sz + 3)])), (sz + 3, .inl (cA, 300, .inl fun _ => 0)), (sz + 4, .inr (5, [.ref (sz + 5)])), (sz + 5, .inl (cA, 196, .inl fun _ => 0))] (fun _ => True) (FK q sz) := by
  refine mGoK (by decide) rfl (Nat.le_of_ble_eq_true rfl) ?_
  intro p e s m args below meth c ls C0 hr hlk hin2 hsz hq hR hK hNX _ hS hl
  obtain ⟨H, hHe⟩ : ∃ H, H = s.heap := ⟨_, rfl⟩
  obtain ⟨locs, hlo⟩ : ∃ L : List Loc, L = [] := ⟨_, rfl⟩
  have hS : va_S (FK q sz) s.heap H locs := by rw [hHe, hlo]; exact hS
  have hB : BW D q sz 0 (.inr (1, [.null, .null, .null, .null, .null, .null])) [] H := ⟨hq, by rw [hHe]; exact hsz, by rw [hHe]; exact hR, NW.nil⟩
  rw [← hHe, ← hlo]
  refine lv_aload_n C0.1 C0.2.1 dX1_init_0 rfl (lv_at hl 0 rfl) ?_
  refine oK C0 ml_X1_3 hl.1 ⟨Nat.le_of_ble_eq_true rfl, Nat.le_of_ble_eq_true rfl⟩ dX1_init_1 ?_
  refine lv_aload_n C0.1 C0.2.1 dX1_init_4 rfl (lv_at hl 0 rfl) ?_
  refine mkN (ci := 5) (N := 1) (n := sz + 0) [.null] C0 hK us_X5 tyX5 tyX5_ok cl_X1_9 it_X5 in_X5 hS rfl (fun j hj => by rcases (show j = 0 by omega) with rfl <;> rfl) hB.2.1 (Nat.le_of_ble_eq_true rfl) (Nat.le_of_ble_eq_true rfl) dX1_init_5 (fun H h9 hO ho hS => ?_)
  have hN := hB.new h9 ho
  refine lv_dup C0.1 C0.2.1 dX1_init_8 rfl ?_
  refine lv_ldc (v := 58800) C0.1 C0.2.1 C0.2.2.2.1 (C0.2.2.2.2 _ kc_X1_13) dX1_init_9 ?_
  rw [show (58800 : Int32) = nI 58800 by decide +kernel]
  refine rK (n := 1) hN.2.1 (c_X5_init l D cA (sz + 0) ((sz + 0) + 1) 58800 (Nat.le_of_ble_eq_true rfl)) C0 ml_X1_14 im_X5_init in_X5 co_X5_init rfl ⟨by decide, by decide, by decide +kernel⟩ ⟨Nat.le_of_ble_eq_true rfl, Nat.le_of_ble_eq_true rfl⟩ hK hNX hO trivial hS (fun x h => FK.up h) rfl hl.1 (Nat.le_of_ble_eq_true rfl) rfl dX1_init_11 ⟨Nat.le_of_ble_eq_true rfl, Nat.le_of_ble_eq_true rfl⟩ (fun H locs hn hO hW2 _ ho hS => ?_)
  have hB := hN.done (m := 1) hn hO hW2 ho
  have hB : BW D q sz 2 (.inr (1, [.null, .null, .null, .null, .null, .null])) [(sz + 0, .inr (5, [.ref (sz + 1)])), (sz + 1, .inl (cA, 58800, .inl fun _ => 0))] H := hB
  refine pK C0 hin2 hK hB.2.2.1 hS (Or.inl rfl) us_X1 tyX1 tyX1_ok nmX1 rfl 3 (by decide) fl_X1_17 rfl rfl (ty := tyX1 3) (by decide +kernel) rfl rfl (Nat.le_of_ble_eq_true rfl) dX1_init_14 (fun H locs h2 hR ho hS => ?_)
  have hB : BW D q sz 2 (.inr (1, [.null, .null, .null, .ref (sz + 0), .null, .null])) [(sz + 0, .inr (5, [.ref (sz + 1)])), (sz + 1, .inl (cA, 58800, .inl fun _ => 0))] H := hB.put h2 hR ho
  refine lv_aload_n C0.1 C0.2.1 dX1_init_17 rfl (lv_at hl 0 rfl) ?_
  refine mkN (ci := 5) (N := 1) (n := sz + 2) [.null] C0 hK us_X5 tyX5 tyX5_ok cl_X1_9 it_X5 in_X5 hS rfl (fun j hj => by rcases (show j = 0 by omega) with rfl <;> rfl) hB.2.1 (Nat.le_of_ble_eq_true rfl) (Nat.le_of_ble_eq_true rfl) dX1_init_18 (fun H h9 hO ho hS => ?_)
  have hN := hB.new h9 ho
  refine lv_dup C0.1 C0.2.1 dX1_init_21 rfl ?_
  refine lv_sipush (v := nI 300) C0.1 C0.2.1 dX1_init_22 (by decide) ?_
  refine rK (n := 1) hN.2.1 (c_X5_init l D cA (sz + 2) ((sz + 2) + 1) 300 (Nat.le_of_ble_eq_true rfl)) C0 ml_X1_14 im_X5_init in_X5 co_X5_init rfl ⟨by decide, by decide, by decide +kernel⟩ ⟨Nat.le_of_ble_eq_true rfl, Nat.le_of_ble_eq_true rfl⟩ hK hNX hO trivial hS (fun x h => FK.up h) rfl hl.1 (Nat.le_of_ble_eq_true rfl) rfl dX1_init_25 ⟨Nat.le_of_ble_eq_true rfl, Nat.le_of_ble_eq_true rfl⟩ (fun H locs hn hO hW2 _ ho hS => ?_)
  have hB := hN.done (m := 1) hn hO hW2 ho
  have hB : BW D q sz 4 (.inr (1, [.null, .null, .null, .ref (sz + 0), .null, .null])) [(sz + 0, .inr (5, [.ref (sz + 1)])), (sz + 1, .inl (cA, 58800, .inl fun _ => 0)), (sz + 2, .inr (5, [.ref (sz + 3)])), (sz + 3, .inl (cA, 300, .inl fun _ => 0))] H := hB
  refine pK C0 hin2 hK hB.2.2.1 hS (Or.inl rfl) us_X1 tyX1 tyX1_ok nmX1 rfl 4 (by decide) fl_X1_21 rfl rfl (ty := tyX1 4) (by decide +kernel) rfl rfl (Nat.le_of_ble_eq_true rfl) dX1_init_28 (fun H locs h2 hR ho hS => ?_)
  have hB : BW D q sz 4 (.inr (1, [.null, .null, .null, .ref (sz + 0), .ref (sz + 2), .null])) [(sz + 0, .inr (5, [.ref (sz + 1)])), (sz + 1, .inl (cA, 58800, .inl fun _ => 0)), (sz + 2, .inr (5, [.ref (sz + 3)])), (sz + 3, .inl (cA, 300, .inl fun _ => 0))] H := hB.put h2 hR ho
  refine lv_aload_n C0.1 C0.2.1 dX1_init_31 rfl (lv_at hl 0 rfl) ?_
  refine mkN (ci := 5) (N := 1) (n := sz + 4) [.null] C0 hK us_X5 tyX5 tyX5_ok cl_X1_9 it_X5 in_X5 hS rfl (fun j hj => by rcases (show j = 0 by omega) with rfl <;> rfl) hB.2.1 (Nat.le_of_ble_eq_true rfl) (Nat.le_of_ble_eq_true rfl) dX1_init_32 (fun H h9 hO ho hS => ?_)
  have hN := hB.new h9 ho
  refine lv_dup C0.1 C0.2.1 dX1_init_35 rfl ?_
  refine lv_sipush (v := nI 196) C0.1 C0.2.1 dX1_init_36 (by decide) ?_
  refine rK (n := 1) hN.2.1 (c_X5_init l D cA (sz + 4) ((sz + 4) + 1) 196 (Nat.le_of_ble_eq_true rfl)) C0 ml_X1_14 im_X5_init in_X5 co_X5_init rfl ⟨by decide, by decide, by decide +kernel⟩ ⟨Nat.le_of_ble_eq_true rfl, Nat.le_of_ble_eq_true rfl⟩ hK hNX hO trivial hS (fun x h => FK.up h) rfl hl.1 (Nat.le_of_ble_eq_true rfl) rfl dX1_init_39 ⟨Nat.le_of_ble_eq_true rfl, Nat.le_of_ble_eq_true rfl⟩ (fun H locs hn hO hW2 _ ho hS => ?_)
  have hB := hN.done (m := 1) hn hO hW2 ho
  have hB : BW D q sz 6 (.inr (1, [.null, .null, .null, .ref (sz + 0), .ref (sz + 2), .null])) [(sz + 0, .inr (5, [.ref (sz + 1)])), (sz + 1, .inl (cA, 58800, .inl fun _ => 0)), (sz + 2, .inr (5, [.ref (sz + 3)])), (sz + 3, .inl (cA, 300, .inl fun _ => 0)), (sz + 4, .inr (5, [.ref (sz + 5)])), (sz + 5, .inl (cA, 196, .inl fun _ => 0))] H := hB
  refine pK C0 hin2 hK hB.2.2.1 hS (Or.inl rfl) us_X1 tyX1 tyX1_ok nmX1 rfl 5 (by decide) fl_X1_24 rfl rfl (ty := tyX1 5) (by decide +kernel) rfl rfl (Nat.le_of_ble_eq_true rfl) dX1_init_42 (fun H locs h2 hR ho hS => ?_)
  have hB : BW D q sz 6 (.inr (1, [.null, .null, .null, .ref (sz + 0), .ref (sz + 2), .ref (sz + 4)])) [(sz + 0, .inr (5, [.ref (sz + 1)])), (sz + 1, .inl (cA, 58800, .inl fun _ => 0)), (sz + 2, .inr (5, [.ref (sz + 3)])), (sz + 3, .inl (cA, 300, .inl fun _ => 0)), (sz + 4, .inr (5, [.ref (sz + 5)])), (sz + 5, .inl (cA, 196, .inl fun _ => 0))] H := hB.put h2 hR ho
  refine lv_aload_n C0.1 C0.2.1 dX1_init_45 rfl (lv_at hl 0 rfl) ?_
  refine lv_aload_n C0.1 C0.2.1 dX1_init_46 rfl (lv_at hl 1 rfl) ?_
  refine pK C0 hin2 hK hB.2.2.1 hS (Or.inl rfl) us_X1 tyX1 tyX1_ok nmX1 rfl 0 (by decide) fl_X1_27 rfl rfl (ty := tyX1 0) (by decide +kernel) rfl rfl (Nat.le_of_ble_eq_true rfl) dX1_init_47 (fun H locs h2 hR ho hS => ?_)
  have hB : BW D q sz 6 (.inr (1, [.ref w1, .null, .null, .ref (sz + 0), .ref (sz + 2), .ref (sz + 4)])) [(sz + 0, .inr (5, [.ref (sz + 1)])), (sz + 1, .inl (cA, 58800, .inl fun _ => 0)), (sz + 2, .inr (5, [.ref (sz + 3)])), (sz + 3, .inl (cA, 300, .inl fun _ => 0)), (sz + 4, .inr (5, [.ref (sz + 5)])), (sz + 5, .inl (cA, 196, .inl fun _ => 0))] H := hB.put h2 hR ho
  refine lv_aload_n C0.1 C0.2.1 dX1_init_50 rfl (lv_at hl 0 rfl) ?_
  refine lv_aload_n C0.1 C0.2.1 dX1_init_51 rfl (lv_at hl 2 rfl) ?_
  refine pK C0 hin2 hK hB.2.2.1 hS (Or.inl rfl) us_X1 tyX1 tyX1_ok nmX1 rfl 1 (by decide) fl_X1_31 rfl rfl (ty := tyX1 1) (by decide +kernel) rfl rfl (Nat.le_of_ble_eq_true rfl) dX1_init_52 (fun H locs h2 hR ho hS => ?_)
  have hB : BW D q sz 6 (.inr (1, [.ref w1, .ref w2, .null, .ref (sz + 0), .ref (sz + 2), .ref (sz + 4)])) [(sz + 0, .inr (5, [.ref (sz + 1)])), (sz + 1, .inl (cA, 58800, .inl fun _ => 0)), (sz + 2, .inr (5, [.ref (sz + 3)])), (sz + 3, .inl (cA, 300, .inl fun _ => 0)), (sz + 4, .inr (5, [.ref (sz + 5)])), (sz + 5, .inl (cA, 196, .inl fun _ => 0))] H := hB.put h2 hR ho
  refine lv_aload_n C0.1 C0.2.1 dX1_init_55 rfl (lv_at hl 0 rfl) ?_
  refine lv_aload_n C0.1 C0.2.1 dX1_init_56 rfl (lv_at hl 3 rfl) ?_
  refine pK C0 hin2 hK hB.2.2.1 hS (Or.inl rfl) us_X1 tyX1 tyX1_ok nmX1 rfl 2 (by decide) fl_X1_35 rfl rfl (ty := tyX1 2) (by decide +kernel) rfl rfl (Nat.le_of_ble_eq_true rfl) dX1_init_57 (fun H locs h2 hR ho hS => ?_)
  have hB : BW D q sz 6 (.inr (1, [.ref w1, .ref w2, .ref w3, .ref (sz + 0), .ref (sz + 2), .ref (sz + 4)])) [(sz + 0, .inr (5, [.ref (sz + 1)])), (sz + 1, .inl (cA, 58800, .inl fun _ => 0)), (sz + 2, .inr (5, [.ref (sz + 3)])), (sz + 3, .inl (cA, 300, .inl fun _ => 0)), (sz + 4, .inr (5, [.ref (sz + 5)])), (sz + 5, .inl (cA, 196, .inl fun _ => 0))] H := hB.put h2 hR ho
  exact retK C0 hr hlk hS rfl rfl hB.2.1 hB.2.2.1 hB.2.2.2 trivial dX1_init_60
set_option maxHeartbeats 4000000 in
set_option maxRecDepth 100000 in
theorem c_X6_init (l : Launch) (D : va_G) (cA : ClassId) (q sz : Nat) (w1 : Nat) (w2 : Nat) (w3 : Nat) (w4 : Nat) (w5 : Nat) : MK l yX6_init cX6_init 6 4 53 19 189 D cA q sz (.inr (6, [.null, .null, .null, .null, .null, .int 0, .null, .null, .null, .null, .null])) (fun _ => True) [.ref w1, .ref w2, .ref w3, .ref w4, .ref w5] (sz + 19) (.inr (6, [.ref w1, .ref w2, .ref w3, .ref w4, .ref w5, .int 0, .ref (sz + 0), .ref (sz + 2), .ref (sz + 4), .ref (sz + 6), .ref (sz + 8)])) [(sz + 0, .inr (5, [.ref (sz + 1)])), (sz + 1, .inl (cA, 6, .inl fun _ => 0)), (sz + 2, .inr (5, [.ref (sz + 3)])), (sz + 3, .inl (cA, 6, .inl fun _ => 0)), (sz + 4, .inr (5, [.ref (sz + 5)])), (sz + 5, .inl (cA, 6, .inl fun _ => 0)), (sz + 6, .inr (5, [.ref (sz + 7)])), (sz + 7, .inl (cA, 6, .inl fun _ => 0)), (sz + 8, .inr (7, [.int 0, .ref (sz + 9), .ref (sz + 11), .ref (sz + 13), .ref (sz + 15), .ref (sz + 17)])), (sz + 9, .inr (5, [.ref (sz + 10)])), (sz + 10, .inl (cA, 30, .inl fun _ => 0)), (sz + 11, .inr (5, [.ref (sz + 12)])), (sz + 12, .inl (cA, 30, .inl fun _ => 0)), (sz + 13, .inr (5, [.ref (sz + 14)])), (sz + 14, .inl (cA, 30, .inl fun _ => 0)), (sz + 15, .inr (5, [.ref (sz + 16)])), (sz + 16, .inl (cA, 30, .inl fun _ => 0)), (sz + 17, .inr (5, [.ref (sz + 18)])), (sz + 18, .inl (cA, 30, .inl fun _ => 0))] (fun _ => True) (FK q sz) := by
  refine mGoK (by decide) rfl (Nat.le_of_ble_eq_true rfl) ?_
  intro p e s m args below meth c ls C0 hr hlk hin2 hsz hq hR hK hNX _ hS hl
  obtain ⟨H, hHe⟩ : ∃ H, H = s.heap := ⟨_, rfl⟩
  obtain ⟨locs, hlo⟩ : ∃ L : List Loc, L = [] := ⟨_, rfl⟩
  have hS : va_S (FK q sz) s.heap H locs := by rw [hHe, hlo]; exact hS
  have hB : BW D q sz 0 (.inr (6, [.null, .null, .null, .null, .null, .int 0, .null, .null, .null, .null, .null])) [] H := ⟨hq, by rw [hHe]; exact hsz, by rw [hHe]; exact hR, NW.nil⟩
  rw [← hHe, ← hlo]
  refine lv_aload_n C0.1 C0.2.1 dX6_init_0 rfl (lv_at hl 0 rfl) ?_
  refine oK C0 ml_X6_3 hl.1 ⟨Nat.le_of_ble_eq_true rfl, Nat.le_of_ble_eq_true rfl⟩ dX6_init_1 ?_
  refine lv_aload_n C0.1 C0.2.1 dX6_init_4 rfl (lv_at hl 0 rfl) ?_
  refine mkN (ci := 5) (N := 1) (n := sz + 0) [.null] C0 hK us_X5 tyX5 tyX5_ok cl_X6_9 it_X5 in_X5 hS rfl (fun j hj => by rcases (show j = 0 by omega) with rfl <;> rfl) hB.2.1 (Nat.le_of_ble_eq_true rfl) (Nat.le_of_ble_eq_true rfl) dX6_init_5 (fun H h9 hO ho hS => ?_)
  have hN := hB.new h9 ho
  refine lv_dup C0.1 C0.2.1 dX6_init_8 rfl ?_
  refine lv_bipush (v := nI 6) C0.1 C0.2.1 dX6_init_9 (by decide) ?_
  refine rK (n := 1) hN.2.1 (c_X5_init l D cA (sz + 0) ((sz + 0) + 1) 6 (Nat.le_of_ble_eq_true rfl)) C0 ml_X6_11 im_X5_init in_X5 co_X5_init rfl ⟨by decide, by decide, by decide +kernel⟩ ⟨Nat.le_of_ble_eq_true rfl, Nat.le_of_ble_eq_true rfl⟩ hK hNX hO trivial hS (fun x h => FK.up h) rfl hl.1 (Nat.le_of_ble_eq_true rfl) rfl dX6_init_11 ⟨Nat.le_of_ble_eq_true rfl, Nat.le_of_ble_eq_true rfl⟩ (fun H locs hn hO hW2 _ ho hS => ?_)
  have hB := hN.done (m := 1) hn hO hW2 ho
  have hB : BW D q sz 2 (.inr (6, [.null, .null, .null, .null, .null, .int 0, .null, .null, .null, .null, .null])) [(sz + 0, .inr (5, [.ref (sz + 1)])), (sz + 1, .inl (cA, 6, .inl fun _ => 0))] H := hB
  refine pK C0 hin2 hK hB.2.2.1 hS (Or.inl rfl) us_X6 tyX6 tyX6_ok nmX6 rfl 6 (by decide) fl_X6_14 rfl rfl (ty := tyX6 6) (by decide +kernel) rfl rfl (Nat.le_of_ble_eq_true rfl) dX6_init_14 (fun H locs h2 hR ho hS => ?_)
  have hB : BW D q sz 2 (.inr (6, [.null, .null, .null, .null, .null, .int 0, .ref (sz + 0), .null, .null, .null, .null])) [(sz + 0, .inr (5, [.ref (sz + 1)])), (sz + 1, .inl (cA, 6, .inl fun _ => 0))] H := hB.put h2 hR ho
  refine lv_aload_n C0.1 C0.2.1 dX6_init_17 rfl (lv_at hl 0 rfl) ?_
  refine mkN (ci := 5) (N := 1) (n := sz + 2) [.null] C0 hK us_X5 tyX5 tyX5_ok cl_X6_9 it_X5 in_X5 hS rfl (fun j hj => by rcases (show j = 0 by omega) with rfl <;> rfl) hB.2.1 (Nat.le_of_ble_eq_true rfl) (Nat.le_of_ble_eq_true rfl) dX6_init_18 (fun H h9 hO ho hS => ?_)
  have hN := hB.new h9 ho
  refine lv_dup C0.1 C0.2.1 dX6_init_21 rfl ?_
  refine lv_bipush (v := nI 6) C0.1 C0.2.1 dX6_init_22 (by decide) ?_
  refine rK (n := 1) hN.2.1 (c_X5_init l D cA (sz + 2) ((sz + 2) + 1) 6 (Nat.le_of_ble_eq_true rfl)) C0 ml_X6_11 im_X5_init in_X5 co_X5_init rfl ⟨by decide, by decide, by decide +kernel⟩ ⟨Nat.le_of_ble_eq_true rfl, Nat.le_of_ble_eq_true rfl⟩ hK hNX hO trivial hS (fun x h => FK.up h) rfl hl.1 (Nat.le_of_ble_eq_true rfl) rfl dX6_init_24 ⟨Nat.le_of_ble_eq_true rfl, Nat.le_of_ble_eq_true rfl⟩ (fun H locs hn hO hW2 _ ho hS => ?_)
  have hB := hN.done (m := 1) hn hO hW2 ho
  have hB : BW D q sz 4 (.inr (6, [.null, .null, .null, .null, .null, .int 0, .ref (sz + 0), .null, .null, .null, .null])) [(sz + 0, .inr (5, [.ref (sz + 1)])), (sz + 1, .inl (cA, 6, .inl fun _ => 0)), (sz + 2, .inr (5, [.ref (sz + 3)])), (sz + 3, .inl (cA, 6, .inl fun _ => 0))] H := hB
  refine pK C0 hin2 hK hB.2.2.1 hS (Or.inl rfl) us_X6 tyX6 tyX6_ok nmX6 rfl 7 (by decide) fl_X6_20 rfl rfl (ty := tyX6 7) (by decide +kernel) rfl rfl (Nat.le_of_ble_eq_true rfl) dX6_init_27 (fun H locs h2 hR ho hS => ?_)
  have hB : BW D q sz 4 (.inr (6, [.null, .null, .null, .null, .null, .int 0, .ref (sz + 0), .ref (sz + 2), .null, .null, .null])) [(sz + 0, .inr (5, [.ref (sz + 1)])), (sz + 1, .inl (cA, 6, .inl fun _ => 0)), (sz + 2, .inr (5, [.ref (sz + 3)])), (sz + 3, .inl (cA, 6, .inl fun _ => 0))] H := hB.put h2 hR ho
  refine lv_aload_n C0.1 C0.2.1 dX6_init_30 rfl (lv_at hl 0 rfl) ?_
  refine mkN (ci := 5) (N := 1) (n := sz + 4) [.null] C0 hK us_X5 tyX5 tyX5_ok cl_X6_9 it_X5 in_X5 hS rfl (fun j hj => by rcases (show j = 0 by omega) with rfl <;> rfl) hB.2.1 (Nat.le_of_ble_eq_true rfl) (Nat.le_of_ble_eq_true rfl) dX6_init_31 (fun H h9 hO ho hS => ?_)
  have hN := hB.new h9 ho
  refine lv_dup C0.1 C0.2.1 dX6_init_34 rfl ?_
  refine lv_bipush (v := nI 6) C0.1 C0.2.1 dX6_init_35 (by decide) ?_
  refine rK (n := 1) hN.2.1 (c_X5_init l D cA (sz + 4) ((sz + 4) + 1) 6 (Nat.le_of_ble_eq_true rfl)) C0 ml_X6_11 im_X5_init in_X5 co_X5_init rfl ⟨by decide, by decide, by decide +kernel⟩ ⟨Nat.le_of_ble_eq_true rfl, Nat.le_of_ble_eq_true rfl⟩ hK hNX hO trivial hS (fun x h => FK.up h) rfl hl.1 (Nat.le_of_ble_eq_true rfl) rfl dX6_init_37 ⟨Nat.le_of_ble_eq_true rfl, Nat.le_of_ble_eq_true rfl⟩ (fun H locs hn hO hW2 _ ho hS => ?_)
  have hB := hN.done (m := 1) hn hO hW2 ho
  have hB : BW D q sz 6 (.inr (6, [.null, .null, .null, .null, .null, .int 0, .ref (sz + 0), .ref (sz + 2), .null, .null, .null])) [(sz + 0, .inr (5, [.ref (sz + 1)])), (sz + 1, .inl (cA, 6, .inl fun _ => 0)), (sz + 2, .inr (5, [.ref (sz + 3)])), (sz + 3, .inl (cA, 6, .inl fun _ => 0)), (sz + 4, .inr (5, [.ref (sz + 5)])), (sz + 5, .inl (cA, 6, .inl fun _ => 0))] H := hB
  refine pK C0 hin2 hK hB.2.2.1 hS (Or.inl rfl) us_X6 tyX6 tyX6_ok nmX6 rfl 8 (by decide) fl_X6_23 rfl rfl (ty := tyX6 8) (by decide +kernel) rfl rfl (Nat.le_of_ble_eq_true rfl) dX6_init_40 (fun H locs h2 hR ho hS => ?_)
  have hB : BW D q sz 6 (.inr (6, [.null, .null, .null, .null, .null, .int 0, .ref (sz + 0), .ref (sz + 2), .ref (sz + 4), .null, .null])) [(sz + 0, .inr (5, [.ref (sz + 1)])), (sz + 1, .inl (cA, 6, .inl fun _ => 0)), (sz + 2, .inr (5, [.ref (sz + 3)])), (sz + 3, .inl (cA, 6, .inl fun _ => 0)), (sz + 4, .inr (5, [.ref (sz + 5)])), (sz + 5, .inl (cA, 6, .inl fun _ => 0))] H := hB.put h2 hR ho
  refine lv_aload_n C0.1 C0.2.1 dX6_init_43 rfl (lv_at hl 0 rfl) ?_
  refine mkN (ci := 5) (N := 1) (n := sz + 6) [.null] C0 hK us_X5 tyX5 tyX5_ok cl_X6_9 it_X5 in_X5 hS rfl (fun j hj => by rcases (show j = 0 by omega) with rfl <;> rfl) hB.2.1 (Nat.le_of_ble_eq_true rfl) (Nat.le_of_ble_eq_true rfl) dX6_init_44 (fun H h9 hO ho hS => ?_)
  have hN := hB.new h9 ho
  refine lv_dup C0.1 C0.2.1 dX6_init_47 rfl ?_
  refine lv_bipush (v := nI 6) C0.1 C0.2.1 dX6_init_48 (by decide) ?_
  refine rK (n := 1) hN.2.1 (c_X5_init l D cA (sz + 6) ((sz + 6) + 1) 6 (Nat.le_of_ble_eq_true rfl)) C0 ml_X6_11 im_X5_init in_X5 co_X5_init rfl ⟨by decide, by decide, by decide +kernel⟩ ⟨Nat.le_of_ble_eq_true rfl, Nat.le_of_ble_eq_true rfl⟩ hK hNX hO trivial hS (fun x h => FK.up h) rfl hl.1 (Nat.le_of_ble_eq_true rfl) rfl dX6_init_50 ⟨Nat.le_of_ble_eq_true rfl, Nat.le_of_ble_eq_true rfl⟩ (fun H locs hn hO hW2 _ ho hS => ?_)
  have hB := hN.done (m := 1) hn hO hW2 ho
  have hB : BW D q sz 8 (.inr (6, [.null, .null, .null, .null, .null, .int 0, .ref (sz + 0), .ref (sz + 2), .ref (sz + 4), .null, .null])) [(sz + 0, .inr (5, [.ref (sz + 1)])), (sz + 1, .inl (cA, 6, .inl fun _ => 0)), (sz + 2, .inr (5, [.ref (sz + 3)])), (sz + 3, .inl (cA, 6, .inl fun _ => 0)), (sz + 4, .inr (5, [.ref (sz + 5)])), (sz + 5, .inl (cA, 6, .inl fun _ => 0)), (sz + 6, .inr (5, [.ref (sz + 7)])), (sz + 7, .inl (cA, 6, .inl fun _ => 0))] H := hB
  refine pK C0 hin2 hK hB.2.2.1 hS (Or.inl rfl) us_X6 tyX6 tyX6_ok nmX6 rfl 9 (by decide) fl_X6_26 rfl rfl (ty := tyX6 9) (by decide +kernel) rfl rfl (Nat.le_of_ble_eq_true rfl) dX6_init_53 (fun H locs h2 hR ho hS => ?_)
  have hB : BW D q sz 8 (.inr (6, [.null, .null, .null, .null, .null, .int 0, .ref (sz + 0), .ref (sz + 2), .ref (sz + 4), .ref (sz + 6), .null])) [(sz + 0, .inr (5, [.ref (sz + 1)])), (sz + 1, .inl (cA, 6, .inl fun _ => 0)), (sz + 2, .inr (5, [.ref (sz + 3)])), (sz + 3, .inl (cA, 6, .inl fun _ => 0)), (sz + 4, .inr (5, [.ref (sz + 5)])), (sz + 5, .inl (cA, 6, .inl fun _ => 0)), (sz + 6, .inr (5, [.ref (sz + 7)])), (sz + 7, .inl (cA, 6, .inl fun _ => 0))] H := hB.put h2 hR ho
  refine lv_aload_n C0.1 C0.2.1 dX6_init_56 rfl (lv_at hl 0 rfl) ?_
  refine mkN (ci := 7) (N := 6) (n := sz + 8) [.int 0, .null, .null, .null, .null, .null] C0 hK us_X7 tyX7 tyX7_ok cl_X6_29 it_X7 in_X7 hS rfl (fun j hj => by rcases (show j = 0 ∨ j = 1 ∨ j = 2 ∨ j = 3 ∨ j = 4 ∨ j = 5 by omega) with rfl | rfl | rfl | rfl | rfl | rfl <;> rfl) hB.2.1 (Nat.le_of_ble_eq_true rfl) (Nat.le_of_ble_eq_true rfl) dX6_init_57 (fun H h9 hO ho hS => ?_)
  have hN := hB.new h9 ho
  refine lv_dup C0.1 C0.2.1 dX6_init_60 rfl ?_
  refine rKN (n := 0) hN.2.1 (c_X7_init l D cA (sz + 8) ((sz + 8) + 1) ) C0 hNX.2.2 im_X7_init in_X7 co_X7_init rfl ⟨by decide, by decide, by decide +kernel⟩ ⟨Nat.le_of_ble_eq_true rfl, Nat.le_of_ble_eq_true rfl⟩ hK hNX hO trivial hS (fun x h => FK.up h) rfl hl.1 (Nat.le_of_ble_eq_true rfl) rfl dX6_init_61 ⟨Nat.le_of_ble_eq_true rfl, Nat.le_of_ble_eq_true rfl⟩ (fun H locs hn hO hW2 _ ho hS => ?_)
  have hB := hN.done (m := 10) hn hO hW2 ho
  have hB : BW D q sz 19 (.inr (6, [.null, .null, .null, .null, .null, .int 0, .ref (sz + 0), .ref (sz + 2), .ref (sz + 4), .ref (sz + 6), .null])) [(sz + 0, .inr (5, [.ref (sz + 1)])), (sz + 1, .inl (cA, 6, .inl fun _ => 0)), (sz + 2, .inr (5, [.ref (sz + 3)])), (sz + 3, .inl (cA, 6, .inl fun _ => 0)), (sz + 4, .inr (5, [.ref (sz + 5)])), (sz + 5, .inl (cA, 6, .inl fun _ => 0)), (sz + 6, .inr (5, [.ref (sz + 7)])), (sz + 7, .inl (cA, 6, .inl fun _ => 0)), (sz + 8, .inr (7, [.int 0, .ref (sz + 9), .ref (sz + 11), .ref (sz + 13), .ref (sz + 15), .ref (sz + 17)])), (sz + 9, .inr (5, [.ref (sz + 10)])), (sz + 10, .inl (cA, 30, .inl fun _ => 0)), (sz + 11, .inr (5, [.ref (sz + 12)])), (sz + 12, .inl (cA, 30, .inl fun _ => 0)), (sz + 13, .inr (5, [.ref (sz + 14)])), (sz + 14, .inl (cA, 30, .inl fun _ => 0)), (sz + 15, .inr (5, [.ref (sz + 16)])), (sz + 16, .inl (cA, 30, .inl fun _ => 0)), (sz + 17, .inr (5, [.ref (sz + 18)])), (sz + 18, .inl (cA, 30, .inl fun _ => 0))] H := hB
  refine pK C0 hin2 hK hB.2.2.1 hS (Or.inl rfl) us_X6 tyX6 tyX6_ok nmX6 rfl 10 (by decide) fl_X6_32 rfl rfl (ty := tyX6 10) (by decide +kernel) rfl rfl (Nat.le_of_ble_eq_true rfl) dX6_init_64 (fun H locs h2 hR ho hS => ?_)
  have hB : BW D q sz 19 (.inr (6, [.null, .null, .null, .null, .null, .int 0, .ref (sz + 0), .ref (sz + 2), .ref (sz + 4), .ref (sz + 6), .ref (sz + 8)])) [(sz + 0, .inr (5, [.ref (sz + 1)])), (sz + 1, .inl (cA, 6, .inl fun _ => 0)), (sz + 2, .inr (5, [.ref (sz + 3)])), (sz + 3, .inl (cA, 6, .inl fun _ => 0)), (sz + 4, .inr (5, [.ref (sz + 5)])), (sz + 5, .inl (cA, 6, .inl fun _ => 0)), (sz + 6, .inr (5, [.ref (sz + 7)])), (sz + 7, .inl (cA, 6, .inl fun _ => 0)), (sz + 8, .inr (7, [.int 0, .ref (sz + 9), .ref (sz + 11), .ref (sz + 13), .ref (sz + 15), .ref (sz + 17)])), (sz + 9, .inr (5, [.ref (sz + 10)])), (sz + 10, .inl (cA, 30, .inl fun _ => 0)), (sz + 11, .inr (5, [.ref (sz + 12)])), (sz + 12, .inl (cA, 30, .inl fun _ => 0)), (sz + 13, .inr (5, [.ref (sz + 14)])), (sz + 14, .inl (cA, 30, .inl fun _ => 0)), (sz + 15, .inr (5, [.ref (sz + 16)])), (sz + 16, .inl (cA, 30, .inl fun _ => 0)), (sz + 17, .inr (5, [.ref (sz + 18)])), (sz + 18, .inl (cA, 30, .inl fun _ => 0))] H := hB.put h2 hR ho
  refine lv_aload_n C0.1 C0.2.1 dX6_init_67 rfl (lv_at hl 0 rfl) ?_
  refine lv_aload_n C0.1 C0.2.1 dX6_init_68 rfl (lv_at hl 1 rfl) ?_
  refine pK C0 hin2 hK hB.2.2.1 hS (Or.inl rfl) us_X6 tyX6 tyX6_ok nmX6 rfl 0 (by decide) fl_X6_36 rfl rfl (ty := tyX6 0) (by decide +kernel) rfl rfl (Nat.le_of_ble_eq_true rfl) dX6_init_69 (fun H locs h2 hR ho hS => ?_)
  have hB : BW D q sz 19 (.inr (6, [.ref w1, .null, .null, .null, .null, .int 0, .ref (sz + 0), .ref (sz + 2), .ref (sz + 4), .ref (sz + 6), .ref (sz + 8)])) [(sz + 0, .inr (5, [.ref (sz + 1)])), (sz + 1, .inl (cA, 6, .inl fun _ => 0)), (sz + 2, .inr (5, [.ref (sz + 3)])), (sz + 3, .inl (cA, 6, .inl fun _ => 0)), (sz + 4, .inr (5, [.ref (sz + 5)])), (sz + 5, .inl (cA, 6, .inl fun _ => 0)), (sz + 6, .inr (5, [.ref (sz + 7)])), (sz + 7, .inl (cA, 6, .inl fun _ => 0)), (sz + 8, .inr (7, [.int 0, .ref (sz + 9), .ref (sz + 11), .ref (sz + 13), .ref (sz + 15), .ref (sz + 17)])), (sz + 9, .inr (5, [.ref (sz + 10)])), (sz + 10, .inl (cA, 30, .inl fun _ => 0)), (sz + 11, .inr (5, [.ref (sz + 12)])), (sz + 12, .inl (cA, 30, .inl fun _ => 0)), (sz + 13, .inr (5, [.ref (sz + 14)])), (sz + 14, .inl (cA, 30, .inl fun _ => 0)), (sz + 15, .inr (5, [.ref (sz + 16)])), (sz + 16, .inl (cA, 30, .inl fun _ => 0)), (sz + 17, .inr (5, [.ref (sz + 18)])), (sz + 18, .inl (cA, 30, .inl fun _ => 0))] H := hB.put h2 hR ho
  refine lv_aload_n C0.1 C0.2.1 dX6_init_72 rfl (lv_at hl 0 rfl) ?_
  refine lv_aload_n C0.1 C0.2.1 dX6_init_73 rfl (lv_at hl 2 rfl) ?_
  refine pK C0 hin2 hK hB.2.2.1 hS (Or.inl rfl) us_X6 tyX6 tyX6_ok nmX6 rfl 1 (by decide) fl_X6_40 rfl rfl (ty := tyX6 1) (by decide +kernel) rfl rfl (Nat.le_of_ble_eq_true rfl) dX6_init_74 (fun H locs h2 hR ho hS => ?_)
  have hB : BW D q sz 19 (.inr (6, [.ref w1, .ref w2, .null, .null, .null, .int 0, .ref (sz + 0), .ref (sz + 2), .ref (sz + 4), .ref (sz + 6), .ref (sz + 8)])) [(sz + 0, .inr (5, [.ref (sz + 1)])), (sz + 1, .inl (cA, 6, .inl fun _ => 0)), (sz + 2, .inr (5, [.ref (sz + 3)])), (sz + 3, .inl (cA, 6, .inl fun _ => 0)), (sz + 4, .inr (5, [.ref (sz + 5)])), (sz + 5, .inl (cA, 6, .inl fun _ => 0)), (sz + 6, .inr (5, [.ref (sz + 7)])), (sz + 7, .inl (cA, 6, .inl fun _ => 0)), (sz + 8, .inr (7, [.int 0, .ref (sz + 9), .ref (sz + 11), .ref (sz + 13), .ref (sz + 15), .ref (sz + 17)])), (sz + 9, .inr (5, [.ref (sz + 10)])), (sz + 10, .inl (cA, 30, .inl fun _ => 0)), (sz + 11, .inr (5, [.ref (sz + 12)])), (sz + 12, .inl (cA, 30, .inl fun _ => 0)), (sz + 13, .inr (5, [.ref (sz + 14)])), (sz + 14, .inl (cA, 30, .inl fun _ => 0)), (sz + 15, .inr (5, [.ref (sz + 16)])), (sz + 16, .inl (cA, 30, .inl fun _ => 0)), (sz + 17, .inr (5, [.ref (sz + 18)])), (sz + 18, .inl (cA, 30, .inl fun _ => 0))] H := hB.put h2 hR ho
  refine lv_aload_n C0.1 C0.2.1 dX6_init_77 rfl (lv_at hl 0 rfl) ?_
  refine lv_aload_n C0.1 C0.2.1 dX6_init_78 rfl (lv_at hl 3 rfl) ?_
  refine pK C0 hin2 hK hB.2.2.1 hS (Or.inl rfl) us_X6 tyX6 tyX6_ok nmX6 rfl 2 (by decide) fl_X6_44 rfl rfl (ty := tyX6 2) (by decide +kernel) rfl rfl (Nat.le_of_ble_eq_true rfl) dX6_init_79 (fun H locs h2 hR ho hS => ?_)
  have hB : BW D q sz 19 (.inr (6, [.ref w1, .ref w2, .ref w3, .null, .null, .int 0, .ref (sz + 0), .ref (sz + 2), .ref (sz + 4), .ref (sz + 6), .ref (sz + 8)])) [(sz + 0, .inr (5, [.ref (sz + 1)])), (sz + 1, .inl (cA, 6, .inl fun _ => 0)), (sz + 2, .inr (5, [.ref (sz + 3)])), (sz + 3, .inl (cA, 6, .inl fun _ => 0)), (sz + 4, .inr (5, [.ref (sz + 5)])), (sz + 5, .inl (cA, 6, .inl fun _ => 0)), (sz + 6, .inr (5, [.ref (sz + 7)])), (sz + 7, .inl (cA, 6, .inl fun _ => 0)), (sz + 8, .inr (7, [.int 0, .ref (sz + 9), .ref (sz + 11), .ref (sz + 13), .ref (sz + 15), .ref (sz + 17)])), (sz + 9, .inr (5, [.ref (sz + 10)])), (sz + 10, .inl (cA, 30, .inl fun _ => 0)), (sz + 11, .inr (5, [.ref (sz + 12)])), (sz + 12, .inl (cA, 30, .inl fun _ => 0)), (sz + 13, .inr (5, [.ref (sz + 14)])), (sz + 14, .inl (cA, 30, .inl fun _ => 0)), (sz + 15, .inr (5, [.ref (sz + 16)])), (sz + 16, .inl (cA, 30, .inl fun _ => 0)), (sz + 17, .inr (5, [.ref (sz + 18)])), (sz + 18, .inl (cA, 30, .inl fun _ => 0))] H := hB.put h2 hR ho
  refine lv_aload_n C0.1 C0.2.1 dX6_init_82 rfl (lv_at hl 0 rfl) ?_
  refine lv_aload C0.1 C0.2.1 dX6_init_83 (lv_at hl 4 rfl) ?_
  refine pK C0 hin2 hK hB.2.2.1 hS (Or.inl rfl) us_X6 tyX6 tyX6_ok nmX6 rfl 3 (by decide) fl_X6_48 rfl rfl (ty := tyX6 3) (by decide +kernel) rfl rfl (Nat.le_of_ble_eq_true rfl) dX6_init_85 (fun H locs h2 hR ho hS => ?_)
  have hB : BW D q sz 19 (.inr (6, [.ref w1, .ref w2, .ref w3, .ref w4, .null, .int 0, .ref (sz + 0), .ref (sz + 2), .ref (sz + 4), .ref (sz + 6), .ref (sz + 8)])) [(sz + 0, .inr (5, [.ref (sz + 1)])), (sz + 1, .inl (cA, 6, .inl fun _ => 0)), (sz + 2, .inr (5, [.ref (sz + 3)])), (sz + 3, .inl (cA, 6, .inl fun _ => 0)), (sz + 4, .inr (5, [.ref (sz + 5)])), (sz + 5, .inl (cA, 6, .inl fun _ => 0)), (sz + 6, .inr (5, [.ref (sz + 7)])), (sz + 7, .inl (cA, 6, .inl fun _ => 0)), (sz + 8, .inr (7, [.int 0, .ref (sz + 9), .ref (sz + 11), .ref (sz + 13), .ref (sz + 15), .ref (sz + 17)])), (sz + 9, .inr (5, [.ref (sz + 10)])), (sz + 10, .inl (cA, 30, .inl fun _ => 0)), (sz + 11, .inr (5, [.ref (sz + 12)])), (sz + 12, .inl (cA, 30, .inl fun _ => 0)), (sz + 13, .inr (5, [.ref (sz + 14)])), (sz + 14, .inl (cA, 30, .inl fun _ => 0)), (sz + 15, .inr (5, [.ref (sz + 16)])), (sz + 16, .inl (cA, 30, .inl fun _ => 0)), (sz + 17, .inr (5, [.ref (sz + 18)])), (sz + 18, .inl (cA, 30, .inl fun _ => 0))] H := hB.put h2 hR ho
  refine lv_aload_n C0.1 C0.2.1 dX6_init_88 rfl (lv_at hl 0 rfl) ?_
  refine lv_aload C0.1 C0.2.1 dX6_init_89 (lv_at hl 5 rfl) ?_
  refine pK C0 hin2 hK hB.2.2.1 hS (Or.inl rfl) us_X6 tyX6 tyX6_ok nmX6 rfl 4 (by decide) fl_X6_52 rfl rfl (ty := tyX6 4) (by decide +kernel) rfl rfl (Nat.le_of_ble_eq_true rfl) dX6_init_91 (fun H locs h2 hR ho hS => ?_)
  have hB : BW D q sz 19 (.inr (6, [.ref w1, .ref w2, .ref w3, .ref w4, .ref w5, .int 0, .ref (sz + 0), .ref (sz + 2), .ref (sz + 4), .ref (sz + 6), .ref (sz + 8)])) [(sz + 0, .inr (5, [.ref (sz + 1)])), (sz + 1, .inl (cA, 6, .inl fun _ => 0)), (sz + 2, .inr (5, [.ref (sz + 3)])), (sz + 3, .inl (cA, 6, .inl fun _ => 0)), (sz + 4, .inr (5, [.ref (sz + 5)])), (sz + 5, .inl (cA, 6, .inl fun _ => 0)), (sz + 6, .inr (5, [.ref (sz + 7)])), (sz + 7, .inl (cA, 6, .inl fun _ => 0)), (sz + 8, .inr (7, [.int 0, .ref (sz + 9), .ref (sz + 11), .ref (sz + 13), .ref (sz + 15), .ref (sz + 17)])), (sz + 9, .inr (5, [.ref (sz + 10)])), (sz + 10, .inl (cA, 30, .inl fun _ => 0)), (sz + 11, .inr (5, [.ref (sz + 12)])), (sz + 12, .inl (cA, 30, .inl fun _ => 0)), (sz + 13, .inr (5, [.ref (sz + 14)])), (sz + 14, .inl (cA, 30, .inl fun _ => 0)), (sz + 15, .inr (5, [.ref (sz + 16)])), (sz + 16, .inl (cA, 30, .inl fun _ => 0)), (sz + 17, .inr (5, [.ref (sz + 18)])), (sz + 18, .inl (cA, 30, .inl fun _ => 0))] H := hB.put h2 hR ho
  exact retK C0 hr hlk hS rfl rfl hB.2.1 hB.2.2.1 hB.2.2.2 trivial dX6_init_94
