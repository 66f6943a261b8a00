/-! THE PLAIN'S MAKING. -/
abbrev nPl : List Nat := [80, 40, 0, 41, 1, 42, 2]
def ixP (k : Nat) : Nat := match k with
  | 40 => 0 | 0 => 1 | 41 => 2 | 1 => 3 | 42 => 4 | _ => 5
set_option maxHeartbeats 4000000 in
set_option maxRecDepth 100000 in
theorem c_X4_init (l : Launch) (D : va_G) (cA : ClassId) (q sz : Nat) : MK l yX4_init cX4_init 1 3 60 6 407 D cA q sz (.inr (4, [.null, .null, .null])) (fun _ => True) [] (sz + 6) (.inr (4, [.ref (sz + 0), .ref (sz + 2), .ref (sz + 4)])) [(sz + 0, .inr (5, [.ref (sz + 1)])), (sz + 1, .inl (cA, 196, .inl (fl (fun _ => 0) 196 5))), (sz + 2, .inr (5, [.ref (sz + 3)])), (sz + 3, .inl (cA, 196, .inl fun _ => 0)), (sz + 4, .inr (5, [.ref (sz + 5)])), (sz + 5, .inl (cA, 12, .inl (fl (fun _ => 0) 12 8)))] (fun _ => True) (FK q sz) := by
  refine mGoK (by decide) rfl (Nat.le_of_ble_eq_true rfl) ?_
  intro p e s m args below meth c ls C0 hr hlk hin2 hsz hq hR hK hNX _ hS hl
  obtain ⟨H, hHe⟩ : ∃ H, H = s.heap := ⟨_, rfl⟩
  obtain ⟨locs, hlo⟩ : ∃ L : List Loc, L = [] := ⟨_, rfl⟩
  have hS : va_S (FK q sz) s.heap H locs := by rw [hHe, hlo]; exact hS
  have hB : BW D q sz 0 (.inr (4, [.null, .null, .null])) [] H := ⟨hq, by rw [hHe]; exact hsz, by rw [hHe]; exact hR, NW.nil⟩
  rw [← hHe, ← hlo]
  refine lv_aload_n C0.1 C0.2.1 dX4_init_0 rfl (lv_at hl 0 rfl) ?_
  refine oK C0 ml_X4_3 hl.1 ⟨Nat.le_of_ble_eq_true rfl, Nat.le_of_ble_eq_true rfl⟩ dX4_init_1 ?_
  refine lv_aload_n C0.1 C0.2.1 dX4_init_4 rfl (lv_at hl 0 rfl) ?_
  refine mkN (ci := 5) (N := 1) (n := sz + 0) [.null] C0 hK us_X5 tyX5 tyX5_ok cl_X4_9 it_X5 in_X5 hS rfl (fun j hj => by rcases (show j = 0 by omega) with rfl <;> rfl) hB.2.1 (Nat.le_of_ble_eq_true rfl) (Nat.le_of_ble_eq_true rfl) dX4_init_5 (fun H h9 hO ho hS => ?_)
  have hN := hB.new h9 ho
  refine lv_dup C0.1 C0.2.1 dX4_init_8 rfl ?_
  refine lv_sipush (v := nI 196) C0.1 C0.2.1 dX4_init_9 (by decide) ?_
  refine rK (n := 1) hN.2.1 (c_X5_init l D cA (sz + 0) ((sz + 0) + 1) 196 (Nat.le_of_ble_eq_true rfl)) C0 ml_X4_11 im_X5_init in_X5 co_X5_init rfl ⟨by decide, by decide, by decide +kernel⟩ ⟨Nat.le_of_ble_eq_true rfl, Nat.le_of_ble_eq_true rfl⟩ hK hNX hO trivial hS (fun x h => FK.up h) rfl hl.1 (Nat.le_of_ble_eq_true rfl) rfl dX4_init_12 ⟨Nat.le_of_ble_eq_true rfl, Nat.le_of_ble_eq_true rfl⟩ (fun H locs hn hO hW2 _ ho hS => ?_)
  have hB := hN.done (m := 1) hn hO hW2 ho
  have hB : BW D q sz 2 (.inr (4, [.null, .null, .null])) [(sz + 0, .inr (5, [.ref (sz + 1)])), (sz + 1, .inl (cA, 196, .inl fun _ => 0))] H := hB
  refine pK C0 hin2 hK hB.2.2.1 hS (Or.inl rfl) us_X4 tyX4 tyX4_ok nmX4 rfl 0 (by decide) fl_X4_14 rfl rfl (ty := tyX4 0) (by decide +kernel) rfl rfl (Nat.le_of_ble_eq_true rfl) dX4_init_15 (fun H locs h2 hR ho hS => ?_)
  have hB : BW D q sz 2 (.inr (4, [.ref (sz + 0), .null, .null])) [(sz + 0, .inr (5, [.ref (sz + 1)])), (sz + 1, .inl (cA, 196, .inl fun _ => 0))] H := hB.put h2 hR ho
  refine lv_aload_n C0.1 C0.2.1 dX4_init_18 rfl (lv_at hl 0 rfl) ?_
  refine mkN (ci := 5) (N := 1) (n := sz + 2) [.null] C0 hK us_X5 tyX5 tyX5_ok cl_X4_9 it_X5 in_X5 hS rfl (fun j hj => by rcases (show j = 0 by omega) with rfl <;> rfl) hB.2.1 (Nat.le_of_ble_eq_true rfl) (Nat.le_of_ble_eq_true rfl) dX4_init_19 (fun H h9 hO ho hS => ?_)
  have hN := hB.new h9 ho
  refine lv_dup C0.1 C0.2.1 dX4_init_22 rfl ?_
  refine lv_sipush (v := nI 196) C0.1 C0.2.1 dX4_init_23 (by decide) ?_
  refine rK (n := 1) hN.2.1 (c_X5_init l D cA (sz + 2) ((sz + 2) + 1) 196 (Nat.le_of_ble_eq_true rfl)) C0 ml_X4_11 im_X5_init in_X5 co_X5_init rfl ⟨by decide, by decide, by decide +kernel⟩ ⟨Nat.le_of_ble_eq_true rfl, Nat.le_of_ble_eq_true rfl⟩ hK hNX hO trivial hS (fun x h => FK.up h) rfl hl.1 (Nat.le_of_ble_eq_true rfl) rfl dX4_init_26 ⟨Nat.le_of_ble_eq_true rfl, Nat.le_of_ble_eq_true rfl⟩ (fun H locs hn hO hW2 _ ho hS => ?_)
  have hB := hN.done (m := 1) hn hO hW2 ho
  have hB : BW D q sz 4 (.inr (4, [.ref (sz + 0), .null, .null])) [(sz + 0, .inr (5, [.ref (sz + 1)])), (sz + 1, .inl (cA, 196, .inl fun _ => 0)), (sz + 2, .inr (5, [.ref (sz + 3)])), (sz + 3, .inl (cA, 196, .inl fun _ => 0))] H := hB
  refine pK C0 hin2 hK hB.2.2.1 hS (Or.inl rfl) us_X4 tyX4 tyX4_ok nmX4 rfl 1 (by decide) fl_X4_20 rfl rfl (ty := tyX4 1) (by decide +kernel) rfl rfl (Nat.le_of_ble_eq_true rfl) dX4_init_29 (fun H locs h2 hR ho hS => ?_)
  have hB : BW D q sz 4 (.inr (4, [.ref (sz + 0), .ref (sz + 2), .null])) [(sz + 0, .inr (5, [.ref (sz + 1)])), (sz + 1, .inl (cA, 196, .inl fun _ => 0)), (sz + 2, .inr (5, [.ref (sz + 3)])), (sz + 3, .inl (cA, 196, .inl fun _ => 0))] H := hB.put h2 hR ho
  refine lv_aload_n C0.1 C0.2.1 dX4_init_32 rfl (lv_at hl 0 rfl) ?_
  refine mkN (ci := 5) (N := 1) (n := sz + 4) [.null] C0 hK us_X5 tyX5 tyX5_ok cl_X4_9 it_X5 in_X5 hS rfl (fun j hj => by rcases (show j = 0 by omega) with rfl <;> rfl) hB.2.1 (Nat.le_of_ble_eq_true rfl) (Nat.le_of_ble_eq_true rfl) dX4_init_33 (fun H h9 hO ho hS => ?_)
  have hN := hB.new h9 ho
  refine lv_dup C0.1 C0.2.1 dX4_init_36 rfl ?_
  refine lv_bipush (v := nI 12) C0.1 C0.2.1 dX4_init_37 (by decide) ?_
  refine rK (n := 1) hN.2.1 (c_X5_init l D cA (sz + 4) ((sz + 4) + 1) 12 (Nat.le_of_ble_eq_true rfl)) C0 ml_X4_11 im_X5_init in_X5 co_X5_init rfl ⟨by decide, by decide, by decide +kernel⟩ ⟨Nat.le_of_ble_eq_true rfl, Nat.le_of_ble_eq_true rfl⟩ hK hNX hO trivial hS (fun x h => FK.up h) rfl hl.1 (Nat.le_of_ble_eq_true rfl) rfl dX4_init_39 ⟨Nat.le_of_ble_eq_true rfl, Nat.le_of_ble_eq_true rfl⟩ (fun H locs hn hO hW2 _ ho hS => ?_)
  have hB := hN.done (m := 1) hn hO hW2 ho
  have hB : BW D q sz 6 (.inr (4, [.ref (sz + 0), .ref (sz + 2), .null])) [(sz + 0, .inr (5, [.ref (sz + 1)])), (sz + 1, .inl (cA, 196, .inl fun _ => 0)), (sz + 2, .inr (5, [.ref (sz + 3)])), (sz + 3, .inl (cA, 196, .inl fun _ => 0)), (sz + 4, .inr (5, [.ref (sz + 5)])), (sz + 5, .inl (cA, 12, .inl fun _ => 0))] H := hB
  refine pK C0 hin2 hK hB.2.2.1 hS (Or.inl rfl) us_X4 tyX4 tyX4_ok nmX4 rfl 2 (by decide) fl_X4_23 rfl rfl (ty := tyX4 2) (by decide +kernel) rfl rfl (Nat.le_of_ble_eq_true rfl) dX4_init_42 (fun H locs h2 hR ho hS => ?_)
  have hB : BW D q sz 6 (.inr (4, [.ref (sz + 0), .ref (sz + 2), .ref (sz + 4)])) [(sz + 0, .inr (5, [.ref (sz + 1)])), (sz + 1, .inl (cA, 196, .inl fun _ => 0)), (sz + 2, .inr (5, [.ref (sz + 3)])), (sz + 3, .inl (cA, 196, .inl fun _ => 0)), (sz + 4, .inr (5, [.ref (sz + 5)])), (sz + 5, .inl (cA, 12, .inl fun _ => 0))] H := hB.put h2 hR ho
  have hd : Hd nPl (aT 80 q sz ixP) (fun k => k ∈ nPl) := aT_hd hq (by decide) (by decide)
  have hP : WP D cA (aT 80 q sz ixP) m0 m0 (fun k => k ∈ nPl) H := by
    have h : ∀ k ∈ nPl, va_at D vwCl (aT 80 q sz ixP k, ct cA (aT 80 q sz ixP) m0 m0 k) H := by
      simp only [nPl, List.forall_mem_cons]
      exact ⟨hB.2.2.1, hB.2.2.2.get 0 rfl, hB.2.2.2.get 1 rfl, hB.2.2.2.get 2 rfl, hB.2.2.2.get 3 rfl, hB.2.2.2.get 4 rfl, hB.2.2.2.get 5 rfl, fun _ h => absurd h List.not_mem_nil⟩
    exact h
  have hA : ∀ x, AI (aT 80 q sz ixP) (fun k => k ∈ nPl) x → FK q sz x := fun x h => aT_FK h
  refine lv_aload_n C0.1 C0.2.1 dX4_init_45 rfl (lv_at hl 0 rfl) ?_
  refine g80_ground C0 hK hP (hd.1 _ (by decide)) fl_X4_14 dX4_init_46 ?_
  refine lv_iconst (v := 5) C0.1 C0.2.1 dX4_init_49 (by decide) ?_
  refine k_X5_fill 0 (by decide) hd (by decide) (by decide) C0 hK hP hS hA hl.1 ml_X4_26 ⟨Nat.le_of_ble_eq_true rfl, Nat.le_of_ble_eq_true rfl⟩ ⟨Nat.le_of_ble_eq_true rfl, Nat.le_of_ble_eq_true rfl⟩ (Nat.le_of_ble_eq_true rfl) dX4_init_50 (fun H locs hP hS => ?_)
  refine lv_aload_n C0.1 C0.2.1 dX4_init_53 rfl (lv_at hl 0 rfl) ?_
  refine g80_water C0 hK hP (hd.1 _ (by decide)) fl_X4_23 dX4_init_54 ?_
  refine lv_bipush (v := 8) C0.1 C0.2.1 dX4_init_57 (by decide) ?_
  refine k_X5_fill 2 (by decide) hd (by decide) (by decide) C0 hK hP hS hA hl.1 ml_X4_26 ⟨Nat.le_of_ble_eq_true rfl, Nat.le_of_ble_eq_true rfl⟩ ⟨Nat.le_of_ble_eq_true rfl, Nat.le_of_ble_eq_true rfl⟩ (Nat.le_of_ble_eq_true rfl) dX4_init_59 (fun H locs hP hS => ?_)
  refine W.grown fun hg => ?_
  have hlt : sz + 5 < H.size := (hP 2 (by decide)).lt
  have hg : H.size ≤ sz + 6 := by have := hsz; omega
  have hB : BW D q sz 6 (.inr (4, [.ref (sz + 0), .ref (sz + 2), .ref (sz + 4)])) [(sz + 0, .inr (5, [.ref (sz + 1)])), (sz + 1, .inl (cA, 196, .inl (fl (fun _ => 0) 196 5))), (sz + 2, .inr (5, [.ref (sz + 3)])), (sz + 3, .inl (cA, 196, .inl fun _ => 0)), (sz + 4, .inr (5, [.ref (sz + 5)])), (sz + 5, .inl (cA, 12, .inl (fl (fun _ => 0) 12 8)))] H := by
    refine ⟨hq, by omega, hP 80 (by decide), ?_⟩
    have t : ∀ k j, j < 6 → k ∈ nPl → aT 80 q sz ixP k = sz + j → NW D sz (sz + 6) [(sz + j, ct cA (aT 80 q sz ixP) (wS (wS m0 0 (fl (me m0 m0 0) 196 5)) 2 (fl (me (wS m0 0 (fl (me m0 m0 0) 196 5)) (wX m0 0 (fl (me m0 m0 0) 196 5)) 2) 12 8)) (wX (wX m0 0 (fl (me m0 m0 0) 196 5)) 2 (fl (me (wS m0 0 (fl (me m0 m0 0) 196 5)) (wX m0 0 (fl (me m0 m0 0) 196 5)) 2) 12 8)) k)] H := fun k j hj hk e => by
      have h := hP k hk
      rw [e] at h
      exact (NW.one h).wid (Nat.le_add_right _ _) (by omega)
    exact (t 40 0 (by decide) (by decide) rfl).app ((t 0 1 (by decide) (by decide) rfl).app ((t 41 2 (by decide) (by decide) rfl).app ((t 1 3 (by decide) (by decide) rfl).app ((t 42 4 (by decide) (by decide) rfl).app (t 2 5 (by decide) (by decide) rfl)))))
  exact retK C0 hr hlk hS rfl rfl hB.2.1 hB.2.2.1 hB.2.2.2 trivial dX4_init_62
