/-! THE REFERENCE'S CONSTRUCTOR. -/
theorem BW.arr {D : va_G} {q sz j : Nat} {e ea : va_E} {ws : va_W} {H H1 : Heap} (h : BW D q sz j e ws H) (hn : H1.size = sz + j + 1) (hO : va_at D vwCl (sz + j, ea) H1) (ho : ∀ x : Nat, x < sz + j → H1[x]? = H[x]?) : BW D q sz (j + 1) e (ws ++ [(sz + j, ea)]) H1 := by
  have hq := h.1
  refine ⟨hq, hn, h.2.2.1.kept (ho q (by omega)), ?_⟩
  have hW := h.2.2.2.kept (fun x _ b => ho x b)
  exact (hW.wid (Nat.le_refl _) (by omega)).app ((NW.one hO).wid (by omega) (by omega))
abbrev b9 (q sz : Nat) : Adr := aT 20 q sz (fun k => k)
theorem b9_hd {q sz : Nat} (hq : q < sz) : Hd nM (b9 q sz) IM := aT_hd hq (by decide) (fun i _ j _ _ _ h => h)
def QIn (D : va_G) (cA : ClassId) (q sz : Nat) : Array Value → State → Outcome → State → Prop := va_Qv (fun _ : Unit => True) (fun _ t => WQ D cA (b9 q sz) S00 m0 IM t.heap) (FK q sz)
theorem retIn {p : Program} {l : Launch} {e : Env} {R : Room} {s : State} {m : MethodId} {args : Array Value} {below : List Frame} {meth : Method} {c : Code} {H : Heap} {locs : List Loc} {cc : ByteArray} {nL : Nat} {own : String} {pc : Nat} {ls : Array Slot} {D : va_G} {cA : ClassId} {q sz : Nat} (C0 : CallFix p m c cc nL s args GW own) (hr : meth.sig.returnType = none) (hlk : meth.locks = false) (hP : WQ D cA (b9 q sz) S00 m0 IM H) (hS : va_S (FK q sz) s.heap H locs) (hdg : decode cc pc = .ok (.return_, 1)) :
    W p l e R s m args below meth c H locs 10 834 (MQ below (QIn D cA q sz) args s 10 834 (FK q sz)) (F0 m pc ls []) :=
  W.vret C0.1 C0.2.1 hr (fun t ht _ => ⟨⟨(), rfl, trivial, by show WQ D cA (b9 q sz) S00 m0 IM t.heap; rw [ht]; exact hP⟩, hS.F ht⟩) hS.2.2 hdg hlk
set_option maxHeartbeats 4000000 in
set_option maxRecDepth 100000 in
theorem c_X9_init (l : Launch) (D : va_G) (cA : ClassId) (q sz : Nat) : Met l yX9_init (.code yX9_init cX9_init 2 none :: GW) { frames := 1, cells := 10, slots := 834, locals := 40 } (PK D cA q sz (.inr (9, [.int 0, .null, .null, .null, .int 0, .null, .int 0, .null, .int 0, .int 0, .null, .null, .null, .null, .null])) (fun _ => True) []) (QIn D cA q sz) 10 834 (FK q sz) := by
  refine mGoK (by decide) rfl (Nat.le_of_ble_eq_true rfl) ?_
  intro p e s m args below meth c ls C0 hr hlk hin2 hsz hq hR hK hNX _ hS hl
  obtain ⟨H, hHe⟩ : ∃ H, H = s.heap := ⟨_, rfl⟩
  obtain ⟨locs, hlo⟩ : ∃ L : List Loc, L = [] := ⟨_, rfl⟩
  have hS : va_S (FK q sz) s.heap H locs := by rw [hHe, hlo]; exact hS
  have hB : BW D q sz 0 (.inr (9, [.int 0, .null, .null, .null, .int 0, .null, .int 0, .null, .int 0, .int 0, .null, .null, .null, .null, .null])) [] H := ⟨hq, by rw [hHe]; exact hsz, by rw [hHe]; exact hR, NW.nil⟩
  rw [← hHe, ← hlo]
  refine lv_aload_n C0.1 C0.2.1 dX9_init_0 rfl (lv_at hl 0 rfl) ?_
  refine oK C0 ml_X9_1 hl.1 ⟨Nat.le_of_ble_eq_true rfl, Nat.le_of_ble_eq_true rfl⟩ dX9_init_1 ?_
  refine lv_aload_n C0.1 C0.2.1 dX9_init_4 rfl (lv_at hl 0 rfl) ?_
  refine lv_sipush (v := 196) C0.1 C0.2.1 dX9_init_5 (by decide) ?_
  refine mkA (N := 196) (n := sz + 0) C0 hK hS (by decide) (by decide) (by decide) hB.2.1 (Nat.le_of_ble_eq_true rfl) (Nat.le_of_ble_eq_true rfl) dX9_init_8 (fun H h9 hO ho hS => ?_)
  have hB := hB.arr h9 hO ho
  have hB : BW D q sz 1 (.inr (9, [.int 0, .null, .null, .null, .int 0, .null, .int 0, .null, .int 0, .int 0, .null, .null, .null, .null, .null])) [(sz + 0, .inl (cA, 196, .inl fun _ => 0))] H := hB
  refine pK C0 hin2 hK hB.2.2.1 hS (Or.inl rfl) us_X9 tyX9 tyX9_ok nmX9 rfl 1 (by decide) fl_X9_9 rfl rfl (ty := .array .int) (by decide +kernel) rfl rfl (Nat.le_of_ble_eq_true rfl) dX9_init_10 (fun H locs h2 hR ho hS => ?_)
  have hB := hB.put h2 hR ho
  have hB : BW D q sz 1 (.inr (9, [.int 0, .ref (sz + 0), .null, .null, .int 0, .null, .int 0, .null, .int 0, .int 0, .null, .null, .null, .null, .null])) [(sz + 0, .inl (cA, 196, .inl fun _ => 0))] H := hB
  refine lv_aload_n C0.1 C0.2.1 dX9_init_13 rfl (lv_at hl 0 rfl) ?_
  refine lv_sipush (v := 196) C0.1 C0.2.1 dX9_init_14 (by decide) ?_
  refine mkA (N := 196) (n := sz + 1) C0 hK hS (by decide) (by decide) (by decide) hB.2.1 (Nat.le_of_ble_eq_true rfl) (Nat.le_of_ble_eq_true rfl) dX9_init_17 (fun H h9 hO ho hS => ?_)
  have hB := hB.arr h9 hO ho
  have hB : BW D q sz 2 (.inr (9, [.int 0, .ref (sz + 0), .null, .null, .int 0, .null, .int 0, .null, .int 0, .int 0, .null, .null, .null, .null, .null])) [(sz + 0, .inl (cA, 196, .inl fun _ => 0)), (sz + 1, .inl (cA, 196, .inl fun _ => 0))] H := hB
  refine pK C0 hin2 hK hB.2.2.1 hS (Or.inl rfl) us_X9 tyX9 tyX9_ok nmX9 rfl 2 (by decide) fl_X9_13 rfl rfl (ty := .array .int) (by decide +kernel) rfl rfl (Nat.le_of_ble_eq_true rfl) dX9_init_19 (fun H locs h2 hR ho hS => ?_)
  have hB := hB.put h2 hR ho
  have hB : BW D q sz 2 (.inr (9, [.int 0, .ref (sz + 0), .ref (sz + 1), .null, .int 0, .null, .int 0, .null, .int 0, .int 0, .null, .null, .null, .null, .null])) [(sz + 0, .inl (cA, 196, .inl fun _ => 0)), (sz + 1, .inl (cA, 196, .inl fun _ => 0))] H := hB
  refine lv_aload_n C0.1 C0.2.1 dX9_init_22 rfl (lv_at hl 0 rfl) ?_
  refine lv_bipush (v := 12) C0.1 C0.2.1 dX9_init_23 (by decide) ?_
  refine mkA (N := 12) (n := sz + 2) C0 hK hS (by decide) (by decide) (by decide) hB.2.1 (Nat.le_of_ble_eq_true rfl) (Nat.le_of_ble_eq_true rfl) dX9_init_25 (fun H h9 hO ho hS => ?_)
  have hB := hB.arr h9 hO ho
  have hB : BW D q sz 3 (.inr (9, [.int 0, .ref (sz + 0), .ref (sz + 1), .null, .int 0, .null, .int 0, .null, .int 0, .int 0, .null, .null, .null, .null, .null])) [(sz + 0, .inl (cA, 196, .inl fun _ => 0)), (sz + 1, .inl (cA, 196, .inl fun _ => 0)), (sz + 2, .inl (cA, 12, .inl fun _ => 0))] H := hB
  refine pK C0 hin2 hK hB.2.2.1 hS (Or.inl rfl) us_X9 tyX9 tyX9_ok nmX9 rfl 3 (by decide) fl_X9_16 rfl rfl (ty := .array .int) (by decide +kernel) rfl rfl (Nat.le_of_ble_eq_true rfl) dX9_init_27 (fun H locs h2 hR ho hS => ?_)
  have hB := hB.put h2 hR ho
  have hB : BW D q sz 3 (.inr (9, [.int 0, .ref (sz + 0), .ref (sz + 1), .ref (sz + 2), .int 0, .null, .int 0, .null, .int 0, .int 0, .null, .null, .null, .null, .null])) [(sz + 0, .inl (cA, 196, .inl fun _ => 0)), (sz + 1, .inl (cA, 196, .inl fun _ => 0)), (sz + 2, .inl (cA, 12, .inl fun _ => 0))] H := hB
  refine lv_aload_n C0.1 C0.2.1 dX9_init_30 rfl (lv_at hl 0 rfl) ?_
  refine lv_bipush (v := 8) C0.1 C0.2.1 dX9_init_31 (by decide) ?_
  refine mkA (N := 8) (n := sz + 3) C0 hK hS (by decide) (by decide) (by decide) hB.2.1 (Nat.le_of_ble_eq_true rfl) (Nat.le_of_ble_eq_true rfl) dX9_init_33 (fun H h9 hO ho hS => ?_)
  have hB := hB.arr h9 hO ho
  have hB : BW D q sz 4 (.inr (9, [.int 0, .ref (sz + 0), .ref (sz + 1), .ref (sz + 2), .int 0, .null, .int 0, .null, .int 0, .int 0, .null, .null, .null, .null, .null])) [(sz + 0, .inl (cA, 196, .inl fun _ => 0)), (sz + 1, .inl (cA, 196, .inl fun _ => 0)), (sz + 2, .inl (cA, 12, .inl fun _ => 0)), (sz + 3, .inl (cA, 8, .inl fun _ => 0))] H := hB
  refine pK C0 hin2 hK hB.2.2.1 hS (Or.inl rfl) us_X9 tyX9 tyX9_ok nmX9 rfl 5 (by decide) fl_X9_19 rfl rfl (ty := .array .int) (by decide +kernel) rfl rfl (Nat.le_of_ble_eq_true rfl) dX9_init_35 (fun H locs h2 hR ho hS => ?_)
  have hB := hB.put h2 hR ho
  have hB : BW D q sz 4 (.inr (9, [.int 0, .ref (sz + 0), .ref (sz + 1), .ref (sz + 2), .int 0, .ref (sz + 3), .int 0, .null, .int 0, .int 0, .null, .null, .null, .null, .null])) [(sz + 0, .inl (cA, 196, .inl fun _ => 0)), (sz + 1, .inl (cA, 196, .inl fun _ => 0)), (sz + 2, .inl (cA, 12, .inl fun _ => 0)), (sz + 3, .inl (cA, 8, .inl fun _ => 0))] H := hB
  refine lv_aload_n C0.1 C0.2.1 dX9_init_38 rfl (lv_at hl 0 rfl) ?_
  refine lv_bipush (v := 36) C0.1 C0.2.1 dX9_init_39 (by decide) ?_
  refine mkA (N := 36) (n := sz + 4) C0 hK hS (by decide) (by decide) (by decide) hB.2.1 (Nat.le_of_ble_eq_true rfl) (Nat.le_of_ble_eq_true rfl) dX9_init_41 (fun H h9 hO ho hS => ?_)
  have hB := hB.arr h9 hO ho
  have hB : BW D q sz 5 (.inr (9, [.int 0, .ref (sz + 0), .ref (sz + 1), .ref (sz + 2), .int 0, .ref (sz + 3), .int 0, .null, .int 0, .int 0, .null, .null, .null, .null, .null])) [(sz + 0, .inl (cA, 196, .inl fun _ => 0)), (sz + 1, .inl (cA, 196, .inl fun _ => 0)), (sz + 2, .inl (cA, 12, .inl fun _ => 0)), (sz + 3, .inl (cA, 8, .inl fun _ => 0)), (sz + 4, .inl (cA, 36, .inl fun _ => 0))] H := hB
  refine pK C0 hin2 hK hB.2.2.1 hS (Or.inl rfl) us_X9 tyX9 tyX9_ok nmX9 rfl 7 (by decide) fl_X9_22 rfl rfl (ty := .array .int) (by decide +kernel) rfl rfl (Nat.le_of_ble_eq_true rfl) dX9_init_43 (fun H locs h2 hR ho hS => ?_)
  have hB := hB.put h2 hR ho
  have hB : BW D q sz 5 (.inr (9, [.int 0, .ref (sz + 0), .ref (sz + 1), .ref (sz + 2), .int 0, .ref (sz + 3), .int 0, .ref (sz + 4), .int 0, .int 0, .null, .null, .null, .null, .null])) [(sz + 0, .inl (cA, 196, .inl fun _ => 0)), (sz + 1, .inl (cA, 196, .inl fun _ => 0)), (sz + 2, .inl (cA, 12, .inl fun _ => 0)), (sz + 3, .inl (cA, 8, .inl fun _ => 0)), (sz + 4, .inl (cA, 36, .inl fun _ => 0))] H := hB
  refine lv_aload_n C0.1 C0.2.1 dX9_init_46 rfl (lv_at hl 0 rfl) ?_
  refine lv_bipush (v := 24) C0.1 C0.2.1 dX9_init_47 (by decide) ?_
  refine mkA (N := 24) (n := sz + 5) C0 hK hS (by decide) (by decide) (by decide) hB.2.1 (Nat.le_of_ble_eq_true rfl) (Nat.le_of_ble_eq_true rfl) dX9_init_49 (fun H h9 hO ho hS => ?_)
  have hB := hB.arr h9 hO ho
  have hB : BW D q sz 6 (.inr (9, [.int 0, .ref (sz + 0), .ref (sz + 1), .ref (sz + 2), .int 0, .ref (sz + 3), .int 0, .ref (sz + 4), .int 0, .int 0, .null, .null, .null, .null, .null])) [(sz + 0, .inl (cA, 196, .inl fun _ => 0)), (sz + 1, .inl (cA, 196, .inl fun _ => 0)), (sz + 2, .inl (cA, 12, .inl fun _ => 0)), (sz + 3, .inl (cA, 8, .inl fun _ => 0)), (sz + 4, .inl (cA, 36, .inl fun _ => 0)), (sz + 5, .inl (cA, 24, .inl fun _ => 0))] H := hB
  refine po20 (j := 10) (ty := .array .int) C0 hK hB.2.2.1 rfl hS (Or.inl rfl) (by decide) fl_X9_25 rfl (by decide +kernel) rfl rfl dX9_init_51 (fun H locs hR h2 ho hS => ?_)
  have hB := hB.put h2 hR ho
  have hB : BW D q sz 6 (.inr (9, [.int 0, .ref (sz + 0), .ref (sz + 1), .ref (sz + 2), .int 0, .ref (sz + 3), .int 0, .ref (sz + 4), .int 0, .int 0, .ref (sz + 5), .null, .null, .null, .null])) [(sz + 0, .inl (cA, 196, .inl fun _ => 0)), (sz + 1, .inl (cA, 196, .inl fun _ => 0)), (sz + 2, .inl (cA, 12, .inl fun _ => 0)), (sz + 3, .inl (cA, 8, .inl fun _ => 0)), (sz + 4, .inl (cA, 36, .inl fun _ => 0)), (sz + 5, .inl (cA, 24, .inl fun _ => 0))] H := hB
  refine lv_aload_n C0.1 C0.2.1 dX9_init_54 rfl (lv_at hl 0 rfl) ?_
  refine lv_sipush (v := 150) C0.1 C0.2.1 dX9_init_55 (by decide) ?_
  refine mkA (N := 150) (n := sz + 6) C0 hK hS (by decide) (by decide) (by decide) hB.2.1 (Nat.le_of_ble_eq_true rfl) (Nat.le_of_ble_eq_true rfl) dX9_init_58 (fun H h9 hO ho hS => ?_)
  have hB := hB.arr h9 hO ho
  have hB : BW D q sz 7 (.inr (9, [.int 0, .ref (sz + 0), .ref (sz + 1), .ref (sz + 2), .int 0, .ref (sz + 3), .int 0, .ref (sz + 4), .int 0, .int 0, .ref (sz + 5), .null, .null, .null, .null])) [(sz + 0, .inl (cA, 196, .inl fun _ => 0)), (sz + 1, .inl (cA, 196, .inl fun _ => 0)), (sz + 2, .inl (cA, 12, .inl fun _ => 0)), (sz + 3, .inl (cA, 8, .inl fun _ => 0)), (sz + 4, .inl (cA, 36, .inl fun _ => 0)), (sz + 5, .inl (cA, 24, .inl fun _ => 0)), (sz + 6, .inl (cA, 150, .inl fun _ => 0))] H := hB
  refine po20 (j := 11) (ty := .array .int) C0 hK hB.2.2.1 rfl hS (Or.inl rfl) (by decide) fl_X9_28 rfl (by decide +kernel) rfl rfl dX9_init_60 (fun H locs hR h2 ho hS => ?_)
  have hB := hB.put h2 hR ho
  have hB : BW D q sz 7 (.inr (9, [.int 0, .ref (sz + 0), .ref (sz + 1), .ref (sz + 2), .int 0, .ref (sz + 3), .int 0, .ref (sz + 4), .int 0, .int 0, .ref (sz + 5), .ref (sz + 6), .null, .null, .null])) [(sz + 0, .inl (cA, 196, .inl fun _ => 0)), (sz + 1, .inl (cA, 196, .inl fun _ => 0)), (sz + 2, .inl (cA, 12, .inl fun _ => 0)), (sz + 3, .inl (cA, 8, .inl fun _ => 0)), (sz + 4, .inl (cA, 36, .inl fun _ => 0)), (sz + 5, .inl (cA, 24, .inl fun _ => 0)), (sz + 6, .inl (cA, 150, .inl fun _ => 0))] H := hB
  refine lv_aload_n C0.1 C0.2.1 dX9_init_63 rfl (lv_at hl 0 rfl) ?_
  refine lv_sipush (v := 196) C0.1 C0.2.1 dX9_init_64 (by decide) ?_
  refine mkA (N := 196) (n := sz + 7) C0 hK hS (by decide) (by decide) (by decide) hB.2.1 (Nat.le_of_ble_eq_true rfl) (Nat.le_of_ble_eq_true rfl) dX9_init_67 (fun H h9 hO ho hS => ?_)
  have hB := hB.arr h9 hO ho
  have hB : BW D q sz 8 (.inr (9, [.int 0, .ref (sz + 0), .ref (sz + 1), .ref (sz + 2), .int 0, .ref (sz + 3), .int 0, .ref (sz + 4), .int 0, .int 0, .ref (sz + 5), .ref (sz + 6), .null, .null, .null])) [(sz + 0, .inl (cA, 196, .inl fun _ => 0)), (sz + 1, .inl (cA, 196, .inl fun _ => 0)), (sz + 2, .inl (cA, 12, .inl fun _ => 0)), (sz + 3, .inl (cA, 8, .inl fun _ => 0)), (sz + 4, .inl (cA, 36, .inl fun _ => 0)), (sz + 5, .inl (cA, 24, .inl fun _ => 0)), (sz + 6, .inl (cA, 150, .inl fun _ => 0)), (sz + 7, .inl (cA, 196, .inl fun _ => 0))] H := hB
  refine pK C0 hin2 hK hB.2.2.1 hS (Or.inl rfl) us_X9 tyX9 tyX9_ok nmX9 rfl 12 (by decide) fl_X9_31 rfl rfl (ty := .array .int) (by decide +kernel) rfl rfl (Nat.le_of_ble_eq_true rfl) dX9_init_69 (fun H locs h2 hR ho hS => ?_)
  have hB := hB.put h2 hR ho
  have hB : BW D q sz 8 (.inr (9, [.int 0, .ref (sz + 0), .ref (sz + 1), .ref (sz + 2), .int 0, .ref (sz + 3), .int 0, .ref (sz + 4), .int 0, .int 0, .ref (sz + 5), .ref (sz + 6), .ref (sz + 7), .null, .null])) [(sz + 0, .inl (cA, 196, .inl fun _ => 0)), (sz + 1, .inl (cA, 196, .inl fun _ => 0)), (sz + 2, .inl (cA, 12, .inl fun _ => 0)), (sz + 3, .inl (cA, 8, .inl fun _ => 0)), (sz + 4, .inl (cA, 36, .inl fun _ => 0)), (sz + 5, .inl (cA, 24, .inl fun _ => 0)), (sz + 6, .inl (cA, 150, .inl fun _ => 0)), (sz + 7, .inl (cA, 196, .inl fun _ => 0))] H := hB
  refine lv_aload_n C0.1 C0.2.1 dX9_init_72 rfl (lv_at hl 0 rfl) ?_
  refine lv_bipush (v := 8) C0.1 C0.2.1 dX9_init_73 (by decide) ?_
  refine mkA (N := 8) (n := sz + 8) C0 hK hS (by decide) (by decide) (by decide) hB.2.1 (Nat.le_of_ble_eq_true rfl) (Nat.le_of_ble_eq_true rfl) dX9_init_75 (fun H h9 hO ho hS => ?_)
  have hB := hB.arr h9 hO ho
  have hB : BW D q sz 9 (.inr (9, [.int 0, .ref (sz + 0), .ref (sz + 1), .ref (sz + 2), .int 0, .ref (sz + 3), .int 0, .ref (sz + 4), .int 0, .int 0, .ref (sz + 5), .ref (sz + 6), .ref (sz + 7), .null, .null])) [(sz + 0, .inl (cA, 196, .inl fun _ => 0)), (sz + 1, .inl (cA, 196, .inl fun _ => 0)), (sz + 2, .inl (cA, 12, .inl fun _ => 0)), (sz + 3, .inl (cA, 8, .inl fun _ => 0)), (sz + 4, .inl (cA, 36, .inl fun _ => 0)), (sz + 5, .inl (cA, 24, .inl fun _ => 0)), (sz + 6, .inl (cA, 150, .inl fun _ => 0)), (sz + 7, .inl (cA, 196, .inl fun _ => 0)), (sz + 8, .inl (cA, 8, .inl fun _ => 0))] H := hB
  refine pK C0 hin2 hK hB.2.2.1 hS (Or.inl rfl) us_X9 tyX9 tyX9_ok nmX9 rfl 13 (by decide) fl_X9_34 rfl rfl (ty := .array .int) (by decide +kernel) rfl rfl (Nat.le_of_ble_eq_true rfl) dX9_init_77 (fun H locs h2 hR ho hS => ?_)
  have hB := hB.put h2 hR ho
  have hB : BW D q sz 9 (.inr (9, [.int 0, .ref (sz + 0), .ref (sz + 1), .ref (sz + 2), .int 0, .ref (sz + 3), .int 0, .ref (sz + 4), .int 0, .int 0, .ref (sz + 5), .ref (sz + 6), .ref (sz + 7), .ref (sz + 8), .null])) [(sz + 0, .inl (cA, 196, .inl fun _ => 0)), (sz + 1, .inl (cA, 196, .inl fun _ => 0)), (sz + 2, .inl (cA, 12, .inl fun _ => 0)), (sz + 3, .inl (cA, 8, .inl fun _ => 0)), (sz + 4, .inl (cA, 36, .inl fun _ => 0)), (sz + 5, .inl (cA, 24, .inl fun _ => 0)), (sz + 6, .inl (cA, 150, .inl fun _ => 0)), (sz + 7, .inl (cA, 196, .inl fun _ => 0)), (sz + 8, .inl (cA, 8, .inl fun _ => 0))] H := hB
  refine lv_aload_n C0.1 C0.2.1 dX9_init_80 rfl (lv_at hl 0 rfl) ?_
  refine lv_bipush (v := 8) C0.1 C0.2.1 dX9_init_81 (by decide) ?_
  refine mkA (N := 8) (n := sz + 9) C0 hK hS (by decide) (by decide) (by decide) hB.2.1 (Nat.le_of_ble_eq_true rfl) (Nat.le_of_ble_eq_true rfl) dX9_init_83 (fun H h9 hO ho hS => ?_)
  have hB := hB.arr h9 hO ho
  have hB : BW D q sz 10 (.inr (9, [.int 0, .ref (sz + 0), .ref (sz + 1), .ref (sz + 2), .int 0, .ref (sz + 3), .int 0, .ref (sz + 4), .int 0, .int 0, .ref (sz + 5), .ref (sz + 6), .ref (sz + 7), .ref (sz + 8), .null])) [(sz + 0, .inl (cA, 196, .inl fun _ => 0)), (sz + 1, .inl (cA, 196, .inl fun _ => 0)), (sz + 2, .inl (cA, 12, .inl fun _ => 0)), (sz + 3, .inl (cA, 8, .inl fun _ => 0)), (sz + 4, .inl (cA, 36, .inl fun _ => 0)), (sz + 5, .inl (cA, 24, .inl fun _ => 0)), (sz + 6, .inl (cA, 150, .inl fun _ => 0)), (sz + 7, .inl (cA, 196, .inl fun _ => 0)), (sz + 8, .inl (cA, 8, .inl fun _ => 0)), (sz + 9, .inl (cA, 8, .inl fun _ => 0))] H := hB
  refine pK C0 hin2 hK hB.2.2.1 hS (Or.inl rfl) us_X9 tyX9 tyX9_ok nmX9 rfl 14 (by decide) fl_X9_37 rfl rfl (ty := .array .int) (by decide +kernel) rfl rfl (Nat.le_of_ble_eq_true rfl) dX9_init_85 (fun H locs h2 hR ho hS => ?_)
  have hB := hB.put h2 hR ho
  have hB : BW D q sz 10 (.inr (9, [.int 0, .ref (sz + 0), .ref (sz + 1), .ref (sz + 2), .int 0, .ref (sz + 3), .int 0, .ref (sz + 4), .int 0, .int 0, .ref (sz + 5), .ref (sz + 6), .ref (sz + 7), .ref (sz + 8), .ref (sz + 9)])) [(sz + 0, .inl (cA, 196, .inl fun _ => 0)), (sz + 1, .inl (cA, 196, .inl fun _ => 0)), (sz + 2, .inl (cA, 12, .inl fun _ => 0)), (sz + 3, .inl (cA, 8, .inl fun _ => 0)), (sz + 4, .inl (cA, 36, .inl fun _ => 0)), (sz + 5, .inl (cA, 24, .inl fun _ => 0)), (sz + 6, .inl (cA, 150, .inl fun _ => 0)), (sz + 7, .inl (cA, 196, .inl fun _ => 0)), (sz + 8, .inl (cA, 8, .inl fun _ => 0)), (sz + 9, .inl (cA, 8, .inl fun _ => 0))] H := hB
  refine W.widen (k := 10) (n := 834) (Nat.le_of_ble_eq_true rfl) (Nat.le_of_ble_eq_true rfl) ?_
  have hd := b9_hd hB.1
  have hP : WQ D cA (b9 q sz) m0 m0 IM H := fun k hk => by
    have h9 : k = 0 ∨ k = 1 ∨ k = 2 ∨ k = 3 ∨ k = 4 ∨ k = 5 ∨ k = 6 ∨ k = 7 ∨ k = 8 ∨ k = 9 ∨ k = 20 := by simpa [nM] using hk
    rcases h9 with rfl | rfl | rfl | rfl | rfl | rfl | rfl | rfl | rfl | rfl | rfl
    · exact hB.2.2.2.get 0 rfl
    · exact hB.2.2.2.get 1 rfl
    · exact hB.2.2.2.get 2 rfl
    · exact hB.2.2.2.get 3 rfl
    · exact hB.2.2.2.get 4 rfl
    · exact hB.2.2.2.get 5 rfl
    · exact hB.2.2.2.get 6 rfl
    · exact hB.2.2.2.get 7 rfl
    · exact hB.2.2.2.get 8 rfl
    · exact hB.2.2.2.get 9 rfl
    · exact hB.2.2.1
  have hA : ∀ y, AI (b9 q sz) IM y → FK q sz y := fun y h => aT_FK h
  have hl : lv_has ls 2 [(0, .ref (b9 q sz 20))] := hl
  have hqe : FK q sz = FK q sz := rfl
  obtain ⟨a, ha⟩ : ∃ a, a = b9 q sz := ⟨_, rfl⟩
  rw [← ha] at hd hP hA hl
  refine lv_iconst (v := 0) C0.1 C0.2.1 dX9_init_88 (by decide) ?_
  refine lv_istore_n (lv' := [(1, .int 0), (0, .ref (a 20))]) C0.1 C0.2.1 dX9_init_89 rfl hl (by decide) rfl (fun ls hl => ?_)
  have loop90 : ∀ (n : Nat) (i : Nat), (i ≤ 196) → (196 + 1 ≤ i + n) → ∀ (H : Heap) (locs : List Loc) (ls : Array Slot), WQ D cA a (up m0 0 (fl (m0 0) i 5)) m0 IM H → va_S (FK q sz) s.heap H locs → lv_has ls 2 [(1, .int (nI i)), (0, .ref (a 20))] → W p l e { frames := 1, cells := 10, slots := 834, locals := 40 } s m args below meth c H locs 10 834 (MQ below (QIn D cA q sz) args s 10 834 (FK q sz)) (F0 m 90 ls []) := by
    intro n
    induction n with
    | zero => intro i hi hf; exfalso; omega
    | succ n ih90 =>
      intro i hi hf H locs ls hP hS hl
      refine lv_iload_n C0.1 C0.2.1 dX9_init_90 rfl (lv_at hl 0 rfl) ?_
      refine lv_sipush (v := 196) C0.1 C0.2.1 dX9_init_91 (by decide) ?_
      refine lv_icmp_ge (tgt := 110) C0.1 C0.2.1 dX9_init_94 (by decide) (fun c_94 => ?_) (fun c_94 => ?_)
      · have hge : 196 ≤ i := (nI_leI (by omega) (by omega)).mp c_94
        rw [show i = 196 by omega] at hP
        refine lv_iconst (v := 0) C0.1 C0.2.1 dX9_init_110 (by decide) ?_
        refine lv_istore_n (lv' := [(1, .int 0), (0, .ref (a 20))]) C0.1 C0.2.1 dX9_init_111 rfl hl (by decide) rfl (fun ls hl => ?_)
        have loop112 : ∀ (n : Nat) (q2 : Nat), (q2 ≤ 12) → (12 + 1 ≤ q2 + n) → ∀ (H : Heap) (locs : List Loc) (ls : Array Slot), WQ D cA a (up (up m0 0 (fl (m0 0) 196 5)) 2 (fl (m0 2) q2 8)) m0 IM H → va_S (FK q sz) s.heap H locs → lv_has ls 2 [(1, .int (nI q2)), (0, .ref (a 20))] → W p l e { frames := 1, cells := 10, slots := 834, locals := 40 } s m args below meth c H locs 10 834 (MQ below (QIn D cA q sz) args s 10 834 (FK q sz)) (F0 m 112 ls []) := by
          intro n
          induction n with
          | zero => intro q2 hiq2 hfq2; exfalso; omega
          | succ n ih112 =>
            intro q2 hiq2 hfq2 H locs ls hP hS hl
            refine lv_iload_n C0.1 C0.2.1 dX9_init_112 rfl (lv_at hl 0 rfl) ?_
            refine lv_bipush (v := 12) C0.1 C0.2.1 dX9_init_113 (by decide) ?_
            refine lv_icmp_ge (tgt := 132) C0.1 C0.2.1 dX9_init_115 (by decide) (fun c_115 => ?_) (fun c_115 => ?_)
            · have hgeq2 : 12 ≤ q2 := (nI_leI (by omega) (by omega)).mp c_115
              rw [show q2 = 12 by omega] at hP
              rw [ha] at hP
              exact retIn C0 hr hlk hP hS dX9_init_132
            · have hltq2 : q2 < 12 := Nat.not_le.mp fun q => c_115 (nI_le q (by omega))
              refine lv_aload_n C0.1 C0.2.1 dX9_init_118 rfl (lv_at hl 1 rfl) ?_
              refine g20 C0 hK hP (hd.1 _ (by decide)) 3 (by decide) fl_X9_16 rfl dX9_init_119 ?_
              refine lv_iload_n C0.1 C0.2.1 dX9_init_122 rfl (lv_at hl 0 rfl) ?_
              refine lv_bipush (v := 8) C0.1 C0.2.1 dX9_init_123 (by decide) ?_
              refine mst (k := 2) (by decide) C0 hK hP hS hA (hd.1 _ (by decide)) hd.2.2 (vp_in_nI (show q2 < 12 by omega) (by decide)) (up (up (up m0 0 (fl (m0 0) 196 5)) 2 (fl (m0 2) q2 8)) 2 (upd (fl (m0 2) q2 8) q2 8)) m0 (fun q9 => (show upd (fl (m0 2) q2 8) q2 8 q9 = upd (fl (m0 2) q2 8) (nI q2).toNatClampNeg 8 q9 by rw [nI_clamp (by omega)])) (fun j9 _ h9 => cm_at (lo := 2) (hi := 3) (fun k9 h8 => up_ne (by omega)) (fun _ => rfl) (by omega) h9) dX9_init_125 (fun H locs hP hS => ?_)
              have hP : WQ D cA a (up (up m0 0 (fl (m0 0) 196 5)) 2 (upd (fl (m0 2) q2 8) q2 8)) m0 IM H := WQ.congr (show WQ D cA a (up (up (up m0 0 (fl (m0 0) 196 5)) 2 (fl (m0 2) q2 8)) 2 (upd (fl (m0 2) q2 8) q2 8)) m0 IM H from hP) (fun k => by
                  by_cases h_0 : k = 0
                  · subst h_0; rfl
                  by_cases h_2 : k = 2
                  · subst h_2; rfl
                  simp only [up, h_0, h_2, if_false]) (fun _ => rfl)
              refine lv_iinc (v := nI (q2 + 1)) (lv' := [(1, .int (nI (q2 + 1))), (0, .ref (a 20))]) C0.1 C0.2.1 dX9_init_126 hl (k := 0) rfl (nI_1 _) (by decide) rfl (fun ls hl => ?_)
              refine lv_goto (tgt := 112) C0.1 C0.2.1 dX9_init_129 (by decide) ?_
              have hP : WQ D cA a (up (up m0 0 (fl (m0 0) 196 5)) 2 (fl (m0 2) (q2 + 1) 8)) m0 IM H := WQ.congr hP (fun k => by
                  by_cases h_0 : k = 0
                  · subst h_0; exact (rfl : (fl (m0 0) 196 5) = (fl (m0 0) 196 5))
                  by_cases h_2 : k = 2
                  · subst h_2; exact (fl_succ _ _ _ : (upd (fl (m0 2) q2 8) q2 8) = (fl (m0 2) (q2 + 1) 8))
                  simp only [up, h_0, h_2, if_false]) (fun _ => rfl)
              exact ih112 (q2 + 1)  (by omega) (by omega)  _ _ _ hP hS (lv_sub hl [0, 1] rfl)
        have hP : WQ D cA a (up (up m0 0 (fl (m0 0) 196 5)) 2 (fl (m0 2) 0 8)) m0 IM H := by rw [fl_zero]; exact WQ.congr hP (fun k => by by_cases h : k = 2 <;> simp [up, h]) (fun _ => rfl)
        exact loop112 (12 + 1) 0  (by omega) (by omega)  _ _ _ hP hS (lv_sub hl [0, 1] rfl)
      · have hlt : i < 196 := Nat.not_le.mp fun q => c_94 (nI_le q (by omega))
        refine lv_aload_n C0.1 C0.2.1 dX9_init_97 rfl (lv_at hl 1 rfl) ?_
        refine g20 C0 hK hP (hd.1 _ (by decide)) 1 (by decide) fl_X9_9 rfl dX9_init_98 ?_
        refine lv_iload_n C0.1 C0.2.1 dX9_init_101 rfl (lv_at hl 0 rfl) ?_
        refine lv_iconst (v := 5) C0.1 C0.2.1 dX9_init_102 (by decide) ?_
        refine mst (k := 0) (by decide) C0 hK hP hS hA (hd.1 _ (by decide)) hd.2.2 (vp_in_nI (show i < 196 by omega) (by decide)) (up (up m0 0 (fl (m0 0) i 5)) 0 (upd (fl (m0 0) i 5) i 5)) m0 (fun q9 => (show upd (fl (m0 0) i 5) i 5 q9 = upd (fl (m0 0) i 5) (nI i).toNatClampNeg 5 q9 by rw [nI_clamp (by omega)])) (fun j9 _ h9 => cm_at (lo := 0) (hi := 1) (fun k9 h8 => up_ne (by omega)) (fun _ => rfl) (by omega) h9) dX9_init_103 (fun H locs hP hS => ?_)
        have hP : WQ D cA a (up m0 0 (upd (fl (m0 0) i 5) i 5)) m0 IM H := WQ.congr (show WQ D cA a (up (up m0 0 (fl (m0 0) i 5)) 0 (upd (fl (m0 0) i 5) i 5)) m0 IM H from hP) (fun k => by
            by_cases h_0 : k = 0
            · subst h_0; rfl
            simp only [up, h_0, if_false]) (fun _ => rfl)
        refine lv_iinc (v := nI (i + 1)) (lv' := [(1, .int (nI (i + 1))), (0, .ref (a 20))]) C0.1 C0.2.1 dX9_init_104 hl (k := 0) rfl (nI_1 _) (by decide) rfl (fun ls hl => ?_)
        refine lv_goto (tgt := 90) C0.1 C0.2.1 dX9_init_107 (by decide) ?_
        have hP : WQ D cA a (up m0 0 (fl (m0 0) (i + 1) 5)) m0 IM H := WQ.congr hP (fun k => by
            by_cases h_0 : k = 0
            · subst h_0; exact (fl_succ _ _ _ : (upd (fl (m0 0) i 5) i 5) = (fl (m0 0) (i + 1) 5))
            simp only [up, h_0, if_false]) (fun _ => rfl)
        exact ih90 (i + 1)  (by omega) (by omega)  _ _ _ hP hS (lv_sub hl [0, 1] rfl)
  have hP : WQ D cA a (up m0 0 (fl (m0 0) 0 5)) m0 IM H := by rw [fl_zero, up_self]; exact hP
  exact loop90 (196 + 1) 0  (by omega) (by omega)  _ _ _ hP hS (lv_sub hl [0, 1] rfl)
