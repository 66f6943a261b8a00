/-- a punt launched -/
def launM (S : Mem) (P : Nat) (x y d q o z : Int32) : Mem := up (up (up (up (up (up (up (up (up S 4 (us (S 4) 6 (nI P) x)) 5 (us (S 5) 6 (nI P) y)) 82 (fun _ => nI P + 1)) 6 (us (S 6) 6 (nI P) d)) 7 (us (S 7) 6 (nI P) q)) 8 (us (S 8) 6 (nI P) o)) 9 (us (S 9) 6 (nI P) z)) 16 (upd (S 16) P (rg (S 3) 8 x))) 17 (upd (S 17) P y)
theorem look2 {x : Int32} (h0 : ¬ x = 0) (h1 : ¬ x = 1) : Op.lookupswitch.offset [(0, 27), (1, 37)] 47 x.toInt = 47 := by
  have e0 : ¬ x.toInt = 0 := fun h => h0 (Int32.toInt_inj.mp h)
  have e1 : ¬ x.toInt = 1 := fun h => h1 (Int32.toInt_inj.mp h)
  simp [Op.lookupswitch.offset, List.find?, Ne.symm e0, Ne.symm e1, eq_comm, e0, e1]
noncomputable def chaS (S : Mem) (P x t : Nat) (w : Int32) : Int32 := if w = 0 then lenM S P x t else if w = 1 then fstM S P x t else if lenM S P x t = -1 then -1 else tolM S P t (nv (lenM S P x t)) x
theorem tol_eq {S X : Mem} {P L u t : Nat} (hLnk : Lnk S P L) (hL8 : L ≤ 8) (hP6 : P ≤ 6) (hCh : ChainsOk S X P) (hu : u < L) (ht : t < L) : (if lenM S P u t = -1 then -1 else rg (ltO S (X 10) P (nI t) (X 12) (lenM S P u t).toNatClampNeg) 8 (nI u)) = if lenM S P u t = -1 then -1 else tolM S P t (nv (lenM S P u t)) u := by
  rcases lenM_val (hLnk.mono hL8) hP6 (show u < 8 by omega) (show t < 8 by omega) with h | ⟨k, h1, h2⟩
  · rw [if_pos h, if_pos h]
  · have hn : ¬ lenM S P u t = -1 := by rw [h2]; exact nI_neg (by omega)
    rw [if_neg hn, if_neg hn, h2, nv_nI (by omega), nI_clamp (by omega), rg_nI (by omega) (by decide)]
    exact ltO_ok (hLnk.mono hL8) hP6 (by omega) (fun y hy => (hCh y hy t (by omega)).1) k h1 k u (Nat.le_refl _) (by omega) h2
noncomputable def opnS (S : Mem) (p : Nat) : Int32 := fndF (fun v => !decide (crsS S p (nI v) = -1)) 0 25
section CLS
variable {p : Program} {l : Launch} {e : Env} {R : Room} {s : State} {m : MethodId} {args : Array Value} {below : List Frame} {meth : Method} {c : Code} {H : Heap} {locs : List Loc} {cells slots : Nat} {Q : State → Prop}
variable {cc : ByteArray} {nL : Nat} {own : String} {pc : Nat} {ls : Array Slot} {rest : List Value} {D : va_G} {cA : ClassId} {a : Adr} {S X : Mem} {I : Nat → Prop} {H0 : Heap} {A0 : Nat → Prop}
set_option maxHeartbeats 4000000 in
set_option maxRecDepth 100000 in
theorem c_X8_launch (l : Launch) (hfl : l.stackTraces = false) (D : va_G) (cA : ClassId) (a : Adr) (S X : Mem) (I : Nat → Prop) (sz : Nat) (hd : Hd nF a I) (x : Int32) (y : Int32) (d : Int32) (q : Int32) (o : Int32) (z : Int32) {P : Nat} {L : Nat} (hnP : S 82 0 = nI P) (hnL : S 81 0 = nI L) (hP6 : P ≤ 6) (hL8 : L ≤ 8) : MXI l yX8_launch cX8_launch 8 (some .int) 7 112 7 42 D cA a S X I sz [.ref (a 89), .int x, .int y, .int d, .int q, .int o, .int z] (fun r S1 X1 => (oneB x (nI L) && oneB y (nI L)) = true ∧ (!decide (x = y) && inB d 1 4 && inB q 2 12 && inB o 1 6 && inB z 0 50) = true ∧ (!decide (6 ≤ nI P)) = true ∧ r = (nI P) ∧ S1 = (launM S P x y d q o z) ∧ X1 = (up (up X 10 ((rkT (launM S P x y d q o z) (P + 1) (fl (X 10) 64 (-1)) (X 11) 8).1)) 11 ((rkT (launM S P x y d q o z) (P + 1) (fl (X 10) 64 (-1)) (X 11) 8).2))) (pxB (oneB x (nI L) && oneB y (nI L)) (!decide (x = y) && inB d 1 4 && inB q 2 12 && inB o 1 6 && inB z 0 50) (!decide (6 ≤ nI P)) S X) := by
  refine mGoX (by decide) (Nat.le_of_ble_eq_true rfl) ?_
  intro p e s m args below meth c ls C0 hr hlk hex h0 hK hX hP hS hl
  obtain ⟨H, hHe⟩ : ∃ H, H = s.heap := ⟨_, rfl⟩
  obtain ⟨locs, hlo⟩ : ∃ L : List Loc, L = [] := ⟨_, rfl⟩
  have hP : WP D cA a S X I H := hHe ▸ hP
  have hS : va_S (AF a I sz) s.heap H locs := by rw [hHe, hlo]; exact hS
  rw [← hHe, ← hlo]
  have hA : ∀ q, AI a I q → AF a I sz q := fun _ h => Or.inl h
  refine lv_iload_n C0.1 C0.2.1 dX8_launch_0 rfl (lv_at hl 1 rfl) ?_
  refine lv_aload_n C0.1 C0.2.1 dX8_launch_1 rfl (lv_at hl 0 rfl) ?_
  refine g89_landings C0 hK hP (hd.1 _ (by decide)) fl_X8_19 dX8_launch_2 ?_
  refine g81_number (v := nI L) C0 hK hP (hd.1 _ (by decide)) fl_X8_127 hnL dX8_launch_5 ?_
  refine k_X8_isOneOf hd s0 C0 hK hP  (v := bI (decide (0 ≤ x) && decide (x < (nI L)))) rfl hS hA hl.1 ml_X8_91 ⟨Nat.le_of_ble_eq_true rfl, Nat.le_of_ble_eq_true rfl⟩ ⟨Nat.le_of_ble_eq_true rfl, Nat.le_of_ble_eq_true rfl⟩ (Nat.le_of_ble_eq_true rfl) dX8_launch_8 (fun H locs hP hS => ?_)
  refine lv_if_eq (tgt := 32) C0.1 C0.2.1 dX8_launch_11 (by decide) (fun c_11 => ?_) (fun c_11 => ?_)
  · have c_11 := bI_eq c_11
    refine lv_iconst (v := 0) C0.1 C0.2.1 dX8_launch_32 (by decide) ?_
    refine k_X8_needIndex (b := false) hfl C0 hlk hex h0 hK hX hP hS hl.1 ml_X8_64 ⟨Nat.le_of_ble_eq_true rfl, Nat.le_of_ble_eq_true rfl⟩ ⟨Nat.le_of_ble_eq_true rfl, Nat.le_of_ble_eq_true rfl⟩ (Nat.le_of_ble_eq_true rfl) (Nat.le_of_ble_eq_true rfl) (Nat.le_of_ble_eq_true rfl) dX8_launch_33 (fun _ => pxB_I (by simp only [c_11, Bool.and_true, Bool.true_and, Bool.and_false, Bool.false_and, Bool.not_true, Bool.not_false])) (fun hb_33 => absurd hb_33 Bool.false_ne_true)
  · have c_11 := bI_ne c_11
    refine lv_iload_n C0.1 C0.2.1 dX8_launch_14 rfl (lv_at hl 2 rfl) ?_
    refine lv_aload_n C0.1 C0.2.1 dX8_launch_15 rfl (lv_at hl 0 rfl) ?_
    refine g89_landings C0 hK hP (hd.1 _ (by decide)) fl_X8_19 dX8_launch_16 ?_
    refine g81_number (v := nI L) C0 hK hP (hd.1 _ (by decide)) fl_X8_127 hnL dX8_launch_19 ?_
    refine k_X8_isOneOf hd s0 C0 hK hP  (v := bI (decide (0 ≤ y) && decide (y < (nI L)))) rfl hS hA hl.1 ml_X8_91 ⟨Nat.le_of_ble_eq_true rfl, Nat.le_of_ble_eq_true rfl⟩ ⟨Nat.le_of_ble_eq_true rfl, Nat.le_of_ble_eq_true rfl⟩ (Nat.le_of_ble_eq_true rfl) dX8_launch_22 (fun H locs hP hS => ?_)
    refine lv_if_eq (tgt := 32) C0.1 C0.2.1 dX8_launch_25 (by decide) (fun c_25 => ?_) (fun c_25 => ?_)
    · have c_25 := bI_eq c_25
      refine lv_iconst (v := 0) C0.1 C0.2.1 dX8_launch_32 (by decide) ?_
      refine k_X8_needIndex (b := false) hfl C0 hlk hex h0 hK hX hP hS hl.1 ml_X8_64 ⟨Nat.le_of_ble_eq_true rfl, Nat.le_of_ble_eq_true rfl⟩ ⟨Nat.le_of_ble_eq_true rfl, Nat.le_of_ble_eq_true rfl⟩ (Nat.le_of_ble_eq_true rfl) (Nat.le_of_ble_eq_true rfl) (Nat.le_of_ble_eq_true rfl) dX8_launch_33 (fun _ => pxB_I (by simp only [c_11, c_25, Bool.and_true, Bool.true_and, Bool.and_false, Bool.false_and, Bool.not_true, Bool.not_false])) (fun hb_33 => absurd hb_33 Bool.false_ne_true)
    · have c_25 := bI_ne c_25
      refine lv_iconst (v := 1) C0.1 C0.2.1 dX8_launch_28 (by decide) ?_
      refine lv_goto (tgt := 33) C0.1 C0.2.1 dX8_launch_29 (by decide) ?_
      refine k_X8_needIndex (b := true) hfl C0 hlk hex h0 hK hX hP hS hl.1 ml_X8_64 ⟨Nat.le_of_ble_eq_true rfl, Nat.le_of_ble_eq_true rfl⟩ ⟨Nat.le_of_ble_eq_true rfl, Nat.le_of_ble_eq_true rfl⟩ (Nat.le_of_ble_eq_true rfl) (Nat.le_of_ble_eq_true rfl) (Nat.le_of_ble_eq_true rfl) dX8_launch_33 (fun hb => absurd hb.symm Bool.false_ne_true) (fun hb_33 H locs hP hS => ?_)
      refine lv_iload_n C0.1 C0.2.1 dX8_launch_36 rfl (lv_at hl 1 rfl) ?_
      refine lv_iload_n C0.1 C0.2.1 dX8_launch_37 rfl (lv_at hl 2 rfl) ?_
      refine lv_icmp_eq (tgt := 45) C0.1 C0.2.1 dX8_launch_38 (by decide) (fun c_38 => ?_) (fun c_38 => ?_)
      · refine lv_iconst (v := 0) C0.1 C0.2.1 dX8_launch_45 (by decide) ?_
        refine k_X8_needArgument (b := false) hfl C0 hlk hex h0 hK hX hP hS hl.1 ml_X8_72 ⟨Nat.le_of_ble_eq_true rfl, Nat.le_of_ble_eq_true rfl⟩ ⟨Nat.le_of_ble_eq_true rfl, Nat.le_of_ble_eq_true rfl⟩ (Nat.le_of_ble_eq_true rfl) (Nat.le_of_ble_eq_true rfl) (Nat.le_of_ble_eq_true rfl) dX8_launch_46 (fun _ => pxB_A (by simp only [c_11, c_25, decide_eq_true c_38, Bool.and_true, Bool.true_and, Bool.and_false, Bool.false_and, Bool.not_true, Bool.not_false]) (by simp only [c_11, c_25, decide_eq_true c_38, Bool.and_true, Bool.true_and, Bool.and_false, Bool.false_and, Bool.not_true, Bool.not_false])) (fun hb_46 => absurd hb_46 Bool.false_ne_true)
      · refine lv_iconst (v := 1) C0.1 C0.2.1 dX8_launch_41 (by decide) ?_
        refine lv_goto (tgt := 46) C0.1 C0.2.1 dX8_launch_42 (by decide) ?_
        refine k_X8_needArgument (b := true) hfl C0 hlk hex h0 hK hX hP hS hl.1 ml_X8_72 ⟨Nat.le_of_ble_eq_true rfl, Nat.le_of_ble_eq_true rfl⟩ ⟨Nat.le_of_ble_eq_true rfl, Nat.le_of_ble_eq_true rfl⟩ (Nat.le_of_ble_eq_true rfl) (Nat.le_of_ble_eq_true rfl) (Nat.le_of_ble_eq_true rfl) dX8_launch_46 (fun hb => absurd hb.symm Bool.false_ne_true) (fun hb_46 H locs hP hS => ?_)
        refine lv_iload_n C0.1 C0.2.1 dX8_launch_49 rfl (lv_at hl 3 rfl) ?_
        refine lv_iconst (v := 1) C0.1 C0.2.1 dX8_launch_50 (by decide) ?_
        refine lv_iconst (v := 4) C0.1 C0.2.1 dX8_launch_51 (by decide) ?_
        refine k_X8_within hd s0 C0 hK hP  (v := bI (decide (1 ≤ d) && decide (d ≤ 4))) rfl hS hA hl.1 ml_X8_68 ⟨Nat.le_of_ble_eq_true rfl, Nat.le_of_ble_eq_true rfl⟩ ⟨Nat.le_of_ble_eq_true rfl, Nat.le_of_ble_eq_true rfl⟩ (Nat.le_of_ble_eq_true rfl) dX8_launch_52 (fun H locs hP hS => ?_)
        refine k_X8_needArgument (b := (decide (1 ≤ d) && decide (d ≤ 4))) hfl C0 hlk hex h0 hK hX hP hS hl.1 ml_X8_72 ⟨Nat.le_of_ble_eq_true rfl, Nat.le_of_ble_eq_true rfl⟩ ⟨Nat.le_of_ble_eq_true rfl, Nat.le_of_ble_eq_true rfl⟩ (Nat.le_of_ble_eq_true rfl) (Nat.le_of_ble_eq_true rfl) (Nat.le_of_ble_eq_true rfl) dX8_launch_55 (fun hb => pxB_A (by simp only [c_11, c_25, decide_eq_false c_38, Bool.and_true, Bool.true_and, Bool.and_false, Bool.false_and, Bool.not_true, Bool.not_false, hb]) (by simp only [c_11, c_25, decide_eq_false c_38, Bool.and_true, Bool.true_and, Bool.and_false, Bool.false_and, Bool.not_true, Bool.not_false, hb])) (fun hb_55 H locs hP hS => ?_)
        refine lv_iload C0.1 C0.2.1 dX8_launch_58 (lv_at hl 4 rfl) ?_
        refine lv_iconst (v := 2) C0.1 C0.2.1 dX8_launch_60 (by decide) ?_
        refine lv_bipush (v := 12) C0.1 C0.2.1 dX8_launch_61 (by decide) ?_
        refine k_X8_within hd s0 C0 hK hP  (v := bI (decide (2 ≤ q) && decide (q ≤ 12))) rfl hS hA hl.1 ml_X8_68 ⟨Nat.le_of_ble_eq_true rfl, Nat.le_of_ble_eq_true rfl⟩ ⟨Nat.le_of_ble_eq_true rfl, Nat.le_of_ble_eq_true rfl⟩ (Nat.le_of_ble_eq_true rfl) dX8_launch_63 (fun H locs hP hS => ?_)
        refine k_X8_needArgument (b := (decide (2 ≤ q) && decide (q ≤ 12))) hfl C0 hlk hex h0 hK hX hP hS hl.1 ml_X8_72 ⟨Nat.le_of_ble_eq_true rfl, Nat.le_of_ble_eq_true rfl⟩ ⟨Nat.le_of_ble_eq_true rfl, Nat.le_of_ble_eq_true rfl⟩ (Nat.le_of_ble_eq_true rfl) (Nat.le_of_ble_eq_true rfl) (Nat.le_of_ble_eq_true rfl) dX8_launch_66 (fun hb => pxB_A (by simp only [c_11, c_25, decide_eq_false c_38, hb_55, Bool.and_true, Bool.true_and, Bool.and_false, Bool.false_and, Bool.not_true, Bool.not_false, hb]) (by simp only [c_11, c_25, decide_eq_false c_38, hb_55, Bool.and_true, Bool.true_and, Bool.and_false, Bool.false_and, Bool.not_true, Bool.not_false, hb])) (fun hb_66 H locs hP hS => ?_)
        refine lv_iload C0.1 C0.2.1 dX8_launch_69 (lv_at hl 5 rfl) ?_
        refine lv_iconst (v := 1) C0.1 C0.2.1 dX8_launch_71 (by decide) ?_
        refine lv_bipush (v := 6) C0.1 C0.2.1 dX8_launch_72 (by decide) ?_
        refine k_X8_within hd s0 C0 hK hP  (v := bI (decide (1 ≤ o) && decide (o ≤ 6))) rfl hS hA hl.1 ml_X8_68 ⟨Nat.le_of_ble_eq_true rfl, Nat.le_of_ble_eq_true rfl⟩ ⟨Nat.le_of_ble_eq_true rfl, Nat.le_of_ble_eq_true rfl⟩ (Nat.le_of_ble_eq_true rfl) dX8_launch_74 (fun H locs hP hS => ?_)
        refine k_X8_needArgument (b := (decide (1 ≤ o) && decide (o ≤ 6))) hfl C0 hlk hex h0 hK hX hP hS hl.1 ml_X8_72 ⟨Nat.le_of_ble_eq_true rfl, Nat.le_of_ble_eq_true rfl⟩ ⟨Nat.le_of_ble_eq_true rfl, Nat.le_of_ble_eq_true rfl⟩ (Nat.le_of_ble_eq_true rfl) (Nat.le_of_ble_eq_true rfl) (Nat.le_of_ble_eq_true rfl) dX8_launch_77 (fun hb => pxB_A (by simp only [c_11, c_25, decide_eq_false c_38, hb_55, hb_66, Bool.and_true, Bool.true_and, Bool.and_false, Bool.false_and, Bool.not_true, Bool.not_false, hb]) (by simp only [c_11, c_25, decide_eq_false c_38, hb_55, hb_66, Bool.and_true, Bool.true_and, Bool.and_false, Bool.false_and, Bool.not_true, Bool.not_false, hb])) (fun hb_77 H locs hP hS => ?_)
        refine lv_iload C0.1 C0.2.1 dX8_launch_80 (lv_at hl 6 rfl) ?_
        refine lv_iconst (v := 0) C0.1 C0.2.1 dX8_launch_82 (by decide) ?_
        refine lv_bipush (v := 50) C0.1 C0.2.1 dX8_launch_83 (by decide) ?_
        refine k_X8_within hd s0 C0 hK hP  (v := bI (decide (0 ≤ z) && decide (z ≤ 50))) rfl hS hA hl.1 ml_X8_68 ⟨Nat.le_of_ble_eq_true rfl, Nat.le_of_ble_eq_true rfl⟩ ⟨Nat.le_of_ble_eq_true rfl, Nat.le_of_ble_eq_true rfl⟩ (Nat.le_of_ble_eq_true rfl) dX8_launch_85 (fun H locs hP hS => ?_)
        refine k_X8_needArgument (b := (decide (0 ≤ z) && decide (z ≤ 50))) hfl C0 hlk hex h0 hK hX hP hS hl.1 ml_X8_72 ⟨Nat.le_of_ble_eq_true rfl, Nat.le_of_ble_eq_true rfl⟩ ⟨Nat.le_of_ble_eq_true rfl, Nat.le_of_ble_eq_true rfl⟩ (Nat.le_of_ble_eq_true rfl) (Nat.le_of_ble_eq_true rfl) (Nat.le_of_ble_eq_true rfl) dX8_launch_88 (fun hb => pxB_A (by simp only [c_11, c_25, decide_eq_false c_38, hb_55, hb_66, hb_77, Bool.and_true, Bool.true_and, Bool.and_false, Bool.false_and, Bool.not_true, Bool.not_false, hb]) (by simp only [c_11, c_25, decide_eq_false c_38, hb_55, hb_66, hb_77, Bool.and_true, Bool.true_and, Bool.and_false, Bool.false_and, Bool.not_true, Bool.not_false, hb])) (fun hb_88 H locs hP hS => ?_)
        refine lv_aload_n C0.1 C0.2.1 dX8_launch_91 rfl (lv_at hl 0 rfl) ?_
        refine g89_fleet C0 hK hP (hd.1 _ (by decide)) fl_X8_26 dX8_launch_92 ?_
        refine g82_number (v := nI P) C0 hK hP (hd.1 _ (by decide)) fl_X8_120 hnP dX8_launch_95 ?_
        refine lv_bipush (v := 6) C0.1 C0.2.1 dX8_launch_98 (by decide) ?_
        refine lv_icmp_ge (tgt := 107) C0.1 C0.2.1 dX8_launch_100 (by decide) (fun c_100 => ?_) (fun c_100 => ?_)
        · refine lv_iconst (v := 0) C0.1 C0.2.1 dX8_launch_107 (by decide) ?_
          refine k_X8_needState (b := false) hfl C0 hlk hex h0 hK hX hP hS hl.1 ml_X8_128 ⟨Nat.le_of_ble_eq_true rfl, Nat.le_of_ble_eq_true rfl⟩ ⟨Nat.le_of_ble_eq_true rfl, Nat.le_of_ble_eq_true rfl⟩ (Nat.le_of_ble_eq_true rfl) (Nat.le_of_ble_eq_true rfl) (Nat.le_of_ble_eq_true rfl) dX8_launch_108 (fun _ => pxB_S (by simp only [c_11, c_25, decide_eq_false c_38, hb_55, hb_66, hb_77, hb_88, decide_eq_true c_100, Bool.and_true, Bool.true_and, Bool.and_false, Bool.false_and, Bool.not_true, Bool.not_false]) (by simp only [c_11, c_25, decide_eq_false c_38, hb_55, hb_66, hb_77, hb_88, decide_eq_true c_100, Bool.and_true, Bool.true_and, Bool.and_false, Bool.false_and, Bool.not_true, Bool.not_false]) (by simp only [c_11, c_25, decide_eq_false c_38, hb_55, hb_66, hb_77, hb_88, decide_eq_true c_100, Bool.and_true, Bool.true_and, Bool.and_false, Bool.false_and, Bool.not_true, Bool.not_false])) (fun hb_108 => absurd hb_108 Bool.false_ne_true)
        · refine lv_iconst (v := 1) C0.1 C0.2.1 dX8_launch_103 (by decide) ?_
          refine lv_goto (tgt := 108) C0.1 C0.2.1 dX8_launch_104 (by decide) ?_
          refine k_X8_needState (b := true) hfl C0 hlk hex h0 hK hX hP hS hl.1 ml_X8_128 ⟨Nat.le_of_ble_eq_true rfl, Nat.le_of_ble_eq_true rfl⟩ ⟨Nat.le_of_ble_eq_true rfl, Nat.le_of_ble_eq_true rfl⟩ (Nat.le_of_ble_eq_true rfl) (Nat.le_of_ble_eq_true rfl) (Nat.le_of_ble_eq_true rfl) dX8_launch_108 (fun hb => absurd hb.symm Bool.false_ne_true) (fun hb_108 H locs hP hS => ?_)
          have hPlt : P < 6 := Nat.not_le.mp fun q => c_100 (nI_le q (by omega))
          refine lv_aload_n C0.1 C0.2.1 dX8_launch_111 rfl (lv_at hl 0 rfl) ?_
          refine g89_fleet C0 hK hP (hd.1 _ (by decide)) fl_X8_26 dX8_launch_112 ?_
          refine lv_iload_n C0.1 C0.2.1 dX8_launch_115 rfl (lv_at hl 1 rfl) ?_
          refine lv_iload_n C0.1 C0.2.1 dX8_launch_116 rfl (lv_at hl 2 rfl) ?_
          refine k_X2_add hd sTF C0 hK hP  (v := nI P) hnP hS hA hl.1 ml_X8_134 ⟨Nat.le_of_ble_eq_true rfl, Nat.le_of_ble_eq_true rfl⟩ ⟨Nat.le_of_ble_eq_true rfl, Nat.le_of_ble_eq_true rfl⟩ (Nat.le_of_ble_eq_true rfl) dX8_launch_117 (fun H locs hP hS => ?_)
          have hP : WP D cA a (up (up (up S 4 (us (S 4) 6 ((S 82) 0) x)) 5 (us (S 5) 6 ((S 82) 0) y)) 82 (fun _ => (S 82) 0 + 1)) X I H := hP
          rw [hnP] at hP
          have hP : WP D cA a (up (up (up S 4 (us (S 4) 6 (nI P) x)) 5 (us (S 5) 6 (nI P) y)) 82 (fun _ => nI P + 1)) X I H := hP
          refine lv_istore (lv' := [(7, .int (nI P)), (0, .ref (a 89)), (1, .int x), (2, .int y), (3, .int d), (4, .int q), (5, .int o), (6, .int z)]) C0.1 C0.2.1 dX8_launch_120 hl (by decide) rfl (fun ls hl => ?_)
          refine lv_aload_n C0.1 C0.2.1 dX8_launch_122 rfl (lv_at hl 1 rfl) ?_
          refine g89_fleet C0 hK hP (hd.1 _ (by decide)) fl_X8_26 dX8_launch_123 ?_
          refine lv_iload C0.1 C0.2.1 dX8_launch_126 (lv_at hl 0 rfl) ?_
          refine lv_iload_n C0.1 C0.2.1 dX8_launch_128 rfl (lv_at hl 4 rfl) ?_
          refine lv_iload C0.1 C0.2.1 dX8_launch_129 (lv_at hl 5 rfl) ?_
          refine lv_iload C0.1 C0.2.1 dX8_launch_131 (lv_at hl 6 rfl) ?_
          refine lv_iload C0.1 C0.2.1 dX8_launch_133 (lv_at hl 7 rfl) ?_
          refine k_X2_fitOut hd sTF C0 hK hP  hS hA hl.1 ml_X8_136 ⟨Nat.le_of_ble_eq_true rfl, Nat.le_of_ble_eq_true rfl⟩ ⟨Nat.le_of_ble_eq_true rfl, Nat.le_of_ble_eq_true rfl⟩ (Nat.le_of_ble_eq_true rfl) dX8_launch_135 (fun H locs hP hS => ?_)
          have hP : WP D cA a (up (up (up (up (up (up (up S 4 (us (S 4) 6 (nI P) x)) 5 (us (S 5) 6 (nI P) y)) 82 (fun _ => nI P + 1)) 6 (us (S 6) 6 (nI P) d)) 7 (us (S 7) 6 (nI P) q)) 8 (us (S 8) 6 (nI P) o)) 9 (us (S 9) 6 (nI P) z)) X I H := hP
          refine lv_aload_n C0.1 C0.2.1 dX8_launch_138 rfl (lv_at hl 1 rfl) ?_
          refine g89_now C0 hK hP (hd.1 _ (by decide)) fl_X8_53 dX8_launch_139 ?_
          refine lv_iload C0.1 C0.2.1 dX8_launch_142 (lv_at hl 0 rfl) ?_
          refine lv_aload_n C0.1 C0.2.1 dX8_launch_144 rfl (lv_at hl 1 rfl) ?_
          refine g89_landings C0 hK hP (hd.1 _ (by decide)) fl_X8_19 dX8_launch_145 ?_
          refine g81_cell C0 hK hP (hd.1 _ (by decide)) fl_X8_140 dX8_launch_148 ?_
          refine lv_iload_n C0.1 C0.2.1 dX8_launch_151 rfl (lv_at hl 2 rfl) ?_
          refine k_X5_get (v := rg (S 3) 8 x) 3 (by decide) hd (by decide) (by decide) C0 hK hP rfl hS hA hl.1 ml_X8_104 ⟨Nat.le_of_ble_eq_true rfl, Nat.le_of_ble_eq_true rfl⟩ ⟨Nat.le_of_ble_eq_true rfl, Nat.le_of_ble_eq_true rfl⟩ (Nat.le_of_ble_eq_true rfl) dX8_launch_152 (fun H locs hP hS => ?_)
          refine lv_iload_n C0.1 C0.2.1 dX8_launch_155 rfl (lv_at hl 3 rfl) ?_
          refine k_X6_place hd sTF C0 hK hP (by omega) hS hA hl.1 ml_X8_141 ⟨Nat.le_of_ble_eq_true rfl, Nat.le_of_ble_eq_true rfl⟩ ⟨Nat.le_of_ble_eq_true rfl, Nat.le_of_ble_eq_true rfl⟩ (Nat.le_of_ble_eq_true rfl) dX8_launch_156 (fun H locs hP hS => ?_)
          have hP : WP D cA a (up (up (up (up (up (up (up (up (up S 4 (us (S 4) 6 (nI P) x)) 5 (us (S 5) 6 (nI P) y)) 82 (fun _ => nI P + 1)) 6 (us (S 6) 6 (nI P) d)) 7 (us (S 7) 6 (nI P) q)) 8 (us (S 8) 6 (nI P) o)) 9 (us (S 9) 6 (nI P) z)) 16 (upd (S 16) P (rg (S 3) 8 x))) 17 (upd (S 17) P y)) X I H := hP
          have hP : WP D cA a (launM S P x y d q o z) X I H := hP
          refine lv_aload_n C0.1 C0.2.1 dX8_launch_159 rfl (lv_at hl 1 rfl) ?_
          refine g89_chains C0 hK hP (hd.1 _ (by decide)) fl_X8_35 dX8_launch_160 ?_
          refine k_X0_reckon (P := P + 1) hd sCF C0 hK hP (show _ = _ from nI_1 P) (by omega) hS hA hl.1 ml_X8_145 ⟨Nat.le_of_ble_eq_true rfl, Nat.le_of_ble_eq_true rfl⟩ ⟨Nat.le_of_ble_eq_true rfl, Nat.le_of_ble_eq_true rfl⟩ (Nat.le_of_ble_eq_true rfl) dX8_launch_163 (fun H locs hP hS => ?_)
          have hP : WP D cA a (launM S P x y d q o z) (up (up X 10 ((rkT (launM S P x y d q o z) (P + 1) (fl (X 10) 64 (-1)) (X 11) 8).1)) 11 ((rkT (launM S P x y d q o z) (P + 1) (fl (X 10) 64 (-1)) (X 11) 8).2)) I H := hP
          refine lv_iload C0.1 C0.2.1 dX8_launch_166 (lv_at hl 0 rfl) ?_
          exact retXI C0 hr hlk hP hS (Nat.le_of_ble_eq_true rfl) (Nat.le_of_ble_eq_true rfl) ⟨by simp only [c_11, c_25, decide_eq_false c_38, hb_55, hb_66, hb_77, hb_88, decide_eq_false c_100, Bool.and_true, Bool.true_and, Bool.and_false, Bool.false_and, Bool.not_true, Bool.not_false], by simp only [c_11, c_25, decide_eq_false c_38, hb_55, hb_66, hb_77, hb_88, decide_eq_false c_100, Bool.and_true, Bool.true_and, Bool.and_false, Bool.false_and, Bool.not_true, Bool.not_false], by simp only [c_11, c_25, decide_eq_false c_38, hb_55, hb_66, hb_77, hb_88, decide_eq_false c_100, Bool.and_true, Bool.true_and, Bool.and_false, Bool.false_and, Bool.not_true, Bool.not_false], rfl, rfl, rfl⟩ dX8_launch_168
set_option maxHeartbeats 4000000 in
set_option maxRecDepth 100000 in
theorem c_X8_chain (l : Launch) (hfl : l.stackTraces = false) (D : va_G) (cA : ClassId) (a : Adr) (S X : Mem) (I : Nat → Prop) (sz : Nat) (hd : Hd nF a I) (x : Int32) (y : Int32) (w : Int32) {P : Nat} {L : Nat} (hnP : S 82 0 = nI P) (hnL : S 81 0 = nI L) (hCh : ChainsOk S X P) (hTW : TW S P L) : MXI l yX8_chain cX8_chain 4 (some .int) 7 116 2 12 D cA a S X I sz [.ref (a 89), .int x, .int y, .int w] (fun r S1 X1 => (oneB x (nI L) && oneB y (nI L) && oneB w 3) = true ∧ (true) = true ∧ (true) = true ∧ r = (chaS S P (nv x) (nv y) w) ∧ S1 = S ∧ (∀ k, k ≠ 12 → X1 k = X k)) (pxB (oneB x (nI L) && oneB y (nI L) && oneB w 3) (true) (true) S X) := by
  refine mGoX (by decide) (Nat.le_of_ble_eq_true rfl) ?_
  intro p e s m args below meth c ls C0 hr hlk hex h0 hK hX hP hS hl
  obtain ⟨H, hHe⟩ : ∃ H, H = s.heap := ⟨_, rfl⟩
  obtain ⟨locs, hlo⟩ : ∃ L : List Loc, L = [] := ⟨_, rfl⟩
  have hP : WP D cA a S X I H := hHe ▸ hP
  have hS : va_S (AF a I sz) s.heap H locs := by rw [hHe, hlo]; exact hS
  rw [← hHe, ← hlo]
  have hA : ∀ q, AI a I q → AF a I sz q := fun _ h => Or.inl h
  obtain ⟨hLnk, hP6, hL8, h17, h16, h8, h3, h2⟩ := id hTW
  refine lv_iload_n C0.1 C0.2.1 dX8_chain_0 rfl (lv_at hl 1 rfl) ?_
  refine lv_aload_n C0.1 C0.2.1 dX8_chain_1 rfl (lv_at hl 0 rfl) ?_
  refine g89_landings C0 hK hP (hd.1 _ (by decide)) fl_X8_19 dX8_chain_2 ?_
  refine g81_number (v := nI L) C0 hK hP (hd.1 _ (by decide)) fl_X8_127 hnL dX8_chain_5 ?_
  refine k_X8_isOneOf hd s0 C0 hK hP  (v := bI (decide (0 ≤ x) && decide (x < (nI L)))) rfl hS hA hl.1 ml_X8_91 ⟨Nat.le_of_ble_eq_true rfl, Nat.le_of_ble_eq_true rfl⟩ ⟨Nat.le_of_ble_eq_true rfl, Nat.le_of_ble_eq_true rfl⟩ (Nat.le_of_ble_eq_true rfl) dX8_chain_8 (fun H locs hP hS => ?_)
  refine lv_if_eq (tgt := 32) C0.1 C0.2.1 dX8_chain_11 (by decide) (fun c_11 => ?_) (fun c_11 => ?_)
  · have c_11 := bI_eq c_11
    refine lv_iconst (v := 0) C0.1 C0.2.1 dX8_chain_32 (by decide) ?_
    refine k_X8_needIndex (b := false) hfl C0 hlk hex h0 hK hX hP hS hl.1 ml_X8_64 ⟨Nat.le_of_ble_eq_true rfl, Nat.le_of_ble_eq_true rfl⟩ ⟨Nat.le_of_ble_eq_true rfl, Nat.le_of_ble_eq_true rfl⟩ (Nat.le_of_ble_eq_true rfl) (Nat.le_of_ble_eq_true rfl) (Nat.le_of_ble_eq_true rfl) dX8_chain_33 (fun _ => pxB_I (by simp only [c_11, Bool.and_true, Bool.true_and, Bool.and_false, Bool.false_and, Bool.not_true, Bool.not_false])) (fun hb_33 => absurd hb_33 Bool.false_ne_true)
  · have c_11 := bI_ne c_11
    refine lv_iload_n C0.1 C0.2.1 dX8_chain_14 rfl (lv_at hl 2 rfl) ?_
    refine lv_aload_n C0.1 C0.2.1 dX8_chain_15 rfl (lv_at hl 0 rfl) ?_
    refine g89_landings C0 hK hP (hd.1 _ (by decide)) fl_X8_19 dX8_chain_16 ?_
    refine g81_number (v := nI L) C0 hK hP (hd.1 _ (by decide)) fl_X8_127 hnL dX8_chain_19 ?_
    refine k_X8_isOneOf hd s0 C0 hK hP  (v := bI (decide (0 ≤ y) && decide (y < (nI L)))) rfl hS hA hl.1 ml_X8_91 ⟨Nat.le_of_ble_eq_true rfl, Nat.le_of_ble_eq_true rfl⟩ ⟨Nat.le_of_ble_eq_true rfl, Nat.le_of_ble_eq_true rfl⟩ (Nat.le_of_ble_eq_true rfl) dX8_chain_22 (fun H locs hP hS => ?_)
    refine lv_if_eq (tgt := 32) C0.1 C0.2.1 dX8_chain_25 (by decide) (fun c_25 => ?_) (fun c_25 => ?_)
    · have c_25 := bI_eq c_25
      refine lv_iconst (v := 0) C0.1 C0.2.1 dX8_chain_32 (by decide) ?_
      refine k_X8_needIndex (b := false) hfl C0 hlk hex h0 hK hX hP hS hl.1 ml_X8_64 ⟨Nat.le_of_ble_eq_true rfl, Nat.le_of_ble_eq_true rfl⟩ ⟨Nat.le_of_ble_eq_true rfl, Nat.le_of_ble_eq_true rfl⟩ (Nat.le_of_ble_eq_true rfl) (Nat.le_of_ble_eq_true rfl) (Nat.le_of_ble_eq_true rfl) dX8_chain_33 (fun _ => pxB_I (by simp only [c_11, c_25, Bool.and_true, Bool.true_and, Bool.and_false, Bool.false_and, Bool.not_true, Bool.not_false])) (fun hb_33 => absurd hb_33 Bool.false_ne_true)
    · have c_25 := bI_ne c_25
      refine lv_iconst (v := 1) C0.1 C0.2.1 dX8_chain_28 (by decide) ?_
      refine lv_goto (tgt := 33) C0.1 C0.2.1 dX8_chain_29 (by decide) ?_
      refine k_X8_needIndex (b := true) hfl C0 hlk hex h0 hK hX hP hS hl.1 ml_X8_64 ⟨Nat.le_of_ble_eq_true rfl, Nat.le_of_ble_eq_true rfl⟩ ⟨Nat.le_of_ble_eq_true rfl, Nat.le_of_ble_eq_true rfl⟩ (Nat.le_of_ble_eq_true rfl) (Nat.le_of_ble_eq_true rfl) (Nat.le_of_ble_eq_true rfl) dX8_chain_33 (fun hb => absurd hb.symm Bool.false_ne_true) (fun hb_33 H locs hP hS => ?_)
      refine lv_iload_n C0.1 C0.2.1 dX8_chain_36 rfl (lv_at hl 3 rfl) ?_
      refine lv_iconst (v := 3) C0.1 C0.2.1 dX8_chain_37 (by decide) ?_
      refine k_X8_isOneOf hd s0 C0 hK hP  (v := bI (decide (0 ≤ w) && decide (w < 3))) rfl hS hA hl.1 ml_X8_91 ⟨Nat.le_of_ble_eq_true rfl, Nat.le_of_ble_eq_true rfl⟩ ⟨Nat.le_of_ble_eq_true rfl, Nat.le_of_ble_eq_true rfl⟩ (Nat.le_of_ble_eq_true rfl) dX8_chain_38 (fun H locs hP hS => ?_)
      refine k_X8_needIndex (b := (decide (0 ≤ w) && decide (w < 3))) hfl C0 hlk hex h0 hK hX hP hS hl.1 ml_X8_64 ⟨Nat.le_of_ble_eq_true rfl, Nat.le_of_ble_eq_true rfl⟩ ⟨Nat.le_of_ble_eq_true rfl, Nat.le_of_ble_eq_true rfl⟩ (Nat.le_of_ble_eq_true rfl) (Nat.le_of_ble_eq_true rfl) (Nat.le_of_ble_eq_true rfl) dX8_chain_41 (fun hb => pxB_I (by simp only [c_11, c_25, Bool.and_true, Bool.true_and, Bool.and_false, Bool.false_and, Bool.not_true, Bool.not_false, hb])) (fun hb_41 H locs hP hS => ?_)
      obtain ⟨u, hu, hxe⟩ := one_nat (n := L) (by omega) (show oneB x (nI L) = true from c_11)
      subst hxe
      obtain ⟨u2, hu2, hxe2⟩ := one_nat (n := L) (by omega) (show oneB y (nI L) = true from c_25)
      subst hxe2
      have hlen : lnI (X 10) (nI u) (nI u2) = lenM S P u u2 := (lnI_at (by omega) (by omega)).trans (hCh u (by omega) u2 (by omega)).1
      have hfst : lnI (X 11) (nI u) (nI u2) = fstM S P u u2 := (lnI_at (by omega) (by omega)).trans (hCh u (by omega) u2 (by omega)).2
      have hq : lnI (X 10) (nI u) (nI u2) = -1 ∨ ∃ w, w ≤ 64 ∧ lnI (X 10) (nI u) (nI u2) = nI w := by rw [hlen]; rcases lenM_val (hLnk.mono hL8) hP6 (show u < 8 by omega) (show u2 < 8 by omega) with h | ⟨k, h1, h2⟩; exact Or.inl h; exact Or.inr ⟨k, by omega, h2⟩
      refine lv_iload_n C0.1 C0.2.1 dX8_chain_44 rfl (lv_at hl 3 rfl) ?_
      by_cases k_45_0 : w = 0
      · refine lv_lookup (off := 27) (tgt := 72) C0.1 C0.2.1 dX8_chain_45 (by decide) (by rw [k_45_0]; decide) (by decide) ?_
        refine lv_aload_n C0.1 C0.2.1 dX8_chain_72 rfl (lv_at hl 0 rfl) ?_
        refine g89_chains C0 hK hP (hd.1 _ (by decide)) fl_X8_35 dX8_chain_73 ?_
        refine lv_iload_n C0.1 C0.2.1 dX8_chain_76 rfl (lv_at hl 1 rfl) ?_
        refine lv_iload_n C0.1 C0.2.1 dX8_chain_77 rfl (lv_at hl 2 rfl) ?_
        refine k_X0_length hd sCF C0 hK hP  (v := lenM S P u u2) hlen hS hA hl.1 ml_X8_264 ⟨Nat.le_of_ble_eq_true rfl, Nat.le_of_ble_eq_true rfl⟩ ⟨Nat.le_of_ble_eq_true rfl, Nat.le_of_ble_eq_true rfl⟩ (Nat.le_of_ble_eq_true rfl) dX8_chain_78 (fun H locs hP hS => ?_)
        exact retXI C0 hr hlk hP hS (Nat.le_of_ble_eq_true rfl) (Nat.le_of_ble_eq_true rfl) ⟨by simp only [c_11, c_25, hb_41, Bool.and_true, Bool.true_and, Bool.and_false, Bool.false_and, Bool.not_true, Bool.not_false], by simp only [c_11, c_25, hb_41, Bool.and_true, Bool.true_and, Bool.and_false, Bool.false_and, Bool.not_true, Bool.not_false], by simp only [c_11, c_25, hb_41, Bool.and_true, Bool.true_and, Bool.and_false, Bool.false_and, Bool.not_true, Bool.not_false], by unfold chaS; rw [nv_nI (by omega), nv_nI (by omega), k_45_0]; rfl, rfl, fun _ _ => rfl⟩ dX8_chain_81
      by_cases k_45_1 : w = 1
      · refine lv_lookup (off := 37) (tgt := 82) C0.1 C0.2.1 dX8_chain_45 (by decide) (by rw [k_45_1]; decide) (by decide) ?_
        refine lv_aload_n C0.1 C0.2.1 dX8_chain_82 rfl (lv_at hl 0 rfl) ?_
        refine g89_chains C0 hK hP (hd.1 _ (by decide)) fl_X8_35 dX8_chain_83 ?_
        refine lv_iload_n C0.1 C0.2.1 dX8_chain_86 rfl (lv_at hl 1 rfl) ?_
        refine lv_iload_n C0.1 C0.2.1 dX8_chain_87 rfl (lv_at hl 2 rfl) ?_
        refine k_X0_firstPunt hd sCF C0 hK hP  (v := fstM S P u u2) hfst hS hA hl.1 ml_X8_267 ⟨Nat.le_of_ble_eq_true rfl, Nat.le_of_ble_eq_true rfl⟩ ⟨Nat.le_of_ble_eq_true rfl, Nat.le_of_ble_eq_true rfl⟩ (Nat.le_of_ble_eq_true rfl) dX8_chain_88 (fun H locs hP hS => ?_)
        exact retXI C0 hr hlk hP hS (Nat.le_of_ble_eq_true rfl) (Nat.le_of_ble_eq_true rfl) ⟨by simp only [c_11, c_25, hb_41, Bool.and_true, Bool.true_and, Bool.and_false, Bool.false_and, Bool.not_true, Bool.not_false], by simp only [c_11, c_25, hb_41, Bool.and_true, Bool.true_and, Bool.and_false, Bool.false_and, Bool.not_true, Bool.not_false], by simp only [c_11, c_25, hb_41, Bool.and_true, Bool.true_and, Bool.and_false, Bool.false_and, Bool.not_true, Bool.not_false], by unfold chaS; rw [nv_nI (by omega), nv_nI (by omega), k_45_1]; rfl, rfl, fun _ _ => rfl⟩ dX8_chain_91
      refine lv_lookup (off := 47) (tgt := 92) C0.1 C0.2.1 dX8_chain_45 (by decide) (look2 k_45_0 k_45_1) (by decide) ?_
      refine lv_aload_n C0.1 C0.2.1 dX8_chain_92 rfl (lv_at hl 0 rfl) ?_
      refine g89_chains C0 hK hP (hd.1 _ (by decide)) fl_X8_35 dX8_chain_93 ?_
      refine lv_iload_n C0.1 C0.2.1 dX8_chain_96 rfl (lv_at hl 1 rfl) ?_
      refine lv_iload_n C0.1 C0.2.1 dX8_chain_97 rfl (lv_at hl 2 rfl) ?_
      refine k_X0_leastTolls hd sCF C0 hK hP hnP hP6 hq hS hA hl.1 ml_X8_270 ⟨Nat.le_of_ble_eq_true rfl, Nat.le_of_ble_eq_true rfl⟩ ⟨Nat.le_of_ble_eq_true rfl, Nat.le_of_ble_eq_true rfl⟩ (Nat.le_of_ble_eq_true rfl) dX8_chain_98 (fun v_4 S_2 X_3 H locs hx_1 hP hS => ?_)
      obtain ⟨hs1, hxt, hrv⟩ := hx_1
      rw [hs1] at hP
      exact retXI C0 hr hlk hP hS (Nat.le_of_ble_eq_true rfl) (Nat.le_of_ble_eq_true rfl) ⟨by simp only [c_11, c_25, hb_41, Bool.and_true, Bool.true_and, Bool.and_false, Bool.false_and, Bool.not_true, Bool.not_false], by simp only [c_11, c_25, hb_41, Bool.and_true, Bool.true_and, Bool.and_false, Bool.false_and, Bool.not_true, Bool.not_false], by simp only [c_11, c_25, hb_41, Bool.and_true, Bool.true_and, Bool.and_false, Bool.false_and, Bool.not_true, Bool.not_false], by unfold chaS; rw [nv_nI (by omega), nv_nI (by omega), if_neg k_45_0, if_neg k_45_1, hrv, hlen]; exact tol_eq hLnk hL8 hP6 hCh hu hu2, rfl, hxt⟩ dX8_chain_101
set_option maxHeartbeats 4000000 in
set_option maxRecDepth 100000 in
theorem c_X8_opens (l : Launch) (hfl : l.stackTraces = false) (D : va_G) (cA : ClassId) (a : Adr) (S X : Mem) (I : Nat → Prop) (sz : Nat) (hd : Hd nF a I) (x : Int32) {P : Nat} {L : Nat} (hnP : S 82 0 = nI P) (hC : CacheOk S X P) (hTW : TW S P L) : MXI l yX8_opens cX8_opens 3 (some .int) 7 121 1 6 D cA a S X I sz [.ref (a 89), .int x] (fun r S1 X1 => (oneB x (nI P)) = true ∧ (true) = true ∧ (true) = true ∧ r = (opnS S (nv x)) ∧ S1 = S ∧ CacheOk S X1 P ∧ (∀ k, k ≠ 13 → k ≠ 14 → k ≠ 15 → X1 k = X k)) (pxB (oneB x (nI P)) (true) (true) S X) := by
  refine mGoX (by decide) (Nat.le_of_ble_eq_true rfl) ?_
  intro p e s m args below meth c ls C0 hr hlk hex h0 hK hX hP hS hl
  obtain ⟨H, hHe⟩ : ∃ H, H = s.heap := ⟨_, rfl⟩
  obtain ⟨locs, hlo⟩ : ∃ L : List Loc, L = [] := ⟨_, rfl⟩
  have hP : WP D cA a S X I H := hHe ▸ hP
  have hS : va_S (AF a I sz) s.heap H locs := by rw [hHe, hlo]; exact hS
  rw [← hHe, ← hlo]
  have hA : ∀ q, AI a I q → AF a I sz q := fun _ h => Or.inl h
  obtain ⟨hLnk, hP6, hL8, h17, h16, h8, h3, h2⟩ := id hTW
  refine lv_iload_n C0.1 C0.2.1 dX8_opens_0 rfl (lv_at hl 1 rfl) ?_
  refine lv_aload_n C0.1 C0.2.1 dX8_opens_1 rfl (lv_at hl 0 rfl) ?_
  refine g89_fleet C0 hK hP (hd.1 _ (by decide)) fl_X8_26 dX8_opens_2 ?_
  refine g82_number (v := nI P) C0 hK hP (hd.1 _ (by decide)) fl_X8_120 hnP dX8_opens_5 ?_
  refine k_X8_isOneOf hd s0 C0 hK hP  (v := bI (decide (0 ≤ x) && decide (x < (nI P)))) rfl hS hA hl.1 ml_X8_91 ⟨Nat.le_of_ble_eq_true rfl, Nat.le_of_ble_eq_true rfl⟩ ⟨Nat.le_of_ble_eq_true rfl, Nat.le_of_ble_eq_true rfl⟩ (Nat.le_of_ble_eq_true rfl) dX8_opens_8 (fun H locs hP hS => ?_)
  refine k_X8_needIndex (b := (decide (0 ≤ x) && decide (x < (nI P)))) hfl C0 hlk hex h0 hK hX hP hS hl.1 ml_X8_64 ⟨Nat.le_of_ble_eq_true rfl, Nat.le_of_ble_eq_true rfl⟩ ⟨Nat.le_of_ble_eq_true rfl, Nat.le_of_ble_eq_true rfl⟩ (Nat.le_of_ble_eq_true rfl) (Nat.le_of_ble_eq_true rfl) (Nat.le_of_ble_eq_true rfl) dX8_opens_11 (fun hb => pxB_I (by simp only [Bool.and_true, Bool.true_and, Bool.and_false, Bool.false_and, Bool.not_true, Bool.not_false, hb])) (fun hb_11 H locs hP hS => ?_)
  obtain ⟨u, hu, hxe⟩ := one_nat (n := P) (by omega) (show oneB x (nI P) = true from hb_11)
  subst hxe
  refine lv_iconst (v := 0) C0.1 C0.2.1 dX8_opens_14 (by decide) ?_
  refine lv_istore_n (lv' := [(2, .int 0), (0, .ref (a 89)), (1, .int (nI u))]) C0.1 C0.2.1 dX8_opens_15 rfl hl (by decide) rfl (fun ls hl => ?_)
  have loop16 : ∀ (n : Nat) (i : Nat) (Xv : Mem), (i ≤ 25) → (26 ≤ i + n) → (CacheOk S Xv P) → (∀ k, k ≠ 13 → k ≠ 14 → k ≠ 15 → Xv k = X k) → (opnS S u = fndF (fun v => !decide (crsS S u (nI v) = -1)) i (25 - i)) → ∀ (H : Heap) (locs : List Loc) (ls : Array Slot), WP D cA a S Xv I H → va_S (AF a I sz) s.heap H locs → lv_has ls 3 [(2, .int (nI i)), (0, .ref (a 89)), (1, .int (nI u))] → W p l e { frames := 7, cells := 1, slots := 6, locals := 121 } s m args below meth c H locs (0 + 1) (0 + 6) (vx_MQ below (QxI D cA a I sz (fun r S1 X1 => (oneB (nI u) (nI P)) = true ∧ (true) = true ∧ (true) = true ∧ r = (opnS S (nv (nI u))) ∧ S1 = S ∧ CacheOk S X1 P ∧ (∀ k, k ≠ 13 → k ≠ 14 → k ≠ 15 → X1 k = X k))) (XxC D cA a I sz (pxB (oneB (nI u) (nI P)) (true) (true) S X)) args s 1 6 (AF a I sz)) (F0 m 16 ls []) := by
    intro n
    induction n with
    | zero => intro i Xv hi hf hCz hXf hfd; exfalso; omega
    | succ n ih16 =>
      intro i Xv hi hf hCz hXf hfd H locs ls hP hS hl
      refine lv_iload_n C0.1 C0.2.1 dX8_opens_16 rfl (lv_at hl 0 rfl) ?_
      refine lv_bipush (v := 24) C0.1 C0.2.1 dX8_opens_17 (by decide) ?_
      refine lv_icmp_gt (tgt := 40) C0.1 C0.2.1 dX8_opens_19 (by decide) (fun c_19 => ?_) (fun c_19 => ?_)
      · have hge : 25 ≤ i := (nI_ltI (a := 24) (by omega) (by omega)).mp c_19
        refine lv_iconst (v := (-1)) C0.1 C0.2.1 dX8_opens_40 (by decide) ?_
        exact retXI C0 hr hlk hP hS (Nat.le_of_ble_eq_true rfl) (Nat.le_of_ble_eq_true rfl) ⟨by simp only [hb_11, decide_eq_true c_19, Bool.and_true, Bool.true_and, Bool.and_false, Bool.false_and, Bool.not_true, Bool.not_false], by simp only [hb_11, decide_eq_true c_19, Bool.and_true, Bool.true_and, Bool.and_false, Bool.false_and, Bool.not_true, Bool.not_false], by simp only [hb_11, decide_eq_true c_19, Bool.and_true, Bool.true_and, Bool.and_false, Bool.false_and, Bool.not_true, Bool.not_false], by rw [nv_nI (by omega), hfd, show 25 - i = 0 by omega]; rfl, rfl, hCz, hXf⟩ dX8_opens_41
      · have hlt : i < 25 := Nat.not_le.mp fun q => c_19 (show (24 : Int32) < nI i from nI_lt (show 24 < i by omega) (by omega))
        refine lv_aload_n C0.1 C0.2.1 dX8_opens_22 rfl (lv_at hl 1 rfl) ?_
        refine lv_iload_n C0.1 C0.2.1 dX8_opens_23 rfl (lv_at hl 2 rfl) ?_
        refine lv_iload_n C0.1 C0.2.1 dX8_opens_24 rfl (lv_at hl 0 rfl) ?_
        refine k_X8_crossingAt hd sId C0 hK hP hCz hTW hu hlt hS hA hl.1 ml_X8_249 ⟨Nat.le_of_ble_eq_true rfl, Nat.le_of_ble_eq_true rfl⟩ ⟨Nat.le_of_ble_eq_true rfl, Nat.le_of_ble_eq_true rfl⟩ (Nat.le_of_ble_eq_true rfl) dX8_opens_25 (fun v_4 S_2 X_3 H locs hx_1 hP hS => ?_)
        obtain ⟨hrv, hs1, hCn, hXn⟩ := hx_1
        rw [hs1] at hP
        subst hrv
        refine lv_iconst (v := (-1)) C0.1 C0.2.1 dX8_opens_28 (by decide) ?_
        refine lv_icmp_eq (tgt := 34) C0.1 C0.2.1 dX8_opens_29 (by decide) (fun c_29 => ?_) (fun c_29 => ?_)
        · refine lv_iinc (v := nI (i + 1)) (lv' := [(2, .int (nI (i + 1))), (0, .ref (a 89)), (1, .int (nI u))]) C0.1 C0.2.1 dX8_opens_34 hl (k := 0) rfl (nI_1 _) (by decide) rfl (fun ls hl => ?_)
          refine lv_goto (tgt := 16) C0.1 C0.2.1 dX8_opens_37 (by decide) ?_
          exact ih16 (i + 1) _ (by omega) (by omega) hCn (fun k a1 a2 a3 => (hXn k a1 a2 a3).trans (hXf k a1 a2 a3)) (by rw [hfd, show 25 - i = 25 - (i + 1) + 1 by omega, fndF_no (by rw [decide_eq_true c_29]; exact Bool.false_ne_true)]) _ _ _ hP hS (lv_sub hl [0, 1, 2] rfl)
        · refine lv_iload_n C0.1 C0.2.1 dX8_opens_32 rfl (lv_at hl 0 rfl) ?_
          exact retXI C0 hr hlk hP hS (Nat.le_of_ble_eq_true rfl) (Nat.le_of_ble_eq_true rfl) ⟨by simp only [hb_11, decide_eq_false c_19, decide_eq_false c_29, Bool.and_true, Bool.true_and, Bool.and_false, Bool.false_and, Bool.not_true, Bool.not_false], by simp only [hb_11, decide_eq_false c_19, decide_eq_false c_29, Bool.and_true, Bool.true_and, Bool.and_false, Bool.false_and, Bool.not_true, Bool.not_false], by simp only [hb_11, decide_eq_false c_19, decide_eq_false c_29, Bool.and_true, Bool.true_and, Bool.and_false, Bool.false_and, Bool.not_true, Bool.not_false], by rw [nv_nI (by omega), hfd, show 25 - i = 25 - (i + 1) + 1 by omega, fndF_yes (by rw [decide_eq_false c_29]; rfl)], rfl, hCn, (fun k a1 a2 a3 => (hXn k a1 a2 a3).trans (hXf k a1 a2 a3))⟩ dX8_opens_33
  exact loop16 26 0 _ (by omega) (by omega) hC (fun _ _ _ _ => rfl) rfl _ _ _ hP hS (lv_sub hl [0, 1, 2] rfl)
end CLS
