/-- hours that go by, one after another, and who came in them -/
noncomputable def hrsM (F : Int32 → Int32 → Int32) (S : Mem) (P T h : Nat) : Nat → Mem × Int32
  | 0 => (S, 0)
  | k + 1 => (hourM F (hrsM F S P T h k).1 P T (h + k), (hrsM F S P T h k).2 + cameM F (hrsM F S P T h k).1 P T (h + k))
theorem hrsM_sta (F : Int32 → Int32 → Int32) (S : Mem) (P T h : Nat) : ∀ k, Sta S (hrsM F S P T h k).1
  | 0 => Sta.rf S
  | k + 1 => (hrsM_sta F S P T h k).tr (hourM_sta F _ P T (h + k))
theorem hrsM_TW {F : Int32 → Int32 → Int32} {S : Mem} {P L T h : Nat} (hT : TW S P L) : ∀ k, TW (hrsM F S P T h k).1 P L
  | 0 => hT
  | k + 1 => hourM_TW (hrsM_TW hT k)
theorem hrsM_86 {F : Int32 → Int32 → Int32} {S : Mem} {P T h : Nat} (hh : S 86 0 = nI h) : ∀ k, (hrsM F S P T h k).1 86 0 = nI (h + k)
  | 0 => hh
  | k + 1 => congrFun (up_eq (S := stepsM (landM F (hrsM F S P T h k).1 T (h + k) P).1 (h + k) P) (k := 86) (f := fun _ => nI (h + k + 1))) 0
theorem FX_eq {X X1 : Mem} (h : ∀ k, k ≠ 13 → k ≠ 14 → k ≠ 15 → X1 k = X k) : FX X1 = FX X := by unfold FX; rw [h 11 (by decide) (by decide) (by decide)]
theorem in_low {x : Int32} (h : inB x 1 100 = true) : inB x 0 100 = true := by
  simp only [inB, Bool.and_eq_true, decide_eq_true_eq] at h ⊢
  exact ⟨Int32.le_trans (by decide) h.1, h.2⟩
section CLS
variable {p : Program} {l : Launch} {e : Env} {R : Room} {s : State} {m : MethodId} {args : Array Value} {below : List Frame} {meth : Method} {c : Code} {H : Heap} {locs : List Loc} {cells slots : Nat} {Q : State → Prop}
variable {cc : ByteArray} {nL : Nat} {own : String} {pc : Nat} {ls : Array Slot} {rest : List Value} {D : va_G} {cA : ClassId} {a : Adr} {S X : Mem} {I : Nat → Prop} {H0 : Heap} {A0 : Nat → Prop}
set_option maxHeartbeats 4000000 in
set_option maxRecDepth 100000 in
theorem c_X8_pass (l : Launch) (hfl : l.stackTraces = false) (D : va_G) (cA : ClassId) (a : Adr) (S X : Mem) (I : Nat → Prop) (sz : Nat) (hd : Hd nF a I) (x : Int32) {P : Nat} {L : Nat} {T : Nat} {h : Nat} (hnP : S 82 0 = nI P) (hnT : S 85 0 = nI T) (hT30 : T ≤ 30) (hnH : S 86 0 = nI h) (hhp : h + 100 < 2 ^ 31) (hC : CacheOk S X P) (hTW : TW S P L) : MXI l yX8_pass cX8_pass 4 (some .int) 7 143 1 6 D cA a S X I sz [.ref (a 89), .int x] (fun r S1 X1 => (true) = true ∧ (inB x 1 100) = true ∧ (true) = true ∧ r = ((hrsM (FX X) S P T h (nv x)).2) ∧ S1 = (hrsM (FX X) S P T h (nv x)).1 ∧ CacheOk S X1 P ∧ (∀ k, k ≠ 13 → k ≠ 14 → k ≠ 15 → X1 k = X k)) (pxB (true) (inB x 1 100) (true) S X) := by
  refine mGoX (by decide) (Nat.le_of_ble_eq_true rfl) ?_
  intro p e s m args below meth c ls C0 hr hlk hex h0 hK hX hP hS hl
  obtain ⟨H, hHe⟩ : ∃ H, H = s.heap := ⟨_, rfl⟩
  obtain ⟨locs, hlo⟩ : ∃ L : List Loc, L = [] := ⟨_, rfl⟩
  have hP : WP D cA a S X I H := hHe ▸ hP
  have hS : va_S (AF a I sz) s.heap H locs := by rw [hHe, hlo]; exact hS
  rw [← hHe, ← hlo]
  have hA : ∀ q, AI a I q → AF a I sz q := fun _ h => Or.inl h
  obtain ⟨hLnk, hP6, hL8, h17, h16, h8, h3, h2⟩ := id hTW
  refine lv_iload_n C0.1 C0.2.1 dX8_pass_0 rfl (lv_at hl 1 rfl) ?_
  refine lv_iconst (v := 1) C0.1 C0.2.1 dX8_pass_1 (by decide) ?_
  refine lv_bipush (v := 100) C0.1 C0.2.1 dX8_pass_2 (by decide) ?_
  refine k_X8_within hd s0 C0 hK hP  (v := bI (decide (1 ≤ x) && decide (x ≤ 100))) rfl hS hA hl.1 ml_X8_68 ⟨Nat.le_of_ble_eq_true rfl, Nat.le_of_ble_eq_true rfl⟩ ⟨Nat.le_of_ble_eq_true rfl, Nat.le_of_ble_eq_true rfl⟩ (Nat.le_of_ble_eq_true rfl) dX8_pass_4 (fun H locs hP hS => ?_)
  refine k_X8_needArgument (b := (decide (1 ≤ x) && decide (x ≤ 100))) hfl C0 hlk hex h0 hK hX hP hS hl.1 ml_X8_72 ⟨Nat.le_of_ble_eq_true rfl, Nat.le_of_ble_eq_true rfl⟩ ⟨Nat.le_of_ble_eq_true rfl, Nat.le_of_ble_eq_true rfl⟩ (Nat.le_of_ble_eq_true rfl) (Nat.le_of_ble_eq_true rfl) (Nat.le_of_ble_eq_true rfl) dX8_pass_7 (fun hb => pxB_A (by simp only [Bool.and_true, Bool.true_and, Bool.and_false, Bool.false_and, Bool.not_true, Bool.not_false, hb]) (by simp only [Bool.and_true, Bool.true_and, Bool.and_false, Bool.false_and, Bool.not_true, Bool.not_false, hb])) (fun hb_7 H locs hP hS => ?_)
  obtain ⟨N, hN, hxe⟩ := in_nat (m := 100) (by decide) (show inB x 0 (nI 100) = true from in_low hb_7)
  subst hxe
  refine lv_iconst (v := 0) C0.1 C0.2.1 dX8_pass_10 (by decide) ?_
  refine lv_istore_n (lv' := [(2, .int 0), (0, .ref (a 89)), (1, .int (nI N))]) C0.1 C0.2.1 dX8_pass_11 rfl hl (by decide) rfl (fun ls hl => ?_)
  refine lv_iconst (v := 0) C0.1 C0.2.1 dX8_pass_12 (by decide) ?_
  refine lv_istore_n (lv' := [(3, .int 0), (2, .int 0), (0, .ref (a 89)), (1, .int (nI N))]) C0.1 C0.2.1 dX8_pass_13 rfl hl (by decide) rfl (fun ls hl => ?_)
  have loop14 : ∀ (n : Nat) (i : Nat) (Xv : Mem), (i ≤ N) → (N + 1 ≤ i + n) → (CacheOk S Xv P) → (∀ k, k ≠ 13 → k ≠ 14 → k ≠ 15 → Xv k = X k) → ∀ (H : Heap) (locs : List Loc) (ls : Array Slot), WP D cA a (hrsM (FX X) S P T h i).1 Xv I H → va_S (AF a I sz) s.heap H locs → lv_has ls 4 [(3, .int (nI i)), (2, .int ((hrsM (FX X) S P T h i).2)), (1, .int (nI N)), (0, .ref (a 89))] → W p l e { frames := 7, cells := 1, slots := 6, locals := 143 } s m args below meth c H locs (0 + 1) (0 + 6) (vx_MQ below (QxI D cA a I sz (fun r S1 X1 => (true) = true ∧ (inB (nI N) 1 100) = true ∧ (true) = true ∧ r = ((hrsM (FX X) S P T h (nv (nI N))).2) ∧ S1 = (hrsM (FX X) S P T h (nv (nI N))).1 ∧ CacheOk S X1 P ∧ (∀ k, k ≠ 13 → k ≠ 14 → k ≠ 15 → X1 k = X k))) (XxC D cA a I sz (pxB (true) (inB (nI N) 1 100) (true) S X)) args s 1 6 (AF a I sz)) (F0 m 14 ls []) := by
    intro n
    induction n with
    | zero => intro i Xv hi hf hCz hXf; exfalso; omega
    | succ n ih14 =>
      intro i Xv hi hf hCz hXf H locs ls hP hS hl
      refine lv_iload_n C0.1 C0.2.1 dX8_pass_14 rfl (lv_at hl 0 rfl) ?_
      refine lv_iload_n C0.1 C0.2.1 dX8_pass_15 rfl (lv_at hl 2 rfl) ?_
      refine lv_icmp_ge (tgt := 35) C0.1 C0.2.1 dX8_pass_16 (by decide) (fun c_16 => ?_) (fun c_16 => ?_)
      · have hge : N ≤ i := (nI_leI (by omega) (by omega)).mp c_16
        refine lv_iload_n C0.1 C0.2.1 dX8_pass_35 rfl (lv_at hl 1 rfl) ?_
        exact retXI C0 hr hlk hP hS (Nat.le_of_ble_eq_true rfl) (Nat.le_of_ble_eq_true rfl) ⟨by simp only [hb_7, decide_eq_true c_16, Bool.and_true, Bool.true_and, Bool.and_false, Bool.false_and, Bool.not_true, Bool.not_false], by simp only [hb_7, decide_eq_true c_16, Bool.and_true, Bool.true_and, Bool.and_false, Bool.false_and, Bool.not_true, Bool.not_false], by simp only [hb_7, decide_eq_true c_16, Bool.and_true, Bool.true_and, Bool.and_false, Bool.false_and, Bool.not_true, Bool.not_false], by rw [nv_nI (by omega), show i = N by omega], by rw [nv_nI (by omega), show i = N by omega], hCz, hXf⟩ dX8_pass_36
      · have hlt : i < N := Nat.not_le.mp fun q => c_16 (nI_le q (by omega))
        refine lv_iload_n C0.1 C0.2.1 dX8_pass_19 rfl (lv_at hl 1 rfl) ?_
        refine lv_aload_n C0.1 C0.2.1 dX8_pass_20 rfl (lv_at hl 3 rfl) ?_
        refine g89_now C0 hK hP (hd.1 _ (by decide)) fl_X8_53 dX8_pass_21 ?_
        refine k_X6_goOn hd sTF C0 hK hP (P := P) (L := L) (T := T) (h := h + i) ((congrFun (hrsM_sta (FX X) S P T h i 82 (by omega)) 0).trans hnP) ((congrFun (hrsM_sta (FX X) S P T h i 85 (by omega)) 0).trans hnT) hT30 (hrsM_86 hnH i) (by omega) (hCz.sta (hrsM_sta (FX X) S P T h i)) (hrsM_TW hTW i) hS hA hl.1 ml_X8_222 ⟨Nat.le_of_ble_eq_true rfl, Nat.le_of_ble_eq_true rfl⟩ ⟨Nat.le_of_ble_eq_true rfl, Nat.le_of_ble_eq_true rfl⟩ (Nat.le_of_ble_eq_true rfl) dX8_pass_24 (fun v_4 S_2 X_3 H locs hx_1 hP hS => ?_)
        obtain ⟨hrv, hs1, hCn, hXn⟩ := hx_1
        rw [FX_eq hXf] at hrv hs1
        rw [hs1] at hP
        subst hrv
        have hP : WP D cA a (hrsM (FX X) S P T h (i + 1)).1 X_3 I H := hP
        refine lv_iadd C0.1 C0.2.1 dX8_pass_27 ?_
        refine lv_istore_n (lv' := [(2, .int (((hrsM (FX X) S P T h i).2) + (cameM (FX X) (hrsM (FX X) S P T h i).1 P T (h + i)))), (3, .int (nI i)), (1, .int (nI N)), (0, .ref (a 89))]) C0.1 C0.2.1 dX8_pass_28 rfl hl (by decide) rfl (fun ls hl => ?_)
        refine lv_iinc (v := nI (i + 1)) (lv' := [(3, .int (nI (i + 1))), (2, .int (((hrsM (FX X) S P T h i).2) + (cameM (FX X) (hrsM (FX X) S P T h i).1 P T (h + i)))), (1, .int (nI N)), (0, .ref (a 89))]) C0.1 C0.2.1 dX8_pass_29 hl (k := 1) rfl (nI_1 _) (by decide) rfl (fun ls hl => ?_)
        refine lv_goto (tgt := 14) C0.1 C0.2.1 dX8_pass_32 (by decide) ?_
        exact ih14 (i + 1) X_3 (by omega) (by omega) (hCn.sta (fun k hk => (hrsM_sta (FX X) S P T h i k hk).symm)) (fun k a1 a2 a3 => (hXn k a1 a2 a3).trans (hXf k a1 a2 a3)) _ _ _ hP hS (lv_sub hl [0, 1, 2, 3] rfl)
  have hP : WP D cA a (hrsM (FX X) S P T h 0).1 X I H := hP
  exact loop14 (N + 1) 0 _ (by omega) (by omega) hC (fun _ _ _ _ => rfl) _ _ _ hP hS (lv_sub hl [0, 1, 3, 2] rfl)
end CLS
