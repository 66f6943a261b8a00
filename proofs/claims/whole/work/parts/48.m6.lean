/-! THE REFERENCE'S HOUR. -/
theorem DL_congr {S S' : Mem} (h4 : S' 4 = S 4) (h5 : S' 5 = S 5) (P t : Nat) (w : Nat → Int32) : DL S' P t w = DL S P t w := by unfold DL adj conn; rw [h4, h5]
theorem lenM_congr {S S' : Mem} (h4 : S' 4 = S 4) (h5 : S' 5 = S 5) (P x t : Nat) : lenM S' P x t = lenM S P x t := by
  have e : DL S' P t = DL S P t := funext (DL_congr h4 h5 P t)
  unfold lenM
  rw [e]
theorem bgM_congr {S S' : Mem} (h4 : S' 4 = S 4) (h5 : S' 5 = S 5) (P n x t : Nat) : bgM S' P n x t = bgM S P n x t := by
  unfold bgM othN
  simp only [h4, h5, lenM_congr h4 h5]
theorem fstM_congr {S S' : Mem} (h4 : S' 4 = S 4) (h5 : S' 5 = S 5) (P x t : Nat) : fstM S' P x t = fstM S P x t := by
  unfold fstM
  rw [show (fun n => bgM S' P n x t) = fun n => bgM S P n x t from funext fun n => bgM_congr h4 h5 P n x t]
/-- F tells the punts that one takes -/
def FW (F : Int32 → Int32 → Int32) (S : Mem) (P L : Nat) : Prop := ∀ x, x < L → ∀ t, t < L → F (nI x) (nI t) = fstM S P x t
theorem FW.sta {F : Int32 → Int32 → Int32} {S S' : Mem} {P L : Nat} (h : FW F S P L) (hs : Sta S S') : FW F S' P L := fun x hx t ht => (h x hx t ht).trans (fstM_congr (hs 4 (by omega)) (hs 5 (by omega)) P x t).symm
def WiW (S : Mem) (L T : Nat) : Prop := ∀ t, t < T → ∃ w, w < L ∧ S 20 t = nI w
theorem WiW.sta {S S' : Mem} {L T : Nat} (h : WiW S L T) (hs : Sta S S') : WiW S' L T := fun t ht => by rw [hs 20 (by omega)]; exact h t ht
theorem TlW.sta {S S' : Mem} {P : Nat} (h : TlW S P) (hs : Sta S S') : TlW S' P := fun p hp => by rw [hs 9 (by omega)]; exact h p hp
theorem acr_oth {S : Mem} {u b : Nat} (h : S 4 u = nI b ∨ S 5 u = nI b) : acrI S u b = othI S u (nI b) := by
  unfold acrI othI
  by_cases h4 : S 4 u = nI b
  · rw [if_pos h4, if_pos h4]
  · rw [if_neg h4, if_neg h4, if_pos (h.resolve_left h4)]
theorem cnt_idle {A : Nat → Bool} {i : Nat} (h : A i = false) : ¬ A i = true := by rw [h]; exact Bool.false_ne_true
theorem fnW_none {W : Nat → Int32} {c d n : Nat} (h : besN c d = none) : fnW W c d (n + 1) = fnW W c (d + 1) n := by
  show (match besN c d with | none => fnW W c (d + 1) n | some o => if W o = W c - 1 then nI o else fnW W c (d + 1) n) = _
  rw [h]
theorem fnW_some {W : Nat → Int32} {c d n o : Nat} (h : besN c d = some o) : fnW W c d (n + 1) = if W o = W c - 1 then nI o else fnW W c (d + 1) n := by
  show (match besN c d with | none => fnW W c (d + 1) n | some o => if W o = W c - 1 then nI o else fnW W c (d + 1) n) = _
  rw [h]
theorem one_le {x : Int32} : (1 : Int32) ≤ x ↔ 0 < x := by
  rw [Int32.le_iff_toInt_le, Int32.lt_iff_toInt_lt, show (1 : Int32).toInt = 1 from rfl, show (0 : Int32).toInt = 0 from rfl]
  omega
theorem oI_none {c d : Nat} (hc : c < 196) (hd : d < 4) (h : oI (besN c d) = -1) : besN c d = none := by
  cases hb : besN c d with
  | none => rfl
  | some o =>
    rw [hb] at h
    exact absurd h (nI_neg (by have := besN_lt hc hd hb; omega))
theorem wyS_is {S : Mem} {u b en : Nat} {lv : Int32} (hb : b < 8) (hen : en < 196) (hbe : S 17 u = nI b) (hene : S 3 b = nI en) : wyS S u (S 17 u) lv = wayS (okS S (nI u) lv) en := by
  unfold wyS celS
  rw [hbe, nI_clamp (by omega), hene, nI_clamp (by omega)]
section CLS
variable {p : Program} {l : Launch} {e : Env} {R : Room} {s : State} {m : MethodId} {args : Array Value} {below : List Frame} {meth : Method} {c : Code} {H : Heap} {locs : List Loc} {cells slots : Nat} {Q : State → Prop}
variable {cc : ByteArray} {nL : Nat} {own : String} {pc : Nat} {ls : Array Slot} {rest : List Value} {D : va_G} {cA : ClassId} {a : Adr} {S X : Mem} {I : Nat → Prop} {H0 : Heap} {A0 : Nat → Prop}
set_option maxHeartbeats 4000000 in
set_option maxRecDepth 100000 in
theorem c_X9_land (l : Launch) (D : va_G) (cA : ClassId) (a : Adr) (S X : Mem) (I : Nat → Prop) (hd : Hd nM a I) (u : Nat) {P : Nat} {L : Nat} {T : Nat} {h : Nat} {F : Int32 → Int32 → Int32} (hnP : S 82 0 = nI P) (hnL : S 81 0 = nI L) (hnT : S 85 0 = nI T) (hT30 : T ≤ 30) (hnH : S 86 0 = nI h) (hh : h < 2 ^ 31) (hTW : TW S P L) (hTl : TlW S P) (hFW : FW F S P L) (hWi : WiW S L T) (hu : u < P) : NI l yX9_land cX9_land 6 (some .int) 4 94 D cA a S X I [.ref (a 20), .int (nI u)] (fun r S1 X1 => r = outN S (nI u) (S 17 u) T ∧ S1 = turnM F S u T h ∧ (∀ k, k ≠ 10 → k ≠ 12 → X1 k = X k)) := by
  refine nGo (by decide) (Nat.le_of_ble_eq_true rfl) ?_
  intro p e s m args below meth c ls C0 hr hlk hK hP hS hl hargs
  obtain ⟨H, hHe⟩ : ∃ H, H = s.heap := ⟨_, rfl⟩
  obtain ⟨locs, hlo⟩ : ∃ L : List Loc, L = [] := ⟨_, rfl⟩
  have hP : WQ D cA a S X I H := hHe ▸ hP
  have hS : va_S (AI a I) s.heap H locs := by rw [hHe, hlo]; exact hS
  rw [← hHe, ← hlo]
  have hA : ∀ q, AI a I q → AI a I q := fun _ h => h
  obtain ⟨hLnk, hP6, hL8, h17, h16, h8, h3, h2⟩ := id hTW
  obtain ⟨b, hb, hbe, hend⟩ := hTW.bound hu
  obtain ⟨r, hr6, hr8⟩ := h8 u hu
  refine lv_aload_n C0.1 C0.2.1 dX9_land_0 rfl (lv_at hl 0 rfl) ?_
  refine lv_iload_n C0.1 C0.2.1 dX9_land_1 rfl (lv_at hl 1 rfl) ?_
  refine lv_iconst (v := 1) C0.1 C0.2.1 dX9_land_2 (by decide) ?_
  refine k_X9_go_1 hd sId C0 hK hP (by omega) (v := nI b) hbe hS hA hl.1 ml_X9_77 ⟨Nat.le_of_ble_eq_true rfl, Nat.le_of_ble_eq_true rfl⟩ ⟨Nat.zero_le _, Nat.zero_le _⟩ (Nat.le_of_ble_eq_true rfl) dX9_land_3 (fun H locs hP hS => ?_)
  refine lv_istore_n (lv' := [(2, .int (nI b)), (0, .ref (a 20)), (1, .int (nI u))]) C0.1 C0.2.1 dX9_land_6 rfl hl (by decide) rfl (fun ls hl => ?_)
  refine lv_iconst (v := 0) C0.1 C0.2.1 dX9_land_7 (by decide) ?_
  refine lv_istore_n (lv' := [(3, .int 0), (2, .int (nI b)), (0, .ref (a 20)), (1, .int (nI u))]) C0.1 C0.2.1 dX9_land_8 rfl hl (by decide) rfl (fun ls hl => ?_)
  refine lv_aload_n C0.1 C0.2.1 dX9_land_9 rfl (lv_at hl 2 rfl) ?_
  refine lv_iload_n C0.1 C0.2.1 dX9_land_10 rfl (lv_at hl 3 rfl) ?_
  refine lv_iconst (v := 4) C0.1 C0.2.1 dX9_land_11 (by decide) ?_
  refine k_X9_pu_4 hd sId C0 hK hP (by omega) (v := nI r) hr8 hS hA hl.1 ml_X9_66 ⟨Nat.le_of_ble_eq_true rfl, Nat.le_of_ble_eq_true rfl⟩ ⟨Nat.zero_le _, Nat.zero_le _⟩ (Nat.le_of_ble_eq_true rfl) dX9_land_12 (fun H locs hP hS => ?_)
  refine lv_istore (lv' := [(4, .int (nI r)), (3, .int 0), (2, .int (nI b)), (0, .ref (a 20)), (1, .int (nI u))]) C0.1 C0.2.1 dX9_land_15 hl (by decide) rfl (fun ls hl => ?_)
  refine lv_iconst (v := 0) C0.1 C0.2.1 dX9_land_17 (by decide) ?_
  refine lv_istore (lv' := [(5, .int 0), (4, .int (nI r)), (3, .int 0), (2, .int (nI b)), (0, .ref (a 20)), (1, .int (nI u))]) C0.1 C0.2.1 dX9_land_18 hl (by decide) rfl (fun ls hl => ?_)
  have loop20 : ∀ (n : Nat) (i : Nat) (f : Int32), (i ≤ T) → (T + 1 ≤ i + n) → (f = nI (cnt (fun t => decide (S 23 t = nI u) && decide (S 20 t = nI b)) i)) → ∀ (H : Heap) (locs : List Loc) (ls : Array Slot), WQ D cA a (up (up (up S 23 (goA (S 23) (fun t => decide (S 23 t = nI u)) (fun _ => -1) i)) 22 (goA (S 22) (fun t => decide (S 23 t = nI u)) (fun _ => nI b) i)) 24 (goA (S 24) (fun t => decide (S 23 t = nI u) && decide (S 20 t = nI b)) (fun _ => nI h) i)) X I H → va_S (AI a I) s.heap H locs → lv_has ls 6 [(5, .int (nI i)), (3, .int f), (4, .int (nI r)), (0, .ref (a 20)), (1, .int (nI u)), (2, .int (nI b))] → W p l e { frames := 4, cells := 0, slots := 0, locals := 94 } s m args below meth c H locs (0) (0) (MQ below (QqI D cA a I (fun r S1 X1 => r = outN S (nI u) (S 17 u) T ∧ S1 = turnM F S u T h ∧ (∀ k, k ≠ 10 → k ≠ 12 → X1 k = X k))) args s 0 0 (AI a I)) (F0 m 20 ls []) := by
    intro n
    induction n with
    | zero => intro i f hi hf hcn; exfalso; omega
    | succ n ih20 =>
      intro i f hi hf hcn H locs ls hP hS hl
      refine lv_iload C0.1 C0.2.1 dX9_land_20 (lv_at hl 0 rfl) ?_
      refine lv_aload_n C0.1 C0.2.1 dX9_land_22 rfl (lv_at hl 3 rfl) ?_
      refine g20i (v := nI T) C0 hK hP (hd.1 _ (by decide)) 8 (by decide) fl_X9_113 rfl hnT dX9_land_23 ?_
      refine lv_icmp_ge (tgt := 93) C0.1 C0.2.1 dX9_land_26 (by decide) (fun c_26 => ?_) (fun c_26 => ?_)
      · have hge : T ≤ i := (nI_leI (by omega) (by omega)).mp c_26
        rw [show i = T by omega] at hP hcn
        have hP : WQ D cA a (outM S (nI u) (nI b) (nI h) T) X I H := hP
        refine lv_aload_n C0.1 C0.2.1 dX9_land_93 rfl (lv_at hl 3 rfl) ?_
        refine lv_iload_n C0.1 C0.2.1 dX9_land_94 rfl (lv_at hl 4 rfl) ?_
        refine lv_iconst (v := 1) C0.1 C0.2.1 dX9_land_95 (by decide) ?_
        refine lv_aload_n C0.1 C0.2.1 dX9_land_96 rfl (lv_at hl 3 rfl) ?_
        refine lv_iload_n C0.1 C0.2.1 dX9_land_97 rfl (lv_at hl 4 rfl) ?_
        refine lv_iload_n C0.1 C0.2.1 dX9_land_98 rfl (lv_at hl 5 rfl) ?_
        refine k_X9_across hd sId C0 hK hP (by omega) (v := acrI (outM S (nI u) (nI b) (nI h) T) u b) rfl hS hA hl.1 ml_X9_134 ⟨Nat.le_of_ble_eq_true rfl, Nat.le_of_ble_eq_true rfl⟩ ⟨Nat.zero_le _, Nat.zero_le _⟩ (Nat.le_of_ble_eq_true rfl) dX9_land_99 (fun H locs hP hS => ?_)
        refine k_X9_setGo_1 hd sId C0 hK hP (by omega) hS hA hl.1 ml_X9_100 ⟨Nat.le_of_ble_eq_true rfl, Nat.le_of_ble_eq_true rfl⟩ ⟨Nat.zero_le _, Nat.zero_le _⟩ (Nat.le_of_ble_eq_true rfl) dX9_land_102 (fun H locs hP hS => ?_)
        have hP : WQ D cA a (up (outM S (nI u) (nI b) (nI h) T) 17 (upd ((outM S (nI u) (nI b) (nI h) T) 17) u (acrI (outM S (nI u) (nI b) (nI h) T) u b))) X I H := hP
        have hP : WQ D cA a (bndM (outM S (nI u) (nI b) (nI h) T) u (nI b)) X I H := by have h9 := hP; rw [acr_oth (show outM S (nI u) (nI b) (nI h) T 4 u = nI b ∨ outM S (nI u) (nI b) (nI h) T 5 u = nI b from hend)] at h9; exact h9
        obtain ⟨S2, hS2⟩ : ∃ S2, S2 = (bndM (outM S (nI u) (nI b) (nI h) T) u (nI b)) := ⟨_, rfl⟩
        have hst2 : Sta S S2 := by rw [hS2]; unfold bndM outM; exact ((((Sta.rf S).up (by omega)).up (by omega)).up (by omega)).up (by omega)
        rw [← hS2] at hP
        have hnP2 : S2 82 0 = nI P := (congrFun (hst2 82 (by omega)) 0).trans hnP
        have hnL2 : S2 81 0 = nI L := (congrFun (hst2 81 (by omega)) 0).trans hnL
        have hnT2 : S2 85 0 = nI T := (congrFun (hst2 85 (by omega)) 0).trans hnT
        have hLnk2 := hLnk.sta hst2
        have hTl2 := hTl.sta hst2
        have hFW2 := hFW.sta hst2
        have hWi2 := hWi.sta hst2
        refine lv_iconst (v := 0) C0.1 C0.2.1 dX9_land_105 (by decide) ?_
        refine lv_istore (lv' := [(5, .int 0), (3, .int f), (4, .int (nI r)), (0, .ref (a 20)), (1, .int (nI u)), (2, .int (nI b))]) C0.1 C0.2.1 dX9_land_106 hl (by decide) rfl (fun ls hl => ?_)
        have loop108 : ∀ (n : Nat) (i : Nat) (z : Int32) (Xv : Mem), (i ≤ T) → (T + 1 ≤ i + n) → (cnt (ldb F S2 u (nI b) r) i ≤ r) → (z = nI (r - cnt (ldb F S2 u (nI b) r) i)) → (∀ k, k ≠ 10 → k ≠ 12 → Xv k = X k) → ∀ (H : Heap) (locs : List Loc) (ls : Array Slot), WQ D cA a (up (up (up (up S2 21 (goA (S2 21) (ldb F S2 u (nI b) r) (fun t => S2 21 t + -S2 9 u) i)) 22 (goA (S2 22) (ldb F S2 u (nI b) r) (fun _ => -1) i)) 23 (goA (S2 23) (ldb F S2 u (nI b) r) (fun _ => nI u) i)) 18 (upd (S2 18) u (S2 18 u + nI (cnt (ldb F S2 u (nI b) r) i) * S2 9 u))) Xv I H → va_S (AI a I) s.heap H locs → lv_has ls 6 [(5, .int (nI i)), (4, .int z), (3, .int f), (0, .ref (a 20)), (1, .int (nI u)), (2, .int (nI b))] → W p l e { frames := 4, cells := 0, slots := 0, locals := 94 } s m args below meth c H locs (0) (0) (MQ below (QqI D cA a I (fun r S1 X1 => r = outN S (nI u) (S 17 u) T ∧ S1 = turnM F S u T h ∧ (∀ k, k ≠ 10 → k ≠ 12 → X1 k = X k))) args s 0 0 (AI a I)) (F0 m 108 ls []) := by
          intro n
          induction n with
          | zero => intro i z Xv hi hf hcr hpl hXf; exfalso; omega
          | succ n ih108 =>
            intro i z Xv hi hf hcr hpl hXf H locs ls hP hS hl
            refine lv_iload C0.1 C0.2.1 dX9_land_108 (lv_at hl 0 rfl) ?_
            refine lv_aload_n C0.1 C0.2.1 dX9_land_110 rfl (lv_at hl 3 rfl) ?_
            refine g20i (v := nI T) C0 hK hP (hd.1 _ (by decide)) 8 (by decide) fl_X9_113 rfl hnT2 dX9_land_111 ?_
            refine lv_icmp_ge (tgt := 242) C0.1 C0.2.1 dX9_land_114 (by decide) (fun c_114 => ?_) (fun c_114 => ?_)
            · have hge : T ≤ i := (nI_leI (by omega) (by omega)).mp c_114
              refine lv_iload_n C0.1 C0.2.1 dX9_land_242 rfl (lv_at hl 2 rfl) ?_
              rw [show i = T by omega] at hP
              exact rtI C0 hr hlk hP hS ⟨by rw [hbe]; exact hcn, by unfold turnM; rw [hbe, hr8, nI_clamp (by omega), ← hS2]; rfl, hXf⟩ dX9_land_243
            · have hlt : i < T := Nat.not_le.mp fun q => c_114 (nI_le q (by omega))
              obtain ⟨wi, hwi, hwe⟩ := hWi2 i hlt
              refine lv_iload C0.1 C0.2.1 dX9_land_117 (lv_at hl 1 rfl) ?_
              refine lv_if_eq (tgt := 236) C0.1 C0.2.1 dX9_land_119 (by decide) (fun c_119 => ?_) (fun c_119 => ?_)
              · refine lv_iinc (v := nI (i + 1)) (lv' := [(5, .int (nI (i + 1))), (4, .int z), (3, .int f), (0, .ref (a 20)), (1, .int (nI u)), (2, .int (nI b))]) C0.1 C0.2.1 dX9_land_236 hl (k := 0) rfl (nI_1 _) (by decide) rfl (fun ls hl => ?_)
                refine lv_goto (tgt := 108) C0.1 C0.2.1 dX9_land_239 (by decide) ?_
                have hb : ¬ ldb F S2 u (nI b) r i = true := cnt_idle (ldb_full (by rw [hpl, show (0 : Int32) = nI 0 from nI_0.symm] at c_119; have := nI_inj (by omega) (by omega) c_119; omega) (Nat.le_refl _))
                have hP : WQ D cA a (up (up (up (up S2 21 (goA (S2 21) (ldb F S2 u (nI b) r) (fun t => S2 21 t + -S2 9 u) (i + 1))) 22 (goA (S2 22) (ldb F S2 u (nI b) r) (fun _ => -1) (i + 1))) 23 (goA (S2 23) (ldb F S2 u (nI b) r) (fun _ => nI u) (i + 1))) 18 (upd (S2 18) u (S2 18 u + nI (cnt (ldb F S2 u (nI b) r) (i + 1)) * S2 9 u))) Xv I H := WQ.congr hP (fun k => by
                    by_cases h_21 : k = 21
                    · subst h_21; exact (goA_no hb : (goA (S2 21) (ldb F S2 u (nI b) r) (fun t => S2 21 t + -S2 9 u) i) = (goA (S2 21) (ldb F S2 u (nI b) r) (fun t => S2 21 t + -S2 9 u) (i + 1)))
                    by_cases h_22 : k = 22
                    · subst h_22; exact (goA_no hb : (goA (S2 22) (ldb F S2 u (nI b) r) (fun _ => -1) i) = (goA (S2 22) (ldb F S2 u (nI b) r) (fun _ => -1) (i + 1)))
                    by_cases h_23 : k = 23
                    · subst h_23; exact (goA_no hb : (goA (S2 23) (ldb F S2 u (nI b) r) (fun _ => nI u) i) = (goA (S2 23) (ldb F S2 u (nI b) r) (fun _ => nI u) (i + 1)))
                    by_cases h_18 : k = 18
                    · subst h_18; exact ((by rw [cnt_no hb]) : (upd (S2 18) u (S2 18 u + nI (cnt (ldb F S2 u (nI b) r) i) * S2 9 u)) = (upd (S2 18) u (S2 18 u + nI (cnt (ldb F S2 u (nI b) r) (i + 1)) * S2 9 u)))
                    simp only [up, h_21, h_22, h_23, h_18, if_false]) (fun _ => rfl)
                exact ih108 (i + 1) _ _ (by omega) (by omega) (by rw [cnt_no hb]; omega) (by rw [hpl, cnt_no hb]) (fun k9 h9 h8 => (hXf k9 h9 h8)) _ _ _ hP hS (lv_sub hl [0, 1, 2, 3, 4, 5] rfl)
              · refine lv_aload_n C0.1 C0.2.1 dX9_land_122 rfl (lv_at hl 3 rfl) ?_
                refine lv_iload C0.1 C0.2.1 dX9_land_123 (lv_at hl 0 rfl) ?_
                refine k_X9_hasCome hd sId C0 hK hP (by omega) (v := bI (!decide (S2 24 i = -1))) rfl hS hA hl.1 ml_X9_144 ⟨Nat.le_of_ble_eq_true rfl, Nat.le_of_ble_eq_true rfl⟩ ⟨Nat.zero_le _, Nat.zero_le _⟩ (Nat.le_of_ble_eq_true rfl) dX9_land_125 (fun H locs hP hS => ?_)
                refine lv_if_ne (tgt := 236) C0.1 C0.2.1 dX9_land_128 (by decide) (fun c_128 => ?_) (fun c_128 => ?_)
                · have c_128 := bI_ne c_128
                  refine lv_iinc (v := nI (i + 1)) (lv' := [(5, .int (nI (i + 1))), (4, .int z), (3, .int f), (0, .ref (a 20)), (1, .int (nI u)), (2, .int (nI b))]) C0.1 C0.2.1 dX9_land_236 hl (k := 0) rfl (nI_1 _) (by decide) rfl (fun ls hl => ?_)
                  refine lv_goto (tgt := 108) C0.1 C0.2.1 dX9_land_239 (by decide) ?_
                  have he : elg F S2 u (nI b) i = false := by unfold elg; rw [decide_eq_false (show ¬ S2 24 i = -1 by simpa using c_128)]; simp
                  have hb : ¬ ldb F S2 u (nI b) r i = true := by unfold ldb; rw [he]; simp
                  have hP : WQ D cA a (up (up (up (up S2 21 (goA (S2 21) (ldb F S2 u (nI b) r) (fun t => S2 21 t + -S2 9 u) (i + 1))) 22 (goA (S2 22) (ldb F S2 u (nI b) r) (fun _ => -1) (i + 1))) 23 (goA (S2 23) (ldb F S2 u (nI b) r) (fun _ => nI u) (i + 1))) 18 (upd (S2 18) u (S2 18 u + nI (cnt (ldb F S2 u (nI b) r) (i + 1)) * S2 9 u))) Xv I H := WQ.congr hP (fun k => by
                      by_cases h_21 : k = 21
                      · subst h_21; exact (goA_no hb : (goA (S2 21) (ldb F S2 u (nI b) r) (fun t => S2 21 t + -S2 9 u) i) = (goA (S2 21) (ldb F S2 u (nI b) r) (fun t => S2 21 t + -S2 9 u) (i + 1)))
                      by_cases h_22 : k = 22
                      · subst h_22; exact (goA_no hb : (goA (S2 22) (ldb F S2 u (nI b) r) (fun _ => -1) i) = (goA (S2 22) (ldb F S2 u (nI b) r) (fun _ => -1) (i + 1)))
                      by_cases h_23 : k = 23
                      · subst h_23; exact (goA_no hb : (goA (S2 23) (ldb F S2 u (nI b) r) (fun _ => nI u) i) = (goA (S2 23) (ldb F S2 u (nI b) r) (fun _ => nI u) (i + 1)))
                      by_cases h_18 : k = 18
                      · subst h_18; exact ((by rw [cnt_no hb]) : (upd (S2 18) u (S2 18 u + nI (cnt (ldb F S2 u (nI b) r) i) * S2 9 u)) = (upd (S2 18) u (S2 18 u + nI (cnt (ldb F S2 u (nI b) r) (i + 1)) * S2 9 u)))
                      simp only [up, h_21, h_22, h_23, h_18, if_false]) (fun _ => rfl)
                  exact ih108 (i + 1) _ _ (by omega) (by omega) (by rw [cnt_no hb]; omega) (by rw [hpl, cnt_no hb]) (fun k9 h9 h8 => (hXf k9 h9 h8)) _ _ _ hP hS (lv_sub hl [0, 1, 2, 3, 4, 5] rfl)
                · have c_128 := bI_eq c_128
                  refine lv_aload_n C0.1 C0.2.1 dX9_land_131 rfl (lv_at hl 3 rfl) ?_
                  refine lv_iload C0.1 C0.2.1 dX9_land_132 (lv_at hl 0 rfl) ?_
                  refine lv_iconst (v := 2) C0.1 C0.2.1 dX9_land_134 (by decide) ?_
                  refine k_X9_who_2 hd sId C0 hK hP (by omega) (v := S2 22 i) (by show ((goA (S2 22) (ldb F S2 u (nI b) r) (fun _ => -1) i) i) = S2 22 i; simp only [goA_self]) hS hA hl.1 ml_X9_116 ⟨Nat.le_of_ble_eq_true rfl, Nat.le_of_ble_eq_true rfl⟩ ⟨Nat.zero_le _, Nat.zero_le _⟩ (Nat.le_of_ble_eq_true rfl) dX9_land_135 (fun H locs hP hS => ?_)
                  refine lv_iload_n C0.1 C0.2.1 dX9_land_138 rfl (lv_at hl 5 rfl) ?_
                  refine lv_icmp_ne (tgt := 236) C0.1 C0.2.1 dX9_land_139 (by decide) (fun c_139 => ?_) (fun c_139 => ?_)
                  · refine lv_iinc (v := nI (i + 1)) (lv' := [(5, .int (nI (i + 1))), (4, .int z), (3, .int f), (0, .ref (a 20)), (1, .int (nI u)), (2, .int (nI b))]) C0.1 C0.2.1 dX9_land_236 hl (k := 0) rfl (nI_1 _) (by decide) rfl (fun ls hl => ?_)
                    refine lv_goto (tgt := 108) C0.1 C0.2.1 dX9_land_239 (by decide) ?_
                    have he : elg F S2 u (nI b) i = false := by unfold elg; rw [decide_eq_false c_139]; simp
                    have hb : ¬ ldb F S2 u (nI b) r i = true := by unfold ldb; rw [he]; simp
                    have hP : WQ D cA a (up (up (up (up S2 21 (goA (S2 21) (ldb F S2 u (nI b) r) (fun t => S2 21 t + -S2 9 u) (i + 1))) 22 (goA (S2 22) (ldb F S2 u (nI b) r) (fun _ => -1) (i + 1))) 23 (goA (S2 23) (ldb F S2 u (nI b) r) (fun _ => nI u) (i + 1))) 18 (upd (S2 18) u (S2 18 u + nI (cnt (ldb F S2 u (nI b) r) (i + 1)) * S2 9 u))) Xv I H := WQ.congr hP (fun k => by
                        by_cases h_21 : k = 21
                        · subst h_21; exact (goA_no hb : (goA (S2 21) (ldb F S2 u (nI b) r) (fun t => S2 21 t + -S2 9 u) i) = (goA (S2 21) (ldb F S2 u (nI b) r) (fun t => S2 21 t + -S2 9 u) (i + 1)))
                        by_cases h_22 : k = 22
                        · subst h_22; exact (goA_no hb : (goA (S2 22) (ldb F S2 u (nI b) r) (fun _ => -1) i) = (goA (S2 22) (ldb F S2 u (nI b) r) (fun _ => -1) (i + 1)))
                        by_cases h_23 : k = 23
                        · subst h_23; exact (goA_no hb : (goA (S2 23) (ldb F S2 u (nI b) r) (fun _ => nI u) i) = (goA (S2 23) (ldb F S2 u (nI b) r) (fun _ => nI u) (i + 1)))
                        by_cases h_18 : k = 18
                        · subst h_18; exact ((by rw [cnt_no hb]) : (upd (S2 18) u (S2 18 u + nI (cnt (ldb F S2 u (nI b) r) i) * S2 9 u)) = (upd (S2 18) u (S2 18 u + nI (cnt (ldb F S2 u (nI b) r) (i + 1)) * S2 9 u)))
                        simp only [up, h_21, h_22, h_23, h_18, if_false]) (fun _ => rfl)
                    exact ih108 (i + 1) _ _ (by omega) (by omega) (by rw [cnt_no hb]; omega) (by rw [hpl, cnt_no hb]) (fun k9 h9 h8 => (hXf k9 h9 h8)) _ _ _ hP hS (lv_sub hl [0, 1, 2, 3, 4, 5] rfl)
                  · refine lv_aload_n C0.1 C0.2.1 dX9_land_142 rfl (lv_at hl 3 rfl) ?_
                    refine lv_iload C0.1 C0.2.1 dX9_land_143 (lv_at hl 0 rfl) ?_
                    refine lv_iconst (v := 1) C0.1 C0.2.1 dX9_land_145 (by decide) ?_
                    refine k_X9_who_1 hd sId C0 hK hP (by omega) (v := S2 21 i) (by show ((goA (S2 21) (ldb F S2 u (nI b) r) (fun t => S2 21 t + -S2 9 u) i) i) = S2 21 i; simp only [goA_self]) hS hA hl.1 ml_X9_116 ⟨Nat.le_of_ble_eq_true rfl, Nat.le_of_ble_eq_true rfl⟩ ⟨Nat.zero_le _, Nat.zero_le _⟩ (Nat.le_of_ble_eq_true rfl) dX9_land_146 (fun H locs hP hS => ?_)
                    refine lv_aload_n C0.1 C0.2.1 dX9_land_149 rfl (lv_at hl 3 rfl) ?_
                    refine lv_iload_n C0.1 C0.2.1 dX9_land_150 rfl (lv_at hl 4 rfl) ?_
                    refine lv_iconst (v := 5) C0.1 C0.2.1 dX9_land_151 (by decide) ?_
                    refine k_X9_pu_5 hd sId C0 hK hP (by omega) (v := S2 9 u) rfl hS hA hl.1 ml_X9_66 ⟨Nat.le_of_ble_eq_true rfl, Nat.le_of_ble_eq_true rfl⟩ ⟨Nat.zero_le _, Nat.zero_le _⟩ (Nat.le_of_ble_eq_true rfl) dX9_land_152 (fun H locs hP hS => ?_)
                    refine lv_icmp_lt (tgt := 236) C0.1 C0.2.1 dX9_land_155 (by decide) (fun c_155 => ?_) (fun c_155 => ?_)
                    · refine lv_iinc (v := nI (i + 1)) (lv' := [(5, .int (nI (i + 1))), (4, .int z), (3, .int f), (0, .ref (a 20)), (1, .int (nI u)), (2, .int (nI b))]) C0.1 C0.2.1 dX9_land_236 hl (k := 0) rfl (nI_1 _) (by decide) rfl (fun ls hl => ?_)
                      refine lv_goto (tgt := 108) C0.1 C0.2.1 dX9_land_239 (by decide) ?_
                      have he : elg F S2 u (nI b) i = false := by unfold elg; rw [decide_eq_true c_155]; simp
                      have hb : ¬ ldb F S2 u (nI b) r i = true := by unfold ldb; rw [he]; simp
                      have hP : WQ D cA a (up (up (up (up S2 21 (goA (S2 21) (ldb F S2 u (nI b) r) (fun t => S2 21 t + -S2 9 u) (i + 1))) 22 (goA (S2 22) (ldb F S2 u (nI b) r) (fun _ => -1) (i + 1))) 23 (goA (S2 23) (ldb F S2 u (nI b) r) (fun _ => nI u) (i + 1))) 18 (upd (S2 18) u (S2 18 u + nI (cnt (ldb F S2 u (nI b) r) (i + 1)) * S2 9 u))) Xv I H := WQ.congr hP (fun k => by
                          by_cases h_21 : k = 21
                          · subst h_21; exact (goA_no hb : (goA (S2 21) (ldb F S2 u (nI b) r) (fun t => S2 21 t + -S2 9 u) i) = (goA (S2 21) (ldb F S2 u (nI b) r) (fun t => S2 21 t + -S2 9 u) (i + 1)))
                          by_cases h_22 : k = 22
                          · subst h_22; exact (goA_no hb : (goA (S2 22) (ldb F S2 u (nI b) r) (fun _ => -1) i) = (goA (S2 22) (ldb F S2 u (nI b) r) (fun _ => -1) (i + 1)))
                          by_cases h_23 : k = 23
                          · subst h_23; exact (goA_no hb : (goA (S2 23) (ldb F S2 u (nI b) r) (fun _ => nI u) i) = (goA (S2 23) (ldb F S2 u (nI b) r) (fun _ => nI u) (i + 1)))
                          by_cases h_18 : k = 18
                          · subst h_18; exact ((by rw [cnt_no hb]) : (upd (S2 18) u (S2 18 u + nI (cnt (ldb F S2 u (nI b) r) i) * S2 9 u)) = (upd (S2 18) u (S2 18 u + nI (cnt (ldb F S2 u (nI b) r) (i + 1)) * S2 9 u)))
                          simp only [up, h_21, h_22, h_23, h_18, if_false]) (fun _ => rfl)
                      exact ih108 (i + 1) _ _ (by omega) (by omega) (by rw [cnt_no hb]; omega) (by rw [hpl, cnt_no hb]) (fun k9 h9 h8 => (hXf k9 h9 h8)) _ _ _ hP hS (lv_sub hl [0, 1, 2, 3, 4, 5] rfl)
                    · refine lv_aload_n C0.1 C0.2.1 dX9_land_158 rfl (lv_at hl 3 rfl) ?_
                      refine lv_iload_n C0.1 C0.2.1 dX9_land_159 rfl (lv_at hl 5 rfl) ?_
                      refine lv_aload_n C0.1 C0.2.1 dX9_land_160 rfl (lv_at hl 3 rfl) ?_
                      refine lv_iload C0.1 C0.2.1 dX9_land_161 (lv_at hl 0 rfl) ?_
                      refine lv_iconst (v := 0) C0.1 C0.2.1 dX9_land_163 (by decide) ?_
                      refine k_X9_who_0 hd sId C0 hK hP (by omega) (v := nI wi) hwe hS hA hl.1 ml_X9_116 ⟨Nat.le_of_ble_eq_true rfl, Nat.le_of_ble_eq_true rfl⟩ ⟨Nat.zero_le _, Nat.zero_le _⟩ (Nat.le_of_ble_eq_true rfl) dX9_land_164 (fun H locs hP hS => ?_)
                      refine k_X9_takes hd sId C0 hK hP hnP2 hP6 hnL2 hL8 hLnk2 hTl2 hb hwi hS hA hl.1 ml_X9_159 ⟨Nat.le_of_ble_eq_true rfl, Nat.le_of_ble_eq_true rfl⟩ ⟨Nat.zero_le _, Nat.zero_le _⟩ (Nat.le_of_ble_eq_true rfl) dX9_land_167 (fun v_4 S_2 X_3 H locs hx_1 hP hS => ?_)
                      obtain ⟨hrv, hs1, hxo⟩ := hx_1
                      rw [hs1] at hP
                      have hrv : v_4 = F (nI b) (S2 20 i) := (hrv.trans (fstM_congr rfl rfl P b wi)).trans (by rw [hwe]; exact (hFW2 b hb wi hwi).symm)
                      subst hrv
                      refine lv_iload_n C0.1 C0.2.1 dX9_land_170 rfl (lv_at hl 4 rfl) ?_
                      refine lv_icmp_eq (tgt := 177) C0.1 C0.2.1 dX9_land_171 (by decide) (fun c_171 => ?_) (fun c_171 => ?_)
                      · refine lv_iinc (v := z + (-1)) (lv' := [(4, .int (z + (-1))), (5, .int (nI i)), (3, .int f), (0, .ref (a 20)), (1, .int (nI u)), (2, .int (nI b))]) C0.1 C0.2.1 dX9_land_177 hl (k := 1) rfl rfl (by decide) rfl (fun ls hl => ?_)
                        refine lv_aload_n C0.1 C0.2.1 dX9_land_180 rfl (lv_at hl 3 rfl) ?_
                        refine lv_iload C0.1 C0.2.1 dX9_land_181 (lv_at hl 1 rfl) ?_
                        refine lv_iconst (v := 1) C0.1 C0.2.1 dX9_land_183 (by decide) ?_
                        refine lv_aload_n C0.1 C0.2.1 dX9_land_184 rfl (lv_at hl 3 rfl) ?_
                        refine lv_iload C0.1 C0.2.1 dX9_land_185 (lv_at hl 1 rfl) ?_
                        refine lv_iconst (v := 1) C0.1 C0.2.1 dX9_land_187 (by decide) ?_
                        refine k_X9_who_1 hd sId C0 hK hP (by omega) (v := S2 21 i) (by show ((goA (S2 21) (ldb F S2 u (nI b) r) (fun t => S2 21 t + -S2 9 u) i) i) = S2 21 i; simp only [goA_self]) hS hA hl.1 ml_X9_116 ⟨Nat.le_of_ble_eq_true rfl, Nat.le_of_ble_eq_true rfl⟩ ⟨Nat.zero_le _, Nat.zero_le _⟩ (Nat.le_of_ble_eq_true rfl) dX9_land_188 (fun H locs hP hS => ?_)
                        refine lv_aload_n C0.1 C0.2.1 dX9_land_191 rfl (lv_at hl 3 rfl) ?_
                        refine lv_iload_n C0.1 C0.2.1 dX9_land_192 rfl (lv_at hl 4 rfl) ?_
                        refine lv_iconst (v := 5) C0.1 C0.2.1 dX9_land_193 (by decide) ?_
                        refine k_X9_pu_5 hd sId C0 hK hP (by omega) (v := S2 9 u) rfl hS hA hl.1 ml_X9_66 ⟨Nat.le_of_ble_eq_true rfl, Nat.le_of_ble_eq_true rfl⟩ ⟨Nat.zero_le _, Nat.zero_le _⟩ (Nat.le_of_ble_eq_true rfl) dX9_land_194 (fun H locs hP hS => ?_)
                        refine lv_isub C0.1 C0.2.1 dX9_land_197 ?_
                        refine k_X9_setWho_1 hd sId C0 hK hP (by omega) hS hA hl.1 ml_X9_156 ⟨Nat.le_of_ble_eq_true rfl, Nat.le_of_ble_eq_true rfl⟩ ⟨Nat.zero_le _, Nat.zero_le _⟩ (Nat.le_of_ble_eq_true rfl) dX9_land_198 (fun H locs hP hS => ?_)
                        have hP : WQ D cA a (up (up (up (up S2 22 (goA (S2 22) (ldb F S2 u (nI b) r) (fun _ => -1) i)) 23 (goA (S2 23) (ldb F S2 u (nI b) r) (fun _ => nI u) i)) 18 (upd (S2 18) u (S2 18 u + nI (cnt (ldb F S2 u (nI b) r) i) * S2 9 u))) 21 (upd (goA (S2 21) (ldb F S2 u (nI b) r) (fun t => S2 21 t + -S2 9 u) i) i ((S2 21 i) - (S2 9 u)))) X_3 I H := WQ.congr (show WQ D cA a (up (up (up (up (up S2 21 (goA (S2 21) (ldb F S2 u (nI b) r) (fun t => S2 21 t + -S2 9 u) i)) 22 (goA (S2 22) (ldb F S2 u (nI b) r) (fun _ => -1) i)) 23 (goA (S2 23) (ldb F S2 u (nI b) r) (fun _ => nI u) i)) 18 (upd (S2 18) u (S2 18 u + nI (cnt (ldb F S2 u (nI b) r) i) * S2 9 u))) 21 (upd (goA (S2 21) (ldb F S2 u (nI b) r) (fun t => S2 21 t + -S2 9 u) i) i ((S2 21 i) - (S2 9 u)))) X_3 I H from hP) (fun k => by
                            by_cases h_22 : k = 22
                            · subst h_22; rfl
                            by_cases h_23 : k = 23
                            · subst h_23; rfl
                            by_cases h_18 : k = 18
                            · subst h_18; rfl
                            by_cases h_21 : k = 21
                            · subst h_21; rfl
                            simp only [up, h_22, h_23, h_18, h_21, if_false]) (fun _ => rfl)
                        refine lv_aload_n C0.1 C0.2.1 dX9_land_201 rfl (lv_at hl 3 rfl) ?_
                        refine lv_iload C0.1 C0.2.1 dX9_land_202 (lv_at hl 1 rfl) ?_
                        refine lv_iconst (v := 3) C0.1 C0.2.1 dX9_land_204 (by decide) ?_
                        refine lv_iload_n C0.1 C0.2.1 dX9_land_205 rfl (lv_at hl 4 rfl) ?_
                        refine k_X9_setWho_3 hd sId C0 hK hP (by omega) hS hA hl.1 ml_X9_156 ⟨Nat.le_of_ble_eq_true rfl, Nat.le_of_ble_eq_true rfl⟩ ⟨Nat.zero_le _, Nat.zero_le _⟩ (Nat.le_of_ble_eq_true rfl) dX9_land_206 (fun H locs hP hS => ?_)
                        have hP : WQ D cA a (up (up (up (up S2 22 (goA (S2 22) (ldb F S2 u (nI b) r) (fun _ => -1) i)) 18 (upd (S2 18) u (S2 18 u + nI (cnt (ldb F S2 u (nI b) r) i) * S2 9 u))) 21 (upd (goA (S2 21) (ldb F S2 u (nI b) r) (fun t => S2 21 t + -S2 9 u) i) i ((S2 21 i) - (S2 9 u)))) 23 (upd (goA (S2 23) (ldb F S2 u (nI b) r) (fun _ => nI u) i) i (nI u))) X_3 I H := WQ.congr (show WQ D cA a (up (up (up (up (up S2 22 (goA (S2 22) (ldb F S2 u (nI b) r) (fun _ => -1) i)) 23 (goA (S2 23) (ldb F S2 u (nI b) r) (fun _ => nI u) i)) 18 (upd (S2 18) u (S2 18 u + nI (cnt (ldb F S2 u (nI b) r) i) * S2 9 u))) 21 (upd (goA (S2 21) (ldb F S2 u (nI b) r) (fun t => S2 21 t + -S2 9 u) i) i ((S2 21 i) - (S2 9 u)))) 23 (upd (goA (S2 23) (ldb F S2 u (nI b) r) (fun _ => nI u) i) i (nI u))) X_3 I H from hP) (fun k => by
                            by_cases h_22 : k = 22
                            · subst h_22; rfl
                            by_cases h_18 : k = 18
                            · subst h_18; rfl
                            by_cases h_21 : k = 21
                            · subst h_21; rfl
                            by_cases h_23 : k = 23
                            · subst h_23; rfl
                            simp only [up, h_22, h_18, h_21, h_23, if_false]) (fun _ => rfl)
                        refine lv_aload_n C0.1 C0.2.1 dX9_land_209 rfl (lv_at hl 3 rfl) ?_
                        refine lv_iload C0.1 C0.2.1 dX9_land_210 (lv_at hl 1 rfl) ?_
                        refine lv_iconst (v := 2) C0.1 C0.2.1 dX9_land_212 (by decide) ?_
                        refine lv_iconst (v := (-1)) C0.1 C0.2.1 dX9_land_213 (by decide) ?_
                        refine k_X9_setWho_2 hd sId C0 hK hP (by omega) hS hA hl.1 ml_X9_156 ⟨Nat.le_of_ble_eq_true rfl, Nat.le_of_ble_eq_true rfl⟩ ⟨Nat.zero_le _, Nat.zero_le _⟩ (Nat.le_of_ble_eq_true rfl) dX9_land_214 (fun H locs hP hS => ?_)
                        have hP : WQ D cA a (up (up (up (up S2 18 (upd (S2 18) u (S2 18 u + nI (cnt (ldb F S2 u (nI b) r) i) * S2 9 u))) 21 (upd (goA (S2 21) (ldb F S2 u (nI b) r) (fun t => S2 21 t + -S2 9 u) i) i ((S2 21 i) - (S2 9 u)))) 23 (upd (goA (S2 23) (ldb F S2 u (nI b) r) (fun _ => nI u) i) i (nI u))) 22 (upd (goA (S2 22) (ldb F S2 u (nI b) r) (fun _ => -1) i) i (-1))) X_3 I H := WQ.congr (show WQ D cA a (up (up (up (up (up S2 22 (goA (S2 22) (ldb F S2 u (nI b) r) (fun _ => -1) i)) 18 (upd (S2 18) u (S2 18 u + nI (cnt (ldb F S2 u (nI b) r) i) * S2 9 u))) 21 (upd (goA (S2 21) (ldb F S2 u (nI b) r) (fun t => S2 21 t + -S2 9 u) i) i ((S2 21 i) - (S2 9 u)))) 23 (upd (goA (S2 23) (ldb F S2 u (nI b) r) (fun _ => nI u) i) i (nI u))) 22 (upd (goA (S2 22) (ldb F S2 u (nI b) r) (fun _ => -1) i) i (-1))) X_3 I H from hP) (fun k => by
                            by_cases h_18 : k = 18
                            · subst h_18; rfl
                            by_cases h_21 : k = 21
                            · subst h_21; rfl
                            by_cases h_23 : k = 23
                            · subst h_23; rfl
                            by_cases h_22 : k = 22
                            · subst h_22; rfl
                            simp only [up, h_18, h_21, h_23, h_22, if_false]) (fun _ => rfl)
                        refine lv_aload_n C0.1 C0.2.1 dX9_land_217 rfl (lv_at hl 3 rfl) ?_
                        refine lv_iload_n C0.1 C0.2.1 dX9_land_218 rfl (lv_at hl 4 rfl) ?_
                        refine lv_iconst (v := 2) C0.1 C0.2.1 dX9_land_219 (by decide) ?_
                        refine lv_aload_n C0.1 C0.2.1 dX9_land_220 rfl (lv_at hl 3 rfl) ?_
                        refine lv_iload_n C0.1 C0.2.1 dX9_land_221 rfl (lv_at hl 4 rfl) ?_
                        refine lv_iconst (v := 2) C0.1 C0.2.1 dX9_land_222 (by decide) ?_
                        refine k_X9_go_2 hd sId C0 hK hP (by omega) (v := S2 18 u + nI (cnt (ldb F S2 u (nI b) r) i) * S2 9 u) pk_us hS hA hl.1 ml_X9_77 ⟨Nat.le_of_ble_eq_true rfl, Nat.le_of_ble_eq_true rfl⟩ ⟨Nat.zero_le _, Nat.zero_le _⟩ (Nat.le_of_ble_eq_true rfl) dX9_land_223 (fun H locs hP hS => ?_)
                        refine lv_aload_n C0.1 C0.2.1 dX9_land_226 rfl (lv_at hl 3 rfl) ?_
                        refine lv_iload_n C0.1 C0.2.1 dX9_land_227 rfl (lv_at hl 4 rfl) ?_
                        refine lv_iconst (v := 5) C0.1 C0.2.1 dX9_land_228 (by decide) ?_
                        refine k_X9_pu_5 hd sId C0 hK hP (by omega) (v := S2 9 u) rfl hS hA hl.1 ml_X9_66 ⟨Nat.le_of_ble_eq_true rfl, Nat.le_of_ble_eq_true rfl⟩ ⟨Nat.zero_le _, Nat.zero_le _⟩ (Nat.le_of_ble_eq_true rfl) dX9_land_229 (fun H locs hP hS => ?_)
                        refine lv_iadd C0.1 C0.2.1 dX9_land_232 ?_
                        refine k_X9_setGo_2 hd sId C0 hK hP (by omega) hS hA hl.1 ml_X9_100 ⟨Nat.le_of_ble_eq_true rfl, Nat.le_of_ble_eq_true rfl⟩ ⟨Nat.zero_le _, Nat.zero_le _⟩ (Nat.le_of_ble_eq_true rfl) dX9_land_233 (fun H locs hP hS => ?_)
                        have hP : WQ D cA a (up (up (up (up S2 21 (upd (goA (S2 21) (ldb F S2 u (nI b) r) (fun t => S2 21 t + -S2 9 u) i) i ((S2 21 i) - (S2 9 u)))) 23 (upd (goA (S2 23) (ldb F S2 u (nI b) r) (fun _ => nI u) i) i (nI u))) 22 (upd (goA (S2 22) (ldb F S2 u (nI b) r) (fun _ => -1) i) i (-1))) 18 (upd (upd (S2 18) u (S2 18 u + nI (cnt (ldb F S2 u (nI b) r) i) * S2 9 u)) u ((S2 18 u + nI (cnt (ldb F S2 u (nI b) r) i) * S2 9 u) + (S2 9 u)))) X_3 I H := WQ.congr (show WQ D cA a (up (up (up (up (up S2 18 (upd (S2 18) u (S2 18 u + nI (cnt (ldb F S2 u (nI b) r) i) * S2 9 u))) 21 (upd (goA (S2 21) (ldb F S2 u (nI b) r) (fun t => S2 21 t + -S2 9 u) i) i ((S2 21 i) - (S2 9 u)))) 23 (upd (goA (S2 23) (ldb F S2 u (nI b) r) (fun _ => nI u) i) i (nI u))) 22 (upd (goA (S2 22) (ldb F S2 u (nI b) r) (fun _ => -1) i) i (-1))) 18 (upd (upd (S2 18) u (S2 18 u + nI (cnt (ldb F S2 u (nI b) r) i) * S2 9 u)) u ((S2 18 u + nI (cnt (ldb F S2 u (nI b) r) i) * S2 9 u) + (S2 9 u)))) X_3 I H from hP) (fun k => by
                            by_cases h_21 : k = 21
                            · subst h_21; rfl
                            by_cases h_23 : k = 23
                            · subst h_23; rfl
                            by_cases h_22 : k = 22
                            · subst h_22; rfl
                            by_cases h_18 : k = 18
                            · subst h_18; rfl
                            simp only [up, h_21, h_23, h_22, h_18, if_false]) (fun _ => rfl)
                        refine lv_iinc (v := nI (i + 1)) (lv' := [(5, .int (nI (i + 1))), (4, .int (z + (-1))), (3, .int f), (0, .ref (a 20)), (1, .int (nI u)), (2, .int (nI b))]) C0.1 C0.2.1 dX9_land_236 hl (k := 1) rfl (nI_1 _) (by decide) rfl (fun ls hl => ?_)
                        refine lv_goto (tgt := 108) C0.1 C0.2.1 dX9_land_239 (by decide) ?_
                        have hpos : cnt (ldb F S2 u (nI b) r) i < r := Nat.lt_of_not_le fun q => c_119 (by rw [hpl, show r - cnt (ldb F S2 u (nI b) r) i = 0 by omega]; decide)
                        have he : elg F S2 u (nI b) i = true := by unfold elg; rw [decide_eq_true c_139, decide_eq_true (show S2 24 i = -1 by simpa using c_128), decide_eq_true c_171, decide_eq_false c_155]; rfl
                        have hb : ldb F S2 u (nI b) r i = true := by unfold ldb; rw [he, decide_eq_true (by have := cnt_ldb F S2 u (nI b) r i; omega)]; rfl
                        have hP : WQ D cA a (up (up (up (up S2 21 (goA (S2 21) (ldb F S2 u (nI b) r) (fun t => S2 21 t + -S2 9 u) (i + 1))) 22 (goA (S2 22) (ldb F S2 u (nI b) r) (fun _ => -1) (i + 1))) 23 (goA (S2 23) (ldb F S2 u (nI b) r) (fun _ => nI u) (i + 1))) 18 (upd (S2 18) u (S2 18 u + nI (cnt (ldb F S2 u (nI b) r) (i + 1)) * S2 9 u))) X_3 I H := WQ.congr hP (fun k => by
                            by_cases h_21 : k = 21
                            · subst h_21; exact ((by rw [Int32.sub_eq_add_neg]; exact goA_yes (v := fun t => S2 21 t + -S2 9 u) hb) : (upd (goA (S2 21) (ldb F S2 u (nI b) r) (fun t => S2 21 t + -S2 9 u) i) i ((S2 21 i) - (S2 9 u))) = (goA (S2 21) (ldb F S2 u (nI b) r) (fun t => S2 21 t + -S2 9 u) (i + 1)))
                            by_cases h_23 : k = 23
                            · subst h_23; exact (goA_yes hb : (upd (goA (S2 23) (ldb F S2 u (nI b) r) (fun _ => nI u) i) i (nI u)) = (goA (S2 23) (ldb F S2 u (nI b) r) (fun _ => nI u) (i + 1)))
                            by_cases h_22 : k = 22
                            · subst h_22; exact (goA_yes hb : (upd (goA (S2 22) (ldb F S2 u (nI b) r) (fun _ => -1) i) i (-1)) = (goA (S2 22) (ldb F S2 u (nI b) r) (fun _ => -1) (i + 1)))
                            by_cases h_18 : k = 18
                            · subst h_18; exact ((by funext j; unfold upd; by_cases e : j = u <;> simp [e, cnt_yes hb, mul_succ]) : (upd (upd (S2 18) u (S2 18 u + nI (cnt (ldb F S2 u (nI b) r) i) * S2 9 u)) u ((S2 18 u + nI (cnt (ldb F S2 u (nI b) r) i) * S2 9 u) + (S2 9 u))) = (upd (S2 18) u (S2 18 u + nI (cnt (ldb F S2 u (nI b) r) (i + 1)) * S2 9 u)))
                            simp only [up, h_21, h_23, h_22, h_18, if_false]) (fun _ => rfl)
                        exact ih108 (i + 1) _ _ (by omega) (by omega) (by rw [cnt_yes hb]; omega) (by rw [hpl, cnt_yes hb, show nI (r - cnt (ldb F S2 u (nI b) r) i) = nI (r - (cnt (ldb F S2 u (nI b) r) i + 1) + 1) from by congr 1; omega]; exact pk_m1 _) (fun k9 h9 h8 => ((hxo k9 h9 h8).trans (hXf k9 h9 h8))) _ _ _ hP hS (lv_sub hl [0, 1, 2, 3, 4, 5] rfl)
                      · refine lv_goto (tgt := 236) C0.1 C0.2.1 dX9_land_174 (by decide) ?_
                        refine lv_iinc (v := nI (i + 1)) (lv' := [(5, .int (nI (i + 1))), (4, .int z), (3, .int f), (0, .ref (a 20)), (1, .int (nI u)), (2, .int (nI b))]) C0.1 C0.2.1 dX9_land_236 hl (k := 0) rfl (nI_1 _) (by decide) rfl (fun ls hl => ?_)
                        refine lv_goto (tgt := 108) C0.1 C0.2.1 dX9_land_239 (by decide) ?_
                        have he : elg F S2 u (nI b) i = false := by unfold elg; rw [decide_eq_false c_171]; simp
                        have hb : ¬ ldb F S2 u (nI b) r i = true := by unfold ldb; rw [he]; simp
                        have hP : WQ D cA a (up (up (up (up S2 21 (goA (S2 21) (ldb F S2 u (nI b) r) (fun t => S2 21 t + -S2 9 u) (i + 1))) 22 (goA (S2 22) (ldb F S2 u (nI b) r) (fun _ => -1) (i + 1))) 23 (goA (S2 23) (ldb F S2 u (nI b) r) (fun _ => nI u) (i + 1))) 18 (upd (S2 18) u (S2 18 u + nI (cnt (ldb F S2 u (nI b) r) (i + 1)) * S2 9 u))) X_3 I H := WQ.congr hP (fun k => by
                            by_cases h_21 : k = 21
                            · subst h_21; exact (goA_no hb : (goA (S2 21) (ldb F S2 u (nI b) r) (fun t => S2 21 t + -S2 9 u) i) = (goA (S2 21) (ldb F S2 u (nI b) r) (fun t => S2 21 t + -S2 9 u) (i + 1)))
                            by_cases h_22 : k = 22
                            · subst h_22; exact (goA_no hb : (goA (S2 22) (ldb F S2 u (nI b) r) (fun _ => -1) i) = (goA (S2 22) (ldb F S2 u (nI b) r) (fun _ => -1) (i + 1)))
                            by_cases h_23 : k = 23
                            · subst h_23; exact (goA_no hb : (goA (S2 23) (ldb F S2 u (nI b) r) (fun _ => nI u) i) = (goA (S2 23) (ldb F S2 u (nI b) r) (fun _ => nI u) (i + 1)))
                            by_cases h_18 : k = 18
                            · subst h_18; exact ((by rw [cnt_no hb]) : (upd (S2 18) u (S2 18 u + nI (cnt (ldb F S2 u (nI b) r) i) * S2 9 u)) = (upd (S2 18) u (S2 18 u + nI (cnt (ldb F S2 u (nI b) r) (i + 1)) * S2 9 u)))
                            simp only [up, h_21, h_22, h_23, h_18, if_false]) (fun _ => rfl)
                        exact ih108 (i + 1) _ _ (by omega) (by omega) (by rw [cnt_no hb]; omega) (by rw [hpl, cnt_no hb]) (fun k9 h9 h8 => ((hxo k9 h9 h8).trans (hXf k9 h9 h8))) _ _ _ hP hS (lv_sub hl [0, 1, 2, 3, 4, 5] rfl)
        have hP : WQ D cA a (up (up (up (up S2 21 (goA (S2 21) (ldb F S2 u (nI b) r) (fun t => S2 21 t + -S2 9 u) 0)) 22 (goA (S2 22) (ldb F S2 u (nI b) r) (fun _ => -1) 0)) 23 (goA (S2 23) (ldb F S2 u (nI b) r) (fun _ => nI u) 0)) 18 (upd (S2 18) u (S2 18 u + nI (cnt (ldb F S2 u (nI b) r) 0) * S2 9 u))) X I H := WQ.congr hP (fun k => by rw [goA_zero, goA_zero, goA_zero, up_self, up_self, up_self, show cnt (ldb F S2 u (nI b) r) 0 = 0 from rfl, nI_0, Int32.zero_mul, Int32.add_zero, show upd (S2 18) u (S2 18 u) = S2 18 from by funext j; unfold upd; by_cases e : j = u <;> simp [e], up_self]) (fun _ => rfl)
        exact loop108 (T + 1) 0 (nI r) _ (by omega) (by omega) (Nat.zero_le _) rfl (fun _ _ _ => rfl) _ _ _ hP hS (lv_sub hl [0, 2, 1, 3, 4, 5] rfl)
      · have hlt : i < T := Nat.not_le.mp fun q => c_26 (nI_le q (by omega))
        refine lv_aload_n C0.1 C0.2.1 dX9_land_29 rfl (lv_at hl 3 rfl) ?_
        refine lv_iload C0.1 C0.2.1 dX9_land_30 (lv_at hl 0 rfl) ?_
        refine lv_iconst (v := 3) C0.1 C0.2.1 dX9_land_32 (by decide) ?_
        refine k_X9_who_3 hd sId C0 hK hP (by omega) (v := S 23 i) (by show ((goA (S 23) (fun t => decide (S 23 t = nI u)) (fun _ => -1) i) i) = S 23 i; simp only [goA_self]) hS hA hl.1 ml_X9_116 ⟨Nat.le_of_ble_eq_true rfl, Nat.le_of_ble_eq_true rfl⟩ ⟨Nat.zero_le _, Nat.zero_le _⟩ (Nat.le_of_ble_eq_true rfl) dX9_land_33 (fun H locs hP hS => ?_)
        refine lv_iload_n C0.1 C0.2.1 dX9_land_36 rfl (lv_at hl 4 rfl) ?_
        refine lv_icmp_eq (tgt := 43) C0.1 C0.2.1 dX9_land_37 (by decide) (fun c_37 => ?_) (fun c_37 => ?_)
        · refine lv_aload_n C0.1 C0.2.1 dX9_land_43 rfl (lv_at hl 3 rfl) ?_
          refine lv_iload C0.1 C0.2.1 dX9_land_44 (lv_at hl 0 rfl) ?_
          refine lv_iconst (v := 3) C0.1 C0.2.1 dX9_land_46 (by decide) ?_
          refine lv_iconst (v := (-1)) C0.1 C0.2.1 dX9_land_47 (by decide) ?_
          refine k_X9_setWho_3 hd sId C0 hK hP (by omega) hS hA hl.1 ml_X9_156 ⟨Nat.le_of_ble_eq_true rfl, Nat.le_of_ble_eq_true rfl⟩ ⟨Nat.zero_le _, Nat.zero_le _⟩ (Nat.le_of_ble_eq_true rfl) dX9_land_48 (fun H locs hP hS => ?_)
          have hP : WQ D cA a (up (up (up S 22 (goA (S 22) (fun t => decide (S 23 t = nI u)) (fun _ => nI b) i)) 24 (goA (S 24) (fun t => decide (S 23 t = nI u) && decide (S 20 t = nI b)) (fun _ => nI h) i)) 23 (upd (goA (S 23) (fun t => decide (S 23 t = nI u)) (fun _ => -1) i) i (-1))) X I H := WQ.congr (show WQ D cA a (up (up (up (up S 23 (goA (S 23) (fun t => decide (S 23 t = nI u)) (fun _ => -1) i)) 22 (goA (S 22) (fun t => decide (S 23 t = nI u)) (fun _ => nI b) i)) 24 (goA (S 24) (fun t => decide (S 23 t = nI u) && decide (S 20 t = nI b)) (fun _ => nI h) i)) 23 (upd (goA (S 23) (fun t => decide (S 23 t = nI u)) (fun _ => -1) i) i (-1))) X I H from hP) (fun k => by
              by_cases h_22 : k = 22
              · subst h_22; rfl
              by_cases h_24 : k = 24
              · subst h_24; rfl
              by_cases h_23 : k = 23
              · subst h_23; rfl
              simp only [up, h_22, h_24, h_23, if_false]) (fun _ => rfl)
          refine lv_aload_n C0.1 C0.2.1 dX9_land_51 rfl (lv_at hl 3 rfl) ?_
          refine lv_iload C0.1 C0.2.1 dX9_land_52 (lv_at hl 0 rfl) ?_
          refine lv_iconst (v := 2) C0.1 C0.2.1 dX9_land_54 (by decide) ?_
          refine lv_iload_n C0.1 C0.2.1 dX9_land_55 rfl (lv_at hl 5 rfl) ?_
          refine k_X9_setWho_2 hd sId C0 hK hP (by omega) hS hA hl.1 ml_X9_156 ⟨Nat.le_of_ble_eq_true rfl, Nat.le_of_ble_eq_true rfl⟩ ⟨Nat.zero_le _, Nat.zero_le _⟩ (Nat.le_of_ble_eq_true rfl) dX9_land_56 (fun H locs hP hS => ?_)
          have hP : WQ D cA a (up (up (up S 24 (goA (S 24) (fun t => decide (S 23 t = nI u) && decide (S 20 t = nI b)) (fun _ => nI h) i)) 23 (upd (goA (S 23) (fun t => decide (S 23 t = nI u)) (fun _ => -1) i) i (-1))) 22 (upd (goA (S 22) (fun t => decide (S 23 t = nI u)) (fun _ => nI b) i) i (nI b))) X I H := WQ.congr (show WQ D cA a (up (up (up (up S 22 (goA (S 22) (fun t => decide (S 23 t = nI u)) (fun _ => nI b) i)) 24 (goA (S 24) (fun t => decide (S 23 t = nI u) && decide (S 20 t = nI b)) (fun _ => nI h) i)) 23 (upd (goA (S 23) (fun t => decide (S 23 t = nI u)) (fun _ => -1) i) i (-1))) 22 (upd (goA (S 22) (fun t => decide (S 23 t = nI u)) (fun _ => nI b) i) i (nI b))) X I H from hP) (fun k => by
              by_cases h_24 : k = 24
              · subst h_24; rfl
              by_cases h_23 : k = 23
              · subst h_23; rfl
              by_cases h_22 : k = 22
              · subst h_22; rfl
              simp only [up, h_24, h_23, h_22, if_false]) (fun _ => rfl)
          refine lv_aload_n C0.1 C0.2.1 dX9_land_59 rfl (lv_at hl 3 rfl) ?_
          refine lv_iload C0.1 C0.2.1 dX9_land_60 (lv_at hl 0 rfl) ?_
          refine lv_iconst (v := 0) C0.1 C0.2.1 dX9_land_62 (by decide) ?_
          refine k_X9_who_0 hd sId C0 hK hP (by omega) (v := S 20 i) rfl hS hA hl.1 ml_X9_116 ⟨Nat.le_of_ble_eq_true rfl, Nat.le_of_ble_eq_true rfl⟩ ⟨Nat.zero_le _, Nat.zero_le _⟩ (Nat.le_of_ble_eq_true rfl) dX9_land_63 (fun H locs hP hS => ?_)
          refine lv_iload_n C0.1 C0.2.1 dX9_land_66 rfl (lv_at hl 5 rfl) ?_
          refine lv_icmp_eq (tgt := 73) C0.1 C0.2.1 dX9_land_67 (by decide) (fun c_67 => ?_) (fun c_67 => ?_)
          · refine lv_aload_n C0.1 C0.2.1 dX9_land_73 rfl (lv_at hl 3 rfl) ?_
            refine lv_iload C0.1 C0.2.1 dX9_land_74 (lv_at hl 0 rfl) ?_
            refine lv_iconst (v := 4) C0.1 C0.2.1 dX9_land_76 (by decide) ?_
            refine lv_aload_n C0.1 C0.2.1 dX9_land_77 rfl (lv_at hl 3 rfl) ?_
            refine g20i (v := nI h) C0 hK hP (hd.1 _ (by decide)) 9 (by decide) fl_X9_54 rfl hnH dX9_land_78 ?_
            refine k_X9_setWho_4 hd sId C0 hK hP (by omega) hS hA hl.1 ml_X9_156 ⟨Nat.le_of_ble_eq_true rfl, Nat.le_of_ble_eq_true rfl⟩ ⟨Nat.zero_le _, Nat.zero_le _⟩ (Nat.le_of_ble_eq_true rfl) dX9_land_81 (fun H locs hP hS => ?_)
            have hP : WQ D cA a (up (up (up S 23 (upd (goA (S 23) (fun t => decide (S 23 t = nI u)) (fun _ => -1) i) i (-1))) 22 (upd (goA (S 22) (fun t => decide (S 23 t = nI u)) (fun _ => nI b) i) i (nI b))) 24 (upd (goA (S 24) (fun t => decide (S 23 t = nI u) && decide (S 20 t = nI b)) (fun _ => nI h) i) i (nI h))) X I H := WQ.congr (show WQ D cA a (up (up (up (up S 24 (goA (S 24) (fun t => decide (S 23 t = nI u) && decide (S 20 t = nI b)) (fun _ => nI h) i)) 23 (upd (goA (S 23) (fun t => decide (S 23 t = nI u)) (fun _ => -1) i) i (-1))) 22 (upd (goA (S 22) (fun t => decide (S 23 t = nI u)) (fun _ => nI b) i) i (nI b))) 24 (upd (goA (S 24) (fun t => decide (S 23 t = nI u) && decide (S 20 t = nI b)) (fun _ => nI h) i) i (nI h))) X I H from hP) (fun k => by
                by_cases h_23 : k = 23
                · subst h_23; rfl
                by_cases h_22 : k = 22
                · subst h_22; rfl
                by_cases h_24 : k = 24
                · subst h_24; rfl
                simp only [up, h_23, h_22, h_24, if_false]) (fun _ => rfl)
            refine lv_iinc (v := f + 1) (lv' := [(3, .int (f + 1)), (5, .int (nI i)), (4, .int (nI r)), (0, .ref (a 20)), (1, .int (nI u)), (2, .int (nI b))]) C0.1 C0.2.1 dX9_land_84 hl (k := 1) rfl rfl (by decide) rfl (fun ls hl => ?_)
            refine lv_iinc (v := nI (i + 1)) (lv' := [(5, .int (nI (i + 1))), (3, .int (f + 1)), (4, .int (nI r)), (0, .ref (a 20)), (1, .int (nI u)), (2, .int (nI b))]) C0.1 C0.2.1 dX9_land_87 hl (k := 1) rfl (nI_1 _) (by decide) rfl (fun ls hl => ?_)
            refine lv_goto (tgt := 20) C0.1 C0.2.1 dX9_land_90 (by decide) ?_
            have hP : WQ D cA a (up (up (up S 23 (goA (S 23) (fun t => decide (S 23 t = nI u)) (fun _ => -1) (i + 1))) 22 (goA (S 22) (fun t => decide (S 23 t = nI u)) (fun _ => nI b) (i + 1))) 24 (goA (S 24) (fun t => decide (S 23 t = nI u) && decide (S 20 t = nI b)) (fun _ => nI h) (i + 1))) X I H := WQ.congr hP (fun k => by
                by_cases h_23 : k = 23
                · subst h_23; exact (goA_yes (decide_eq_true c_37) : (upd (goA (S 23) (fun t => decide (S 23 t = nI u)) (fun _ => -1) i) i (-1)) = (goA (S 23) (fun t => decide (S 23 t = nI u)) (fun _ => -1) (i + 1)))
                by_cases h_22 : k = 22
                · subst h_22; exact (goA_yes (decide_eq_true c_37) : (upd (goA (S 22) (fun t => decide (S 23 t = nI u)) (fun _ => nI b) i) i (nI b)) = (goA (S 22) (fun t => decide (S 23 t = nI u)) (fun _ => nI b) (i + 1)))
                by_cases h_24 : k = 24
                · subst h_24; exact (goA_yes (by simp [c_37, c_67]) : (upd (goA (S 24) (fun t => decide (S 23 t = nI u) && decide (S 20 t = nI b)) (fun _ => nI h) i) i (nI h)) = (goA (S 24) (fun t => decide (S 23 t = nI u) && decide (S 20 t = nI b)) (fun _ => nI h) (i + 1)))
                simp only [up, h_23, h_22, h_24, if_false]) (fun _ => rfl)
            exact ih20 (i + 1) _ (by omega) (by omega) (by rw [hcn, cnt_yes (by simp [c_37, c_67]), nI_1]) _ _ _ hP hS (lv_sub hl [0, 1, 2, 3, 4, 5] rfl)
          · refine lv_goto (tgt := 87) C0.1 C0.2.1 dX9_land_70 (by decide) ?_
            refine lv_iinc (v := nI (i + 1)) (lv' := [(5, .int (nI (i + 1))), (3, .int f), (4, .int (nI r)), (0, .ref (a 20)), (1, .int (nI u)), (2, .int (nI b))]) C0.1 C0.2.1 dX9_land_87 hl (k := 0) rfl (nI_1 _) (by decide) rfl (fun ls hl => ?_)
            refine lv_goto (tgt := 20) C0.1 C0.2.1 dX9_land_90 (by decide) ?_
            have hP : WQ D cA a (up (up (up S 23 (goA (S 23) (fun t => decide (S 23 t = nI u)) (fun _ => -1) (i + 1))) 22 (goA (S 22) (fun t => decide (S 23 t = nI u)) (fun _ => nI b) (i + 1))) 24 (goA (S 24) (fun t => decide (S 23 t = nI u) && decide (S 20 t = nI b)) (fun _ => nI h) (i + 1))) X I H := WQ.congr hP (fun k => by
                by_cases h_24 : k = 24
                · subst h_24; exact (goA_no (by simp [c_67]) : (goA (S 24) (fun t => decide (S 23 t = nI u) && decide (S 20 t = nI b)) (fun _ => nI h) i) = (goA (S 24) (fun t => decide (S 23 t = nI u) && decide (S 20 t = nI b)) (fun _ => nI h) (i + 1)))
                by_cases h_23 : k = 23
                · subst h_23; exact (goA_yes (decide_eq_true c_37) : (upd (goA (S 23) (fun t => decide (S 23 t = nI u)) (fun _ => -1) i) i (-1)) = (goA (S 23) (fun t => decide (S 23 t = nI u)) (fun _ => -1) (i + 1)))
                by_cases h_22 : k = 22
                · subst h_22; exact (goA_yes (decide_eq_true c_37) : (upd (goA (S 22) (fun t => decide (S 23 t = nI u)) (fun _ => nI b) i) i (nI b)) = (goA (S 22) (fun t => decide (S 23 t = nI u)) (fun _ => nI b) (i + 1)))
                simp only [up, h_24, h_23, h_22, if_false]) (fun _ => rfl)
            exact ih20 (i + 1) _ (by omega) (by omega) (by rw [hcn, cnt_no (by simp [c_67])]) _ _ _ hP hS (lv_sub hl [0, 1, 2, 3, 4, 5] rfl)
        · refine lv_goto (tgt := 87) C0.1 C0.2.1 dX9_land_40 (by decide) ?_
          refine lv_iinc (v := nI (i + 1)) (lv' := [(5, .int (nI (i + 1))), (3, .int f), (4, .int (nI r)), (0, .ref (a 20)), (1, .int (nI u)), (2, .int (nI b))]) C0.1 C0.2.1 dX9_land_87 hl (k := 0) rfl (nI_1 _) (by decide) rfl (fun ls hl => ?_)
          refine lv_goto (tgt := 20) C0.1 C0.2.1 dX9_land_90 (by decide) ?_
          have hP : WQ D cA a (up (up (up S 23 (goA (S 23) (fun t => decide (S 23 t = nI u)) (fun _ => -1) (i + 1))) 22 (goA (S 22) (fun t => decide (S 23 t = nI u)) (fun _ => nI b) (i + 1))) 24 (goA (S 24) (fun t => decide (S 23 t = nI u) && decide (S 20 t = nI b)) (fun _ => nI h) (i + 1))) X I H := WQ.congr hP (fun k => by
              by_cases h_23 : k = 23
              · subst h_23; exact (goA_no (by simp [c_37]) : (goA (S 23) (fun t => decide (S 23 t = nI u)) (fun _ => -1) i) = (goA (S 23) (fun t => decide (S 23 t = nI u)) (fun _ => -1) (i + 1)))
              by_cases h_22 : k = 22
              · subst h_22; exact (goA_no (by simp [c_37]) : (goA (S 22) (fun t => decide (S 23 t = nI u)) (fun _ => nI b) i) = (goA (S 22) (fun t => decide (S 23 t = nI u)) (fun _ => nI b) (i + 1)))
              by_cases h_24 : k = 24
              · subst h_24; exact (goA_no (by simp [c_37]) : (goA (S 24) (fun t => decide (S 23 t = nI u) && decide (S 20 t = nI b)) (fun _ => nI h) i) = (goA (S 24) (fun t => decide (S 23 t = nI u) && decide (S 20 t = nI b)) (fun _ => nI h) (i + 1)))
              simp only [up, h_23, h_22, h_24, if_false]) (fun _ => rfl)
          exact ih20 (i + 1) _ (by omega) (by omega) (by rw [hcn, cnt_no (by simp [c_37])]) _ _ _ hP hS (lv_sub hl [0, 1, 2, 3, 4, 5] rfl)
  have hP : WQ D cA a (up (up (up S 23 (goA (S 23) (fun t => decide (S 23 t = nI u)) (fun _ => -1) 0)) 22 (goA (S 22) (fun t => decide (S 23 t = nI u)) (fun _ => nI b) 0)) 24 (goA (S 24) (fun t => decide (S 23 t = nI u) && decide (S 20 t = nI b)) (fun _ => nI h) 0)) X I H := WQ.congr hP (fun k => by rw [goA_zero, goA_zero, goA_zero, up_self, up_self, up_self]) (fun _ => rfl)
  exact loop20 (T + 1) 0 0 (by omega) (by omega) nI_0.symm _ _ _ hP hS (lv_sub hl [0, 2, 1, 4, 5, 3] rfl)
theorem k_X9_land {n : List Nat} (hd : Hd n a I) (hsub : ∀ k ∈ nM, k ∈ n) (C0 : CallFix p m c cc nL s args GW own) (hK : KK D cA s) (hP : WQ D cA a S X I H) {u : Nat} {P : Nat} {L : Nat} {T : Nat} {h : Nat} {F : Int32 → Int32 → Int32} (hnP : S 82 0 = nI P) (hnL : S 81 0 = nI L) (hnT : S 85 0 = nI T) (hT30 : T ≤ 30) (hnH : S 86 0 = nI h) (hh : h < 2 ^ 31) (hTW : TW S P L) (hTl : TlW S P) (hFW : FW F S P L) (hWi : WiW S L T) (hu : u < P) (hS : va_S A0 H0 H locs) (hA : ∀ q, AI a I q → A0 q) (hls : ls.size = nL) {idx : Nat} (hlink : Cond.methodLink own idx yX9_land ∈ GW) (hR : 5 ≤ R.frames ∧ 119 ≤ R.locals) (hcs : cells ≤ R.cells ∧ slots ≤ R.slots) (hrest : (rest.map fun v => v.category).sum ≤ 8) (hdg : decode cc pc = .ok (.invokevirtual idx, 3)) (kk : ∀ (v : Int32) (S1 X1 : Mem) (H1 : Heap) (locs1 : List Loc), (fun r S1 X1 => r = outN S (nI u) (S 17 u) T ∧ S1 = turnM F S u T h ∧ (∀ k, k ≠ 10 → k ≠ 12 → X1 k = X k)) v S1 X1 → WQ D cA a S1 X1 I H1 → va_S A0 H0 H1 locs1 → W p l e R s m args below meth c H1 locs1 cells slots Q (F0 m (pc + 3) ls (.int v :: rest))) : W p l e R s m args below meth c H locs cells slots Q (F0 m pc ls (.int (nI u) :: .ref (a 20) :: rest)) := by
  exact hoI (qV (n := 1) (c_X9_land l D cA a S X I (hd.sub hsub) u hnP hnL hnT hT30 hnH hh hTW hTl hFW hWi hu) C0 hlink im_X9_land se_X9_land in_X9 co_X9_land ⟨rfl, by decide⟩ hR hK hP (hd.1 _ (hsub _ (by decide))) rfl rfl rfl hls hrest rfl hdg hcs) hS hA kk
set_option maxHeartbeats 4000000 in
set_option maxRecDepth 100000 in
theorem c_X9_step (l : Launch) (D : va_G) (cA : ClassId) (a : Adr) (S X : Mem) (I : Nat → Prop) (hd : Hd nM a I) (u : Nat) {P : Nat} {L : Nat} {h : Nat} (hnH : S 86 0 = nI h) (hh : h < 2 ^ 31) (hTW : TW S P L) (hu : u < P) : NV l yX9_step cX9_step 5 none 4 94 D cA a S X I [.ref (a 20), .int (nI u)] (fun S1 X1 => S1 = stepM S u h ∧ ∀ k, k ≠ 15 → X1 k = X k) := by
  refine nGo (by decide) (Nat.le_of_ble_eq_true rfl) ?_
  intro p e s m args below meth c ls C0 hr hlk hK hP hS hl hargs
  obtain ⟨H, hHe⟩ : ∃ H, H = s.heap := ⟨_, rfl⟩
  obtain ⟨locs, hlo⟩ : ∃ L : List Loc, L = [] := ⟨_, rfl⟩
  have hP : WQ D cA a S X I H := hHe ▸ hP
  have hS : va_S (AI a I) s.heap H locs := by rw [hHe, hlo]; exact hS
  rw [← hHe, ← hlo]
  have hA : ∀ q, AI a I q → AI a I q := fun _ h => h
  obtain ⟨hLnk, hP6, hL8, h17, h16, h8, h3, h2⟩ := id hTW
  obtain ⟨ce, hce196, hce⟩ := h16 u hu
  obtain ⟨b, hb, hbe, hbend⟩ := hTW.bound hu
  obtain ⟨en, hen, hene⟩ := h3 b hb
  refine lv_aload_n C0.1 C0.2.1 dX9_step_0 rfl (lv_at hl 0 rfl) ?_
  refine lv_iload_n C0.1 C0.2.1 dX9_step_1 rfl (lv_at hl 1 rfl) ?_
  refine lv_aload_n C0.1 C0.2.1 dX9_step_2 rfl (lv_at hl 0 rfl) ?_
  refine lv_iload_n C0.1 C0.2.1 dX9_step_3 rfl (lv_at hl 1 rfl) ?_
  refine k_X9_boundCell hd sId C0 hK hP (by omega) (show b < 8 by omega) hbe (v := nI en) hene hS hA hl.1 ml_X9_125 ⟨Nat.le_of_ble_eq_true rfl, Nat.le_of_ble_eq_true rfl⟩ ⟨Nat.zero_le _, Nat.zero_le _⟩ (Nat.le_of_ble_eq_true rfl) dX9_step_4 (fun H locs hP hS => ?_)
  refine lv_aload_n C0.1 C0.2.1 dX9_step_7 rfl (lv_at hl 0 rfl) ?_
  refine k_X9_level hd sId C0 hK hP hnH hh (v := lvS S h) rfl hS hA hl.1 ml_X9_80 ⟨Nat.le_of_ble_eq_true rfl, Nat.le_of_ble_eq_true rfl⟩ ⟨Nat.zero_le _, Nat.zero_le _⟩ (Nat.le_of_ble_eq_true rfl) dX9_step_8 (fun H locs hP hS => ?_)
  refine k_X9_look hd sId C0 hK hP (by omega) (by omega) hS hA hl.1 ml_X9_128 ⟨Nat.le_of_ble_eq_true rfl, Nat.le_of_ble_eq_true rfl⟩ ⟨Nat.zero_le _, Nat.zero_le _⟩ (Nat.le_of_ble_eq_true rfl) dX9_step_11 (fun S_2 X_3 H locs hx_1 hP hS => ?_)
  obtain ⟨hs1, hWy, hXk⟩ := hx_1
  rw [hs1] at hP
  obtain ⟨Wy, hWd⟩ : ∃ Wy, Wy = wyS S u (S 17 u) (lvS S h) := ⟨_, rfl⟩
  have hWc : ∀ c, c < 196 → X_3 15 c = Wy c := fun c9 h9 => by rw [hWy c9 h9, hWd, wyS_is (by omega) hen hbe hene]
  refine lv_aload_n C0.1 C0.2.1 dX9_step_14 rfl (lv_at hl 0 rfl) ?_
  refine g20 C0 hK hP (hd.1 _ (by decide)) 12 (by decide) fl_X9_31 rfl dX9_step_15 ?_
  refine lv_aload_n C0.1 C0.2.1 dX9_step_18 rfl (lv_at hl 0 rfl) ?_
  refine lv_iload_n C0.1 C0.2.1 dX9_step_19 rfl (lv_at hl 1 rfl) ?_
  refine lv_iconst (v := 0) C0.1 C0.2.1 dX9_step_20 (by decide) ?_
  refine k_X9_go_0 hd sId C0 hK hP (by omega) (v := nI ce) hce hS hA hl.1 ml_X9_77 ⟨Nat.le_of_ble_eq_true rfl, Nat.le_of_ble_eq_true rfl⟩ ⟨Nat.zero_le _, Nat.zero_le _⟩ (Nat.le_of_ble_eq_true rfl) dX9_step_21 (fun H locs hP hS => ?_)
  refine mld (k := 7) (by decide) C0 hK hP (hd.1 _ (by decide)) (v := Wy ce) (vp_in_nI (show ce < 196 by omega) (by decide)) ((rg_in (n := 196) (vp_in_nI (show ce < 196 by omega) (by decide))).symm.trans ((rg_nI (show ce < 196 by omega) (by decide)).trans (hWc ce hce196))) dX9_step_24 ?_
  refine lv_istore_n (lv' := [(2, .int (Wy ce)), (0, .ref (a 20)), (1, .int (nI u))]) C0.1 C0.2.1 dX9_step_25 rfl hl (by decide) rfl (fun ls hl => ?_)
  refine lv_iload_n C0.1 C0.2.1 dX9_step_26 rfl (lv_at hl 0 rfl) ?_
  refine lv_iconst (v := 1) C0.1 C0.2.1 dX9_step_27 (by decide) ?_
  refine lv_icmp_ge (tgt := 32) C0.1 C0.2.1 dX9_step_28 (by decide) (fun c_28 => ?_) (fun c_28 => ?_)
  · refine lv_iconst (v := 0) C0.1 C0.2.1 dX9_step_32 (by decide) ?_
    refine lv_istore_n (lv' := [(3, .int 0), (2, .int (Wy ce)), (0, .ref (a 20)), (1, .int (nI u))]) C0.1 C0.2.1 dX9_step_33 rfl hl (by decide) rfl (fun ls hl => ?_)
    have h0W : 0 < Wy ce := one_le.mp c_28
    have loop34 : ∀ (n : Nat) (d : Nat), (d ≤ 4) → (4 + 1 ≤ d + n) → (nxW Wy ce = fnW Wy ce d (4 - d)) → ∀ (H : Heap) (locs : List Loc) (ls : Array Slot), WQ D cA a S X_3 I H → va_S (AI a I) s.heap H locs → lv_has ls 5 [(3, .int (nI d)), (2, .int (Wy ce)), (0, .ref (a 20)), (1, .int (nI u))] → W p l e { frames := 4, cells := 0, slots := 0, locals := 94 } s m args below meth c H locs (0) (0) (MQ below (QqV D cA a I (fun S1 X1 => S1 = stepM S u h ∧ ∀ k, k ≠ 15 → X1 k = X k)) args s 0 0 (AI a I)) (F0 m 34 ls []) := by
      intro n
      induction n with
      | zero => intro d hid hfd hfn; exfalso; omega
      | succ n ih34 =>
        intro d hid hfd hfn H locs ls hP hS hl
        refine lv_iload_n C0.1 C0.2.1 dX9_step_34 rfl (lv_at hl 0 rfl) ?_
        refine lv_iconst (v := 4) C0.1 C0.2.1 dX9_step_35 (by decide) ?_
        refine lv_icmp_ge (tgt := 102) C0.1 C0.2.1 dX9_step_36 (by decide) (fun c_36 => ?_) (fun c_36 => ?_)
        · have hged : 4 ≤ d := (nI_leI (by omega) (by omega)).mp c_36
          exact rtV C0 hr hlk hP hS ⟨by unfold stepM; rw [← hWd, hce, nI_clamp (by omega)]; rw [if_pos (by rw [hfn, show 4 - d = 0 by omega]; rfl)], hXk⟩ dX9_step_102
        · have hltd : d < 4 := Nat.not_le.mp fun q => c_36 (nI_le q (by omega))
          refine lv_aload_n C0.1 C0.2.1 dX9_step_39 rfl (lv_at hl 2 rfl) ?_
          refine lv_iload_n C0.1 C0.2.1 dX9_step_40 rfl (lv_at hl 3 rfl) ?_
          refine lv_iconst (v := 0) C0.1 C0.2.1 dX9_step_41 (by decide) ?_
          refine k_X9_go_0 hd sId C0 hK hP (by omega) (v := nI ce) hce hS hA hl.1 ml_X9_77 ⟨Nat.le_of_ble_eq_true rfl, Nat.le_of_ble_eq_true rfl⟩ ⟨Nat.zero_le _, Nat.zero_le _⟩ (Nat.le_of_ble_eq_true rfl) dX9_step_42 (fun H locs hP hS => ?_)
          refine lv_iload_n C0.1 C0.2.1 dX9_step_45 rfl (lv_at hl 0 rfl) ?_
          refine k_X9_beside hd s0 C0 hK hP (by omega) (v := besI (nI ce) (nI d)) rfl hS hA hl.1 ml_X9_110 ⟨Nat.le_of_ble_eq_true rfl, Nat.le_of_ble_eq_true rfl⟩ ⟨Nat.zero_le _, Nat.zero_le _⟩ (Nat.le_of_ble_eq_true rfl) dX9_step_46 (fun H locs hP hS => ?_)
          rw [besI_N hce196 (show d < 4 by omega)]
          refine lv_istore (lv' := [(4, .int (oI (besN ce d))), (3, .int (nI d)), (2, .int (Wy ce)), (0, .ref (a 20)), (1, .int (nI u))]) C0.1 C0.2.1 dX9_step_49 hl (by decide) rfl (fun ls hl => ?_)
          refine lv_iload C0.1 C0.2.1 dX9_step_51 (lv_at hl 0 rfl) ?_
          refine lv_iconst (v := (-1)) C0.1 C0.2.1 dX9_step_53 (by decide) ?_
          refine lv_icmp_eq (tgt := 96) C0.1 C0.2.1 dX9_step_54 (by decide) (fun c_54 => ?_) (fun c_54 => ?_)
          · refine lv_iinc (v := nI (d + 1)) (lv' := [(3, .int (nI (d + 1))), (4, .int (oI (besN ce d))), (2, .int (Wy ce)), (0, .ref (a 20)), (1, .int (nI u))]) C0.1 C0.2.1 dX9_step_96 hl (k := 1) rfl (nI_1 _) (by decide) rfl (fun ls hl => ?_)
            refine lv_goto (tgt := 34) C0.1 C0.2.1 dX9_step_99 (by decide) ?_
            exact ih34 (d + 1)  (by omega) (by omega) (by rw [hfn, show 4 - d = 4 - (d + 1) + 1 by omega, fnW_none (oI_none hce196 (by omega) c_54)]) _ _ _ hP hS (lv_sub hl [0, 2, 3, 4] rfl)
          · obtain ⟨o, ho⟩ := oI_ne c_54
            have ho196 := besN_lt hce196 (show d < 4 by omega) ho
            have hl : lv_has ls 5 [(4, .int (nI o)), (3, .int (nI d)), (2, .int (Wy ce)), (0, .ref (a 20)), (1, .int (nI u))] := by rw [ho] at hl; exact hl
            refine lv_aload_n C0.1 C0.2.1 dX9_step_57 rfl (lv_at hl 3 rfl) ?_
            refine g20 C0 hK hP (hd.1 _ (by decide)) 12 (by decide) fl_X9_31 rfl dX9_step_58 ?_
            refine lv_iload C0.1 C0.2.1 dX9_step_61 (lv_at hl 0 rfl) ?_
            refine mld (k := 7) (by decide) C0 hK hP (hd.1 _ (by decide)) (v := Wy o) (vp_in_nI (show o < 196 by omega) (by decide)) ((rg_in (n := 196) (vp_in_nI (show o < 196 by omega) (by decide))).symm.trans ((rg_nI (show o < 196 by omega) (by decide)).trans (hWc o ho196))) dX9_step_63 ?_
            refine lv_iload_n C0.1 C0.2.1 dX9_step_64 rfl (lv_at hl 2 rfl) ?_
            refine lv_iconst (v := 1) C0.1 C0.2.1 dX9_step_65 (by decide) ?_
            refine lv_isub C0.1 C0.2.1 dX9_step_66 ?_
            refine lv_icmp_eq (tgt := 73) C0.1 C0.2.1 dX9_step_67 (by decide) (fun c_67 => ?_) (fun c_67 => ?_)
            · refine lv_aload_n C0.1 C0.2.1 dX9_step_73 rfl (lv_at hl 3 rfl) ?_
              refine lv_iload_n C0.1 C0.2.1 dX9_step_74 rfl (lv_at hl 4 rfl) ?_
              refine lv_iconst (v := 0) C0.1 C0.2.1 dX9_step_75 (by decide) ?_
              refine lv_iload C0.1 C0.2.1 dX9_step_76 (lv_at hl 0 rfl) ?_
              refine k_X9_setGo_0 hd sId C0 hK hP (by omega) hS hA hl.1 ml_X9_100 ⟨Nat.le_of_ble_eq_true rfl, Nat.le_of_ble_eq_true rfl⟩ ⟨Nat.zero_le _, Nat.zero_le _⟩ (Nat.le_of_ble_eq_true rfl) dX9_step_78 (fun H locs hP hS => ?_)
              have hP : WQ D cA a (up S 16 (upd (S 16) u (nI o))) X_3 I H := hP
              refine lv_aload_n C0.1 C0.2.1 dX9_step_81 rfl (lv_at hl 3 rfl) ?_
              refine lv_iload_n C0.1 C0.2.1 dX9_step_82 rfl (lv_at hl 4 rfl) ?_
              refine lv_iconst (v := 3) C0.1 C0.2.1 dX9_step_83 (by decide) ?_
              refine lv_aload_n C0.1 C0.2.1 dX9_step_84 rfl (lv_at hl 3 rfl) ?_
              refine lv_iload_n C0.1 C0.2.1 dX9_step_85 rfl (lv_at hl 4 rfl) ?_
              refine lv_iconst (v := 3) C0.1 C0.2.1 dX9_step_86 (by decide) ?_
              refine k_X9_go_3 hd sId C0 hK hP (by omega) (v := S 19 u) rfl hS hA hl.1 ml_X9_77 ⟨Nat.le_of_ble_eq_true rfl, Nat.le_of_ble_eq_true rfl⟩ ⟨Nat.zero_le _, Nat.zero_le _⟩ (Nat.le_of_ble_eq_true rfl) dX9_step_87 (fun H locs hP hS => ?_)
              refine lv_iconst (v := 1) C0.1 C0.2.1 dX9_step_90 (by decide) ?_
              refine lv_iadd C0.1 C0.2.1 dX9_step_91 ?_
              refine k_X9_setGo_3 hd sId C0 hK hP (by omega) hS hA hl.1 ml_X9_100 ⟨Nat.le_of_ble_eq_true rfl, Nat.le_of_ble_eq_true rfl⟩ ⟨Nat.zero_le _, Nat.zero_le _⟩ (Nat.le_of_ble_eq_true rfl) dX9_step_92 (fun H locs hP hS => ?_)
              have hP : WQ D cA a (up (up S 16 (upd (S 16) u (nI o))) 19 (upd (S 19) u ((S 19 u) + 1))) X_3 I H := hP
              exact rtV C0 hr hlk hP hS ⟨by have h9 : nxW Wy ce = nI o := by { rw [hfn, show 4 - d = 4 - (d + 1) + 1 by omega, fnW_some ho, if_pos c_67] }; unfold stepM; rw [← hWd, hce, nI_clamp (by omega)]; rw [h9, if_neg (nI_neg (by omega))], hXk⟩ dX9_step_95
            · refine lv_goto (tgt := 96) C0.1 C0.2.1 dX9_step_70 (by decide) ?_
              refine lv_iinc (v := nI (d + 1)) (lv' := [(3, .int (nI (d + 1))), (4, .int (nI o)), (2, .int (Wy ce)), (0, .ref (a 20)), (1, .int (nI u))]) C0.1 C0.2.1 dX9_step_96 hl (k := 1) rfl (nI_1 _) (by decide) rfl (fun ls hl => ?_)
              refine lv_goto (tgt := 34) C0.1 C0.2.1 dX9_step_99 (by decide) ?_
              exact ih34 (d + 1)  (by omega) (by omega) (by rw [hfn, show 4 - d = 4 - (d + 1) + 1 by omega, fnW_some ho, if_neg c_67]) _ _ _ hP hS (lv_sub hl [0, 2, 3, 4] rfl)
    exact loop34 (4 + 1) 0  (by omega) (by omega) (by unfold nxW; rw [if_pos h0W]) _ _ _ hP hS (lv_sub hl [0, 1, 2, 3] rfl)
  · exact rtV C0 hr hlk hP hS ⟨by unfold stepM; rw [← hWd, hce, nI_clamp (by omega)]; rw [if_pos (by unfold nxW; rw [if_neg (fun q9 => c_28 (one_le.mpr q9))])], hXk⟩ dX9_step_31
theorem k_X9_step {n : List Nat} (hd : Hd n a I) (hsub : ∀ k ∈ nM, k ∈ n) (C0 : CallFix p m c cc nL s args GW own) (hK : KK D cA s) (hP : WQ D cA a S X I H) {u : Nat} {P : Nat} {L : Nat} {h : Nat} (hnH : S 86 0 = nI h) (hh : h < 2 ^ 31) (hTW : TW S P L) (hu : u < P) (hS : va_S A0 H0 H locs) (hA : ∀ q, AI a I q → A0 q) (hls : ls.size = nL) {idx : Nat} (hlink : Cond.methodLink own idx yX9_step ∈ GW) (hR : 5 ≤ R.frames ∧ 118 ≤ R.locals) (hcs : cells ≤ R.cells ∧ slots ≤ R.slots) (hrest : (rest.map fun v => v.category).sum ≤ 8) (hdg : decode cc pc = .ok (.invokevirtual idx, 3)) (kk : ∀ (S1 X1 : Mem) (H1 : Heap) (locs1 : List Loc), (fun S1 X1 => S1 = stepM S u h ∧ ∀ k, k ≠ 15 → X1 k = X k) S1 X1 → WQ D cA a S1 X1 I H1 → va_S A0 H0 H1 locs1 → W p l e R s m args below meth c H1 locs1 cells slots Q (F0 m (pc + 3) ls rest)) : W p l e R s m args below meth c H locs cells slots Q (F0 m pc ls (.int (nI u) :: .ref (a 20) :: rest)) := by
  exact hoV (qV (n := 1) (c_X9_step l D cA a S X I (hd.sub hsub) u hnH hh hTW hu) C0 hlink im_X9_step se_X9_step in_X9 co_X9_step ⟨rfl, by decide⟩ hR hK hP (hd.1 _ (hsub _ (by decide))) rfl rfl rfl hls hrest rfl hdg hcs) hS hA kk
set_option maxHeartbeats 4000000 in
set_option maxRecDepth 100000 in
theorem c_X9_hourOn (l : Launch) (D : va_G) (cA : ClassId) (a : Adr) (S X : Mem) (I : Nat → Prop) (hd : Hd nM a I) {P : Nat} {L : Nat} {T : Nat} {h : Nat} {F : Int32 → Int32 → Int32} (hnP : S 82 0 = nI P) (hnL : S 81 0 = nI L) (hnT : S 85 0 = nI T) (hT30 : T ≤ 30) (hnH : S 86 0 = nI h) (hh : h < 2 ^ 31) (hTW : TW S P L) (hTl : TlW S P) (hFW : FW F S P L) (hWi : WiW S L T) : NI l yX9_hourOn cX9_hourOn 3 (some .int) 5 119 D cA a S X I [.ref (a 20)] (fun r S1 X1 => r = cameM F S P T h ∧ S1 = hourM F S P T h ∧ (∀ k, k ≠ 10 → k ≠ 12 → k ≠ 15 → X1 k = X k)) := by
  refine nGo (by decide) (Nat.le_of_ble_eq_true rfl) ?_
  intro p e s m args below meth c ls C0 hr hlk hK hP hS hl hargs
  obtain ⟨H, hHe⟩ : ∃ H, H = s.heap := ⟨_, rfl⟩
  obtain ⟨locs, hlo⟩ : ∃ L : List Loc, L = [] := ⟨_, rfl⟩
  have hP : WQ D cA a S X I H := hHe ▸ hP
  have hS : va_S (AI a I) s.heap H locs := by rw [hHe, hlo]; exact hS
  rw [← hHe, ← hlo]
  have hA : ∀ q, AI a I q → AI a I q := fun _ h => h
  have hP6 := hTW.2.1
  have hL8 := hTW.2.2.1
  refine lv_iconst (v := 0) C0.1 C0.2.1 dX9_hourOn_0 (by decide) ?_
  refine lv_istore_n (lv' := [(1, .int 0), (0, .ref (a 20))]) C0.1 C0.2.1 dX9_hourOn_1 rfl hl (by decide) rfl (fun ls hl => ?_)
  refine lv_iconst (v := 0) C0.1 C0.2.1 dX9_hourOn_2 (by decide) ?_
  refine lv_istore_n (lv' := [(2, .int 0), (1, .int 0), (0, .ref (a 20))]) C0.1 C0.2.1 dX9_hourOn_3 rfl hl (by decide) rfl (fun ls hl => ?_)
  have loop4 : ∀ (n : Nat) (i : Nat) (f : Int32) (Xv : Mem), (i ≤ P) → (P + 1 ≤ i + n) → (f = (landM F S T h i).2) → (∀ k, k ≠ 10 → k ≠ 12 → Xv k = X k) → ∀ (H : Heap) (locs : List Loc) (ls : Array Slot), WQ D cA a (landM F S T h i).1 Xv I H → va_S (AI a I) s.heap H locs → lv_has ls 3 [(2, .int (nI i)), (1, .int f), (0, .ref (a 20))] → W p l e { frames := 5, cells := 0, slots := 0, locals := 119 } s m args below meth c H locs (0) (0) (MQ below (QqI D cA a I (fun r S1 X1 => r = cameM F S P T h ∧ S1 = hourM F S P T h ∧ (∀ k, k ≠ 10 → k ≠ 12 → k ≠ 15 → X1 k = X k))) args s 0 0 (AI a I)) (F0 m 4 ls []) := by
    intro n
    induction n with
    | zero => intro i f Xv hi hf hcm hXf; exfalso; omega
    | succ n ih4 =>
      intro i f Xv hi hf hcm hXf H locs ls hP hS hl
      refine lv_iload_n C0.1 C0.2.1 dX9_hourOn_4 rfl (lv_at hl 0 rfl) ?_
      refine lv_aload_n C0.1 C0.2.1 dX9_hourOn_5 rfl (lv_at hl 2 rfl) ?_
      refine g20i (v := nI P) C0 hK hP (hd.1 _ (by decide)) 6 (by decide) fl_X9_51 rfl ((congrFun ((landM_sta F S T h i) 82 (by omega)) 0).trans hnP) dX9_hourOn_6 ?_
      refine lv_icmp_ge (tgt := 40) C0.1 C0.2.1 dX9_hourOn_9 (by decide) (fun c_9 => ?_) (fun c_9 => ?_)
      · have hge : P ≤ i := (nI_leI (by omega) (by omega)).mp c_9
        refine lv_iconst (v := 0) C0.1 C0.2.1 dX9_hourOn_40 (by decide) ?_
        refine lv_istore_n (lv' := [(2, .int 0), (1, .int f), (0, .ref (a 20))]) C0.1 C0.2.1 dX9_hourOn_41 rfl hl (by decide) rfl (fun ls hl => ?_)
        have loop42 : ∀ (n : Nat) (q : Nat) (Xw : Mem), (q ≤ P) → (P + 1 ≤ q + n) → (∀ k, k ≠ 10 → k ≠ 12 → k ≠ 15 → Xw k = X k) → ∀ (H : Heap) (locs : List Loc) (ls : Array Slot), WQ D cA a (stepsM (landM F S T h P).1 h q) Xw I H → va_S (AI a I) s.heap H locs → lv_has ls 3 [(2, .int (nI q)), (1, .int ((landM F S T h P).2)), (0, .ref (a 20))] → W p l e { frames := 5, cells := 0, slots := 0, locals := 119 } s m args below meth c H locs (0) (0) (MQ below (QqI D cA a I (fun r S1 X1 => r = cameM F S P T h ∧ S1 = hourM F S P T h ∧ (∀ k, k ≠ 10 → k ≠ 12 → k ≠ 15 → X1 k = X k))) args s 0 0 (AI a I)) (F0 m 42 ls []) := by
          intro n
          induction n with
          | zero => intro q Xw hiq hfq hXg; exfalso; omega
          | succ n ih42 =>
            intro q Xw hiq hfq hXg H locs ls hP hS hl
            refine lv_iload_n C0.1 C0.2.1 dX9_hourOn_42 rfl (lv_at hl 0 rfl) ?_
            refine lv_aload_n C0.1 C0.2.1 dX9_hourOn_43 rfl (lv_at hl 2 rfl) ?_
            refine g20i (v := nI P) C0 hK hP (hd.1 _ (by decide)) 6 (by decide) fl_X9_51 rfl ((congrFun (stepsM_sta _ h q 82 (by omega)) 0).trans ((congrFun (landM_sta F S T h P 82 (by omega)) 0).trans hnP)) dX9_hourOn_44 ?_
            refine lv_icmp_ge (tgt := 61) C0.1 C0.2.1 dX9_hourOn_47 (by decide) (fun c_47 => ?_) (fun c_47 => ?_)
            · have hgeq : P ≤ q := (nI_leI (by omega) (by omega)).mp c_47
              refine lv_aload_n C0.1 C0.2.1 dX9_hourOn_61 rfl (lv_at hl 2 rfl) ?_
              refine lv_dup C0.1 C0.2.1 dX9_hourOn_62 rfl ?_
              refine g20i (v := nI h) C0 hK hP (hd.1 _ (by decide)) 9 (by decide) fl_X9_54 rfl ((congrFun (stepsM_86 _ h q) 0).trans ((congrFun (landM_86 F S T h P) 0).trans hnH)) dX9_hourOn_63 ?_
              refine lv_iconst (v := 1) C0.1 C0.2.1 dX9_hourOn_66 (by decide) ?_
              refine lv_iadd C0.1 C0.2.1 dX9_hourOn_67 ?_
              refine p20 C0 hK hP hS hA (hd.1 _ (by decide)) hd.2.2 9 (by decide) fl_X9_54 rfl (by decide +kernel) (x := (nI h) + 1) (up (stepsM (landM F S T h P).1 h q) 86 (fun _ => (nI h) + 1)) Xw rfl (fun k9 _ h9 => cm_num (fun k9 h9 => up_ne (by omega)) (fun _ _ => rfl) h9) dX9_hourOn_68 (fun H locs hP hS => ?_)
              have hP : WQ D cA a (up (stepsM (landM F S T h P).1 h q) 86 (fun _ => (nI h) + 1)) Xw I H := hP
              refine lv_iload_n C0.1 C0.2.1 dX9_hourOn_71 rfl (lv_at hl 1 rfl) ?_
              have hqP : q = P := by omega
              exact rtI C0 hr hlk hP hS ⟨rfl, by rw [hqP, nI_1]; rfl, hXg⟩ dX9_hourOn_72
            · have hltq : q < P := Nat.not_le.mp fun q => c_47 (nI_le q (by omega))
              refine lv_aload_n C0.1 C0.2.1 dX9_hourOn_50 rfl (lv_at hl 2 rfl) ?_
              refine lv_iload_n C0.1 C0.2.1 dX9_hourOn_51 rfl (lv_at hl 0 rfl) ?_
              refine k_X9_step hd sId C0 hK hP ((congrFun (stepsM_86 _ h q) 0).trans ((congrFun (landM_86 F S T h P) 0).trans hnH)) hh (stepsM_TW (landM_TW hTW P) q hiq) hltq hS hA hl.1 ml_X9_165 ⟨Nat.le_of_ble_eq_true rfl, Nat.le_of_ble_eq_true rfl⟩ ⟨Nat.zero_le _, Nat.zero_le _⟩ (Nat.le_of_ble_eq_true rfl) dX9_hourOn_52 (fun S_2 X_3 H locs hx_1 hP hS => ?_)
              obtain ⟨hs1, hXs⟩ := hx_1
              rw [hs1] at hP
              refine lv_iinc (v := nI (q + 1)) (lv' := [(2, .int (nI (q + 1))), (1, .int ((landM F S T h P).2)), (0, .ref (a 20))]) C0.1 C0.2.1 dX9_hourOn_55 hl (k := 0) rfl (nI_1 _) (by decide) rfl (fun ls hl => ?_)
              refine lv_goto (tgt := 42) C0.1 C0.2.1 dX9_hourOn_58 (by decide) ?_
              exact ih42 (q + 1) X_3 (by omega) (by omega) (fun k9 h9 h8 h7 => (hXs k9 h7).trans (hXg k9 h9 h8 h7)) _ _ _ hP hS (lv_sub hl [0, 1, 2] rfl)
        rw [show i = P by omega] at hP hcm
        have hP : WQ D cA a (stepsM (landM F S T h P).1 h 0) Xv I H := hP
        subst hcm
        exact loop42 (P + 1) 0 _ (by omega) (by omega) (fun k9 h9 h8 _ => hXf k9 h9 h8) _ _ _ hP hS (lv_sub hl [0, 1, 2] rfl)
      · have hlt : i < P := Nat.not_le.mp fun q => c_9 (nI_le q (by omega))
        have hTi := landM_TW (F := F) (T := T) (h := h) hTW i
        obtain ⟨b, hb, hbe, hbend⟩ := hTi.bound hlt
        refine lv_aload_n C0.1 C0.2.1 dX9_hourOn_12 rfl (lv_at hl 2 rfl) ?_
        refine lv_iload_n C0.1 C0.2.1 dX9_hourOn_13 rfl (lv_at hl 0 rfl) ?_
        refine lv_iconst (v := 0) C0.1 C0.2.1 dX9_hourOn_14 (by decide) ?_
        refine k_X9_go_0 hd sId C0 hK hP (by omega) (v := ((landM F S T h i).1 16) i) rfl hS hA hl.1 ml_X9_77 ⟨Nat.le_of_ble_eq_true rfl, Nat.le_of_ble_eq_true rfl⟩ ⟨Nat.zero_le _, Nat.zero_le _⟩ (Nat.le_of_ble_eq_true rfl) dX9_hourOn_15 (fun H locs hP hS => ?_)
        refine lv_aload_n C0.1 C0.2.1 dX9_hourOn_18 rfl (lv_at hl 2 rfl) ?_
        refine lv_iload_n C0.1 C0.2.1 dX9_hourOn_19 rfl (lv_at hl 0 rfl) ?_
        refine k_X9_boundCell hd sId C0 hK hP (by omega) (show b < 8 by omega) hbe (v := ((landM F S T h i).1 3) b) rfl hS hA hl.1 ml_X9_125 ⟨Nat.le_of_ble_eq_true rfl, Nat.le_of_ble_eq_true rfl⟩ ⟨Nat.zero_le _, Nat.zero_le _⟩ (Nat.le_of_ble_eq_true rfl) dX9_hourOn_20 (fun H locs hP hS => ?_)
        refine lv_icmp_ne (tgt := 34) C0.1 C0.2.1 dX9_hourOn_23 (by decide) (fun c_23 => ?_) (fun c_23 => ?_)
        · refine lv_iinc (v := nI (i + 1)) (lv' := [(2, .int (nI (i + 1))), (1, .int f), (0, .ref (a 20))]) C0.1 C0.2.1 dX9_hourOn_34 hl (k := 0) rfl (nI_1 _) (by decide) rfl (fun ls hl => ?_)
          refine lv_goto (tgt := 4) C0.1 C0.2.1 dX9_hourOn_37 (by decide) ?_
          have hLd : ¬ lndM (landM F S T h i).1 i = true := by unfold lndM; rw [hbe, rg_nI (by omega) (by decide), decide_eq_false c_23]; exact Bool.false_ne_true
          have hP : WQ D cA a (landM F S T h (i + 1)).1 Xv I H := by rw [show landM F S T h (i + 1) = _ from if_neg hLd]; exact hP
          exact ih4 (i + 1) _ _ (by omega) (by omega) (by rw [show landM F S T h (i + 1) = _ from if_neg hLd, hcm]) hXf _ _ _ hP hS (lv_sub hl [0, 1, 2] rfl)
        · have hLd : lndM (landM F S T h i).1 i = true := by unfold lndM; rw [hbe, rg_nI (by omega) (by decide)]; exact decide_eq_true c_23
          refine lv_iload_n C0.1 C0.2.1 dX9_hourOn_26 rfl (lv_at hl 1 rfl) ?_
          refine lv_aload_n C0.1 C0.2.1 dX9_hourOn_27 rfl (lv_at hl 2 rfl) ?_
          refine lv_iload_n C0.1 C0.2.1 dX9_hourOn_28 rfl (lv_at hl 0 rfl) ?_
          refine k_X9_land hd sId C0 hK hP ((congrFun ((landM_sta F S T h i) 82 (by omega)) 0).trans hnP) ((congrFun ((landM_sta F S T h i) 81 (by omega)) 0).trans hnL) ((congrFun ((landM_sta F S T h i) 85 (by omega)) 0).trans hnT) hT30 ((congrFun (landM_86 F S T h i) 0).trans hnH) hh hTi (hTl.sta (landM_sta F S T h i)) (hFW.sta (landM_sta F S T h i)) (hWi.sta (landM_sta F S T h i)) hlt hS hA hl.1 ml_X9_162 ⟨Nat.le_of_ble_eq_true rfl, Nat.le_of_ble_eq_true rfl⟩ ⟨Nat.zero_le _, Nat.zero_le _⟩ (Nat.le_of_ble_eq_true rfl) dX9_hourOn_29 (fun v_8 S_6 X_7 H locs hx_5 hP hS => ?_)
          obtain ⟨hrv, hs1, hxl⟩ := hx_5
          rw [hs1] at hP
          subst hrv
          refine lv_iadd C0.1 C0.2.1 dX9_hourOn_32 ?_
          refine lv_istore_n (lv' := [(1, .int (f + (outN (landM F S T h i).1 (nI i) ((landM F S T h i).1 17 i) T))), (2, .int (nI i)), (0, .ref (a 20))]) C0.1 C0.2.1 dX9_hourOn_33 rfl hl (by decide) rfl (fun ls hl => ?_)
          refine lv_iinc (v := nI (i + 1)) (lv' := [(2, .int (nI (i + 1))), (1, .int (f + (outN (landM F S T h i).1 (nI i) ((landM F S T h i).1 17 i) T))), (0, .ref (a 20))]) C0.1 C0.2.1 dX9_hourOn_34 hl (k := 1) rfl (nI_1 _) (by decide) rfl (fun ls hl => ?_)
          refine lv_goto (tgt := 4) C0.1 C0.2.1 dX9_hourOn_37 (by decide) ?_
          have hP : WQ D cA a (landM F S T h (i + 1)).1 X_7 I H := by rw [show landM F S T h (i + 1) = _ from if_pos hLd]; exact hP
          exact ih4 (i + 1) _ _ (by omega) (by omega) (by rw [show landM F S T h (i + 1) = _ from if_pos hLd, hcm]) (fun k9 h9 h8 => (hxl k9 h9 h8).trans (hXf k9 h9 h8)) _ _ _ hP hS (lv_sub hl [0, 1, 2] rfl)
  have hP : WQ D cA a (landM F S T h 0).1 X I H := hP
  exact loop4 (P + 1) 0 0 _ (by omega) (by omega) rfl (fun _ _ _ => rfl) _ _ _ hP hS (lv_sub hl [0, 1, 2] rfl)
theorem k_X9_hourOn {n : List Nat} (hd : Hd n a I) (hsub : ∀ k ∈ nM, k ∈ n) (C0 : CallFix p m c cc nL s args GW own) (hK : KK D cA s) (hP : WQ D cA a S X I H) {P : Nat} {L : Nat} {T : Nat} {h : Nat} {F : Int32 → Int32 → Int32} (hnP : S 82 0 = nI P) (hnL : S 81 0 = nI L) (hnT : S 85 0 = nI T) (hT30 : T ≤ 30) (hnH : S 86 0 = nI h) (hh : h < 2 ^ 31) (hTW : TW S P L) (hTl : TlW S P) (hFW : FW F S P L) (hWi : WiW S L T) (hS : va_S A0 H0 H locs) (hA : ∀ q, AI a I q → A0 q) (hls : ls.size = nL) {idx : Nat} (hlink : Cond.methodLink own idx yX9_hourOn ∈ GW) (hR : 6 ≤ R.frames ∧ 141 ≤ R.locals) (hcs : cells ≤ R.cells ∧ slots ≤ R.slots) (hrest : (rest.map fun v => v.category).sum ≤ 8) (hdg : decode cc pc = .ok (.invokevirtual idx, 3)) (kk : ∀ (v : Int32) (S1 X1 : Mem) (H1 : Heap) (locs1 : List Loc), (fun r S1 X1 => r = cameM F S P T h ∧ S1 = hourM F S P T h ∧ (∀ k, k ≠ 10 → k ≠ 12 → k ≠ 15 → X1 k = X k)) v S1 X1 → WQ D cA a S1 X1 I H1 → va_S A0 H0 H1 locs1 → W p l e R s m args below meth c H1 locs1 cells slots Q (F0 m (pc + 3) ls (.int v :: rest))) : W p l e R s m args below meth c H locs cells slots Q (F0 m pc ls (.ref (a 20) :: rest)) := by
  exact hoI (qV (n := 0) (c_X9_hourOn l D cA a S X I (hd.sub hsub)  hnP hnL hnT hT30 hnH hh hTW hTl hFW hWi) C0 hlink im_X9_hourOn se_X9_hourOn in_X9 co_X9_hourOn ⟨rfl, by decide⟩ hR hK hP (hd.1 _ (hsub _ (by decide))) rfl rfl rfl hls hrest rfl hdg hcs) hS hA kk
end CLS
