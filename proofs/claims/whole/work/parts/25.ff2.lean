theorem ChainsOk.frm {S X X1 : Mem} {P : Nat} (h : ChainsOk S X P) (hf : ∀ k, k ≠ 13 → k ≠ 14 → k ≠ 15 → X1 k = X k) : ChainsOk S X1 P := fun x hx t ht => by
  rw [hf 10 (by decide) (by decide) (by decide), hf 11 (by decide) (by decide) (by decide)]
  exact h x hx t ht
section CLS
variable {p : Program} {l : Launch} {e : Env} {R : Room} {s : State} {m : MethodId} {args : Array Value} {below : List Frame} {meth : Method} {c : Code} {H : Heap} {locs : List Loc} {cells slots : Nat} {Q : State → Prop}
variable {cc : ByteArray} {nL : Nat} {own : String} {pc : Nat} {ls : Array Slot} {rest : List Value} {D : va_G} {cA : ClassId} {a : Adr} {S X : Mem} {I : Nat → Prop} {H0 : Heap} {A0 : Nat → Prop}
set_option maxHeartbeats 4000000 in
set_option maxRecDepth 100000 in
theorem c_X8_digestOfCounts (l : Launch) (D : va_G) (cA : ClassId) (a : Adr) (S X : Mem) (I : Nat → Prop) (hd : Hd nF a I) (d0 : Int64) {P : Nat} {L : Nat} {T : Nat} {h : Nat} (hnP : S 82 0 = nI P) (hnL : S 81 0 = nI L) (hnT : S 85 0 = nI T) (hT30 : T ≤ 30) (hnH : S 86 0 = nI h) (hh : h < 2 ^ 31) (hTW : TW S P L) (hTr : TrW S P L T) : ML l yX8_digestOfCounts cX8_digestOfCounts 6 (some .long) 6 126 D cA a S X I [.ref (a 89), .long d0] (fun r S1 X1 => r = (dgL (fun w => couS S P L T h (nI w)) 11 d0) ∧ S1 = S ∧ X1 = X) := by
  refine mGo (by decide) (Nat.le_of_ble_eq_true rfl) ?_
  intro p e s m args below meth c ls C0 hr hlk hK hP hS hl hargs
  obtain ⟨H, hHe⟩ : ∃ H, H = s.heap := ⟨_, rfl⟩
  obtain ⟨locs, hlo⟩ : ∃ L : List Loc, L = [] := ⟨_, rfl⟩
  have hP : WP D cA a S X I H := hHe ▸ hP
  have hS : va_S (AI a I) s.heap H locs := by rw [hHe, hlo]; exact hS
  rw [← hHe, ← hlo]
  have hA : ∀ q, AI a I q → AI a I q := fun _ h => h
  refine lv_lload_n C0.1 C0.2.1 dX8_digestOfCounts_0 rfl (lv_at hl 1 rfl) ?_
  refine lv_lstore_n (lv' := [(3, .long d0), (0, .ref (a 89)), (1, .long d0)]) C0.1 C0.2.1 dX8_digestOfCounts_1 rfl hl (by decide) rfl (fun ls hl => ?_)
  refine lv_iconst (v := 0) C0.1 C0.2.1 dX8_digestOfCounts_2 (by decide) ?_
  refine lv_istore (lv' := [(5, .int 0), (3, .long d0), (0, .ref (a 89)), (1, .long d0)]) C0.1 C0.2.1 dX8_digestOfCounts_3 hl (by decide) rfl (fun ls hl => ?_)
  have loop5 : ∀ (n : Nat) (i : Nat) (d : Int64), (i ≤ 11) → (11 + 1 ≤ i + n) → (d = dgL (fun w => couS S P L T h (nI w)) i d0) → ∀ (H : Heap) (locs : List Loc) (ls : Array Slot), WP D cA a S X I H → va_S (AI a I) s.heap H locs → lv_has ls 6 [(5, .int (nI i)), (3, .long d), (0, .ref (a 89)), (1, .long d0)] → W p l e { frames := 6, cells := 0, slots := 0, locals := 126 } s m args below meth c H locs (0) (0) (MQ below (QpL D cA a I (fun r S1 X1 => r = (dgL (fun w => couS S P L T h (nI w)) 11 d0) ∧ S1 = S ∧ X1 = X)) args s 0 0 (AI a I)) (F0 m 5 ls []) := by
    intro n
    induction n with
    | zero => intro i d hi hf hdg; exfalso; omega
    | succ n ih5 =>
      intro i d hi hf hdg H locs ls hP hS hl
      refine lv_iload C0.1 C0.2.1 dX8_digestOfCounts_5 (lv_at hl 0 rfl) ?_
      refine lv_bipush (v := 11) C0.1 C0.2.1 dX8_digestOfCounts_7 (by decide) ?_
      refine lv_icmp_ge (tgt := 32) C0.1 C0.2.1 dX8_digestOfCounts_9 (by decide) (fun c_9 => ?_) (fun c_9 => ?_)
      · have hge : 11 ≤ i := (nI_leI (by omega) (by omega)).mp c_9
        refine lv_lload_n C0.1 C0.2.1 dX8_digestOfCounts_32 rfl (lv_at hl 1 rfl) ?_
        exact retL C0 hr hlk hP hS ⟨by rw [hdg, show i = 11 by omega], rfl, rfl⟩ dX8_digestOfCounts_33
      · have hlt : i < 11 := Nat.not_le.mp fun q => c_9 (nI_le q (by omega))
        refine lv_lload_n C0.1 C0.2.1 dX8_digestOfCounts_12 rfl (lv_at hl 1 rfl) ?_
        refine lv_ldc2 (v := 31) C0.1 C0.2.1 C0.2.2.2.1 (C0.2.2.2.2 _ kc_X8_288) dX8_digestOfCounts_13 ?_
        refine lv_lmul C0.1 C0.2.1 dX8_digestOfCounts_16 ?_
        refine lv_aload_n C0.1 C0.2.1 dX8_digestOfCounts_17 rfl (lv_at hl 2 rfl) ?_
        refine lv_iload C0.1 C0.2.1 dX8_digestOfCounts_18 (lv_at hl 0 rfl) ?_
        refine k_X8_tellCount hd sId C0 hK hP hnP hnL hnT hT30 hnH hh hTW hTr (v := couS S P L T h (nI i)) rfl hS hA hl.1 ml_X8_225 ⟨Nat.le_of_ble_eq_true rfl, Nat.le_of_ble_eq_true rfl⟩ ⟨Nat.zero_le _, Nat.zero_le _⟩ (Nat.le_of_ble_eq_true rfl) dX8_digestOfCounts_20 (fun H locs hP hS => ?_)
        refine lv_i2l C0.1 C0.2.1 dX8_digestOfCounts_23 rfl ?_
        refine lv_ladd C0.1 C0.2.1 dX8_digestOfCounts_24 ?_
        refine lv_lstore_n (lv' := [(3, .long ((d * 31) + ((couS S P L T h (nI i)).toInt64))), (5, .int (nI i)), (0, .ref (a 89)), (1, .long d0)]) C0.1 C0.2.1 dX8_digestOfCounts_25 rfl hl (by decide) rfl (fun ls hl => ?_)
        refine lv_iinc (v := nI (i + 1)) (lv' := [(5, .int (nI (i + 1))), (3, .long ((d * 31) + ((couS S P L T h (nI i)).toInt64))), (0, .ref (a 89)), (1, .long d0)]) C0.1 C0.2.1 dX8_digestOfCounts_26 hl (k := 1) rfl (nI_1 _) (by decide) rfl (fun ls hl => ?_)
        refine lv_goto (tgt := 5) C0.1 C0.2.1 dX8_digestOfCounts_29 (by decide) ?_
        exact ih5 (i + 1) _ (by omega) (by omega) (by rw [hdg]; rfl) _ _ _ hP hS (lv_sub hl [0, 1, 2, 3] rfl)
  exact loop5 (11 + 1) 0 d0 (by omega) (by omega) rfl _ _ _ hP hS (lv_sub hl [0, 1, 2, 3] rfl)
theorem k_X8_digestOfCounts {n : List Nat} (hd : Hd n a I) (hsub : ∀ k ∈ nF, k ∈ n) (C0 : CallFix p m c cc nL s args GW own) (hK : KK D cA s) (hP : WP D cA a S X I H) {d0 : Int64} {P : Nat} {L : Nat} {T : Nat} {h : Nat} (hnP : S 82 0 = nI P) (hnL : S 81 0 = nI L) (hnT : S 85 0 = nI T) (hT30 : T ≤ 30) (hnH : S 86 0 = nI h) (hh : h < 2 ^ 31) (hTW : TW S P L) (hTr : TrW S P L T) {v : Int64} (hv : (dgL (fun w => couS S P L T h (nI w)) 11 d0) = v) (hS : va_S A0 H0 H locs) (hA : ∀ q, AI a I q → A0 q) (hls : ls.size = nL) {idx : Nat} (hlink : Cond.methodLink own idx yX8_digestOfCounts ∈ GW) (hR : 7 ≤ R.frames ∧ 151 ≤ R.locals) (hcs : cells ≤ R.cells ∧ slots ≤ R.slots) (hrest : (rest.map fun v => v.category).sum ≤ 8) (hdg : decode cc pc = .ok (.invokevirtual idx, 3)) (kk : ∀ (H1 : Heap) (locs1 : List Loc), WP D cA a S X I H1 → va_S A0 H0 H1 locs1 → W p l e R s m args below meth c H1 locs1 cells slots Q (F0 m (pc + 3) ls (.long v :: rest))) : W p l e R s m args below meth c H locs cells slots Q (F0 m pc ls (.long d0 :: .ref (a 89) :: rest)) := by
  subst hv
  exact goL (rV (n := 1) (c_X8_digestOfCounts l D cA a S X I (hd.sub hsub) d0 hnP hnL hnT hT30 hnH hh hTW hTr) C0 hlink im_X8_digestOfCounts se_X8_digestOfCounts in_X8 co_X8_digestOfCounts ⟨rfl, by decide⟩ hR hK hP (hd.1 _ (hsub _ (by decide))) rfl rfl rfl hls hrest rfl hdg hcs) hS hA (fun r S1 X1 H1 locs1 hp hP1 hS1 => by obtain ⟨rfl, rfl, rfl⟩ := hp; exact kk H1 locs1 hP1 hS1)
set_option maxHeartbeats 4000000 in
set_option maxRecDepth 100000 in
theorem c_X8_digestOfPlain (l : Launch) (D : va_G) (cA : ClassId) (a : Adr) (S X : Mem) (I : Nat → Prop) (hd : Hd nF a I) (d0 : Int64) : ML l yX8_digestOfPlain cX8_digestOfPlain 6 (some .long) 1 21 D cA a S X I [.ref (a 89), .long d0] (fun r S1 X1 => r = (dgP (S 0) (S 1) 196 (dgL (S 2) 12 d0)) ∧ S1 = S ∧ X1 = X) := by
  refine mGo (by decide) (Nat.le_of_ble_eq_true rfl) ?_
  intro p e s m args below meth c ls C0 hr hlk hK hP hS hl hargs
  obtain ⟨H, hHe⟩ : ∃ H, H = s.heap := ⟨_, rfl⟩
  obtain ⟨locs, hlo⟩ : ∃ L : List Loc, L = [] := ⟨_, rfl⟩
  have hP : WP D cA a S X I H := hHe ▸ hP
  have hS : va_S (AI a I) s.heap H locs := by rw [hHe, hlo]; exact hS
  rw [← hHe, ← hlo]
  have hA : ∀ q, AI a I q → AI a I q := fun _ h => h
  refine lv_lload_n C0.1 C0.2.1 dX8_digestOfPlain_0 rfl (lv_at hl 1 rfl) ?_
  refine lv_lstore_n (lv' := [(3, .long d0), (0, .ref (a 89)), (1, .long d0)]) C0.1 C0.2.1 dX8_digestOfPlain_1 rfl hl (by decide) rfl (fun ls hl => ?_)
  refine lv_iconst (v := 0) C0.1 C0.2.1 dX8_digestOfPlain_2 (by decide) ?_
  refine lv_istore (lv' := [(5, .int 0), (3, .long d0), (0, .ref (a 89)), (1, .long d0)]) C0.1 C0.2.1 dX8_digestOfPlain_3 hl (by decide) rfl (fun ls hl => ?_)
  have loop5 : ∀ (n : Nat) (i : Nat) (d : Int64), (i ≤ 12) → (12 + 1 ≤ i + n) → (d = dgL (S 2) i d0) → ∀ (H : Heap) (locs : List Loc) (ls : Array Slot), WP D cA a S X I H → va_S (AI a I) s.heap H locs → lv_has ls 6 [(5, .int (nI i)), (3, .long d), (0, .ref (a 89)), (1, .long d0)] → W p l e { frames := 1, cells := 0, slots := 0, locals := 21 } s m args below meth c H locs (0) (0) (MQ below (QpL D cA a I (fun r S1 X1 => r = (dgP (S 0) (S 1) 196 (dgL (S 2) 12 d0)) ∧ S1 = S ∧ X1 = X)) args s 0 0 (AI a I)) (F0 m 5 ls []) := by
    intro n
    induction n with
    | zero => intro i d hi hf hdg; exfalso; omega
    | succ n ih5 =>
      intro i d hi hf hdg H locs ls hP hS hl
      refine lv_iload C0.1 C0.2.1 dX8_digestOfPlain_5 (lv_at hl 0 rfl) ?_
      refine lv_bipush (v := 12) C0.1 C0.2.1 dX8_digestOfPlain_7 (by decide) ?_
      refine lv_icmp_ge (tgt := 38) C0.1 C0.2.1 dX8_digestOfPlain_9 (by decide) (fun c_9 => ?_) (fun c_9 => ?_)
      · have hge : 12 ≤ i := (nI_leI (by omega) (by omega)).mp c_9
        refine lv_iconst (v := 0) C0.1 C0.2.1 dX8_digestOfPlain_38 (by decide) ?_
        refine lv_istore (lv' := [(5, .int 0), (3, .long d), (0, .ref (a 89)), (1, .long d0)]) C0.1 C0.2.1 dX8_digestOfPlain_39 hl (by decide) rfl (fun ls hl => ?_)
        have loop41 : ∀ (n : Nat) (q : Nat) (d2 : Int64), (q ≤ 196) → (196 + 1 ≤ q + n) → (d2 = dgP (S 0) (S 1) q (dgL (S 2) 12 d0)) → ∀ (H : Heap) (locs : List Loc) (ls : Array Slot), WP D cA a S X I H → va_S (AI a I) s.heap H locs → lv_has ls 6 [(5, .int (nI q)), (3, .long d2), (0, .ref (a 89)), (1, .long d0)] → W p l e { frames := 1, cells := 0, slots := 0, locals := 21 } s m args below meth c H locs (0) (0) (MQ below (QpL D cA a I (fun r S1 X1 => r = (dgP (S 0) (S 1) 196 (dgL (S 2) 12 d0)) ∧ S1 = S ∧ X1 = X)) args s 0 0 (AI a I)) (F0 m 41 ls []) := by
          intro n
          induction n with
          | zero => intro q d2 hiq hfq hdp; exfalso; omega
          | succ n ih41 =>
            intro q d2 hiq hfq hdp H locs ls hP hS hl
            refine lv_iload C0.1 C0.2.1 dX8_digestOfPlain_41 (lv_at hl 0 rfl) ?_
            refine lv_sipush (v := 196) C0.1 C0.2.1 dX8_digestOfPlain_43 (by decide) ?_
            refine lv_icmp_ge (tgt := 95) C0.1 C0.2.1 dX8_digestOfPlain_46 (by decide) (fun c_46 => ?_) (fun c_46 => ?_)
            · have hgeq : 196 ≤ q := (nI_leI (by omega) (by omega)).mp c_46
              refine lv_lload_n C0.1 C0.2.1 dX8_digestOfPlain_95 rfl (lv_at hl 1 rfl) ?_
              exact retL C0 hr hlk hP hS ⟨by rw [hdp, show q = 196 by omega], rfl, rfl⟩ dX8_digestOfPlain_96
            · have hltq : q < 196 := Nat.not_le.mp fun q => c_46 (nI_le q (by omega))
              refine lv_lload_n C0.1 C0.2.1 dX8_digestOfPlain_49 rfl (lv_at hl 1 rfl) ?_
              refine lv_ldc2 (v := 31) C0.1 C0.2.1 C0.2.2.2.1 (C0.2.2.2.2 _ kc_X8_288) dX8_digestOfPlain_50 ?_
              refine lv_lmul C0.1 C0.2.1 dX8_digestOfPlain_53 ?_
              refine lv_aload_n C0.1 C0.2.1 dX8_digestOfPlain_54 rfl (lv_at hl 2 rfl) ?_
              refine g89_plain C0 hK hP (hd.1 _ (by decide)) fl_X8_12 dX8_digestOfPlain_55 ?_
              refine g80_ground C0 hK hP (hd.1 _ (by decide)) fl_X8_75 dX8_digestOfPlain_58 ?_
              refine lv_iload C0.1 C0.2.1 dX8_digestOfPlain_61 (lv_at hl 0 rfl) ?_
              refine k_X5_get (v := S 0 q) 0 (by decide) hd (by decide) (by decide) C0 hK hP (rg_nI (show q < 196 by omega) (by decide)) hS hA hl.1 ml_X8_104 ⟨Nat.le_of_ble_eq_true rfl, Nat.le_of_ble_eq_true rfl⟩ ⟨Nat.zero_le _, Nat.zero_le _⟩ (Nat.le_of_ble_eq_true rfl) dX8_digestOfPlain_63 (fun H locs hP hS => ?_)
              refine lv_i2l C0.1 C0.2.1 dX8_digestOfPlain_66 rfl ?_
              refine lv_ladd C0.1 C0.2.1 dX8_digestOfPlain_67 ?_
              refine lv_lstore_n (lv' := [(3, .long ((d2 * 31) + ((S 0 q).toInt64))), (5, .int (nI q)), (0, .ref (a 89)), (1, .long d0)]) C0.1 C0.2.1 dX8_digestOfPlain_68 rfl hl (by decide) rfl (fun ls hl => ?_)
              refine lv_lload_n C0.1 C0.2.1 dX8_digestOfPlain_69 rfl (lv_at hl 0 rfl) ?_
              refine lv_ldc2 (v := 31) C0.1 C0.2.1 C0.2.2.2.1 (C0.2.2.2.2 _ kc_X8_288) dX8_digestOfPlain_70 ?_
              refine lv_lmul C0.1 C0.2.1 dX8_digestOfPlain_73 ?_
              refine lv_aload_n C0.1 C0.2.1 dX8_digestOfPlain_74 rfl (lv_at hl 2 rfl) ?_
              refine g89_plain C0 hK hP (hd.1 _ (by decide)) fl_X8_12 dX8_digestOfPlain_75 ?_
              refine g80_stake C0 hK hP (hd.1 _ (by decide)) fl_X8_97 dX8_digestOfPlain_78 ?_
              refine lv_iload C0.1 C0.2.1 dX8_digestOfPlain_81 (lv_at hl 1 rfl) ?_
              refine k_X5_get (v := S 1 q) 1 (by decide) hd (by decide) (by decide) C0 hK hP (rg_nI (show q < 196 by omega) (by decide)) hS hA hl.1 ml_X8_104 ⟨Nat.le_of_ble_eq_true rfl, Nat.le_of_ble_eq_true rfl⟩ ⟨Nat.zero_le _, Nat.zero_le _⟩ (Nat.le_of_ble_eq_true rfl) dX8_digestOfPlain_83 (fun H locs hP hS => ?_)
              refine lv_i2l C0.1 C0.2.1 dX8_digestOfPlain_86 rfl ?_
              refine lv_ladd C0.1 C0.2.1 dX8_digestOfPlain_87 ?_
              refine lv_lstore_n (lv' := [(3, .long ((((d2 * 31) + ((S 0 q).toInt64)) * 31) + ((S 1 q).toInt64))), (5, .int (nI q)), (0, .ref (a 89)), (1, .long d0)]) C0.1 C0.2.1 dX8_digestOfPlain_88 rfl hl (by decide) rfl (fun ls hl => ?_)
              refine lv_iinc (v := nI (q + 1)) (lv' := [(5, .int (nI (q + 1))), (3, .long ((((d2 * 31) + ((S 0 q).toInt64)) * 31) + ((S 1 q).toInt64))), (0, .ref (a 89)), (1, .long d0)]) C0.1 C0.2.1 dX8_digestOfPlain_89 hl (k := 1) rfl (nI_1 _) (by decide) rfl (fun ls hl => ?_)
              refine lv_goto (tgt := 41) C0.1 C0.2.1 dX8_digestOfPlain_92 (by decide) ?_
              exact ih41 (q + 1) _ (by omega) (by omega) (by rw [hdp]; rfl) _ _ _ hP hS (lv_sub hl [0, 1, 2, 3] rfl)
        exact loop41 (196 + 1) 0 _ (by omega) (by omega) (by rw [hdg, show i = 12 by omega]; rfl) _ _ _ hP hS (lv_sub hl [0, 1, 2, 3] rfl)
      · have hlt : i < 12 := Nat.not_le.mp fun q => c_9 (nI_le q (by omega))
        refine lv_lload_n C0.1 C0.2.1 dX8_digestOfPlain_12 rfl (lv_at hl 1 rfl) ?_
        refine lv_ldc2 (v := 31) C0.1 C0.2.1 C0.2.2.2.1 (C0.2.2.2.2 _ kc_X8_288) dX8_digestOfPlain_13 ?_
        refine lv_lmul C0.1 C0.2.1 dX8_digestOfPlain_16 ?_
        refine lv_aload_n C0.1 C0.2.1 dX8_digestOfPlain_17 rfl (lv_at hl 2 rfl) ?_
        refine g89_plain C0 hK hP (hd.1 _ (by decide)) fl_X8_12 dX8_digestOfPlain_18 ?_
        refine g80_water C0 hK hP (hd.1 _ (by decide)) fl_X8_94 dX8_digestOfPlain_21 ?_
        refine lv_iload C0.1 C0.2.1 dX8_digestOfPlain_24 (lv_at hl 0 rfl) ?_
        refine k_X5_get (v := S 2 i) 2 (by decide) hd (by decide) (by decide) C0 hK hP (rg_nI (show i < 12 by omega) (by decide)) hS hA hl.1 ml_X8_104 ⟨Nat.le_of_ble_eq_true rfl, Nat.le_of_ble_eq_true rfl⟩ ⟨Nat.zero_le _, Nat.zero_le _⟩ (Nat.le_of_ble_eq_true rfl) dX8_digestOfPlain_26 (fun H locs hP hS => ?_)
        refine lv_i2l C0.1 C0.2.1 dX8_digestOfPlain_29 rfl ?_
        refine lv_ladd C0.1 C0.2.1 dX8_digestOfPlain_30 ?_
        refine lv_lstore_n (lv' := [(3, .long ((d * 31) + ((S 2 i).toInt64))), (5, .int (nI i)), (0, .ref (a 89)), (1, .long d0)]) C0.1 C0.2.1 dX8_digestOfPlain_31 rfl hl (by decide) rfl (fun ls hl => ?_)
        refine lv_iinc (v := nI (i + 1)) (lv' := [(5, .int (nI (i + 1))), (3, .long ((d * 31) + ((S 2 i).toInt64))), (0, .ref (a 89)), (1, .long d0)]) C0.1 C0.2.1 dX8_digestOfPlain_32 hl (k := 1) rfl (nI_1 _) (by decide) rfl (fun ls hl => ?_)
        refine lv_goto (tgt := 5) C0.1 C0.2.1 dX8_digestOfPlain_35 (by decide) ?_
        exact ih5 (i + 1) _ (by omega) (by omega) (by rw [hdg]; rfl) _ _ _ hP hS (lv_sub hl [0, 1, 2, 3] rfl)
  exact loop5 (12 + 1) 0 d0 (by omega) (by omega) rfl _ _ _ hP hS (lv_sub hl [0, 1, 2, 3] rfl)
theorem k_X8_digestOfPlain {n : List Nat} (hd : Hd n a I) (hsub : ∀ k ∈ nF, k ∈ n) (C0 : CallFix p m c cc nL s args GW own) (hK : KK D cA s) (hP : WP D cA a S X I H) {d0 : Int64} {v : Int64} (hv : (dgP (S 0) (S 1) 196 (dgL (S 2) 12 d0)) = v) (hS : va_S A0 H0 H locs) (hA : ∀ q, AI a I q → A0 q) (hls : ls.size = nL) {idx : Nat} (hlink : Cond.methodLink own idx yX8_digestOfPlain ∈ GW) (hR : 2 ≤ R.frames ∧ 46 ≤ R.locals) (hcs : cells ≤ R.cells ∧ slots ≤ R.slots) (hrest : (rest.map fun v => v.category).sum ≤ 8) (hdg : decode cc pc = .ok (.invokevirtual idx, 3)) (kk : ∀ (H1 : Heap) (locs1 : List Loc), WP D cA a S X I H1 → va_S A0 H0 H1 locs1 → W p l e R s m args below meth c H1 locs1 cells slots Q (F0 m (pc + 3) ls (.long v :: rest))) : W p l e R s m args below meth c H locs cells slots Q (F0 m pc ls (.long d0 :: .ref (a 89) :: rest)) := by
  subst hv
  exact goL (rV (n := 1) (c_X8_digestOfPlain l D cA a S X I (hd.sub hsub) d0 ) C0 hlink im_X8_digestOfPlain se_X8_digestOfPlain in_X8 co_X8_digestOfPlain ⟨rfl, by decide⟩ hR hK hP (hd.1 _ (hsub _ (by decide))) rfl rfl rfl hls hrest rfl hdg hcs) hS hA (fun r S1 X1 H1 locs1 hp hP1 hS1 => by obtain ⟨rfl, rfl, rfl⟩ := hp; exact kk H1 locs1 hP1 hS1)
set_option maxHeartbeats 4000000 in
set_option maxRecDepth 100000 in
theorem c_X8_digest (l : Launch) (D : va_G) (cA : ClassId) (a : Adr) (S X : Mem) (I : Nat → Prop) (hd : Hd nF a I) {P : Nat} {L : Nat} {T : Nat} {h : Nat} (hnP : S 82 0 = nI P) (hnL : S 81 0 = nI L) (hnT : S 85 0 = nI T) (hT30 : T ≤ 30) (hnH : S 86 0 = nI h) (hh : h < 2 ^ 31) (hC : CacheOk S X P) (hCh : ChainsOk S X P) (hTW : TW S P L) (hTr : TrW S P L T) : ML l yX8_digest cX8_digest 5 (some .long) 7 151 D cA a S X I [.ref (a 89)] (fun r S1 X1 => r = digS S P L T h ∧ S1 = S ∧ CacheOk S X1 P ∧ (∀ k, k ≠ 13 → k ≠ 14 → k ≠ 15 → X1 k = X k)) := by
  refine mGo (by decide) (Nat.le_of_ble_eq_true rfl) ?_
  intro p e s m args below meth c ls C0 hr hlk hK hP hS hl hargs
  obtain ⟨H, hHe⟩ : ∃ H, H = s.heap := ⟨_, rfl⟩
  obtain ⟨locs, hlo⟩ : ∃ L : List Loc, L = [] := ⟨_, rfl⟩
  have hP : WP D cA a S X I H := hHe ▸ hP
  have hS : va_S (AI a I) s.heap H locs := by rw [hHe, hlo]; exact hS
  rw [← hHe, ← hlo]
  have hA : ∀ q, AI a I q → AI a I q := fun _ h => h
  obtain ⟨hLnk, hP6, hL8, h17, h16, h8, h3, h2⟩ := id hTW
  refine lv_aload_n C0.1 C0.2.1 dX8_digest_0 rfl (lv_at hl 0 rfl) ?_
  refine lv_aload_n C0.1 C0.2.1 dX8_digest_1 rfl (lv_at hl 0 rfl) ?_
  refine lv_ldc2 (v := 557) C0.1 C0.2.1 C0.2.2.2.1 (C0.2.2.2.2 _ kc_X8_279) dX8_digest_2 ?_
  refine k_X8_digestOfCounts hd sId C0 hK hP hnP hnL hnT hT30 hnH hh hTW hTr (v := dgL (fun w => couS S P L T h (nI w)) 11 557) rfl hS hA hl.1 ml_X8_281 ⟨Nat.le_of_ble_eq_true rfl, Nat.le_of_ble_eq_true rfl⟩ ⟨Nat.zero_le _, Nat.zero_le _⟩ (Nat.le_of_ble_eq_true rfl) dX8_digest_5 (fun H locs hP hS => ?_)
  refine k_X8_digestOfPlain hd sId C0 hK hP  (v := dgP (S 0) (S 1) 196 (dgL (S 2) 12 (dgL (fun w => couS S P L T h (nI w)) 11 557))) rfl hS hA hl.1 ml_X8_285 ⟨Nat.le_of_ble_eq_true rfl, Nat.le_of_ble_eq_true rfl⟩ ⟨Nat.zero_le _, Nat.zero_le _⟩ (Nat.le_of_ble_eq_true rfl) dX8_digest_8 (fun H locs hP hS => ?_)
  refine lv_lstore_n (lv' := [(1, .long (dgP (S 0) (S 1) 196 (dgL (S 2) 12 (dgL (fun w => couS S P L T h (nI w)) 11 557)))), (0, .ref (a 89))]) C0.1 C0.2.1 dX8_digest_11 rfl hl (by decide) rfl (fun ls hl => ?_)
  refine lv_iconst (v := 0) C0.1 C0.2.1 dX8_digest_12 (by decide) ?_
  refine lv_istore_n (lv' := [(3, .int 0), (1, .long (dgP (S 0) (S 1) 196 (dgL (S 2) 12 (dgL (fun w => couS S P L T h (nI w)) 11 557)))), (0, .ref (a 89))]) C0.1 C0.2.1 dX8_digest_13 rfl hl (by decide) rfl (fun ls hl => ?_)
  have loop14 : ∀ (n : Nat) (i : Nat) (d : Int64), (i ≤ L) → (L + 1 ≤ i + n) → (d = dgO (fun x w => lanS S P T x (nI w)) 5 i (dgP (S 0) (S 1) 196 (dgL (S 2) 12 (dgL (fun w => couS S P L T h (nI w)) 11 557)))) → ∀ (H : Heap) (locs : List Loc) (ls : Array Slot), WP D cA a S X I H → va_S (AI a I) s.heap H locs → lv_has ls 5 [(3, .int (nI i)), (1, .long d), (0, .ref (a 89))] → W p l e { frames := 7, cells := 0, slots := 0, locals := 151 } s m args below meth c H locs (0) (0) (MQ below (QpL D cA a I (fun r S1 X1 => r = digS S P L T h ∧ S1 = S ∧ CacheOk S X1 P ∧ (∀ k, k ≠ 13 → k ≠ 14 → k ≠ 15 → X1 k = X k))) args s 0 0 (AI a I)) (F0 m 14 ls []) := by
    intro n
    induction n with
    | zero => intro i d hi hf hdg; exfalso; omega
    | succ n ih14 =>
      intro i d hi hf hdg H locs ls hP hS hl
      refine lv_iload_n C0.1 C0.2.1 dX8_digest_14 rfl (lv_at hl 0 rfl) ?_
      refine lv_aload_n C0.1 C0.2.1 dX8_digest_15 rfl (lv_at hl 2 rfl) ?_
      refine g89_landings C0 hK hP (hd.1 _ (by decide)) fl_X8_19 dX8_digest_16 ?_
      refine g81_number (v := nI L) C0 hK hP (hd.1 _ (by decide)) fl_X8_127 hnL dX8_digest_19 ?_
      refine lv_icmp_ge (tgt := 61) C0.1 C0.2.1 dX8_digest_22 (by decide) (fun c_22 => ?_) (fun c_22 => ?_)
      · have hge : L ≤ i := (nI_leI (by omega) (by omega)).mp c_22
        refine lv_iconst (v := 0) C0.1 C0.2.1 dX8_digest_61 (by decide) ?_
        refine lv_istore_n (lv' := [(3, .int 0), (1, .long d), (0, .ref (a 89))]) C0.1 C0.2.1 dX8_digest_62 rfl hl (by decide) rfl (fun ls hl => ?_)
        have loop63 : ∀ (n : Nat) (i2 : Nat) (Xv : Mem) (d2 : Int64), (i2 ≤ P) → (P + 1 ≤ i2 + n) → (CacheOk S Xv P) → (∀ k, k ≠ 13 → k ≠ 14 → k ≠ 15 → Xv k = X k) → (d2 = dgO (fun p w => punS S T h p (nI w)) 9 i2 (dgO (fun x w => lanS S P T x (nI w)) 5 L (dgP (S 0) (S 1) 196 (dgL (S 2) 12 (dgL (fun w => couS S P L T h (nI w)) 11 557))))) → ∀ (H : Heap) (locs : List Loc) (ls : Array Slot), WP D cA a S Xv I H → va_S (AI a I) s.heap H locs → lv_has ls 5 [(3, .int (nI i2)), (1, .long d2), (0, .ref (a 89))] → W p l e { frames := 7, cells := 0, slots := 0, locals := 151 } s m args below meth c H locs (0) (0) (MQ below (QpL D cA a I (fun r S1 X1 => r = digS S P L T h ∧ S1 = S ∧ CacheOk S X1 P ∧ (∀ k, k ≠ 13 → k ≠ 14 → k ≠ 15 → X1 k = X k))) args s 0 0 (AI a I)) (F0 m 63 ls []) := by
          intro n
          induction n with
          | zero => intro i2 Xv d2 hii2 hfi2 hCz hXf hdg2; exfalso; omega
          | succ n ih63 =>
            intro i2 Xv d2 hii2 hfi2 hCz hXf hdg2 H locs ls hP hS hl
            refine lv_iload_n C0.1 C0.2.1 dX8_digest_63 rfl (lv_at hl 0 rfl) ?_
            refine lv_aload_n C0.1 C0.2.1 dX8_digest_64 rfl (lv_at hl 2 rfl) ?_
            refine g89_fleet C0 hK hP (hd.1 _ (by decide)) fl_X8_26 dX8_digest_65 ?_
            refine g82_number (v := nI P) C0 hK hP (hd.1 _ (by decide)) fl_X8_120 hnP dX8_digest_68 ?_
            refine lv_icmp_ge (tgt := 111) C0.1 C0.2.1 dX8_digest_71 (by decide) (fun c_71 => ?_) (fun c_71 => ?_)
            · have hgei2 : P ≤ i2 := (nI_leI (by omega) (by omega)).mp c_71
              refine lv_iconst (v := 0) C0.1 C0.2.1 dX8_digest_111 (by decide) ?_
              refine lv_istore_n (lv' := [(3, .int 0), (1, .long d2), (0, .ref (a 89))]) C0.1 C0.2.1 dX8_digest_112 rfl hl (by decide) rfl (fun ls hl => ?_)
              have loop113 : ∀ (n : Nat) (i3 : Nat) (d3 : Int64), (i3 ≤ T) → (T + 1 ≤ i3 + n) → (d3 = dgO (fun t w => trvS S P t (nI w)) 7 i3 (dgO (fun p w => punS S T h p (nI w)) 9 P (dgO (fun x w => lanS S P T x (nI w)) 5 L (dgP (S 0) (S 1) 196 (dgL (S 2) 12 (dgL (fun w => couS S P L T h (nI w)) 11 557)))))) → ∀ (H : Heap) (locs : List Loc) (ls : Array Slot), WP D cA a S Xv I H → va_S (AI a I) s.heap H locs → lv_has ls 5 [(3, .int (nI i3)), (1, .long d3), (0, .ref (a 89))] → W p l e { frames := 7, cells := 0, slots := 0, locals := 151 } s m args below meth c H locs (0) (0) (MQ below (QpL D cA a I (fun r S1 X1 => r = digS S P L T h ∧ S1 = S ∧ CacheOk S X1 P ∧ (∀ k, k ≠ 13 → k ≠ 14 → k ≠ 15 → X1 k = X k))) args s 0 0 (AI a I)) (F0 m 113 ls []) := by
                intro n
                induction n with
                | zero => intro i3 d3 hii3 hfi3 hdg3; exfalso; omega
                | succ n ih113 =>
                  intro i3 d3 hii3 hfi3 hdg3 H locs ls hP hS hl
                  refine lv_iload_n C0.1 C0.2.1 dX8_digest_113 rfl (lv_at hl 0 rfl) ?_
                  refine lv_aload_n C0.1 C0.2.1 dX8_digest_114 rfl (lv_at hl 2 rfl) ?_
                  refine g89_now C0 hK hP (hd.1 _ (by decide)) fl_X8_53 dX8_digest_115 ?_
                  refine g86_travellers C0 hK hP (hd.1 _ (by decide)) fl_X8_163 dX8_digest_118 ?_
                  refine g85_number (v := nI T) C0 hK hP (hd.1 _ (by decide)) fl_X8_172 hnT dX8_digest_121 ?_
                  refine lv_icmp_ge (tgt := 164) C0.1 C0.2.1 dX8_digest_124 (by decide) (fun c_124 => ?_) (fun c_124 => ?_)
                  · have hgei3 : T ≤ i3 := (nI_leI (by omega) (by omega)).mp c_124
                    refine lv_lload_n C0.1 C0.2.1 dX8_digest_164 rfl (lv_at hl 1 rfl) ?_
                    exact retL C0 hr hlk hP hS ⟨by rw [hdg3, show i3 = T by omega, digS], rfl, hCz, hXf⟩ dX8_digest_165
                  · have hlti3 : i3 < T := Nat.not_le.mp fun q => c_124 (nI_le q (by omega))
                    refine lv_iconst (v := 0) C0.1 C0.2.1 dX8_digest_127 (by decide) ?_
                    refine lv_istore (lv' := [(4, .int 0), (3, .int (nI i3)), (1, .long d3), (0, .ref (a 89))]) C0.1 C0.2.1 dX8_digest_128 hl (by decide) rfl (fun ls hl => ?_)
                    have loop130 : ∀ (n : Nat) (q3 : Nat) (dq3 : Int64), (q3 ≤ 7) → (7 + 1 ≤ q3 + n) → (dq3 = dgL ((fun t w => trvS S P t (nI w)) i3) q3 (dgO (fun t w => trvS S P t (nI w)) 7 i3 (dgO (fun p w => punS S T h p (nI w)) 9 P (dgO (fun x w => lanS S P T x (nI w)) 5 L (dgP (S 0) (S 1) 196 (dgL (S 2) 12 (dgL (fun w => couS S P L T h (nI w)) 11 557))))))) → ∀ (H : Heap) (locs : List Loc) (ls : Array Slot), WP D cA a S Xv I H → va_S (AI a I) s.heap H locs → lv_has ls 5 [(4, .int (nI q3)), (3, .int (nI i3)), (1, .long dq3), (0, .ref (a 89))] → W p l e { frames := 7, cells := 0, slots := 0, locals := 151 } s m args below meth c H locs (0) (0) (MQ below (QpL D cA a I (fun r S1 X1 => r = digS S P L T h ∧ S1 = S ∧ CacheOk S X1 P ∧ (∀ k, k ≠ 13 → k ≠ 14 → k ≠ 15 → X1 k = X k))) args s 0 0 (AI a I)) (F0 m 130 ls []) := by
                      intro n
                      induction n with
                      | zero => intro q3 dq3 hiq3 hfq3 hdq3; exfalso; omega
                      | succ n ih130 =>
                        intro q3 dq3 hiq3 hfq3 hdq3 H locs ls hP hS hl
                        refine lv_iload C0.1 C0.2.1 dX8_digest_130 (lv_at hl 0 rfl) ?_
                        refine lv_bipush (v := 7) C0.1 C0.2.1 dX8_digest_132 (by decide) ?_
                        refine lv_icmp_ge (tgt := 158) C0.1 C0.2.1 dX8_digest_134 (by decide) (fun c_134 => ?_) (fun c_134 => ?_)
                        · have hgeq3 : 7 ≤ q3 := (nI_leI (by omega) (by omega)).mp c_134
                          refine lv_iinc (v := nI (i3 + 1)) (lv' := [(3, .int (nI (i3 + 1))), (4, .int (nI q3)), (1, .long dq3), (0, .ref (a 89))]) C0.1 C0.2.1 dX8_digest_158 hl (k := 1) rfl (nI_1 _) (by decide) rfl (fun ls hl => ?_)
                          refine lv_goto (tgt := 113) C0.1 C0.2.1 dX8_digest_161 (by decide) ?_
                          exact ih113 (i3 + 1) _ (by omega) (by omega) (by rw [hdq3, show q3 = 7 by omega, dgO_succ]) _ _ _ hP hS (lv_sub hl [0, 2, 3] rfl)
                        · have hltq3 : q3 < 7 := Nat.not_le.mp fun q => c_134 (nI_le q (by omega))
                          refine lv_lload_n C0.1 C0.2.1 dX8_digest_137 rfl (lv_at hl 2 rfl) ?_
                          refine lv_ldc2 (v := 31) C0.1 C0.2.1 C0.2.2.2.1 (C0.2.2.2.2 _ kc_X8_288) dX8_digest_138 ?_
                          refine lv_lmul C0.1 C0.2.1 dX8_digest_141 ?_
                          refine lv_aload_n C0.1 C0.2.1 dX8_digest_142 rfl (lv_at hl 3 rfl) ?_
                          refine lv_iload_n C0.1 C0.2.1 dX8_digest_143 rfl (lv_at hl 1 rfl) ?_
                          refine lv_iload C0.1 C0.2.1 dX8_digest_144 (lv_at hl 0 rfl) ?_
                          refine k_X8_tellTraveller hd sId C0 hK hP hnT hT30 (hCh.frm hXf) hTW hTr hlti3 (v := trvS S P i3 (nI q3)) rfl hS hA hl.1 ml_X8_189 ⟨Nat.le_of_ble_eq_true rfl, Nat.le_of_ble_eq_true rfl⟩ ⟨Nat.zero_le _, Nat.zero_le _⟩ (Nat.le_of_ble_eq_true rfl) dX8_digest_146 (fun H locs hP hS => ?_)
                          refine lv_i2l C0.1 C0.2.1 dX8_digest_149 rfl ?_
                          refine lv_ladd C0.1 C0.2.1 dX8_digest_150 ?_
                          refine lv_lstore_n (lv' := [(1, .long ((dq3 * 31) + ((trvS S P i3 (nI q3)).toInt64))), (4, .int (nI q3)), (3, .int (nI i3)), (0, .ref (a 89))]) C0.1 C0.2.1 dX8_digest_151 rfl hl (by decide) rfl (fun ls hl => ?_)
                          refine lv_iinc (v := nI (q3 + 1)) (lv' := [(4, .int (nI (q3 + 1))), (1, .long ((dq3 * 31) + ((trvS S P i3 (nI q3)).toInt64))), (3, .int (nI i3)), (0, .ref (a 89))]) C0.1 C0.2.1 dX8_digest_152 hl (k := 1) rfl (nI_1 _) (by decide) rfl (fun ls hl => ?_)
                          refine lv_goto (tgt := 130) C0.1 C0.2.1 dX8_digest_155 (by decide) ?_
                          exact ih130 (q3 + 1) _ (by omega) (by omega) (by rw [hdq3, dgL_succ _ q3]) _ _ _ hP hS (lv_sub hl [0, 2, 1, 3] rfl)
                    exact loop130 (7 + 1) 0 _ (by omega) (by omega) (by rw [hdg3, dgL_zero]) _ _ _ hP hS (lv_sub hl [0, 1, 2, 3] rfl)
              exact loop113 (T + 1) 0 _ (by omega) (by omega) (by rw [hdg2, show i2 = P by omega, dgO_zero]) _ _ _ hP hS (lv_sub hl [0, 1, 2] rfl)
            · have hlti2 : i2 < P := Nat.not_le.mp fun q => c_71 (nI_le q (by omega))
              refine lv_iconst (v := 0) C0.1 C0.2.1 dX8_digest_74 (by decide) ?_
              refine lv_istore (lv' := [(4, .int 0), (3, .int (nI i2)), (1, .long d2), (0, .ref (a 89))]) C0.1 C0.2.1 dX8_digest_75 hl (by decide) rfl (fun ls hl => ?_)
              have loop77 : ∀ (n : Nat) (q2 : Nat) (Xv : Mem) (dq2 : Int64), (q2 ≤ 9) → (9 + 1 ≤ q2 + n) → (CacheOk S Xv P) → (∀ k, k ≠ 13 → k ≠ 14 → k ≠ 15 → Xv k = X k) → (dq2 = dgL ((fun p w => punS S T h p (nI w)) i2) q2 (dgO (fun p w => punS S T h p (nI w)) 9 i2 (dgO (fun x w => lanS S P T x (nI w)) 5 L (dgP (S 0) (S 1) 196 (dgL (S 2) 12 (dgL (fun w => couS S P L T h (nI w)) 11 557)))))) → ∀ (H : Heap) (locs : List Loc) (ls : Array Slot), WP D cA a S Xv I H → va_S (AI a I) s.heap H locs → lv_has ls 5 [(4, .int (nI q2)), (3, .int (nI i2)), (1, .long dq2), (0, .ref (a 89))] → W p l e { frames := 7, cells := 0, slots := 0, locals := 151 } s m args below meth c H locs (0) (0) (MQ below (QpL D cA a I (fun r S1 X1 => r = digS S P L T h ∧ S1 = S ∧ CacheOk S X1 P ∧ (∀ k, k ≠ 13 → k ≠ 14 → k ≠ 15 → X1 k = X k))) args s 0 0 (AI a I)) (F0 m 77 ls []) := by
                intro n
                induction n with
                | zero => intro q2 Xv dq2 hiq2 hfq2 hCz hXf hdq2; exfalso; omega
                | succ n ih77 =>
                  intro q2 Xv dq2 hiq2 hfq2 hCz hXf hdq2 H locs ls hP hS hl
                  refine lv_iload C0.1 C0.2.1 dX8_digest_77 (lv_at hl 0 rfl) ?_
                  refine lv_bipush (v := 9) C0.1 C0.2.1 dX8_digest_79 (by decide) ?_
                  refine lv_icmp_ge (tgt := 105) C0.1 C0.2.1 dX8_digest_81 (by decide) (fun c_81 => ?_) (fun c_81 => ?_)
                  · have hgeq2 : 9 ≤ q2 := (nI_leI (by omega) (by omega)).mp c_81
                    refine lv_iinc (v := nI (i2 + 1)) (lv' := [(3, .int (nI (i2 + 1))), (4, .int (nI q2)), (1, .long dq2), (0, .ref (a 89))]) C0.1 C0.2.1 dX8_digest_105 hl (k := 1) rfl (nI_1 _) (by decide) rfl (fun ls hl => ?_)
                    refine lv_goto (tgt := 63) C0.1 C0.2.1 dX8_digest_108 (by decide) ?_
                    exact ih63 (i2 + 1) _ _ (by omega) (by omega) hCz hXf (by rw [hdq2, show q2 = 9 by omega, dgO_succ]) _ _ _ hP hS (lv_sub hl [0, 2, 3] rfl)
                  · have hltq2 : q2 < 9 := Nat.not_le.mp fun q => c_81 (nI_le q (by omega))
                    refine lv_lload_n C0.1 C0.2.1 dX8_digest_84 rfl (lv_at hl 2 rfl) ?_
                    refine lv_ldc2 (v := 31) C0.1 C0.2.1 C0.2.2.2.1 (C0.2.2.2.2 _ kc_X8_288) dX8_digest_85 ?_
                    refine lv_lmul C0.1 C0.2.1 dX8_digest_88 ?_
                    refine lv_aload_n C0.1 C0.2.1 dX8_digest_89 rfl (lv_at hl 3 rfl) ?_
                    refine lv_iload_n C0.1 C0.2.1 dX8_digest_90 rfl (lv_at hl 1 rfl) ?_
                    refine lv_iload C0.1 C0.2.1 dX8_digest_91 (lv_at hl 0 rfl) ?_
                    refine k_X8_tellPunt hd sId C0 hK hP hnP hnT hT30 hnH hh hCz hTW hlti2 hS hA hl.1 ml_X8_151 ⟨Nat.le_of_ble_eq_true rfl, Nat.le_of_ble_eq_true rfl⟩ ⟨Nat.zero_le _, Nat.zero_le _⟩ (Nat.le_of_ble_eq_true rfl) dX8_digest_93 (fun v_4 S_2 X_3 H locs hx_1 hP hS => ?_)
                    obtain ⟨hrv, hs1, hCn, hXn⟩ := hx_1
                    rw [hs1] at hP
                    subst hrv
                    refine lv_i2l C0.1 C0.2.1 dX8_digest_96 rfl ?_
                    refine lv_ladd C0.1 C0.2.1 dX8_digest_97 ?_
                    refine lv_lstore_n (lv' := [(1, .long ((dq2 * 31) + ((punS S T h i2 (nI q2)).toInt64))), (4, .int (nI q2)), (3, .int (nI i2)), (0, .ref (a 89))]) C0.1 C0.2.1 dX8_digest_98 rfl hl (by decide) rfl (fun ls hl => ?_)
                    refine lv_iinc (v := nI (q2 + 1)) (lv' := [(4, .int (nI (q2 + 1))), (1, .long ((dq2 * 31) + ((punS S T h i2 (nI q2)).toInt64))), (3, .int (nI i2)), (0, .ref (a 89))]) C0.1 C0.2.1 dX8_digest_99 hl (k := 1) rfl (nI_1 _) (by decide) rfl (fun ls hl => ?_)
                    refine lv_goto (tgt := 77) C0.1 C0.2.1 dX8_digest_102 (by decide) ?_
                    exact ih77 (q2 + 1) _ _ (by omega) (by omega) hCn (fun k a1 a2 a3 => (hXn k a1 a2 a3).trans (hXf k a1 a2 a3)) (by rw [hdq2, dgL_succ _ q2]) _ _ _ hP hS (lv_sub hl [0, 2, 1, 3] rfl)
              exact loop77 (9 + 1) 0 _ _ (by omega) (by omega) hCz hXf (by rw [hdg2, dgL_zero]) _ _ _ hP hS (lv_sub hl [0, 1, 2, 3] rfl)
        exact loop63 (P + 1) 0 _ _ (by omega) (by omega) hC (fun _ _ _ _ => rfl) (by rw [hdg, show i = L by omega, dgO_zero]) _ _ _ hP hS (lv_sub hl [0, 1, 2] rfl)
      · have hlt : i < L := Nat.not_le.mp fun q => c_22 (nI_le q (by omega))
        refine lv_iconst (v := 0) C0.1 C0.2.1 dX8_digest_25 (by decide) ?_
        refine lv_istore (lv' := [(4, .int 0), (3, .int (nI i)), (1, .long d), (0, .ref (a 89))]) C0.1 C0.2.1 dX8_digest_26 hl (by decide) rfl (fun ls hl => ?_)
        have loop28 : ∀ (n : Nat) (q : Nat) (dq : Int64), (q ≤ 5) → (5 + 1 ≤ q + n) → (dq = dgL ((fun x w => lanS S P T x (nI w)) i) q (dgO (fun x w => lanS S P T x (nI w)) 5 i (dgP (S 0) (S 1) 196 (dgL (S 2) 12 (dgL (fun w => couS S P L T h (nI w)) 11 557))))) → ∀ (H : Heap) (locs : List Loc) (ls : Array Slot), WP D cA a S X I H → va_S (AI a I) s.heap H locs → lv_has ls 5 [(4, .int (nI q)), (3, .int (nI i)), (1, .long dq), (0, .ref (a 89))] → W p l e { frames := 7, cells := 0, slots := 0, locals := 151 } s m args below meth c H locs (0) (0) (MQ below (QpL D cA a I (fun r S1 X1 => r = digS S P L T h ∧ S1 = S ∧ CacheOk S X1 P ∧ (∀ k, k ≠ 13 → k ≠ 14 → k ≠ 15 → X1 k = X k))) args s 0 0 (AI a I)) (F0 m 28 ls []) := by
          intro n
          induction n with
          | zero => intro q dq hiq hfq hdq; exfalso; omega
          | succ n ih28 =>
            intro q dq hiq hfq hdq H locs ls hP hS hl
            refine lv_iload C0.1 C0.2.1 dX8_digest_28 (lv_at hl 0 rfl) ?_
            refine lv_iconst (v := 5) C0.1 C0.2.1 dX8_digest_30 (by decide) ?_
            refine lv_icmp_ge (tgt := 55) C0.1 C0.2.1 dX8_digest_31 (by decide) (fun c_31 => ?_) (fun c_31 => ?_)
            · have hgeq : 5 ≤ q := (nI_leI (by omega) (by omega)).mp c_31
              refine lv_iinc (v := nI (i + 1)) (lv' := [(3, .int (nI (i + 1))), (4, .int (nI q)), (1, .long dq), (0, .ref (a 89))]) C0.1 C0.2.1 dX8_digest_55 hl (k := 1) rfl (nI_1 _) (by decide) rfl (fun ls hl => ?_)
              refine lv_goto (tgt := 14) C0.1 C0.2.1 dX8_digest_58 (by decide) ?_
              exact ih14 (i + 1) _ (by omega) (by omega) (by rw [hdq, show q = 5 by omega, dgO_succ]) _ _ _ hP hS (lv_sub hl [0, 2, 3] rfl)
            · have hltq : q < 5 := Nat.not_le.mp fun q => c_31 (nI_le q (by omega))
              refine lv_lload_n C0.1 C0.2.1 dX8_digest_34 rfl (lv_at hl 2 rfl) ?_
              refine lv_ldc2 (v := 31) C0.1 C0.2.1 C0.2.2.2.1 (C0.2.2.2.2 _ kc_X8_288) dX8_digest_35 ?_
              refine lv_lmul C0.1 C0.2.1 dX8_digest_38 ?_
              refine lv_aload_n C0.1 C0.2.1 dX8_digest_39 rfl (lv_at hl 3 rfl) ?_
              refine lv_iload_n C0.1 C0.2.1 dX8_digest_40 rfl (lv_at hl 1 rfl) ?_
              refine lv_iload C0.1 C0.2.1 dX8_digest_41 (lv_at hl 0 rfl) ?_
              refine k_X8_tellLanding hd sId C0 hK hP hnP hnT hT30 hTW hlt (v := lanS S P T i (nI q)) rfl hS hA hl.1 ml_X8_210 ⟨Nat.le_of_ble_eq_true rfl, Nat.le_of_ble_eq_true rfl⟩ ⟨Nat.zero_le _, Nat.zero_le _⟩ (Nat.le_of_ble_eq_true rfl) dX8_digest_43 (fun H locs hP hS => ?_)
              refine lv_i2l C0.1 C0.2.1 dX8_digest_46 rfl ?_
              refine lv_ladd C0.1 C0.2.1 dX8_digest_47 ?_
              refine lv_lstore_n (lv' := [(1, .long ((dq * 31) + ((lanS S P T i (nI q)).toInt64))), (4, .int (nI q)), (3, .int (nI i)), (0, .ref (a 89))]) C0.1 C0.2.1 dX8_digest_48 rfl hl (by decide) rfl (fun ls hl => ?_)
              refine lv_iinc (v := nI (q + 1)) (lv' := [(4, .int (nI (q + 1))), (1, .long ((dq * 31) + ((lanS S P T i (nI q)).toInt64))), (3, .int (nI i)), (0, .ref (a 89))]) C0.1 C0.2.1 dX8_digest_49 hl (k := 1) rfl (nI_1 _) (by decide) rfl (fun ls hl => ?_)
              refine lv_goto (tgt := 28) C0.1 C0.2.1 dX8_digest_52 (by decide) ?_
              exact ih28 (q + 1) _ (by omega) (by omega) (by rw [hdq, dgL_succ _ q]) _ _ _ hP hS (lv_sub hl [0, 2, 1, 3] rfl)
        exact loop28 (5 + 1) 0 _ (by omega) (by omega) (by rw [hdg, dgL_zero]) _ _ _ hP hS (lv_sub hl [0, 1, 2, 3] rfl)
  exact loop14 (L + 1) 0 _ (by omega) (by omega) (by rw [dgO_zero]) _ _ _ hP hS (lv_sub hl [0, 1, 2] rfl)
theorem k_X8_digest {n : List Nat} (hd : Hd n a I) (hsub : ∀ k ∈ nF, k ∈ n) (C0 : CallFix p m c cc nL s args GW own) (hK : KK D cA s) (hP : WP D cA a S X I H) {P : Nat} {L : Nat} {T : Nat} {h : Nat} (hnP : S 82 0 = nI P) (hnL : S 81 0 = nI L) (hnT : S 85 0 = nI T) (hT30 : T ≤ 30) (hnH : S 86 0 = nI h) (hh : h < 2 ^ 31) (hC : CacheOk S X P) (hCh : ChainsOk S X P) (hTW : TW S P L) (hTr : TrW S P L T) (hS : va_S A0 H0 H locs) (hA : ∀ q, AI a I q → A0 q) (hls : ls.size = nL) {idx : Nat} (hlink : Cond.methodLink own idx yX8_digest ∈ GW) (hR : 8 ≤ R.frames ∧ 175 ≤ R.locals) (hcs : cells ≤ R.cells ∧ slots ≤ R.slots) (hrest : (rest.map fun v => v.category).sum ≤ 8) (hdg : decode cc pc = .ok (.invokevirtual idx, 3)) (kk : ∀ (v : Int64) (S1 X1 : Mem) (H1 : Heap) (locs1 : List Loc), (fun r S1 X1 => r = digS S P L T h ∧ S1 = S ∧ CacheOk S X1 P ∧ (∀ k, k ≠ 13 → k ≠ 14 → k ≠ 15 → X1 k = X k)) v S1 X1 → WP D cA a S1 X1 I H1 → va_S A0 H0 H1 locs1 → W p l e R s m args below meth c H1 locs1 cells slots Q (F0 m (pc + 3) ls (.long v :: rest))) : W p l e R s m args below meth c H locs cells slots Q (F0 m pc ls (.ref (a 89) :: rest)) := by
  exact goL (rV (n := 0) (c_X8_digest l D cA a S X I (hd.sub hsub)  hnP hnL hnT hT30 hnH hh hC hCh hTW hTr) C0 hlink im_X8_digest se_X8_digest in_X8 co_X8_digest ⟨rfl, by decide⟩ hR hK hP (hd.1 _ (hsub _ (by decide))) rfl rfl rfl hls hrest rfl hdg hcs) hS hA kk
end CLS
