/-! THE REFERENCE'S LEAVES. -/
theorem vp_in_rem {h : Nat} (hh : h < 2 ^ 31) : vp_in (nI h - nI h / 12 * 12) 12 := by
  rw [show (12 : Int32) = nI 12 from rfl, pk_rem hh (by decide) (by decide)]
  exact vp_in_nI (Nat.mod_lt _ (by decide)) (by decide)
section CLS
variable {p : Program} {l : Launch} {e : Env} {R : Room} {s : State} {m : MethodId} {args : Array Value} {below : List Frame} {meth : Method} {c : Code} {H : Heap} {locs : List Loc} {cells slots : Nat} {Q : State → Prop}
variable {cc : ByteArray} {nL : Nat} {own : String} {pc : Nat} {ls : Array Slot} {rest : List Value} {D : va_G} {cA : ClassId} {a : Adr} {S X : Mem} {I : Nat → Prop} {H0 : Heap} {A0 : Nat → Prop}
set_option maxHeartbeats 4000000 in
set_option maxRecDepth 100000 in
theorem c_X9_level (l : Launch) (D : va_G) (cA : ClassId) (a : Adr) (S X : Mem) (I : Nat → Prop) (hd : Hd nM a I) {h : Nat} (hnH : S 86 0 = nI h) (hh : h < 2 ^ 31) : NI l yX9_level cX9_level 1 (some .int) 0 0 D cA a S X I [.ref (a 20)] (fun r S1 X1 => r = (lvS S h) ∧ S1 = S ∧ X1 = X) := by
  refine nGo (by decide) (Nat.le_of_ble_eq_true rfl) ?_
  intro p e s m args below meth c ls C0 hr hlk hK hP hS hl hargs
  obtain ⟨H, hHe⟩ : ∃ H, H = s.heap := ⟨_, rfl⟩
  obtain ⟨locs, hlo⟩ : ∃ L : List Loc, L = [] := ⟨_, rfl⟩
  have hP : WQ D cA a S X I H := hHe ▸ hP
  have hS : va_S (AI a I) s.heap H locs := by rw [hHe, hlo]; exact hS
  rw [← hHe, ← hlo]
  have hA : ∀ q, AI a I q → AI a I q := fun _ h => h
  refine lv_aload_n C0.1 C0.2.1 dX9_level_0 rfl (lv_at hl 0 rfl) ?_
  refine g20 C0 hK hP (hd.1 _ (by decide)) 3 (by decide) fl_X9_16 rfl dX9_level_1 ?_
  refine lv_aload_n C0.1 C0.2.1 dX9_level_4 rfl (lv_at hl 0 rfl) ?_
  refine g20i (v := nI h) C0 hK hP (hd.1 _ (by decide)) 9 (by decide) fl_X9_54 rfl hnH dX9_level_5 ?_
  refine lv_bipush (v := 12) C0.1 C0.2.1 dX9_level_8 (by decide) ?_
  refine lv_irem C0.1 C0.2.1 dX9_level_10 (by decide) ?_
  refine mld (k := 2) (by decide) C0 hK hP (hd.1 _ (by decide)) (v := rg (S 2) 12 ((nI h) - (nI h) / 12 * 12)) (vp_in_rem hh) ((rg_in (n := 12) (vp_in_rem hh)).symm.trans rfl) dX9_level_11 ?_
  exact rtI C0 hr hlk hP hS ⟨lv_raw hh, rfl, rfl⟩ dX9_level_12
theorem k_X9_level {n : List Nat} (hd : Hd n a I) (hsub : ∀ k ∈ nM, k ∈ n) (C0 : CallFix p m c cc nL s args GW own) (hK : KK D cA s) (hP : WQ D cA a S X I H) {h : Nat} (hnH : S 86 0 = nI h) (hh : h < 2 ^ 31) {v : Int32} (hv : (lvS S h) = v) (hS : va_S A0 H0 H locs) (hA : ∀ q, AI a I q → A0 q) (hls : ls.size = nL) {idx : Nat} (hlink : Cond.methodLink own idx yX9_level ∈ GW) (hR : 1 ≤ R.frames ∧ 20 ≤ R.locals) (hcs : cells ≤ R.cells ∧ slots ≤ R.slots) (hrest : (rest.map fun v => v.category).sum ≤ 8) (hdg : decode cc pc = .ok (.invokevirtual idx, 3)) (kk : ∀ (H1 : Heap) (locs1 : List Loc), WQ D cA a S X I H1 → va_S A0 H0 H1 locs1 → W p l e R s m args below meth c H1 locs1 cells slots Q (F0 m (pc + 3) ls (.int v :: rest))) : W p l e R s m args below meth c H locs cells slots Q (F0 m pc ls (.ref (a 20) :: rest)) := by
  subst hv
  exact hoI (qV (n := 0) (c_X9_level l D cA a S X I (hd.sub hsub)  hnH hh) C0 hlink im_X9_level se_X9_level in_X9 co_X9_level ⟨rfl, by decide⟩ hR hK hP (hd.1 _ (hsub _ (by decide))) rfl rfl rfl hls hrest rfl hdg hcs) hS hA (fun r S1 X1 H1 locs1 hp hP1 hS1 => by obtain ⟨rfl, rfl, rfl⟩ := hp; exact kk H1 locs1 hP1 hS1)
set_option maxHeartbeats 4000000 in
set_option maxRecDepth 100000 in
theorem c_X9_depth (l : Launch) (D : va_G) (cA : ClassId) (a : Adr) (S X : Mem) (I : Nat → Prop) (hd : Hd nM a I) (k : Nat) (lv : Int32) (hk : k < 196) : NI l yX9_depth cX9_depth 3 (some .int) 1 21 D cA a S X I [.ref (a 20), .int (nI k), .int lv] (fun r S1 X1 => r = (dpt S (nI k) lv) ∧ S1 = S ∧ X1 = X) := by
  refine nGo (by decide) (Nat.le_of_ble_eq_true rfl) ?_
  intro p e s m args below meth c ls C0 hr hlk hK hP hS hl hargs
  obtain ⟨H, hHe⟩ : ∃ H, H = s.heap := ⟨_, rfl⟩
  obtain ⟨locs, hlo⟩ : ∃ L : List Loc, L = [] := ⟨_, rfl⟩
  have hP : WQ D cA a S X I H := hHe ▸ hP
  have hS : va_S (AI a I) s.heap H locs := by rw [hHe, hlo]; exact hS
  rw [← hHe, ← hlo]
  have hA : ∀ q, AI a I q → AI a I q := fun _ h => h
  refine lv_iconst (v := 0) C0.1 C0.2.1 dX9_depth_0 (by decide) ?_
  refine lv_iload_n C0.1 C0.2.1 dX9_depth_1 rfl (lv_at hl 2 rfl) ?_
  refine lv_aload_n C0.1 C0.2.1 dX9_depth_2 rfl (lv_at hl 0 rfl) ?_
  refine g20 C0 hK hP (hd.1 _ (by decide)) 1 (by decide) fl_X9_9 rfl dX9_depth_3 ?_
  refine lv_iload_n C0.1 C0.2.1 dX9_depth_6 rfl (lv_at hl 1 rfl) ?_
  refine mld (k := 0) (by decide) C0 hK hP (hd.1 _ (by decide)) (v := S 0 k) (vp_in_nI (show k < 196 by omega) (by decide)) ((rg_in (n := 196) (vp_in_nI (show k < 196 by omega) (by decide))).symm.trans (rg_nI (show k < 196 by omega) (by decide))) dX9_depth_7 ?_
  refine lv_isub C0.1 C0.2.1 dX9_depth_8 ?_
  refine va_mmax C0.1 C0.2.1 (C0.2.2.1.trans hl.1.symm) C0.2.2.2.1 (C0.2.2.2.2 _ ml_X9_57) (C0.2.2.2.2 _ sm_M_max) (C0.2.2.2.2 _ in_J9) (C0.2.2.2.2 _ co_M_max) (Nat.le_of_ble_eq_true rfl) (Nat.le_of_ble_eq_true rfl) (Nat.zero_le _) (Nat.zero_le _) dX9_depth_9 ?_
  exact rtI C0 hr hlk hP hS ⟨by unfold dpt; rw [rg_nI hk (by decide)], rfl, rfl⟩ dX9_depth_12
theorem k_X9_depth {n : List Nat} (hd : Hd n a I) (hsub : ∀ k ∈ nM, k ∈ n) (C0 : CallFix p m c cc nL s args GW own) (hK : KK D cA s) (hP : WQ D cA a S X I H) {k : Nat} {lv : Int32} (hk : k < 196) {v : Int32} (hv : (dpt S (nI k) lv) = v) (hS : va_S A0 H0 H locs) (hA : ∀ q, AI a I q → A0 q) (hls : ls.size = nL) {idx : Nat} (hlink : Cond.methodLink own idx yX9_depth ∈ GW) (hR : 2 ≤ R.frames ∧ 43 ≤ R.locals) (hcs : cells ≤ R.cells ∧ slots ≤ R.slots) (hrest : (rest.map fun v => v.category).sum ≤ 8) (hdg : decode cc pc = .ok (.invokevirtual idx, 3)) (kk : ∀ (H1 : Heap) (locs1 : List Loc), WQ D cA a S X I H1 → va_S A0 H0 H1 locs1 → W p l e R s m args below meth c H1 locs1 cells slots Q (F0 m (pc + 3) ls (.int v :: rest))) : W p l e R s m args below meth c H locs cells slots Q (F0 m pc ls (.int lv :: .int (nI k) :: .ref (a 20) :: rest)) := by
  subst hv
  exact hoI (qV (n := 2) (c_X9_depth l D cA a S X I (hd.sub hsub) k lv hk) C0 hlink im_X9_depth se_X9_depth in_X9 co_X9_depth ⟨rfl, by decide⟩ hR hK hP (hd.1 _ (hsub _ (by decide))) rfl rfl rfl hls hrest rfl hdg hcs) hS hA (fun r S1 X1 H1 locs1 hp hP1 hS1 => by obtain ⟨rfl, rfl, rfl⟩ := hp; exact kk H1 locs1 hP1 hS1)
set_option maxHeartbeats 4000000 in
set_option maxRecDepth 100000 in
theorem c_X9_floats (l : Launch) (D : va_G) (cA : ClassId) (a : Adr) (S X : Mem) (I : Nat → Prop) (hd : Hd nM a I) (u : Nat) (k : Nat) (lv : Int32) (hu : u < 6) (hk : k < 196) : NI l yX9_floats cX9_floats 4 (some .boolean) 2 43 D cA a S X I [.ref (a 20), .int (nI u), .int (nI k), .int lv] (fun r S1 X1 => r = (bI (flt S (nI u) (nI k) lv)) ∧ S1 = S ∧ X1 = X) := by
  refine nGo (by decide) (Nat.le_of_ble_eq_true rfl) ?_
  intro p e s m args below meth c ls C0 hr hlk hK hP hS hl hargs
  obtain ⟨H, hHe⟩ : ∃ H, H = s.heap := ⟨_, rfl⟩
  obtain ⟨locs, hlo⟩ : ∃ L : List Loc, L = [] := ⟨_, rfl⟩
  have hP : WQ D cA a S X I H := hHe ▸ hP
  have hS : va_S (AI a I) s.heap H locs := by rw [hHe, hlo]; exact hS
  rw [← hHe, ← hlo]
  have hA : ∀ q, AI a I q → AI a I q := fun _ h => h
  refine lv_aload_n C0.1 C0.2.1 dX9_floats_0 rfl (lv_at hl 0 rfl) ?_
  refine lv_iload_n C0.1 C0.2.1 dX9_floats_1 rfl (lv_at hl 2 rfl) ?_
  refine lv_iload_n C0.1 C0.2.1 dX9_floats_2 rfl (lv_at hl 3 rfl) ?_
  refine k_X9_depth hd sId C0 hK hP (by omega) (v := dpt S (nI k) lv) rfl hS hA hl.1 ml_X9_63 ⟨Nat.le_of_ble_eq_true rfl, Nat.le_of_ble_eq_true rfl⟩ ⟨Nat.zero_le _, Nat.zero_le _⟩ (Nat.le_of_ble_eq_true rfl) dX9_floats_3 (fun H locs hP hS => ?_)
  refine lv_aload_n C0.1 C0.2.1 dX9_floats_6 rfl (lv_at hl 0 rfl) ?_
  refine lv_iload_n C0.1 C0.2.1 dX9_floats_7 rfl (lv_at hl 1 rfl) ?_
  refine lv_iconst (v := 2) C0.1 C0.2.1 dX9_floats_8 (by decide) ?_
  refine k_X9_pu_2 hd sId C0 hK hP (by omega) (v := S 6 u) rfl hS hA hl.1 ml_X9_66 ⟨Nat.le_of_ble_eq_true rfl, Nat.le_of_ble_eq_true rfl⟩ ⟨Nat.zero_le _, Nat.zero_le _⟩ (Nat.le_of_ble_eq_true rfl) dX9_floats_9 (fun H locs hP hS => ?_)
  refine lv_aload_n C0.1 C0.2.1 dX9_floats_12 rfl (lv_at hl 0 rfl) ?_
  refine lv_iload_n C0.1 C0.2.1 dX9_floats_13 rfl (lv_at hl 1 rfl) ?_
  refine lv_iconst (v := 3) C0.1 C0.2.1 dX9_floats_14 (by decide) ?_
  refine k_X9_pu_3 hd sId C0 hK hP (by omega) (v := S 7 u) rfl hS hA hl.1 ml_X9_66 ⟨Nat.le_of_ble_eq_true rfl, Nat.le_of_ble_eq_true rfl⟩ ⟨Nat.zero_le _, Nat.zero_le _⟩ (Nat.le_of_ble_eq_true rfl) dX9_floats_15 (fun H locs hP hS => ?_)
  refine k_X9_isIn hd s0 C0 hK hP  (v := bI (decide ((S 6 u) ≤ (dpt S (nI k) lv)) && decide ((dpt S (nI k) lv) ≤ (S 7 u)))) rfl hS hA hl.1 ml_X9_44 ⟨Nat.le_of_ble_eq_true rfl, Nat.le_of_ble_eq_true rfl⟩ ⟨Nat.zero_le _, Nat.zero_le _⟩ (Nat.le_of_ble_eq_true rfl) dX9_floats_18 (fun H locs hP hS => ?_)
  exact rtZ C0 hr hlk hP hS (nb_bI _) ⟨by unfold flt; rw [rg_nI hu (by decide), rg_nI hu (by decide)], rfl, rfl⟩ dX9_floats_21
theorem k_X9_floats {n : List Nat} (hd : Hd n a I) (hsub : ∀ k ∈ nM, k ∈ n) (C0 : CallFix p m c cc nL s args GW own) (hK : KK D cA s) (hP : WQ D cA a S X I H) {u : Nat} {k : Nat} {lv : Int32} (hu : u < 6) (hk : k < 196) {v : Int32} (hv : (bI (flt S (nI u) (nI k) lv)) = v) (hS : va_S A0 H0 H locs) (hA : ∀ q, AI a I q → A0 q) (hls : ls.size = nL) {idx : Nat} (hlink : Cond.methodLink own idx yX9_floats ∈ GW) (hR : 3 ≤ R.frames ∧ 66 ≤ R.locals) (hcs : cells ≤ R.cells ∧ slots ≤ R.slots) (hrest : (rest.map fun v => v.category).sum ≤ 8) (hdg : decode cc pc = .ok (.invokevirtual idx, 3)) (kk : ∀ (H1 : Heap) (locs1 : List Loc), WQ D cA a S X I H1 → va_S A0 H0 H1 locs1 → W p l e R s m args below meth c H1 locs1 cells slots Q (F0 m (pc + 3) ls (.int v :: rest))) : W p l e R s m args below meth c H locs cells slots Q (F0 m pc ls (.int lv :: .int (nI k) :: .int (nI u) :: .ref (a 20) :: rest)) := by
  subst hv
  exact hoI (qV (n := 3) (c_X9_floats l D cA a S X I (hd.sub hsub) u k lv hu hk) C0 hlink im_X9_floats se_X9_floats in_X9 co_X9_floats ⟨rfl, by decide⟩ hR hK hP (hd.1 _ (hsub _ (by decide))) rfl rfl rfl hls hrest rfl hdg hcs) hS hA (fun r S1 X1 H1 locs1 hp hP1 hS1 => by obtain ⟨rfl, rfl, rfl⟩ := hp; exact kk H1 locs1 hP1 hS1)
set_option maxHeartbeats 4000000 in
set_option maxRecDepth 100000 in
theorem c_X9_beside (l : Launch) (D : va_G) (cA : ClassId) (a : Adr) (S X : Mem) (I : Nat → Prop) (hd : Hd n0 a I) (i : Nat) (w : Int32) (hi : i < 196) : NI l yX9_beside cX9_beside 2 (some .int) 0 0 D cA a S X I [.int (nI i), .int w] (fun r S1 X1 => r = (besI (nI i) w) ∧ S1 = S ∧ X1 = X) := by
  refine nGo (by decide) (Nat.le_of_ble_eq_true rfl) ?_
  intro p e s m args below meth c ls C0 hr hlk hK hP hS hl hargs
  obtain ⟨H, hHe⟩ : ∃ H, H = s.heap := ⟨_, rfl⟩
  obtain ⟨locs, hlo⟩ : ∃ L : List Loc, L = [] := ⟨_, rfl⟩
  have hP : WQ D cA a S X I H := hHe ▸ hP
  have hS : va_S (AI a I) s.heap H locs := by rw [hHe, hlo]; exact hS
  rw [← hHe, ← hlo]
  have hA : ∀ q, AI a I q → AI a I q := fun _ h => h
  refine lv_iload_n C0.1 C0.2.1 dX9_beside_0 rfl (lv_at hl 1 rfl) ?_
  by_cases k_1_0 : w = 0
  · refine lv_tableIn (off := 27) (tgt := 28) C0.1 C0.2.1 dX9_beside_1 (by rw [k_1_0]; decide) (by rw [k_1_0]; decide) (by rw [k_1_0]; decide) (by decide) ?_
    refine lv_iload_n C0.1 C0.2.1 dX9_beside_28 rfl (lv_at hl 0 rfl) ?_
    refine lv_bipush (v := 14) C0.1 C0.2.1 dX9_beside_29 (by decide) ?_
    refine lv_icmp_ge (tgt := 38) C0.1 C0.2.1 dX9_beside_31 (by decide) (fun c_31 => ?_) (fun c_31 => ?_)
    · refine lv_iload_n C0.1 C0.2.1 dX9_beside_38 rfl (lv_at hl 0 rfl) ?_
      refine lv_bipush (v := 14) C0.1 C0.2.1 dX9_beside_39 (by decide) ?_
      refine lv_isub C0.1 C0.2.1 dX9_beside_41 ?_
      exact rtI C0 hr hlk hP hS ⟨by rw [k_1_0, ← mbes0 i hi]; first | exact (if_pos c_31).symm | exact (if_neg c_31).symm | exact (if_pos (Int32.not_le.mp c_31)).symm | exact (if_neg (Int32.not_lt.mpr c_31)).symm, rfl, rfl⟩ dX9_beside_42
    · refine lv_iconst (v := (-1)) C0.1 C0.2.1 dX9_beside_34 (by decide) ?_
      refine lv_goto (tgt := 42) C0.1 C0.2.1 dX9_beside_35 (by decide) ?_
      exact rtI C0 hr hlk hP hS ⟨by rw [k_1_0, ← mbes0 i hi]; first | exact (if_pos c_31).symm | exact (if_neg c_31).symm | exact (if_pos (Int32.not_le.mp c_31)).symm | exact (if_neg (Int32.not_lt.mpr c_31)).symm, rfl, rfl⟩ dX9_beside_42
  by_cases k_1_1 : w = 1
  · refine lv_tableIn (off := 42) (tgt := 43) C0.1 C0.2.1 dX9_beside_1 (by rw [k_1_1]; decide) (by rw [k_1_1]; decide) (by rw [k_1_1]; decide) (by decide) ?_
    refine lv_iload_n C0.1 C0.2.1 dX9_beside_43 rfl (lv_at hl 0 rfl) ?_
    refine lv_bipush (v := 14) C0.1 C0.2.1 dX9_beside_44 (by decide) ?_
    refine lv_irem C0.1 C0.2.1 dX9_beside_46 (by decide) ?_
    refine lv_if_ne (tgt := 54) C0.1 C0.2.1 dX9_beside_47 (by decide) (fun c_47 => ?_) (fun c_47 => ?_)
    · refine lv_iload_n C0.1 C0.2.1 dX9_beside_54 rfl (lv_at hl 0 rfl) ?_
      refine lv_iconst (v := 1) C0.1 C0.2.1 dX9_beside_55 (by decide) ?_
      refine lv_isub C0.1 C0.2.1 dX9_beside_56 ?_
      exact rtI C0 hr hlk hP hS ⟨by rw [k_1_1, ← mbes1 i hi]; first | exact (if_pos c_47).symm | exact (if_neg c_47).symm | exact (if_pos (Int32.not_le.mp c_47)).symm | exact (if_neg (Int32.not_lt.mpr c_47)).symm, rfl, rfl⟩ dX9_beside_57
    · refine lv_iconst (v := (-1)) C0.1 C0.2.1 dX9_beside_50 (by decide) ?_
      refine lv_goto (tgt := 57) C0.1 C0.2.1 dX9_beside_51 (by decide) ?_
      exact rtI C0 hr hlk hP hS ⟨by rw [k_1_1, ← mbes1 i hi]; first | exact (if_pos c_47).symm | exact (if_neg c_47).symm | exact (if_pos (Int32.not_le.mp c_47)).symm | exact (if_neg (Int32.not_lt.mpr c_47)).symm, rfl, rfl⟩ dX9_beside_57
  by_cases k_1_2 : w = 2
  · refine lv_tableIn (off := 57) (tgt := 58) C0.1 C0.2.1 dX9_beside_1 (by rw [k_1_2]; decide) (by rw [k_1_2]; decide) (by rw [k_1_2]; decide) (by decide) ?_
    refine lv_iload_n C0.1 C0.2.1 dX9_beside_58 rfl (lv_at hl 0 rfl) ?_
    refine lv_bipush (v := 14) C0.1 C0.2.1 dX9_beside_59 (by decide) ?_
    refine lv_irem C0.1 C0.2.1 dX9_beside_61 (by decide) ?_
    refine lv_bipush (v := 13) C0.1 C0.2.1 dX9_beside_62 (by decide) ?_
    refine lv_icmp_ne (tgt := 71) C0.1 C0.2.1 dX9_beside_64 (by decide) (fun c_64 => ?_) (fun c_64 => ?_)
    · refine lv_iload_n C0.1 C0.2.1 dX9_beside_71 rfl (lv_at hl 0 rfl) ?_
      refine lv_iconst (v := 1) C0.1 C0.2.1 dX9_beside_72 (by decide) ?_
      refine lv_iadd C0.1 C0.2.1 dX9_beside_73 ?_
      exact rtI C0 hr hlk hP hS ⟨by rw [k_1_2, ← mbes2 i hi]; first | exact (if_pos c_64).symm | exact (if_neg c_64).symm | exact (if_pos (Int32.not_le.mp c_64)).symm | exact (if_neg (Int32.not_lt.mpr c_64)).symm, rfl, rfl⟩ dX9_beside_74
    · refine lv_iconst (v := (-1)) C0.1 C0.2.1 dX9_beside_67 (by decide) ?_
      refine lv_goto (tgt := 74) C0.1 C0.2.1 dX9_beside_68 (by decide) ?_
      exact rtI C0 hr hlk hP hS ⟨by rw [k_1_2, ← mbes2 i hi]; first | exact (if_pos c_64).symm | exact (if_neg c_64).symm | exact (if_pos (Int32.not_le.mp c_64)).symm | exact (if_neg (Int32.not_lt.mpr c_64)).symm, rfl, rfl⟩ dX9_beside_74
  refine lv_tableOut (tgt := 75) C0.1 C0.2.1 dX9_beside_1 (sw_out2 k_1_0 k_1_1 k_1_2) (by decide) ?_
  refine lv_iload_n C0.1 C0.2.1 dX9_beside_75 rfl (lv_at hl 0 rfl) ?_
  refine lv_sipush (v := 182) C0.1 C0.2.1 dX9_beside_76 (by decide) ?_
  refine lv_icmp_lt (tgt := 86) C0.1 C0.2.1 dX9_beside_79 (by decide) (fun c_79 => ?_) (fun c_79 => ?_)
  · refine lv_iload_n C0.1 C0.2.1 dX9_beside_86 rfl (lv_at hl 0 rfl) ?_
    refine lv_bipush (v := 14) C0.1 C0.2.1 dX9_beside_87 (by decide) ?_
    refine lv_iadd C0.1 C0.2.1 dX9_beside_89 ?_
    exact rtI C0 hr hlk hP hS ⟨by rw [show besI (nI i) w = besI (nI i) 3 by unfold besI; rw [if_neg k_1_0, if_neg k_1_1, if_neg k_1_2]; rfl, ← mbes3 i hi]; first | exact (if_pos c_79).symm | exact (if_neg c_79).symm | exact (if_pos (Int32.not_le.mp c_79)).symm | exact (if_neg (Int32.not_lt.mpr c_79)).symm, rfl, rfl⟩ dX9_beside_90
  · refine lv_iconst (v := (-1)) C0.1 C0.2.1 dX9_beside_82 (by decide) ?_
    refine lv_goto (tgt := 90) C0.1 C0.2.1 dX9_beside_83 (by decide) ?_
    exact rtI C0 hr hlk hP hS ⟨by rw [show besI (nI i) w = besI (nI i) 3 by unfold besI; rw [if_neg k_1_0, if_neg k_1_1, if_neg k_1_2]; rfl, ← mbes3 i hi]; first | exact (if_pos c_79).symm | exact (if_neg c_79).symm | exact (if_pos (Int32.not_le.mp c_79)).symm | exact (if_neg (Int32.not_lt.mpr c_79)).symm, rfl, rfl⟩ dX9_beside_90
theorem k_X9_beside {n : List Nat} (hd : Hd n a I) (hsub : ∀ k ∈ n0, k ∈ n) (C0 : CallFix p m c cc nL s args GW own) (hK : KK D cA s) (hP : WQ D cA a S X I H) {i : Nat} {w : Int32} (hi : i < 196) {v : Int32} (hv : (besI (nI i) w) = v) (hS : va_S A0 H0 H locs) (hA : ∀ q, AI a I q → A0 q) (hls : ls.size = nL) {idx : Nat} (hlink : Cond.methodLink own idx yX9_beside ∈ GW) (hR : 1 ≤ R.frames ∧ 21 ≤ R.locals) (hcs : cells ≤ R.cells ∧ slots ≤ R.slots) (hrest : (rest.map fun v => v.category).sum ≤ 8) (hdg : decode cc pc = .ok (.invokestatic idx, 3)) (kk : ∀ (H1 : Heap) (locs1 : List Loc), WQ D cA a S X I H1 → va_S A0 H0 H1 locs1 → W p l e R s m args below meth c H1 locs1 cells slots Q (F0 m (pc + 3) ls (.int v :: rest))) : W p l e R s m args below meth c H locs cells slots Q (F0 m pc ls (.int w :: .int (nI i) :: rest)) := by
  subst hv
  exact hoI (qS (n := 2) (c_X9_beside l D cA a S X I (hd.sub hsub) i w hi) C0 hlink sm_X9_beside in_X9 co_X9_beside (by decide) hR hK hP rfl hls hrest rfl hdg hcs) hS hA (fun r S1 X1 H1 locs1 hp hP1 hS1 => by obtain ⟨rfl, rfl, rfl⟩ := hp; exact kk H1 locs1 hP1 hS1)
set_option maxHeartbeats 4000000 in
set_option maxRecDepth 100000 in
theorem c_X9_landingAt (l : Launch) (D : va_G) (cA : ClassId) (a : Adr) (S X : Mem) (I : Nat → Prop) (hd : Hd nM a I) (x : Int32) {L : Nat} (hnL : S 81 0 = nI L) (hL8 : L ≤ 8) : NI l yX9_landingAt cX9_landingAt 3 (some .int) 0 0 D cA a S X I [.ref (a 20), .int x] (fun r S1 X1 => r = (fndF (fun j => decide ((S 3) j = x)) 0 L) ∧ S1 = S ∧ X1 = X) := by
  refine nGo (by decide) (Nat.le_of_ble_eq_true rfl) ?_
  intro p e s m args below meth c ls C0 hr hlk hK hP hS hl hargs
  obtain ⟨H, hHe⟩ : ∃ H, H = s.heap := ⟨_, rfl⟩
  obtain ⟨locs, hlo⟩ : ∃ L : List Loc, L = [] := ⟨_, rfl⟩
  have hP : WQ D cA a S X I H := hHe ▸ hP
  have hS : va_S (AI a I) s.heap H locs := by rw [hHe, hlo]; exact hS
  rw [← hHe, ← hlo]
  have hA : ∀ q, AI a I q → AI a I q := fun _ h => h
  refine lv_iconst (v := 0) C0.1 C0.2.1 dX9_landingAt_0 (by decide) ?_
  refine lv_istore_n (lv' := [(2, .int 0), (0, .ref (a 20)), (1, .int x)]) C0.1 C0.2.1 dX9_landingAt_1 rfl hl (by decide) rfl (fun ls hl => ?_)
  have loop2 : ∀ (n : Nat) (i : Nat), (i ≤ L) → (L + 1 ≤ i + n) → (fndF (fun j => decide (S 3 j = x)) 0 L = fndF (fun j => decide (S 3 j = x)) i (L - i)) → ∀ (H : Heap) (locs : List Loc) (ls : Array Slot), WQ D cA a S X I H → va_S (AI a I) s.heap H locs → lv_has ls 3 [(2, .int (nI i)), (0, .ref (a 20)), (1, .int x)] → W p l e { frames := 0, cells := 0, slots := 0, locals := 0 } s m args below meth c H locs (0) (0) (MQ below (QqI D cA a I (fun r S1 X1 => r = (fndF (fun j => decide ((S 3) j = x)) 0 L) ∧ S1 = S ∧ X1 = X)) args s 0 0 (AI a I)) (F0 m 2 ls []) := by
    intro n
    induction n with
    | zero => intro i hi hf hfd; exfalso; omega
    | succ n ih2 =>
      intro i hi hf hfd H locs ls hP hS hl
      refine lv_iload_n C0.1 C0.2.1 dX9_landingAt_2 rfl (lv_at hl 0 rfl) ?_
      refine lv_aload_n C0.1 C0.2.1 dX9_landingAt_3 rfl (lv_at hl 1 rfl) ?_
      refine g20i (v := nI L) C0 hK hP (hd.1 _ (by decide)) 4 (by decide) fl_X9_48 rfl hnL dX9_landingAt_4 ?_
      refine lv_icmp_ge (tgt := 28) C0.1 C0.2.1 dX9_landingAt_7 (by decide) (fun c_7 => ?_) (fun c_7 => ?_)
      · have hge : L ≤ i := (nI_leI (by omega) (by omega)).mp c_7
        refine lv_iconst (v := (-1)) C0.1 C0.2.1 dX9_landingAt_28 (by decide) ?_
        exact rtI C0 hr hlk hP hS ⟨by rw [hfd, show L - i = 0 by omega]; rfl, rfl, rfl⟩ dX9_landingAt_29
      · have hlt : i < L := Nat.not_le.mp fun q => c_7 (nI_le q (by omega))
        refine lv_aload_n C0.1 C0.2.1 dX9_landingAt_10 rfl (lv_at hl 1 rfl) ?_
        refine g20 C0 hK hP (hd.1 _ (by decide)) 5 (by decide) fl_X9_19 rfl dX9_landingAt_11 ?_
        refine lv_iload_n C0.1 C0.2.1 dX9_landingAt_14 rfl (lv_at hl 0 rfl) ?_
        refine mld (k := 3) (by decide) C0 hK hP (hd.1 _ (by decide)) (v := S 3 i) (vp_in_nI (show i < 8 by omega) (by decide)) ((rg_in (n := 8) (vp_in_nI (show i < 8 by omega) (by decide))).symm.trans (rg_nI (show i < 8 by omega) (by decide))) dX9_landingAt_15 ?_
        refine lv_iload_n C0.1 C0.2.1 dX9_landingAt_16 rfl (lv_at hl 2 rfl) ?_
        refine lv_icmp_ne (tgt := 22) C0.1 C0.2.1 dX9_landingAt_17 (by decide) (fun c_17 => ?_) (fun c_17 => ?_)
        · refine lv_iinc (v := nI (i + 1)) (lv' := [(2, .int (nI (i + 1))), (0, .ref (a 20)), (1, .int x)]) C0.1 C0.2.1 dX9_landingAt_22 hl (k := 0) rfl (nI_1 _) (by decide) rfl (fun ls hl => ?_)
          refine lv_goto (tgt := 2) C0.1 C0.2.1 dX9_landingAt_25 (by decide) ?_
          exact ih2 (i + 1)  (by omega) (by omega) (by rw [hfd, show L - i = L - (i + 1) + 1 by omega, fndF_no (by rw [decide_eq_false c_17]; exact Bool.false_ne_true)]) _ _ _ hP hS (lv_sub hl [0, 1, 2] rfl)
        · refine lv_iload_n C0.1 C0.2.1 dX9_landingAt_20 rfl (lv_at hl 0 rfl) ?_
          exact rtI C0 hr hlk hP hS ⟨by rw [hfd, show L - i = L - (i + 1) + 1 by omega, fndF_yes (decide_eq_true c_17)], rfl, rfl⟩ dX9_landingAt_21
  exact loop2 (L + 1) 0  (by omega) (by omega) rfl _ _ _ hP hS (lv_sub hl [0, 1, 2] rfl)
theorem k_X9_landingAt {n : List Nat} (hd : Hd n a I) (hsub : ∀ k ∈ nM, k ∈ n) (C0 : CallFix p m c cc nL s args GW own) (hK : KK D cA s) (hP : WQ D cA a S X I H) {x : Int32} {L : Nat} (hnL : S 81 0 = nI L) (hL8 : L ≤ 8) {v : Int32} (hv : (fndF (fun j => decide ((S 3) j = x)) 0 L) = v) (hS : va_S A0 H0 H locs) (hA : ∀ q, AI a I q → A0 q) (hls : ls.size = nL) {idx : Nat} (hlink : Cond.methodLink own idx yX9_landingAt ∈ GW) (hR : 1 ≤ R.frames ∧ 22 ≤ R.locals) (hcs : cells ≤ R.cells ∧ slots ≤ R.slots) (hrest : (rest.map fun v => v.category).sum ≤ 8) (hdg : decode cc pc = .ok (.invokevirtual idx, 3)) (kk : ∀ (H1 : Heap) (locs1 : List Loc), WQ D cA a S X I H1 → va_S A0 H0 H1 locs1 → W p l e R s m args below meth c H1 locs1 cells slots Q (F0 m (pc + 3) ls (.int v :: rest))) : W p l e R s m args below meth c H locs cells slots Q (F0 m pc ls (.int x :: .ref (a 20) :: rest)) := by
  subst hv
  exact hoI (qV (n := 1) (c_X9_landingAt l D cA a S X I (hd.sub hsub) x hnL hL8) C0 hlink im_X9_landingAt se_X9_landingAt in_X9 co_X9_landingAt ⟨rfl, by decide⟩ hR hK hP (hd.1 _ (hsub _ (by decide))) rfl rfl rfl hls hrest rfl hdg hcs) hS hA (fun r S1 X1 H1 locs1 hp hP1 hS1 => by obtain ⟨rfl, rfl, rfl⟩ := hp; exact kk H1 locs1 hP1 hS1)
set_option maxHeartbeats 4000000 in
set_option maxRecDepth 100000 in
theorem c_X9_cellTold (l : Launch) (D : va_G) (cA : ClassId) (a : Adr) (S X : Mem) (I : Nat → Prop) (hd : Hd nM a I) (k : Nat) (w : Int32) (hk : k < 196) {P : Nat} {L : Nat} {h : Nat} (hnP : S 82 0 = nI P) (hP6 : P ≤ 6) (hnL : S 81 0 = nI L) (hL8 : L ≤ 8) (hnH : S 86 0 = nI h) (hh : h < 2 ^ 31) : NI l yX9_cellTold cX9_cellTold 5 (some .int) 2 43 D cA a S X I [.ref (a 20), .int (nI k), .int w] (fun r S1 X1 => r = (celT S P L h k w) ∧ S1 = S ∧ X1 = X) := by
  refine nGo (by decide) (Nat.le_of_ble_eq_true rfl) ?_
  intro p e s m args below meth c ls C0 hr hlk hK hP hS hl hargs
  obtain ⟨H, hHe⟩ : ∃ H, H = s.heap := ⟨_, rfl⟩
  obtain ⟨locs, hlo⟩ : ∃ L : List Loc, L = [] := ⟨_, rfl⟩
  have hP : WQ D cA a S X I H := hHe ▸ hP
  have hS : va_S (AI a I) s.heap H locs := by rw [hHe, hlo]; exact hS
  rw [← hHe, ← hlo]
  have hA : ∀ q, AI a I q → AI a I q := fun _ h => h
  refine lv_iconst (v := 0) C0.1 C0.2.1 dX9_cellTold_0 (by decide) ?_
  refine lv_istore_n (lv' := [(3, .int 0), (0, .ref (a 20)), (1, .int (nI k)), (2, .int w)]) C0.1 C0.2.1 dX9_cellTold_1 rfl hl (by decide) rfl (fun ls hl => ?_)
  refine lv_iconst (v := 0) C0.1 C0.2.1 dX9_cellTold_2 (by decide) ?_
  refine lv_istore (lv' := [(4, .int 0), (3, .int 0), (0, .ref (a 20)), (1, .int (nI k)), (2, .int w)]) C0.1 C0.2.1 dX9_cellTold_3 hl (by decide) rfl (fun ls hl => ?_)
  have loop5 : ∀ (n : Nat) (i : Nat) (f : Int32), (i ≤ P) → (P + 1 ≤ i + n) → (f = nI (cnt (fun j => decide (S 16 j = nI k)) i)) → ∀ (H : Heap) (locs : List Loc) (ls : Array Slot), WQ D cA a S X I H → va_S (AI a I) s.heap H locs → lv_has ls 5 [(4, .int (nI i)), (3, .int f), (0, .ref (a 20)), (1, .int (nI k)), (2, .int w)] → W p l e { frames := 2, cells := 0, slots := 0, locals := 43 } s m args below meth c H locs (0) (0) (MQ below (QqI D cA a I (fun r S1 X1 => r = (celT S P L h k w) ∧ S1 = S ∧ X1 = X)) args s 0 0 (AI a I)) (F0 m 5 ls []) := by
    intro n
    induction n with
    | zero => intro i f hi hf hcn; exfalso; omega
    | succ n ih5 =>
      intro i f hi hf hcn H locs ls hP hS hl
      refine lv_iload C0.1 C0.2.1 dX9_cellTold_5 (lv_at hl 0 rfl) ?_
      refine lv_aload_n C0.1 C0.2.1 dX9_cellTold_7 rfl (lv_at hl 2 rfl) ?_
      refine g20i (v := nI P) C0 hK hP (hd.1 _ (by decide)) 6 (by decide) fl_X9_51 rfl hnP dX9_cellTold_8 ?_
      refine lv_icmp_ge (tgt := 39) C0.1 C0.2.1 dX9_cellTold_11 (by decide) (fun c_11 => ?_) (fun c_11 => ?_)
      · have hge : P ≤ i := (nI_leI (by omega) (by omega)).mp c_11
        refine lv_iload_n C0.1 C0.2.1 dX9_cellTold_39 rfl (lv_at hl 4 rfl) ?_
        by_cases k_40_0 : w = 0
        · refine lv_tableIn (off := 36) (tgt := 76) C0.1 C0.2.1 dX9_cellTold_40 (by rw [k_40_0]; decide) (by rw [k_40_0]; decide) (by rw [k_40_0]; decide) (by decide) ?_
          refine lv_aload_n C0.1 C0.2.1 dX9_cellTold_76 rfl (lv_at hl 2 rfl) ?_
          refine g20 C0 hK hP (hd.1 _ (by decide)) 1 (by decide) fl_X9_9 rfl dX9_cellTold_77 ?_
          refine lv_iload_n C0.1 C0.2.1 dX9_cellTold_80 rfl (lv_at hl 3 rfl) ?_
          refine mld (k := 0) (by decide) C0 hK hP (hd.1 _ (by decide)) (v := S 0 k) (vp_in_nI (show k < 196 by omega) (by decide)) ((rg_in (n := 196) (vp_in_nI (show k < 196 by omega) (by decide))).symm.trans (rg_nI (show k < 196 by omega) (by decide))) dX9_cellTold_81 ?_
          exact rtI C0 hr hlk hP hS ⟨by unfold celT; rw [k_40_0]; rfl, rfl, rfl⟩ dX9_cellTold_82
        by_cases k_40_1 : w = 1
        · refine lv_tableIn (off := 43) (tgt := 83) C0.1 C0.2.1 dX9_cellTold_40 (by rw [k_40_1]; decide) (by rw [k_40_1]; decide) (by rw [k_40_1]; decide) (by decide) ?_
          refine lv_aload_n C0.1 C0.2.1 dX9_cellTold_83 rfl (lv_at hl 2 rfl) ?_
          refine lv_iload_n C0.1 C0.2.1 dX9_cellTold_84 rfl (lv_at hl 3 rfl) ?_
          refine lv_aload_n C0.1 C0.2.1 dX9_cellTold_85 rfl (lv_at hl 2 rfl) ?_
          refine k_X9_level hd sId C0 hK hP hnH hh (v := lvS S h) rfl hS hA hl.1 ml_X9_80 ⟨Nat.le_of_ble_eq_true rfl, Nat.le_of_ble_eq_true rfl⟩ ⟨Nat.zero_le _, Nat.zero_le _⟩ (Nat.le_of_ble_eq_true rfl) dX9_cellTold_86 (fun H locs hP hS => ?_)
          refine k_X9_depth hd sId C0 hK hP (by omega) (v := dpt S (nI k) (lvS S h)) rfl hS hA hl.1 ml_X9_63 ⟨Nat.le_of_ble_eq_true rfl, Nat.le_of_ble_eq_true rfl⟩ ⟨Nat.zero_le _, Nat.zero_le _⟩ (Nat.le_of_ble_eq_true rfl) dX9_cellTold_89 (fun H locs hP hS => ?_)
          exact rtI C0 hr hlk hP hS ⟨by unfold celT; rw [k_40_1]; rfl, rfl, rfl⟩ dX9_cellTold_92
        by_cases k_40_2 : w = 2
        · refine lv_tableIn (off := 53) (tgt := 93) C0.1 C0.2.1 dX9_cellTold_40 (by rw [k_40_2]; decide) (by rw [k_40_2]; decide) (by rw [k_40_2]; decide) (by decide) ?_
          refine lv_aload_n C0.1 C0.2.1 dX9_cellTold_93 rfl (lv_at hl 2 rfl) ?_
          refine g20 C0 hK hP (hd.1 _ (by decide)) 2 (by decide) fl_X9_13 rfl dX9_cellTold_94 ?_
          refine lv_iload_n C0.1 C0.2.1 dX9_cellTold_97 rfl (lv_at hl 3 rfl) ?_
          refine mld (k := 1) (by decide) C0 hK hP (hd.1 _ (by decide)) (v := S 1 k) (vp_in_nI (show k < 196 by omega) (by decide)) ((rg_in (n := 196) (vp_in_nI (show k < 196 by omega) (by decide))).symm.trans (rg_nI (show k < 196 by omega) (by decide))) dX9_cellTold_98 ?_
          exact rtI C0 hr hlk hP hS ⟨by unfold celT; rw [k_40_2]; rfl, rfl, rfl⟩ dX9_cellTold_99
        by_cases k_40_3 : w = 3
        · refine lv_tableIn (off := 60) (tgt := 100) C0.1 C0.2.1 dX9_cellTold_40 (by rw [k_40_3]; decide) (by rw [k_40_3]; decide) (by rw [k_40_3]; decide) (by decide) ?_
          refine lv_aload_n C0.1 C0.2.1 dX9_cellTold_100 rfl (lv_at hl 2 rfl) ?_
          refine lv_iload_n C0.1 C0.2.1 dX9_cellTold_101 rfl (lv_at hl 3 rfl) ?_
          refine lv_aload_n C0.1 C0.2.1 dX9_cellTold_102 rfl (lv_at hl 2 rfl) ?_
          refine k_X9_level hd sId C0 hK hP hnH hh (v := lvS S h) rfl hS hA hl.1 ml_X9_80 ⟨Nat.le_of_ble_eq_true rfl, Nat.le_of_ble_eq_true rfl⟩ ⟨Nat.zero_le _, Nat.zero_le _⟩ (Nat.le_of_ble_eq_true rfl) dX9_cellTold_103 (fun H locs hP hS => ?_)
          refine k_X9_depth hd sId C0 hK hP (by omega) (v := dpt S (nI k) (lvS S h)) rfl hS hA hl.1 ml_X9_63 ⟨Nat.le_of_ble_eq_true rfl, Nat.le_of_ble_eq_true rfl⟩ ⟨Nat.zero_le _, Nat.zero_le _⟩ (Nat.le_of_ble_eq_true rfl) dX9_cellTold_106 (fun H locs hP hS => ?_)
          refine lv_aload_n C0.1 C0.2.1 dX9_cellTold_109 rfl (lv_at hl 2 rfl) ?_
          refine g20 C0 hK hP (hd.1 _ (by decide)) 2 (by decide) fl_X9_13 rfl dX9_cellTold_110 ?_
          refine lv_iload_n C0.1 C0.2.1 dX9_cellTold_113 rfl (lv_at hl 3 rfl) ?_
          refine mld (k := 1) (by decide) C0 hK hP (hd.1 _ (by decide)) (v := S 1 k) (vp_in_nI (show k < 196 by omega) (by decide)) ((rg_in (n := 196) (vp_in_nI (show k < 196 by omega) (by decide))).symm.trans (rg_nI (show k < 196 by omega) (by decide))) dX9_cellTold_114 ?_
          refine lv_icmp_ge (tgt := 122) C0.1 C0.2.1 dX9_cellTold_115 (by decide) (fun c_115 => ?_) (fun c_115 => ?_)
          · refine lv_iconst (v := 0) C0.1 C0.2.1 dX9_cellTold_122 (by decide) ?_
            exact rtI C0 hr hlk hP hS ⟨by unfold celT; rw [k_40_3]; show _ = bI _; rw [decide_eq_false (Int32.not_lt.mpr c_115)]; rfl, rfl, rfl⟩ dX9_cellTold_123
          · refine lv_iconst (v := 1) C0.1 C0.2.1 dX9_cellTold_118 (by decide) ?_
            refine lv_goto (tgt := 123) C0.1 C0.2.1 dX9_cellTold_119 (by decide) ?_
            exact rtI C0 hr hlk hP hS ⟨by unfold celT; rw [k_40_3]; show _ = bI _; rw [decide_eq_true (Int32.not_le.mp c_115)]; rfl, rfl, rfl⟩ dX9_cellTold_123
        by_cases k_40_4 : w = 4
        · refine lv_tableIn (off := 84) (tgt := 124) C0.1 C0.2.1 dX9_cellTold_40 (by rw [k_40_4]; decide) (by rw [k_40_4]; decide) (by rw [k_40_4]; decide) (by decide) ?_
          refine lv_aload_n C0.1 C0.2.1 dX9_cellTold_124 rfl (lv_at hl 2 rfl) ?_
          refine lv_iload_n C0.1 C0.2.1 dX9_cellTold_125 rfl (lv_at hl 3 rfl) ?_
          refine k_X9_landingAt hd sId C0 hK hP hnL hL8 (v := fndF (fun j => decide ((S 3) j = (nI k))) 0 L) rfl hS hA hl.1 ml_X9_84 ⟨Nat.le_of_ble_eq_true rfl, Nat.le_of_ble_eq_true rfl⟩ ⟨Nat.zero_le _, Nat.zero_le _⟩ (Nat.le_of_ble_eq_true rfl) dX9_cellTold_126 (fun H locs hP hS => ?_)
          exact rtI C0 hr hlk hP hS ⟨by unfold celT; rw [k_40_4]; rfl, rfl, rfl⟩ dX9_cellTold_129
        refine lv_tableOut (tgt := 130) C0.1 C0.2.1 dX9_cellTold_40 (sw_out4 k_40_0 k_40_1 k_40_2 k_40_3 k_40_4) (by decide) ?_
        refine lv_iload_n C0.1 C0.2.1 dX9_cellTold_130 rfl (lv_at hl 1 rfl) ?_
        exact rtI C0 hr hlk hP hS ⟨by unfold celT; rw [if_neg k_40_0, if_neg k_40_1, if_neg k_40_2, if_neg k_40_3, if_neg k_40_4, hcn, show i = P by omega], rfl, rfl⟩ dX9_cellTold_131
      · have hlt : i < P := Nat.not_le.mp fun q => c_11 (nI_le q (by omega))
        refine lv_iload_n C0.1 C0.2.1 dX9_cellTold_14 rfl (lv_at hl 1 rfl) ?_
        refine lv_aload_n C0.1 C0.2.1 dX9_cellTold_15 rfl (lv_at hl 2 rfl) ?_
        refine lv_iload C0.1 C0.2.1 dX9_cellTold_16 (lv_at hl 0 rfl) ?_
        refine lv_iconst (v := 0) C0.1 C0.2.1 dX9_cellTold_18 (by decide) ?_
        refine k_X9_go_0 hd sId C0 hK hP (by omega) (v := S 16 i) rfl hS hA hl.1 ml_X9_77 ⟨Nat.le_of_ble_eq_true rfl, Nat.le_of_ble_eq_true rfl⟩ ⟨Nat.zero_le _, Nat.zero_le _⟩ (Nat.le_of_ble_eq_true rfl) dX9_cellTold_19 (fun H locs hP hS => ?_)
        refine lv_iload_n C0.1 C0.2.1 dX9_cellTold_22 rfl (lv_at hl 3 rfl) ?_
        refine lv_icmp_ne (tgt := 30) C0.1 C0.2.1 dX9_cellTold_23 (by decide) (fun c_23 => ?_) (fun c_23 => ?_)
        · refine lv_iconst (v := 0) C0.1 C0.2.1 dX9_cellTold_30 (by decide) ?_
          refine lv_iadd C0.1 C0.2.1 dX9_cellTold_31 ?_
          refine lv_istore_n (lv' := [(3, .int (f + 0)), (4, .int (nI i)), (0, .ref (a 20)), (1, .int (nI k)), (2, .int w)]) C0.1 C0.2.1 dX9_cellTold_32 rfl hl (by decide) rfl (fun ls hl => ?_)
          refine lv_iinc (v := nI (i + 1)) (lv' := [(4, .int (nI (i + 1))), (3, .int (f + 0)), (0, .ref (a 20)), (1, .int (nI k)), (2, .int w)]) C0.1 C0.2.1 dX9_cellTold_33 hl (k := 1) rfl (nI_1 _) (by decide) rfl (fun ls hl => ?_)
          refine lv_goto (tgt := 5) C0.1 C0.2.1 dX9_cellTold_36 (by decide) ?_
          exact ih5 (i + 1) _ (by omega) (by omega) (by rw [hcn, cnt_no (by rw [decide_eq_false c_23]; exact Bool.false_ne_true), Int32.add_zero]) _ _ _ hP hS (lv_sub hl [0, 1, 2, 3, 4] rfl)
        · refine lv_iconst (v := 1) C0.1 C0.2.1 dX9_cellTold_26 (by decide) ?_
          refine lv_goto (tgt := 31) C0.1 C0.2.1 dX9_cellTold_27 (by decide) ?_
          refine lv_iadd C0.1 C0.2.1 dX9_cellTold_31 ?_
          refine lv_istore_n (lv' := [(3, .int (f + 1)), (4, .int (nI i)), (0, .ref (a 20)), (1, .int (nI k)), (2, .int w)]) C0.1 C0.2.1 dX9_cellTold_32 rfl hl (by decide) rfl (fun ls hl => ?_)
          refine lv_iinc (v := nI (i + 1)) (lv' := [(4, .int (nI (i + 1))), (3, .int (f + 1)), (0, .ref (a 20)), (1, .int (nI k)), (2, .int w)]) C0.1 C0.2.1 dX9_cellTold_33 hl (k := 1) rfl (nI_1 _) (by decide) rfl (fun ls hl => ?_)
          refine lv_goto (tgt := 5) C0.1 C0.2.1 dX9_cellTold_36 (by decide) ?_
          exact ih5 (i + 1) _ (by omega) (by omega) (by rw [hcn, cnt_yes (decide_eq_true c_23), nI_1]) _ _ _ hP hS (lv_sub hl [0, 1, 2, 3, 4] rfl)
  exact loop5 (P + 1) 0 0 (by omega) (by omega) nI_0.symm _ _ _ hP hS (lv_sub hl [0, 1, 2, 3, 4] rfl)
theorem k_X9_cellTold {n : List Nat} (hd : Hd n a I) (hsub : ∀ k ∈ nM, k ∈ n) (C0 : CallFix p m c cc nL s args GW own) (hK : KK D cA s) (hP : WQ D cA a S X I H) {k : Nat} {w : Int32} (hk : k < 196) {P : Nat} {L : Nat} {h : Nat} (hnP : S 82 0 = nI P) (hP6 : P ≤ 6) (hnL : S 81 0 = nI L) (hL8 : L ≤ 8) (hnH : S 86 0 = nI h) (hh : h < 2 ^ 31) {v : Int32} (hv : (celT S P L h k w) = v) (hS : va_S A0 H0 H locs) (hA : ∀ q, AI a I q → A0 q) (hls : ls.size = nL) {idx : Nat} (hlink : Cond.methodLink own idx yX9_cellTold ∈ GW) (hR : 3 ≤ R.frames ∧ 67 ≤ R.locals) (hcs : cells ≤ R.cells ∧ slots ≤ R.slots) (hrest : (rest.map fun v => v.category).sum ≤ 8) (hdg : decode cc pc = .ok (.invokevirtual idx, 3)) (kk : ∀ (H1 : Heap) (locs1 : List Loc), WQ D cA a S X I H1 → va_S A0 H0 H1 locs1 → W p l e R s m args below meth c H1 locs1 cells slots Q (F0 m (pc + 3) ls (.int v :: rest))) : W p l e R s m args below meth c H locs cells slots Q (F0 m pc ls (.int w :: .int (nI k) :: .ref (a 20) :: rest)) := by
  subst hv
  exact hoI (qV (n := 2) (c_X9_cellTold l D cA a S X I (hd.sub hsub) k w hk hnP hP6 hnL hL8 hnH hh) C0 hlink im_X9_cellTold se_X9_cellTold in_X9 co_X9_cellTold ⟨rfl, by decide⟩ hR hK hP (hd.1 _ (hsub _ (by decide))) rfl rfl rfl hls hrest rfl hdg hcs) hS hA (fun r S1 X1 H1 locs1 hp hP1 hS1 => by obtain ⟨rfl, rfl, rfl⟩ := hp; exact kk H1 locs1 hP1 hS1)
set_option maxHeartbeats 4000000 in
set_option maxRecDepth 100000 in
theorem c_X9_boundCell (l : Launch) (D : va_G) (cA : ClassId) (a : Adr) (S X : Mem) (I : Nat → Prop) (hd : Hd nM a I) (u : Nat) (hu : u < 6) {b : Nat} (hb : b < 8) (hbe : S 17 u = nI b) : NI l yX9_boundCell cX9_boundCell 2 (some .int) 1 22 D cA a S X I [.ref (a 20), .int (nI u)] (fun r S1 X1 => r = (S 3 b) ∧ S1 = S ∧ X1 = X) := by
  refine nGo (by decide) (Nat.le_of_ble_eq_true rfl) ?_
  intro p e s m args below meth c ls C0 hr hlk hK hP hS hl hargs
  obtain ⟨H, hHe⟩ : ∃ H, H = s.heap := ⟨_, rfl⟩
  obtain ⟨locs, hlo⟩ : ∃ L : List Loc, L = [] := ⟨_, rfl⟩
  have hP : WQ D cA a S X I H := hHe ▸ hP
  have hS : va_S (AI a I) s.heap H locs := by rw [hHe, hlo]; exact hS
  rw [← hHe, ← hlo]
  have hA : ∀ q, AI a I q → AI a I q := fun _ h => h
  refine lv_aload_n C0.1 C0.2.1 dX9_boundCell_0 rfl (lv_at hl 0 rfl) ?_
  refine g20 C0 hK hP (hd.1 _ (by decide)) 5 (by decide) fl_X9_19 rfl dX9_boundCell_1 ?_
  refine lv_aload_n C0.1 C0.2.1 dX9_boundCell_4 rfl (lv_at hl 0 rfl) ?_
  refine lv_iload_n C0.1 C0.2.1 dX9_boundCell_5 rfl (lv_at hl 1 rfl) ?_
  refine lv_iconst (v := 1) C0.1 C0.2.1 dX9_boundCell_6 (by decide) ?_
  refine k_X9_go_1 hd sId C0 hK hP (by omega) (v := nI b) hbe hS hA hl.1 ml_X9_77 ⟨Nat.le_of_ble_eq_true rfl, Nat.le_of_ble_eq_true rfl⟩ ⟨Nat.zero_le _, Nat.zero_le _⟩ (Nat.le_of_ble_eq_true rfl) dX9_boundCell_7 (fun H locs hP hS => ?_)
  refine mld (k := 3) (by decide) C0 hK hP (hd.1 _ (by decide)) (v := S 3 b) (vp_in_nI (show b < 8 by omega) (by decide)) ((rg_in (n := 8) (vp_in_nI (show b < 8 by omega) (by decide))).symm.trans (rg_nI (show b < 8 by omega) (by decide))) dX9_boundCell_10 ?_
  exact rtI C0 hr hlk hP hS ⟨rfl, rfl, rfl⟩ dX9_boundCell_11
theorem k_X9_boundCell {n : List Nat} (hd : Hd n a I) (hsub : ∀ k ∈ nM, k ∈ n) (C0 : CallFix p m c cc nL s args GW own) (hK : KK D cA s) (hP : WQ D cA a S X I H) {u : Nat} (hu : u < 6) {b : Nat} (hb : b < 8) (hbe : S 17 u = nI b) {v : Int32} (hv : (S 3 b) = v) (hS : va_S A0 H0 H locs) (hA : ∀ q, AI a I q → A0 q) (hls : ls.size = nL) {idx : Nat} (hlink : Cond.methodLink own idx yX9_boundCell ∈ GW) (hR : 2 ≤ R.frames ∧ 43 ≤ R.locals) (hcs : cells ≤ R.cells ∧ slots ≤ R.slots) (hrest : (rest.map fun v => v.category).sum ≤ 8) (hdg : decode cc pc = .ok (.invokevirtual idx, 3)) (kk : ∀ (H1 : Heap) (locs1 : List Loc), WQ D cA a S X I H1 → va_S A0 H0 H1 locs1 → W p l e R s m args below meth c H1 locs1 cells slots Q (F0 m (pc + 3) ls (.int v :: rest))) : W p l e R s m args below meth c H locs cells slots Q (F0 m pc ls (.int (nI u) :: .ref (a 20) :: rest)) := by
  subst hv
  exact hoI (qV (n := 1) (c_X9_boundCell l D cA a S X I (hd.sub hsub) u hu hb hbe) C0 hlink im_X9_boundCell se_X9_boundCell in_X9 co_X9_boundCell ⟨rfl, by decide⟩ hR hK hP (hd.1 _ (hsub _ (by decide))) rfl rfl rfl hls hrest rfl hdg hcs) hS hA (fun r S1 X1 H1 locs1 hp hP1 hS1 => by obtain ⟨rfl, rfl, rfl⟩ := hp; exact kk H1 locs1 hP1 hS1)
set_option maxHeartbeats 4000000 in
set_option maxRecDepth 100000 in
theorem c_X9_isAground (l : Launch) (D : va_G) (cA : ClassId) (a : Adr) (S X : Mem) (I : Nat → Prop) (hd : Hd nM a I) (u : Nat) (hu : u < 6) {ce : Nat} (hce196 : ce < 196) (hce : S 16 u = nI ce) {h : Nat} (hnH : S 86 0 = nI h) (hh : h < 2 ^ 31) : NI l yX9_isAground cX9_isAground 2 (some .boolean) 3 66 D cA a S X I [.ref (a 20), .int (nI u)] (fun r S1 X1 => r = (bI (!flt S (nI u) (S 16 u) (lvS S h))) ∧ S1 = S ∧ X1 = X) := by
  refine nGo (by decide) (Nat.le_of_ble_eq_true rfl) ?_
  intro p e s m args below meth c ls C0 hr hlk hK hP hS hl hargs
  obtain ⟨H, hHe⟩ : ∃ H, H = s.heap := ⟨_, rfl⟩
  obtain ⟨locs, hlo⟩ : ∃ L : List Loc, L = [] := ⟨_, rfl⟩
  have hP : WQ D cA a S X I H := hHe ▸ hP
  have hS : va_S (AI a I) s.heap H locs := by rw [hHe, hlo]; exact hS
  rw [← hHe, ← hlo]
  have hA : ∀ q, AI a I q → AI a I q := fun _ h => h
  refine lv_aload_n C0.1 C0.2.1 dX9_isAground_0 rfl (lv_at hl 0 rfl) ?_
  refine lv_iload_n C0.1 C0.2.1 dX9_isAground_1 rfl (lv_at hl 1 rfl) ?_
  refine lv_aload_n C0.1 C0.2.1 dX9_isAground_2 rfl (lv_at hl 0 rfl) ?_
  refine lv_iload_n C0.1 C0.2.1 dX9_isAground_3 rfl (lv_at hl 1 rfl) ?_
  refine lv_iconst (v := 0) C0.1 C0.2.1 dX9_isAground_4 (by decide) ?_
  refine k_X9_go_0 hd sId C0 hK hP (by omega) (v := nI ce) hce hS hA hl.1 ml_X9_77 ⟨Nat.le_of_ble_eq_true rfl, Nat.le_of_ble_eq_true rfl⟩ ⟨Nat.zero_le _, Nat.zero_le _⟩ (Nat.le_of_ble_eq_true rfl) dX9_isAground_5 (fun H locs hP hS => ?_)
  refine lv_aload_n C0.1 C0.2.1 dX9_isAground_8 rfl (lv_at hl 0 rfl) ?_
  refine k_X9_level hd sId C0 hK hP hnH hh (v := lvS S h) rfl hS hA hl.1 ml_X9_80 ⟨Nat.le_of_ble_eq_true rfl, Nat.le_of_ble_eq_true rfl⟩ ⟨Nat.zero_le _, Nat.zero_le _⟩ (Nat.le_of_ble_eq_true rfl) dX9_isAground_9 (fun H locs hP hS => ?_)
  refine k_X9_floats hd sId C0 hK hP (by omega) (by omega) (v := bI (flt S (nI u) (nI ce) (lvS S h))) rfl hS hA hl.1 ml_X9_107 ⟨Nat.le_of_ble_eq_true rfl, Nat.le_of_ble_eq_true rfl⟩ ⟨Nat.zero_le _, Nat.zero_le _⟩ (Nat.le_of_ble_eq_true rfl) dX9_isAground_12 (fun H locs hP hS => ?_)
  refine lv_if_ne (tgt := 22) C0.1 C0.2.1 dX9_isAground_15 (by decide) (fun c_15 => ?_) (fun c_15 => ?_)
  · have c_15 := bI_ne c_15
    refine lv_iconst (v := 0) C0.1 C0.2.1 dX9_isAground_22 (by decide) ?_
    exact rtZ C0 hr hlk hP hS rfl ⟨(bI_f (by rw [hce, c_15]; rfl)).symm, rfl, rfl⟩ dX9_isAground_23
  · have c_15 := bI_eq c_15
    refine lv_iconst (v := 1) C0.1 C0.2.1 dX9_isAground_18 (by decide) ?_
    refine lv_goto (tgt := 23) C0.1 C0.2.1 dX9_isAground_19 (by decide) ?_
    exact rtZ C0 hr hlk hP hS rfl ⟨(bI_t (by rw [hce, c_15]; rfl)).symm, rfl, rfl⟩ dX9_isAground_23
theorem k_X9_isAground {n : List Nat} (hd : Hd n a I) (hsub : ∀ k ∈ nM, k ∈ n) (C0 : CallFix p m c cc nL s args GW own) (hK : KK D cA s) (hP : WQ D cA a S X I H) {u : Nat} (hu : u < 6) {ce : Nat} (hce196 : ce < 196) (hce : S 16 u = nI ce) {h : Nat} (hnH : S 86 0 = nI h) (hh : h < 2 ^ 31) {v : Int32} (hv : (bI (!flt S (nI u) (S 16 u) (lvS S h))) = v) (hS : va_S A0 H0 H locs) (hA : ∀ q, AI a I q → A0 q) (hls : ls.size = nL) {idx : Nat} (hlink : Cond.methodLink own idx yX9_isAground ∈ GW) (hR : 4 ≤ R.frames ∧ 87 ≤ R.locals) (hcs : cells ≤ R.cells ∧ slots ≤ R.slots) (hrest : (rest.map fun v => v.category).sum ≤ 8) (hdg : decode cc pc = .ok (.invokevirtual idx, 3)) (kk : ∀ (H1 : Heap) (locs1 : List Loc), WQ D cA a S X I H1 → va_S A0 H0 H1 locs1 → W p l e R s m args below meth c H1 locs1 cells slots Q (F0 m (pc + 3) ls (.int v :: rest))) : W p l e R s m args below meth c H locs cells slots Q (F0 m pc ls (.int (nI u) :: .ref (a 20) :: rest)) := by
  subst hv
  exact hoI (qV (n := 1) (c_X9_isAground l D cA a S X I (hd.sub hsub) u hu hce196 hce hnH hh) C0 hlink im_X9_isAground se_X9_isAground in_X9 co_X9_isAground ⟨rfl, by decide⟩ hR hK hP (hd.1 _ (hsub _ (by decide))) rfl rfl rfl hls hrest rfl hdg hcs) hS hA (fun r S1 X1 H1 locs1 hp hP1 hS1 => by obtain ⟨rfl, rfl, rfl⟩ := hp; exact kk H1 locs1 hP1 hS1)
set_option maxHeartbeats 4000000 in
set_option maxRecDepth 100000 in
theorem c_X9_ridersOf (l : Launch) (D : va_G) (cA : ClassId) (a : Adr) (S X : Mem) (I : Nat → Prop) (hd : Hd nM a I) (x : Int32) {T : Nat} (hnT : S 85 0 = nI T) (hT30 : T ≤ 30) : NI l yX9_ridersOf cX9_ridersOf 4 (some .int) 1 22 D cA a S X I [.ref (a 20), .int x] (fun r S1 X1 => r = (nI (cnt (fun j => decide ((S 23) j = x)) T)) ∧ S1 = S ∧ X1 = X) := by
  refine nGo (by decide) (Nat.le_of_ble_eq_true rfl) ?_
  intro p e s m args below meth c ls C0 hr hlk hK hP hS hl hargs
  obtain ⟨H, hHe⟩ : ∃ H, H = s.heap := ⟨_, rfl⟩
  obtain ⟨locs, hlo⟩ : ∃ L : List Loc, L = [] := ⟨_, rfl⟩
  have hP : WQ D cA a S X I H := hHe ▸ hP
  have hS : va_S (AI a I) s.heap H locs := by rw [hHe, hlo]; exact hS
  rw [← hHe, ← hlo]
  have hA : ∀ q, AI a I q → AI a I q := fun _ h => h
  refine lv_iconst (v := 0) C0.1 C0.2.1 dX9_ridersOf_0 (by decide) ?_
  refine lv_istore_n (lv' := [(2, .int 0), (0, .ref (a 20)), (1, .int x)]) C0.1 C0.2.1 dX9_ridersOf_1 rfl hl (by decide) rfl (fun ls hl => ?_)
  refine lv_iconst (v := 0) C0.1 C0.2.1 dX9_ridersOf_2 (by decide) ?_
  refine lv_istore_n (lv' := [(3, .int 0), (2, .int 0), (0, .ref (a 20)), (1, .int x)]) C0.1 C0.2.1 dX9_ridersOf_3 rfl hl (by decide) rfl (fun ls hl => ?_)
  have loop4 : ∀ (n : Nat) (i : Nat) (f : Int32), (i ≤ T) → (T + 1 ≤ i + n) → (f = nI (cnt (fun j => decide (S 23 j = x)) i)) → ∀ (H : Heap) (locs : List Loc) (ls : Array Slot), WQ D cA a S X I H → va_S (AI a I) s.heap H locs → lv_has ls 4 [(3, .int (nI i)), (2, .int f), (0, .ref (a 20)), (1, .int x)] → W p l e { frames := 1, cells := 0, slots := 0, locals := 22 } s m args below meth c H locs (0) (0) (MQ below (QqI D cA a I (fun r S1 X1 => r = (nI (cnt (fun j => decide ((S 23) j = x)) T)) ∧ S1 = S ∧ X1 = X)) args s 0 0 (AI a I)) (F0 m 4 ls []) := by
    intro n
    induction n with
    | zero => intro i f hi hf hcn; exfalso; omega
    | succ n ih4 =>
      intro i f hi hf hcn H locs ls hP hS hl
      refine lv_iload_n C0.1 C0.2.1 dX9_ridersOf_4 rfl (lv_at hl 0 rfl) ?_
      refine lv_aload_n C0.1 C0.2.1 dX9_ridersOf_5 rfl (lv_at hl 2 rfl) ?_
      refine g20i (v := nI T) C0 hK hP (hd.1 _ (by decide)) 8 (by decide) fl_X9_113 rfl hnT dX9_ridersOf_6 ?_
      refine lv_icmp_ge (tgt := 36) C0.1 C0.2.1 dX9_ridersOf_9 (by decide) (fun c_9 => ?_) (fun c_9 => ?_)
      · have hge : T ≤ i := (nI_leI (by omega) (by omega)).mp c_9
        refine lv_iload_n C0.1 C0.2.1 dX9_ridersOf_36 rfl (lv_at hl 1 rfl) ?_
        exact rtI C0 hr hlk hP hS ⟨by rw [hcn, show i = T by omega], rfl, rfl⟩ dX9_ridersOf_37
      · have hlt : i < T := Nat.not_le.mp fun q => c_9 (nI_le q (by omega))
        refine lv_iload_n C0.1 C0.2.1 dX9_ridersOf_12 rfl (lv_at hl 1 rfl) ?_
        refine lv_aload_n C0.1 C0.2.1 dX9_ridersOf_13 rfl (lv_at hl 2 rfl) ?_
        refine lv_iload_n C0.1 C0.2.1 dX9_ridersOf_14 rfl (lv_at hl 0 rfl) ?_
        refine lv_iconst (v := 3) C0.1 C0.2.1 dX9_ridersOf_15 (by decide) ?_
        refine k_X9_who_3 hd sId C0 hK hP (by omega) (v := S 23 i) rfl hS hA hl.1 ml_X9_116 ⟨Nat.le_of_ble_eq_true rfl, Nat.le_of_ble_eq_true rfl⟩ ⟨Nat.zero_le _, Nat.zero_le _⟩ (Nat.le_of_ble_eq_true rfl) dX9_ridersOf_16 (fun H locs hP hS => ?_)
        refine lv_iload_n C0.1 C0.2.1 dX9_ridersOf_19 rfl (lv_at hl 3 rfl) ?_
        refine lv_icmp_ne (tgt := 27) C0.1 C0.2.1 dX9_ridersOf_20 (by decide) (fun c_20 => ?_) (fun c_20 => ?_)
        · refine lv_iconst (v := 0) C0.1 C0.2.1 dX9_ridersOf_27 (by decide) ?_
          refine lv_iadd C0.1 C0.2.1 dX9_ridersOf_28 ?_
          refine lv_istore_n (lv' := [(2, .int (f + 0)), (3, .int (nI i)), (0, .ref (a 20)), (1, .int x)]) C0.1 C0.2.1 dX9_ridersOf_29 rfl hl (by decide) rfl (fun ls hl => ?_)
          refine lv_iinc (v := nI (i + 1)) (lv' := [(3, .int (nI (i + 1))), (2, .int (f + 0)), (0, .ref (a 20)), (1, .int x)]) C0.1 C0.2.1 dX9_ridersOf_30 hl (k := 1) rfl (nI_1 _) (by decide) rfl (fun ls hl => ?_)
          refine lv_goto (tgt := 4) C0.1 C0.2.1 dX9_ridersOf_33 (by decide) ?_
          exact ih4 (i + 1) _ (by omega) (by omega) (by rw [hcn, cnt_no (by rw [decide_eq_false c_20]; exact Bool.false_ne_true), Int32.add_zero]) _ _ _ hP hS (lv_sub hl [0, 1, 2, 3] rfl)
        · refine lv_iconst (v := 1) C0.1 C0.2.1 dX9_ridersOf_23 (by decide) ?_
          refine lv_goto (tgt := 28) C0.1 C0.2.1 dX9_ridersOf_24 (by decide) ?_
          refine lv_iadd C0.1 C0.2.1 dX9_ridersOf_28 ?_
          refine lv_istore_n (lv' := [(2, .int (f + 1)), (3, .int (nI i)), (0, .ref (a 20)), (1, .int x)]) C0.1 C0.2.1 dX9_ridersOf_29 rfl hl (by decide) rfl (fun ls hl => ?_)
          refine lv_iinc (v := nI (i + 1)) (lv' := [(3, .int (nI (i + 1))), (2, .int (f + 1)), (0, .ref (a 20)), (1, .int x)]) C0.1 C0.2.1 dX9_ridersOf_30 hl (k := 1) rfl (nI_1 _) (by decide) rfl (fun ls hl => ?_)
          refine lv_goto (tgt := 4) C0.1 C0.2.1 dX9_ridersOf_33 (by decide) ?_
          exact ih4 (i + 1) _ (by omega) (by omega) (by rw [hcn, cnt_yes (decide_eq_true c_20), nI_1]) _ _ _ hP hS (lv_sub hl [0, 1, 2, 3] rfl)
  exact loop4 (T + 1) 0 0 (by omega) (by omega) nI_0.symm _ _ _ hP hS (lv_sub hl [0, 1, 2, 3] rfl)
theorem k_X9_ridersOf {n : List Nat} (hd : Hd n a I) (hsub : ∀ k ∈ nM, k ∈ n) (C0 : CallFix p m c cc nL s args GW own) (hK : KK D cA s) (hP : WQ D cA a S X I H) {x : Int32} {T : Nat} (hnT : S 85 0 = nI T) (hT30 : T ≤ 30) {v : Int32} (hv : (nI (cnt (fun j => decide ((S 23) j = x)) T)) = v) (hS : va_S A0 H0 H locs) (hA : ∀ q, AI a I q → A0 q) (hls : ls.size = nL) {idx : Nat} (hlink : Cond.methodLink own idx yX9_ridersOf ∈ GW) (hR : 2 ≤ R.frames ∧ 45 ≤ R.locals) (hcs : cells ≤ R.cells ∧ slots ≤ R.slots) (hrest : (rest.map fun v => v.category).sum ≤ 8) (hdg : decode cc pc = .ok (.invokevirtual idx, 3)) (kk : ∀ (H1 : Heap) (locs1 : List Loc), WQ D cA a S X I H1 → va_S A0 H0 H1 locs1 → W p l e R s m args below meth c H1 locs1 cells slots Q (F0 m (pc + 3) ls (.int v :: rest))) : W p l e R s m args below meth c H locs cells slots Q (F0 m pc ls (.int x :: .ref (a 20) :: rest)) := by
  subst hv
  exact hoI (qV (n := 1) (c_X9_ridersOf l D cA a S X I (hd.sub hsub) x hnT hT30) C0 hlink im_X9_ridersOf se_X9_ridersOf in_X9 co_X9_ridersOf ⟨rfl, by decide⟩ hR hK hP (hd.1 _ (hsub _ (by decide))) rfl rfl rfl hls hrest rfl hdg hcs) hS hA (fun r S1 X1 H1 locs1 hp hP1 hS1 => by obtain ⟨rfl, rfl, rfl⟩ := hp; exact kk H1 locs1 hP1 hS1)
set_option maxHeartbeats 4000000 in
set_option maxRecDepth 100000 in
theorem c_X9_across (l : Launch) (D : va_G) (cA : ClassId) (a : Adr) (S X : Mem) (I : Nat → Prop) (hd : Hd nM a I) (u : Nat) (x : Nat) (hu : u < 6) : NI l yX9_across cX9_across 3 (some .int) 1 22 D cA a S X I [.ref (a 20), .int (nI u), .int (nI x)] (fun r S1 X1 => r = (acrI S u x) ∧ S1 = S ∧ X1 = X) := by
  refine nGo (by decide) (Nat.le_of_ble_eq_true rfl) ?_
  intro p e s m args below meth c ls C0 hr hlk hK hP hS hl hargs
  obtain ⟨H, hHe⟩ : ∃ H, H = s.heap := ⟨_, rfl⟩
  obtain ⟨locs, hlo⟩ : ∃ L : List Loc, L = [] := ⟨_, rfl⟩
  have hP : WQ D cA a S X I H := hHe ▸ hP
  have hS : va_S (AI a I) s.heap H locs := by rw [hHe, hlo]; exact hS
  rw [← hHe, ← hlo]
  have hA : ∀ q, AI a I q → AI a I q := fun _ h => h
  refine lv_aload_n C0.1 C0.2.1 dX9_across_0 rfl (lv_at hl 0 rfl) ?_
  refine lv_iload_n C0.1 C0.2.1 dX9_across_1 rfl (lv_at hl 1 rfl) ?_
  refine lv_iconst (v := 0) C0.1 C0.2.1 dX9_across_2 (by decide) ?_
  refine k_X9_pu_0 hd sId C0 hK hP (by omega) (v := S 4 u) rfl hS hA hl.1 ml_X9_66 ⟨Nat.le_of_ble_eq_true rfl, Nat.le_of_ble_eq_true rfl⟩ ⟨Nat.zero_le _, Nat.zero_le _⟩ (Nat.le_of_ble_eq_true rfl) dX9_across_3 (fun H locs hP hS => ?_)
  refine lv_iload_n C0.1 C0.2.1 dX9_across_6 rfl (lv_at hl 2 rfl) ?_
  refine lv_icmp_ne (tgt := 19) C0.1 C0.2.1 dX9_across_7 (by decide) (fun c_7 => ?_) (fun c_7 => ?_)
  · refine lv_aload_n C0.1 C0.2.1 dX9_across_19 rfl (lv_at hl 0 rfl) ?_
    refine lv_iload_n C0.1 C0.2.1 dX9_across_20 rfl (lv_at hl 1 rfl) ?_
    refine lv_iconst (v := 1) C0.1 C0.2.1 dX9_across_21 (by decide) ?_
    refine k_X9_pu_1 hd sId C0 hK hP (by omega) (v := S 5 u) rfl hS hA hl.1 ml_X9_66 ⟨Nat.le_of_ble_eq_true rfl, Nat.le_of_ble_eq_true rfl⟩ ⟨Nat.zero_le _, Nat.zero_le _⟩ (Nat.le_of_ble_eq_true rfl) dX9_across_22 (fun H locs hP hS => ?_)
    refine lv_iload_n C0.1 C0.2.1 dX9_across_25 rfl (lv_at hl 2 rfl) ?_
    refine lv_icmp_ne (tgt := 38) C0.1 C0.2.1 dX9_across_26 (by decide) (fun c_26 => ?_) (fun c_26 => ?_)
    · refine lv_iconst (v := (-1)) C0.1 C0.2.1 dX9_across_38 (by decide) ?_
      exact rtI C0 hr hlk hP hS ⟨by unfold acrI; simp only [c_7, c_26, if_true, if_false], rfl, rfl⟩ dX9_across_39
    · refine lv_aload_n C0.1 C0.2.1 dX9_across_29 rfl (lv_at hl 0 rfl) ?_
      refine lv_iload_n C0.1 C0.2.1 dX9_across_30 rfl (lv_at hl 1 rfl) ?_
      refine lv_iconst (v := 0) C0.1 C0.2.1 dX9_across_31 (by decide) ?_
      refine k_X9_pu_0 hd sId C0 hK hP (by omega) (v := S 4 u) rfl hS hA hl.1 ml_X9_66 ⟨Nat.le_of_ble_eq_true rfl, Nat.le_of_ble_eq_true rfl⟩ ⟨Nat.zero_le _, Nat.zero_le _⟩ (Nat.le_of_ble_eq_true rfl) dX9_across_32 (fun H locs hP hS => ?_)
      refine lv_goto (tgt := 39) C0.1 C0.2.1 dX9_across_35 (by decide) ?_
      exact rtI C0 hr hlk hP hS ⟨by unfold acrI; simp only [c_7, c_26, if_true, if_false], rfl, rfl⟩ dX9_across_39
  · refine lv_aload_n C0.1 C0.2.1 dX9_across_10 rfl (lv_at hl 0 rfl) ?_
    refine lv_iload_n C0.1 C0.2.1 dX9_across_11 rfl (lv_at hl 1 rfl) ?_
    refine lv_iconst (v := 1) C0.1 C0.2.1 dX9_across_12 (by decide) ?_
    refine k_X9_pu_1 hd sId C0 hK hP (by omega) (v := S 5 u) rfl hS hA hl.1 ml_X9_66 ⟨Nat.le_of_ble_eq_true rfl, Nat.le_of_ble_eq_true rfl⟩ ⟨Nat.zero_le _, Nat.zero_le _⟩ (Nat.le_of_ble_eq_true rfl) dX9_across_13 (fun H locs hP hS => ?_)
    refine lv_goto (tgt := 39) C0.1 C0.2.1 dX9_across_16 (by decide) ?_
    exact rtI C0 hr hlk hP hS ⟨by unfold acrI; simp only [c_7, if_true, if_false], rfl, rfl⟩ dX9_across_39
theorem k_X9_across {n : List Nat} (hd : Hd n a I) (hsub : ∀ k ∈ nM, k ∈ n) (C0 : CallFix p m c cc nL s args GW own) (hK : KK D cA s) (hP : WQ D cA a S X I H) {u : Nat} {x : Nat} (hu : u < 6) {v : Int32} (hv : (acrI S u x) = v) (hS : va_S A0 H0 H locs) (hA : ∀ q, AI a I q → A0 q) (hls : ls.size = nL) {idx : Nat} (hlink : Cond.methodLink own idx yX9_across ∈ GW) (hR : 2 ≤ R.frames ∧ 44 ≤ R.locals) (hcs : cells ≤ R.cells ∧ slots ≤ R.slots) (hrest : (rest.map fun v => v.category).sum ≤ 8) (hdg : decode cc pc = .ok (.invokevirtual idx, 3)) (kk : ∀ (H1 : Heap) (locs1 : List Loc), WQ D cA a S X I H1 → va_S A0 H0 H1 locs1 → W p l e R s m args below meth c H1 locs1 cells slots Q (F0 m (pc + 3) ls (.int v :: rest))) : W p l e R s m args below meth c H locs cells slots Q (F0 m pc ls (.int (nI x) :: .int (nI u) :: .ref (a 20) :: rest)) := by
  subst hv
  exact hoI (qV (n := 2) (c_X9_across l D cA a S X I (hd.sub hsub) u x hu) C0 hlink im_X9_across se_X9_across in_X9 co_X9_across ⟨rfl, by decide⟩ hR hK hP (hd.1 _ (hsub _ (by decide))) rfl rfl rfl hls hrest rfl hdg hcs) hS hA (fun r S1 X1 H1 locs1 hp hP1 hS1 => by obtain ⟨rfl, rfl, rfl⟩ := hp; exact kk H1 locs1 hP1 hS1)
set_option maxHeartbeats 4000000 in
set_option maxRecDepth 100000 in
theorem c_X9_hasCome (l : Launch) (D : va_G) (cA : ClassId) (a : Adr) (S X : Mem) (I : Nat → Prop) (hd : Hd nM a I) (t : Nat) (ht : t < 30) : NI l yX9_hasCome cX9_hasCome 2 (some .boolean) 1 22 D cA a S X I [.ref (a 20), .int (nI t)] (fun r S1 X1 => r = (bI (!decide (S 24 t = -1))) ∧ S1 = S ∧ X1 = X) := by
  refine nGo (by decide) (Nat.le_of_ble_eq_true rfl) ?_
  intro p e s m args below meth c ls C0 hr hlk hK hP hS hl hargs
  obtain ⟨H, hHe⟩ : ∃ H, H = s.heap := ⟨_, rfl⟩
  obtain ⟨locs, hlo⟩ : ∃ L : List Loc, L = [] := ⟨_, rfl⟩
  have hP : WQ D cA a S X I H := hHe ▸ hP
  have hS : va_S (AI a I) s.heap H locs := by rw [hHe, hlo]; exact hS
  rw [← hHe, ← hlo]
  have hA : ∀ q, AI a I q → AI a I q := fun _ h => h
  refine lv_aload_n C0.1 C0.2.1 dX9_hasCome_0 rfl (lv_at hl 0 rfl) ?_
  refine lv_iload_n C0.1 C0.2.1 dX9_hasCome_1 rfl (lv_at hl 1 rfl) ?_
  refine lv_iconst (v := 4) C0.1 C0.2.1 dX9_hasCome_2 (by decide) ?_
  refine k_X9_who_4 hd sId C0 hK hP (by omega) (v := S 24 t) rfl hS hA hl.1 ml_X9_116 ⟨Nat.le_of_ble_eq_true rfl, Nat.le_of_ble_eq_true rfl⟩ ⟨Nat.zero_le _, Nat.zero_le _⟩ (Nat.le_of_ble_eq_true rfl) dX9_hasCome_3 (fun H locs hP hS => ?_)
  refine lv_iconst (v := (-1)) C0.1 C0.2.1 dX9_hasCome_6 (by decide) ?_
  refine lv_icmp_eq (tgt := 14) C0.1 C0.2.1 dX9_hasCome_7 (by decide) (fun c_7 => ?_) (fun c_7 => ?_)
  · refine lv_iconst (v := 0) C0.1 C0.2.1 dX9_hasCome_14 (by decide) ?_
    exact rtZ C0 hr hlk hP hS rfl ⟨by simp [bI, c_7], rfl, rfl⟩ dX9_hasCome_15
  · refine lv_iconst (v := 1) C0.1 C0.2.1 dX9_hasCome_10 (by decide) ?_
    refine lv_goto (tgt := 15) C0.1 C0.2.1 dX9_hasCome_11 (by decide) ?_
    exact rtZ C0 hr hlk hP hS rfl ⟨by simp [bI, c_7], rfl, rfl⟩ dX9_hasCome_15
theorem k_X9_hasCome {n : List Nat} (hd : Hd n a I) (hsub : ∀ k ∈ nM, k ∈ n) (C0 : CallFix p m c cc nL s args GW own) (hK : KK D cA s) (hP : WQ D cA a S X I H) {t : Nat} (ht : t < 30) {v : Int32} (hv : (bI (!decide (S 24 t = -1))) = v) (hS : va_S A0 H0 H locs) (hA : ∀ q, AI a I q → A0 q) (hls : ls.size = nL) {idx : Nat} (hlink : Cond.methodLink own idx yX9_hasCome ∈ GW) (hR : 2 ≤ R.frames ∧ 43 ≤ R.locals) (hcs : cells ≤ R.cells ∧ slots ≤ R.slots) (hrest : (rest.map fun v => v.category).sum ≤ 8) (hdg : decode cc pc = .ok (.invokevirtual idx, 3)) (kk : ∀ (H1 : Heap) (locs1 : List Loc), WQ D cA a S X I H1 → va_S A0 H0 H1 locs1 → W p l e R s m args below meth c H1 locs1 cells slots Q (F0 m (pc + 3) ls (.int v :: rest))) : W p l e R s m args below meth c H locs cells slots Q (F0 m pc ls (.int (nI t) :: .ref (a 20) :: rest)) := by
  subst hv
  exact hoI (qV (n := 1) (c_X9_hasCome l D cA a S X I (hd.sub hsub) t ht) C0 hlink im_X9_hasCome se_X9_hasCome in_X9 co_X9_hasCome ⟨rfl, by decide⟩ hR hK hP (hd.1 _ (hsub _ (by decide))) rfl rfl rfl hls hrest rfl hdg hcs) hS hA (fun r S1 X1 H1 locs1 hp hP1 hS1 => by obtain ⟨rfl, rfl, rfl⟩ := hp; exact kk H1 locs1 hP1 hS1)
end CLS
