theorem one_pred {x : Int32} {n : Nat} (hn : n < 2 ^ 31) : (decide (0 ≤ x) && decide (x ≤ nI n - 1)) = oneB x (nI n) := by
  unfold oneB
  by_cases h0 : x < 0
  · rw [decide_eq_false (Int32.not_le.mpr h0), Bool.false_and, Bool.false_and]
  · obtain ⟨j, hj, rfl⟩ := nI_of h0
    congr 1
    cases n with
    | zero =>
      have h1 : (0 : Int32) ≤ nI j := Int32.not_lt.mp h0
      rw [decide_eq_false (fun h : nI j ≤ nI 0 - 1 => absurd (Int32.le_trans h1 h) (by decide)), decide_eq_false (fun h : nI j < nI 0 => h0 h)]
    | succ k =>
      rw [show nI (k + 1) - 1 = nI k from nI_sub (a := k + 1) (b := 1) (c := k) (by omega)]
      exact decide_eq_decide.mpr ((nI_leI hj (by omega)).trans (Nat.lt_succ_iff.symm.trans (nI_ltI hj hn).symm))
theorem nb_bI (b : Bool) : narrow .boolean (.int (bI b)) = .int (bI b) := by cases b <;> rfl
theorem mbes0 : ∀ i, i < 196 → (if nI i < 14 then -1 else nI i - 14) = besI (nI i) 0 := by decide +kernel
theorem mbes1 : ∀ i, i < 196 → (if nI i - nI i / 14 * 14 = 0 then -1 else nI i - 1) = besI (nI i) 1 := by decide +kernel
theorem mbes2 : ∀ i, i < 196 → (if nI i - nI i / 14 * 14 = 13 then -1 else nI i + 1) = besI (nI i) 2 := by decide +kernel
theorem mbes3 : ∀ i, i < 196 → (if nI i < 182 then nI i + 14 else -1) = besI (nI i) 3 := by decide +kernel
section CLS
variable {p : Program} {l : Launch} {e : Env} {R : Room} {s : State} {m : MethodId} {args : Array Value} {below : List Frame} {meth : Method} {c : Code} {H : Heap} {locs : List Loc} {cells slots : Nat} {Q : State → Prop}
variable {cc : ByteArray} {nL : Nat} {own : String} {pc : Nat} {ls : Array Slot} {rest : List Value} {D : va_G} {cA : ClassId} {a : Adr} {S X : Mem} {I : Nat → Prop} {H0 : Heap} {A0 : Nat → Prop}
set_option maxHeartbeats 4000000 in
set_option maxRecDepth 100000 in
theorem c_X9_isLanding (l : Launch) (D : va_G) (cA : ClassId) (a : Adr) (S X : Mem) (I : Nat → Prop) (hd : Hd nM a I) (x : Int32) {L : Nat} (hnL : S 81 0 = nI L) (hL8 : L ≤ 8) : NI l yX9_isLanding cX9_isLanding 2 (some .boolean) 1 22 D cA a S X I [.ref (a 20), .int x] (fun r S1 X1 => r = (bI (oneB x (nI L))) ∧ S1 = S ∧ X1 = X) := by
  refine nGo (by decide) (Nat.le_of_ble_eq_true rfl) ?_
  intro p e s m args below meth c ls C0 hr hlk hK hP hS hl hargs
  obtain ⟨H, hHe⟩ : ∃ H, H = s.heap := ⟨_, rfl⟩
  obtain ⟨locs, hlo⟩ : ∃ L : List Loc, L = [] := ⟨_, rfl⟩
  have hP : WQ D cA a S X I H := hHe ▸ hP
  have hS : va_S (AI a I) s.heap H locs := by rw [hHe, hlo]; exact hS
  rw [← hHe, ← hlo]
  have hA : ∀ q, AI a I q → AI a I q := fun _ h => h
  refine lv_iload_n C0.1 C0.2.1 dX9_isLanding_0 rfl (lv_at hl 1 rfl) ?_
  refine lv_iconst (v := 0) C0.1 C0.2.1 dX9_isLanding_1 (by decide) ?_
  refine lv_aload_n C0.1 C0.2.1 dX9_isLanding_2 rfl (lv_at hl 0 rfl) ?_
  refine g20i (v := nI L) C0 hK hP (hd.1 _ (by decide)) 4 (by decide) fl_X9_48 rfl hnL dX9_isLanding_3 ?_
  refine lv_iconst (v := 1) C0.1 C0.2.1 dX9_isLanding_6 (by decide) ?_
  refine lv_isub C0.1 C0.2.1 dX9_isLanding_7 ?_
  refine k_X9_isIn hd s0 C0 hK hP  (v := bI (decide (0 ≤ x) && decide (x ≤ ((nI L) - 1)))) rfl hS hA hl.1 ml_X9_44 ⟨Nat.le_of_ble_eq_true rfl, Nat.le_of_ble_eq_true rfl⟩ ⟨Nat.zero_le _, Nat.zero_le _⟩ (Nat.le_of_ble_eq_true rfl) dX9_isLanding_8 (fun H locs hP hS => ?_)
  exact rtZ C0 hr hlk hP hS (nb_bI _) ⟨congrArg bI (one_pred (by omega)), rfl, rfl⟩ dX9_isLanding_11
theorem k_X9_isLanding {n : List Nat} (hd : Hd n a I) (hsub : ∀ k ∈ nM, k ∈ n) (C0 : CallFix p m c cc nL s args GW own) (hK : KK D cA s) (hP : WQ D cA a S X I H) {x : Int32} {L : Nat} (hnL : S 81 0 = nI L) (hL8 : L ≤ 8) {v : Int32} (hv : (bI (oneB x (nI L))) = v) (hS : va_S A0 H0 H locs) (hA : ∀ q, AI a I q → A0 q) (hls : ls.size = nL) {idx : Nat} (hlink : Cond.methodLink own idx yX9_isLanding ∈ GW) (hR : 2 ≤ R.frames ∧ 43 ≤ R.locals) (hcs : cells ≤ R.cells ∧ slots ≤ R.slots) (hrest : (rest.map fun v => v.category).sum ≤ 8) (hdg : decode cc pc = .ok (.invokevirtual idx, 3)) (kk : ∀ (H1 : Heap) (locs1 : List Loc), WQ D cA a S X I H1 → va_S A0 H0 H1 locs1 → W p l e R s m args below meth c H1 locs1 cells slots Q (F0 m (pc + 3) ls (.int v :: rest))) : W p l e R s m args below meth c H locs cells slots Q (F0 m pc ls (.int x :: .ref (a 20) :: rest)) := by
  subst hv
  exact hoI (qV (n := 1) (c_X9_isLanding l D cA a S X I (hd.sub hsub) x hnL hL8) C0 hlink im_X9_isLanding se_X9_isLanding in_X9 co_X9_isLanding ⟨rfl, by decide⟩ hR hK hP (hd.1 _ (hsub _ (by decide))) rfl rfl rfl hls hrest rfl hdg hcs) hS hA (fun r S1 X1 H1 locs1 hp hP1 hS1 => by obtain ⟨rfl, rfl, rfl⟩ := hp; exact kk H1 locs1 hP1 hS1)
set_option maxHeartbeats 4000000 in
set_option maxRecDepth 100000 in
theorem c_X9_isPunt (l : Launch) (D : va_G) (cA : ClassId) (a : Adr) (S X : Mem) (I : Nat → Prop) (hd : Hd nM a I) (x : Int32) {P : Nat} (hnP : S 82 0 = nI P) (hP6 : P ≤ 6) : NI l yX9_isPunt cX9_isPunt 2 (some .boolean) 1 22 D cA a S X I [.ref (a 20), .int x] (fun r S1 X1 => r = (bI (oneB x (nI P))) ∧ S1 = S ∧ X1 = X) := by
  refine nGo (by decide) (Nat.le_of_ble_eq_true rfl) ?_
  intro p e s m args below meth c ls C0 hr hlk hK hP hS hl hargs
  obtain ⟨H, hHe⟩ : ∃ H, H = s.heap := ⟨_, rfl⟩
  obtain ⟨locs, hlo⟩ : ∃ L : List Loc, L = [] := ⟨_, rfl⟩
  have hP : WQ D cA a S X I H := hHe ▸ hP
  have hS : va_S (AI a I) s.heap H locs := by rw [hHe, hlo]; exact hS
  rw [← hHe, ← hlo]
  have hA : ∀ q, AI a I q → AI a I q := fun _ h => h
  refine lv_iload_n C0.1 C0.2.1 dX9_isPunt_0 rfl (lv_at hl 1 rfl) ?_
  refine lv_iconst (v := 0) C0.1 C0.2.1 dX9_isPunt_1 (by decide) ?_
  refine lv_aload_n C0.1 C0.2.1 dX9_isPunt_2 rfl (lv_at hl 0 rfl) ?_
  refine g20i (v := nI P) C0 hK hP (hd.1 _ (by decide)) 6 (by decide) fl_X9_51 rfl hnP dX9_isPunt_3 ?_
  refine lv_iconst (v := 1) C0.1 C0.2.1 dX9_isPunt_6 (by decide) ?_
  refine lv_isub C0.1 C0.2.1 dX9_isPunt_7 ?_
  refine k_X9_isIn hd s0 C0 hK hP  (v := bI (decide (0 ≤ x) && decide (x ≤ ((nI P) - 1)))) rfl hS hA hl.1 ml_X9_44 ⟨Nat.le_of_ble_eq_true rfl, Nat.le_of_ble_eq_true rfl⟩ ⟨Nat.zero_le _, Nat.zero_le _⟩ (Nat.le_of_ble_eq_true rfl) dX9_isPunt_8 (fun H locs hP hS => ?_)
  exact rtZ C0 hr hlk hP hS (nb_bI _) ⟨congrArg bI (one_pred (by omega)), rfl, rfl⟩ dX9_isPunt_11
theorem k_X9_isPunt {n : List Nat} (hd : Hd n a I) (hsub : ∀ k ∈ nM, k ∈ n) (C0 : CallFix p m c cc nL s args GW own) (hK : KK D cA s) (hP : WQ D cA a S X I H) {x : Int32} {P : Nat} (hnP : S 82 0 = nI P) (hP6 : P ≤ 6) {v : Int32} (hv : (bI (oneB x (nI P))) = v) (hS : va_S A0 H0 H locs) (hA : ∀ q, AI a I q → A0 q) (hls : ls.size = nL) {idx : Nat} (hlink : Cond.methodLink own idx yX9_isPunt ∈ GW) (hR : 2 ≤ R.frames ∧ 43 ≤ R.locals) (hcs : cells ≤ R.cells ∧ slots ≤ R.slots) (hrest : (rest.map fun v => v.category).sum ≤ 8) (hdg : decode cc pc = .ok (.invokevirtual idx, 3)) (kk : ∀ (H1 : Heap) (locs1 : List Loc), WQ D cA a S X I H1 → va_S A0 H0 H1 locs1 → W p l e R s m args below meth c H1 locs1 cells slots Q (F0 m (pc + 3) ls (.int v :: rest))) : W p l e R s m args below meth c H locs cells slots Q (F0 m pc ls (.int x :: .ref (a 20) :: rest)) := by
  subst hv
  exact hoI (qV (n := 1) (c_X9_isPunt l D cA a S X I (hd.sub hsub) x hnP hP6) C0 hlink im_X9_isPunt se_X9_isPunt in_X9 co_X9_isPunt ⟨rfl, by decide⟩ hR hK hP (hd.1 _ (hsub _ (by decide))) rfl rfl rfl hls hrest rfl hdg hcs) hS hA (fun r S1 X1 H1 locs1 hp hP1 hS1 => by obtain ⟨rfl, rfl, rfl⟩ := hp; exact kk H1 locs1 hP1 hS1)
set_option maxHeartbeats 4000000 in
set_option maxRecDepth 100000 in
theorem c_X9_pu_0 (l : Launch) (D : va_G) (cA : ClassId) (a : Adr) (S X : Mem) (I : Nat → Prop) (hd : Hd nM a I) (u : Nat) (hu : u < 6) : NI l yX9_pu cX9_pu 3 (some .int) 0 0 D cA a S X I [.ref (a 20), .int (nI u), .int 0] (fun r S1 X1 => r = (S 4 u) ∧ S1 = S ∧ X1 = X) := by
  refine nGo (by decide) (Nat.le_of_ble_eq_true rfl) ?_
  intro p e s m args below meth c ls C0 hr hlk hK hP hS hl hargs
  obtain ⟨H, hHe⟩ : ∃ H, H = s.heap := ⟨_, rfl⟩
  obtain ⟨locs, hlo⟩ : ∃ L : List Loc, L = [] := ⟨_, rfl⟩
  have hP : WQ D cA a S X I H := hHe ▸ hP
  have hS : va_S (AI a I) s.heap H locs := by rw [hHe, hlo]; exact hS
  rw [← hHe, ← hlo]
  have hA : ∀ q, AI a I q → AI a I q := fun _ h => h
  refine lv_aload_n C0.1 C0.2.1 dX9_pu_0 rfl (lv_at hl 0 rfl) ?_
  refine g20 C0 hK hP (hd.1 _ (by decide)) 7 (by decide) fl_X9_22 rfl dX9_pu_1 ?_
  refine lv_bipush (v := 6) C0.1 C0.2.1 dX9_pu_4 (by decide) ?_
  refine lv_iload_n C0.1 C0.2.1 dX9_pu_6 rfl (lv_at hl 1 rfl) ?_
  refine lv_imul C0.1 C0.2.1 dX9_pu_7 ?_
  refine lv_iload_n C0.1 C0.2.1 dX9_pu_8 rfl (lv_at hl 2 rfl) ?_
  refine lv_iadd C0.1 C0.2.1 dX9_pu_9 ?_
  rw [show (6 : Int32) * nI u + 0 = nI (6 * u + 0) from pk_ix3 6 u 0]
  refine mld (k := 4) (by decide) C0 hK hP (hd.1 _ (by decide)) (v := S 4 u) (vp_in_nI (show 6 * u + 0 < 36 by omega) (by decide)) (by rw [nI_clamp (by omega)]; exact rw4 _ _ (by omega)) dX9_pu_10 ?_
  exact rtI C0 hr hlk hP hS ⟨rfl, rfl, rfl⟩ dX9_pu_11
theorem k_X9_pu_0 {n : List Nat} (hd : Hd n a I) (hsub : ∀ k ∈ nM, k ∈ n) (C0 : CallFix p m c cc nL s args GW own) (hK : KK D cA s) (hP : WQ D cA a S X I H) {u : Nat} (hu : u < 6) {v : Int32} (hv : (S 4 u) = v) (hS : va_S A0 H0 H locs) (hA : ∀ q, AI a I q → A0 q) (hls : ls.size = nL) {idx : Nat} (hlink : Cond.methodLink own idx yX9_pu ∈ GW) (hR : 1 ≤ R.frames ∧ 22 ≤ R.locals) (hcs : cells ≤ R.cells ∧ slots ≤ R.slots) (hrest : (rest.map fun v => v.category).sum ≤ 8) (hdg : decode cc pc = .ok (.invokevirtual idx, 3)) (kk : ∀ (H1 : Heap) (locs1 : List Loc), WQ D cA a S X I H1 → va_S A0 H0 H1 locs1 → W p l e R s m args below meth c H1 locs1 cells slots Q (F0 m (pc + 3) ls (.int v :: rest))) : W p l e R s m args below meth c H locs cells slots Q (F0 m pc ls (.int 0 :: .int (nI u) :: .ref (a 20) :: rest)) := by
  subst hv
  exact hoI (qV (n := 2) (c_X9_pu_0 l D cA a S X I (hd.sub hsub) u hu) C0 hlink im_X9_pu se_X9_pu in_X9 co_X9_pu ⟨rfl, by decide⟩ hR hK hP (hd.1 _ (hsub _ (by decide))) rfl rfl rfl hls hrest rfl hdg hcs) hS hA (fun r S1 X1 H1 locs1 hp hP1 hS1 => by obtain ⟨rfl, rfl, rfl⟩ := hp; exact kk H1 locs1 hP1 hS1)
set_option maxHeartbeats 4000000 in
set_option maxRecDepth 100000 in
theorem c_X9_pu_1 (l : Launch) (D : va_G) (cA : ClassId) (a : Adr) (S X : Mem) (I : Nat → Prop) (hd : Hd nM a I) (u : Nat) (hu : u < 6) : NI l yX9_pu cX9_pu 3 (some .int) 0 0 D cA a S X I [.ref (a 20), .int (nI u), .int 1] (fun r S1 X1 => r = (S 5 u) ∧ S1 = S ∧ X1 = X) := by
  refine nGo (by decide) (Nat.le_of_ble_eq_true rfl) ?_
  intro p e s m args below meth c ls C0 hr hlk hK hP hS hl hargs
  obtain ⟨H, hHe⟩ : ∃ H, H = s.heap := ⟨_, rfl⟩
  obtain ⟨locs, hlo⟩ : ∃ L : List Loc, L = [] := ⟨_, rfl⟩
  have hP : WQ D cA a S X I H := hHe ▸ hP
  have hS : va_S (AI a I) s.heap H locs := by rw [hHe, hlo]; exact hS
  rw [← hHe, ← hlo]
  have hA : ∀ q, AI a I q → AI a I q := fun _ h => h
  refine lv_aload_n C0.1 C0.2.1 dX9_pu_0 rfl (lv_at hl 0 rfl) ?_
  refine g20 C0 hK hP (hd.1 _ (by decide)) 7 (by decide) fl_X9_22 rfl dX9_pu_1 ?_
  refine lv_bipush (v := 6) C0.1 C0.2.1 dX9_pu_4 (by decide) ?_
  refine lv_iload_n C0.1 C0.2.1 dX9_pu_6 rfl (lv_at hl 1 rfl) ?_
  refine lv_imul C0.1 C0.2.1 dX9_pu_7 ?_
  refine lv_iload_n C0.1 C0.2.1 dX9_pu_8 rfl (lv_at hl 2 rfl) ?_
  refine lv_iadd C0.1 C0.2.1 dX9_pu_9 ?_
  rw [show (6 : Int32) * nI u + 1 = nI (6 * u + 1) from pk_ix3 6 u 1]
  refine mld (k := 4) (by decide) C0 hK hP (hd.1 _ (by decide)) (v := S 5 u) (vp_in_nI (show 6 * u + 1 < 36 by omega) (by decide)) (by rw [nI_clamp (by omega)]; exact rw4 _ _ (by omega)) dX9_pu_10 ?_
  exact rtI C0 hr hlk hP hS ⟨rfl, rfl, rfl⟩ dX9_pu_11
theorem k_X9_pu_1 {n : List Nat} (hd : Hd n a I) (hsub : ∀ k ∈ nM, k ∈ n) (C0 : CallFix p m c cc nL s args GW own) (hK : KK D cA s) (hP : WQ D cA a S X I H) {u : Nat} (hu : u < 6) {v : Int32} (hv : (S 5 u) = v) (hS : va_S A0 H0 H locs) (hA : ∀ q, AI a I q → A0 q) (hls : ls.size = nL) {idx : Nat} (hlink : Cond.methodLink own idx yX9_pu ∈ GW) (hR : 1 ≤ R.frames ∧ 22 ≤ R.locals) (hcs : cells ≤ R.cells ∧ slots ≤ R.slots) (hrest : (rest.map fun v => v.category).sum ≤ 8) (hdg : decode cc pc = .ok (.invokevirtual idx, 3)) (kk : ∀ (H1 : Heap) (locs1 : List Loc), WQ D cA a S X I H1 → va_S A0 H0 H1 locs1 → W p l e R s m args below meth c H1 locs1 cells slots Q (F0 m (pc + 3) ls (.int v :: rest))) : W p l e R s m args below meth c H locs cells slots Q (F0 m pc ls (.int 1 :: .int (nI u) :: .ref (a 20) :: rest)) := by
  subst hv
  exact hoI (qV (n := 2) (c_X9_pu_1 l D cA a S X I (hd.sub hsub) u hu) C0 hlink im_X9_pu se_X9_pu in_X9 co_X9_pu ⟨rfl, by decide⟩ hR hK hP (hd.1 _ (hsub _ (by decide))) rfl rfl rfl hls hrest rfl hdg hcs) hS hA (fun r S1 X1 H1 locs1 hp hP1 hS1 => by obtain ⟨rfl, rfl, rfl⟩ := hp; exact kk H1 locs1 hP1 hS1)
set_option maxHeartbeats 4000000 in
set_option maxRecDepth 100000 in
theorem c_X9_pu_2 (l : Launch) (D : va_G) (cA : ClassId) (a : Adr) (S X : Mem) (I : Nat → Prop) (hd : Hd nM a I) (u : Nat) (hu : u < 6) : NI l yX9_pu cX9_pu 3 (some .int) 0 0 D cA a S X I [.ref (a 20), .int (nI u), .int 2] (fun r S1 X1 => r = (S 6 u) ∧ S1 = S ∧ X1 = X) := by
  refine nGo (by decide) (Nat.le_of_ble_eq_true rfl) ?_
  intro p e s m args below meth c ls C0 hr hlk hK hP hS hl hargs
  obtain ⟨H, hHe⟩ : ∃ H, H = s.heap := ⟨_, rfl⟩
  obtain ⟨locs, hlo⟩ : ∃ L : List Loc, L = [] := ⟨_, rfl⟩
  have hP : WQ D cA a S X I H := hHe ▸ hP
  have hS : va_S (AI a I) s.heap H locs := by rw [hHe, hlo]; exact hS
  rw [← hHe, ← hlo]
  have hA : ∀ q, AI a I q → AI a I q := fun _ h => h
  refine lv_aload_n C0.1 C0.2.1 dX9_pu_0 rfl (lv_at hl 0 rfl) ?_
  refine g20 C0 hK hP (hd.1 _ (by decide)) 7 (by decide) fl_X9_22 rfl dX9_pu_1 ?_
  refine lv_bipush (v := 6) C0.1 C0.2.1 dX9_pu_4 (by decide) ?_
  refine lv_iload_n C0.1 C0.2.1 dX9_pu_6 rfl (lv_at hl 1 rfl) ?_
  refine lv_imul C0.1 C0.2.1 dX9_pu_7 ?_
  refine lv_iload_n C0.1 C0.2.1 dX9_pu_8 rfl (lv_at hl 2 rfl) ?_
  refine lv_iadd C0.1 C0.2.1 dX9_pu_9 ?_
  rw [show (6 : Int32) * nI u + 2 = nI (6 * u + 2) from pk_ix3 6 u 2]
  refine mld (k := 4) (by decide) C0 hK hP (hd.1 _ (by decide)) (v := S 6 u) (vp_in_nI (show 6 * u + 2 < 36 by omega) (by decide)) (by rw [nI_clamp (by omega)]; exact rw4 _ _ (by omega)) dX9_pu_10 ?_
  exact rtI C0 hr hlk hP hS ⟨rfl, rfl, rfl⟩ dX9_pu_11
theorem k_X9_pu_2 {n : List Nat} (hd : Hd n a I) (hsub : ∀ k ∈ nM, k ∈ n) (C0 : CallFix p m c cc nL s args GW own) (hK : KK D cA s) (hP : WQ D cA a S X I H) {u : Nat} (hu : u < 6) {v : Int32} (hv : (S 6 u) = v) (hS : va_S A0 H0 H locs) (hA : ∀ q, AI a I q → A0 q) (hls : ls.size = nL) {idx : Nat} (hlink : Cond.methodLink own idx yX9_pu ∈ GW) (hR : 1 ≤ R.frames ∧ 22 ≤ R.locals) (hcs : cells ≤ R.cells ∧ slots ≤ R.slots) (hrest : (rest.map fun v => v.category).sum ≤ 8) (hdg : decode cc pc = .ok (.invokevirtual idx, 3)) (kk : ∀ (H1 : Heap) (locs1 : List Loc), WQ D cA a S X I H1 → va_S A0 H0 H1 locs1 → W p l e R s m args below meth c H1 locs1 cells slots Q (F0 m (pc + 3) ls (.int v :: rest))) : W p l e R s m args below meth c H locs cells slots Q (F0 m pc ls (.int 2 :: .int (nI u) :: .ref (a 20) :: rest)) := by
  subst hv
  exact hoI (qV (n := 2) (c_X9_pu_2 l D cA a S X I (hd.sub hsub) u hu) C0 hlink im_X9_pu se_X9_pu in_X9 co_X9_pu ⟨rfl, by decide⟩ hR hK hP (hd.1 _ (hsub _ (by decide))) rfl rfl rfl hls hrest rfl hdg hcs) hS hA (fun r S1 X1 H1 locs1 hp hP1 hS1 => by obtain ⟨rfl, rfl, rfl⟩ := hp; exact kk H1 locs1 hP1 hS1)
set_option maxHeartbeats 4000000 in
set_option maxRecDepth 100000 in
theorem c_X9_pu_3 (l : Launch) (D : va_G) (cA : ClassId) (a : Adr) (S X : Mem) (I : Nat → Prop) (hd : Hd nM a I) (u : Nat) (hu : u < 6) : NI l yX9_pu cX9_pu 3 (some .int) 0 0 D cA a S X I [.ref (a 20), .int (nI u), .int 3] (fun r S1 X1 => r = (S 7 u) ∧ S1 = S ∧ X1 = X) := by
  refine nGo (by decide) (Nat.le_of_ble_eq_true rfl) ?_
  intro p e s m args below meth c ls C0 hr hlk hK hP hS hl hargs
  obtain ⟨H, hHe⟩ : ∃ H, H = s.heap := ⟨_, rfl⟩
  obtain ⟨locs, hlo⟩ : ∃ L : List Loc, L = [] := ⟨_, rfl⟩
  have hP : WQ D cA a S X I H := hHe ▸ hP
  have hS : va_S (AI a I) s.heap H locs := by rw [hHe, hlo]; exact hS
  rw [← hHe, ← hlo]
  have hA : ∀ q, AI a I q → AI a I q := fun _ h => h
  refine lv_aload_n C0.1 C0.2.1 dX9_pu_0 rfl (lv_at hl 0 rfl) ?_
  refine g20 C0 hK hP (hd.1 _ (by decide)) 7 (by decide) fl_X9_22 rfl dX9_pu_1 ?_
  refine lv_bipush (v := 6) C0.1 C0.2.1 dX9_pu_4 (by decide) ?_
  refine lv_iload_n C0.1 C0.2.1 dX9_pu_6 rfl (lv_at hl 1 rfl) ?_
  refine lv_imul C0.1 C0.2.1 dX9_pu_7 ?_
  refine lv_iload_n C0.1 C0.2.1 dX9_pu_8 rfl (lv_at hl 2 rfl) ?_
  refine lv_iadd C0.1 C0.2.1 dX9_pu_9 ?_
  rw [show (6 : Int32) * nI u + 3 = nI (6 * u + 3) from pk_ix3 6 u 3]
  refine mld (k := 4) (by decide) C0 hK hP (hd.1 _ (by decide)) (v := S 7 u) (vp_in_nI (show 6 * u + 3 < 36 by omega) (by decide)) (by rw [nI_clamp (by omega)]; exact rw4 _ _ (by omega)) dX9_pu_10 ?_
  exact rtI C0 hr hlk hP hS ⟨rfl, rfl, rfl⟩ dX9_pu_11
theorem k_X9_pu_3 {n : List Nat} (hd : Hd n a I) (hsub : ∀ k ∈ nM, k ∈ n) (C0 : CallFix p m c cc nL s args GW own) (hK : KK D cA s) (hP : WQ D cA a S X I H) {u : Nat} (hu : u < 6) {v : Int32} (hv : (S 7 u) = v) (hS : va_S A0 H0 H locs) (hA : ∀ q, AI a I q → A0 q) (hls : ls.size = nL) {idx : Nat} (hlink : Cond.methodLink own idx yX9_pu ∈ GW) (hR : 1 ≤ R.frames ∧ 22 ≤ R.locals) (hcs : cells ≤ R.cells ∧ slots ≤ R.slots) (hrest : (rest.map fun v => v.category).sum ≤ 8) (hdg : decode cc pc = .ok (.invokevirtual idx, 3)) (kk : ∀ (H1 : Heap) (locs1 : List Loc), WQ D cA a S X I H1 → va_S A0 H0 H1 locs1 → W p l e R s m args below meth c H1 locs1 cells slots Q (F0 m (pc + 3) ls (.int v :: rest))) : W p l e R s m args below meth c H locs cells slots Q (F0 m pc ls (.int 3 :: .int (nI u) :: .ref (a 20) :: rest)) := by
  subst hv
  exact hoI (qV (n := 2) (c_X9_pu_3 l D cA a S X I (hd.sub hsub) u hu) C0 hlink im_X9_pu se_X9_pu in_X9 co_X9_pu ⟨rfl, by decide⟩ hR hK hP (hd.1 _ (hsub _ (by decide))) rfl rfl rfl hls hrest rfl hdg hcs) hS hA (fun r S1 X1 H1 locs1 hp hP1 hS1 => by obtain ⟨rfl, rfl, rfl⟩ := hp; exact kk H1 locs1 hP1 hS1)
set_option maxHeartbeats 4000000 in
set_option maxRecDepth 100000 in
theorem c_X9_pu_4 (l : Launch) (D : va_G) (cA : ClassId) (a : Adr) (S X : Mem) (I : Nat → Prop) (hd : Hd nM a I) (u : Nat) (hu : u < 6) : NI l yX9_pu cX9_pu 3 (some .int) 0 0 D cA a S X I [.ref (a 20), .int (nI u), .int 4] (fun r S1 X1 => r = (S 8 u) ∧ S1 = S ∧ X1 = X) := by
  refine nGo (by decide) (Nat.le_of_ble_eq_true rfl) ?_
  intro p e s m args below meth c ls C0 hr hlk hK hP hS hl hargs
  obtain ⟨H, hHe⟩ : ∃ H, H = s.heap := ⟨_, rfl⟩
  obtain ⟨locs, hlo⟩ : ∃ L : List Loc, L = [] := ⟨_, rfl⟩
  have hP : WQ D cA a S X I H := hHe ▸ hP
  have hS : va_S (AI a I) s.heap H locs := by rw [hHe, hlo]; exact hS
  rw [← hHe, ← hlo]
  have hA : ∀ q, AI a I q → AI a I q := fun _ h => h
  refine lv_aload_n C0.1 C0.2.1 dX9_pu_0 rfl (lv_at hl 0 rfl) ?_
  refine g20 C0 hK hP (hd.1 _ (by decide)) 7 (by decide) fl_X9_22 rfl dX9_pu_1 ?_
  refine lv_bipush (v := 6) C0.1 C0.2.1 dX9_pu_4 (by decide) ?_
  refine lv_iload_n C0.1 C0.2.1 dX9_pu_6 rfl (lv_at hl 1 rfl) ?_
  refine lv_imul C0.1 C0.2.1 dX9_pu_7 ?_
  refine lv_iload_n C0.1 C0.2.1 dX9_pu_8 rfl (lv_at hl 2 rfl) ?_
  refine lv_iadd C0.1 C0.2.1 dX9_pu_9 ?_
  rw [show (6 : Int32) * nI u + 4 = nI (6 * u + 4) from pk_ix3 6 u 4]
  refine mld (k := 4) (by decide) C0 hK hP (hd.1 _ (by decide)) (v := S 8 u) (vp_in_nI (show 6 * u + 4 < 36 by omega) (by decide)) (by rw [nI_clamp (by omega)]; exact rw4 _ _ (by omega)) dX9_pu_10 ?_
  exact rtI C0 hr hlk hP hS ⟨rfl, rfl, rfl⟩ dX9_pu_11
theorem k_X9_pu_4 {n : List Nat} (hd : Hd n a I) (hsub : ∀ k ∈ nM, k ∈ n) (C0 : CallFix p m c cc nL s args GW own) (hK : KK D cA s) (hP : WQ D cA a S X I H) {u : Nat} (hu : u < 6) {v : Int32} (hv : (S 8 u) = v) (hS : va_S A0 H0 H locs) (hA : ∀ q, AI a I q → A0 q) (hls : ls.size = nL) {idx : Nat} (hlink : Cond.methodLink own idx yX9_pu ∈ GW) (hR : 1 ≤ R.frames ∧ 22 ≤ R.locals) (hcs : cells ≤ R.cells ∧ slots ≤ R.slots) (hrest : (rest.map fun v => v.category).sum ≤ 8) (hdg : decode cc pc = .ok (.invokevirtual idx, 3)) (kk : ∀ (H1 : Heap) (locs1 : List Loc), WQ D cA a S X I H1 → va_S A0 H0 H1 locs1 → W p l e R s m args below meth c H1 locs1 cells slots Q (F0 m (pc + 3) ls (.int v :: rest))) : W p l e R s m args below meth c H locs cells slots Q (F0 m pc ls (.int 4 :: .int (nI u) :: .ref (a 20) :: rest)) := by
  subst hv
  exact hoI (qV (n := 2) (c_X9_pu_4 l D cA a S X I (hd.sub hsub) u hu) C0 hlink im_X9_pu se_X9_pu in_X9 co_X9_pu ⟨rfl, by decide⟩ hR hK hP (hd.1 _ (hsub _ (by decide))) rfl rfl rfl hls hrest rfl hdg hcs) hS hA (fun r S1 X1 H1 locs1 hp hP1 hS1 => by obtain ⟨rfl, rfl, rfl⟩ := hp; exact kk H1 locs1 hP1 hS1)
set_option maxHeartbeats 4000000 in
set_option maxRecDepth 100000 in
theorem c_X9_pu_5 (l : Launch) (D : va_G) (cA : ClassId) (a : Adr) (S X : Mem) (I : Nat → Prop) (hd : Hd nM a I) (u : Nat) (hu : u < 6) : NI l yX9_pu cX9_pu 3 (some .int) 0 0 D cA a S X I [.ref (a 20), .int (nI u), .int 5] (fun r S1 X1 => r = (S 9 u) ∧ S1 = S ∧ X1 = X) := by
  refine nGo (by decide) (Nat.le_of_ble_eq_true rfl) ?_
  intro p e s m args below meth c ls C0 hr hlk hK hP hS hl hargs
  obtain ⟨H, hHe⟩ : ∃ H, H = s.heap := ⟨_, rfl⟩
  obtain ⟨locs, hlo⟩ : ∃ L : List Loc, L = [] := ⟨_, rfl⟩
  have hP : WQ D cA a S X I H := hHe ▸ hP
  have hS : va_S (AI a I) s.heap H locs := by rw [hHe, hlo]; exact hS
  rw [← hHe, ← hlo]
  have hA : ∀ q, AI a I q → AI a I q := fun _ h => h
  refine lv_aload_n C0.1 C0.2.1 dX9_pu_0 rfl (lv_at hl 0 rfl) ?_
  refine g20 C0 hK hP (hd.1 _ (by decide)) 7 (by decide) fl_X9_22 rfl dX9_pu_1 ?_
  refine lv_bipush (v := 6) C0.1 C0.2.1 dX9_pu_4 (by decide) ?_
  refine lv_iload_n C0.1 C0.2.1 dX9_pu_6 rfl (lv_at hl 1 rfl) ?_
  refine lv_imul C0.1 C0.2.1 dX9_pu_7 ?_
  refine lv_iload_n C0.1 C0.2.1 dX9_pu_8 rfl (lv_at hl 2 rfl) ?_
  refine lv_iadd C0.1 C0.2.1 dX9_pu_9 ?_
  rw [show (6 : Int32) * nI u + 5 = nI (6 * u + 5) from pk_ix3 6 u 5]
  refine mld (k := 4) (by decide) C0 hK hP (hd.1 _ (by decide)) (v := S 9 u) (vp_in_nI (show 6 * u + 5 < 36 by omega) (by decide)) (by rw [nI_clamp (by omega)]; exact rw4 _ _ (by omega)) dX9_pu_10 ?_
  exact rtI C0 hr hlk hP hS ⟨rfl, rfl, rfl⟩ dX9_pu_11
theorem k_X9_pu_5 {n : List Nat} (hd : Hd n a I) (hsub : ∀ k ∈ nM, k ∈ n) (C0 : CallFix p m c cc nL s args GW own) (hK : KK D cA s) (hP : WQ D cA a S X I H) {u : Nat} (hu : u < 6) {v : Int32} (hv : (S 9 u) = v) (hS : va_S A0 H0 H locs) (hA : ∀ q, AI a I q → A0 q) (hls : ls.size = nL) {idx : Nat} (hlink : Cond.methodLink own idx yX9_pu ∈ GW) (hR : 1 ≤ R.frames ∧ 22 ≤ R.locals) (hcs : cells ≤ R.cells ∧ slots ≤ R.slots) (hrest : (rest.map fun v => v.category).sum ≤ 8) (hdg : decode cc pc = .ok (.invokevirtual idx, 3)) (kk : ∀ (H1 : Heap) (locs1 : List Loc), WQ D cA a S X I H1 → va_S A0 H0 H1 locs1 → W p l e R s m args below meth c H1 locs1 cells slots Q (F0 m (pc + 3) ls (.int v :: rest))) : W p l e R s m args below meth c H locs cells slots Q (F0 m pc ls (.int 5 :: .int (nI u) :: .ref (a 20) :: rest)) := by
  subst hv
  exact hoI (qV (n := 2) (c_X9_pu_5 l D cA a S X I (hd.sub hsub) u hu) C0 hlink im_X9_pu se_X9_pu in_X9 co_X9_pu ⟨rfl, by decide⟩ hR hK hP (hd.1 _ (hsub _ (by decide))) rfl rfl rfl hls hrest rfl hdg hcs) hS hA (fun r S1 X1 H1 locs1 hp hP1 hS1 => by obtain ⟨rfl, rfl, rfl⟩ := hp; exact kk H1 locs1 hP1 hS1)
set_option maxHeartbeats 4000000 in
set_option maxRecDepth 100000 in
theorem c_X9_go_0 (l : Launch) (D : va_G) (cA : ClassId) (a : Adr) (S X : Mem) (I : Nat → Prop) (hd : Hd nM a I) (u : Nat) (hu : u < 6) : NI l yX9_go cX9_go 3 (some .int) 0 0 D cA a S X I [.ref (a 20), .int (nI u), .int 0] (fun r S1 X1 => r = (S 16 u) ∧ S1 = S ∧ X1 = X) := by
  refine nGo (by decide) (Nat.le_of_ble_eq_true rfl) ?_
  intro p e s m args below meth c ls C0 hr hlk hK hP hS hl hargs
  obtain ⟨H, hHe⟩ : ∃ H, H = s.heap := ⟨_, rfl⟩
  obtain ⟨locs, hlo⟩ : ∃ L : List Loc, L = [] := ⟨_, rfl⟩
  have hP : WQ D cA a S X I H := hHe ▸ hP
  have hS : va_S (AI a I) s.heap H locs := by rw [hHe, hlo]; exact hS
  rw [← hHe, ← hlo]
  have hA : ∀ q, AI a I q → AI a I q := fun _ h => h
  refine lv_aload_n C0.1 C0.2.1 dX9_go_0 rfl (lv_at hl 0 rfl) ?_
  refine g20 C0 hK hP (hd.1 _ (by decide)) 10 (by decide) fl_X9_25 rfl dX9_go_1 ?_
  refine lv_iconst (v := 4) C0.1 C0.2.1 dX9_go_4 (by decide) ?_
  refine lv_iload_n C0.1 C0.2.1 dX9_go_5 rfl (lv_at hl 1 rfl) ?_
  refine lv_imul C0.1 C0.2.1 dX9_go_6 ?_
  refine lv_iload_n C0.1 C0.2.1 dX9_go_7 rfl (lv_at hl 2 rfl) ?_
  refine lv_iadd C0.1 C0.2.1 dX9_go_8 ?_
  rw [show (4 : Int32) * nI u + 0 = nI (4 * u + 0) from pk_ix3 4 u 0]
  refine mld (k := 5) (by decide) C0 hK hP (hd.1 _ (by decide)) (v := S 16 u) (vp_in_nI (show 4 * u + 0 < 24 by omega) (by decide)) (by rw [nI_clamp (by omega)]; exact rw5 _ _ (by omega)) dX9_go_9 ?_
  exact rtI C0 hr hlk hP hS ⟨rfl, rfl, rfl⟩ dX9_go_10
theorem k_X9_go_0 {n : List Nat} (hd : Hd n a I) (hsub : ∀ k ∈ nM, k ∈ n) (C0 : CallFix p m c cc nL s args GW own) (hK : KK D cA s) (hP : WQ D cA a S X I H) {u : Nat} (hu : u < 6) {v : Int32} (hv : (S 16 u) = v) (hS : va_S A0 H0 H locs) (hA : ∀ q, AI a I q → A0 q) (hls : ls.size = nL) {idx : Nat} (hlink : Cond.methodLink own idx yX9_go ∈ GW) (hR : 1 ≤ R.frames ∧ 22 ≤ R.locals) (hcs : cells ≤ R.cells ∧ slots ≤ R.slots) (hrest : (rest.map fun v => v.category).sum ≤ 8) (hdg : decode cc pc = .ok (.invokevirtual idx, 3)) (kk : ∀ (H1 : Heap) (locs1 : List Loc), WQ D cA a S X I H1 → va_S A0 H0 H1 locs1 → W p l e R s m args below meth c H1 locs1 cells slots Q (F0 m (pc + 3) ls (.int v :: rest))) : W p l e R s m args below meth c H locs cells slots Q (F0 m pc ls (.int 0 :: .int (nI u) :: .ref (a 20) :: rest)) := by
  subst hv
  exact hoI (qV (n := 2) (c_X9_go_0 l D cA a S X I (hd.sub hsub) u hu) C0 hlink im_X9_go se_X9_go in_X9 co_X9_go ⟨rfl, by decide⟩ hR hK hP (hd.1 _ (hsub _ (by decide))) rfl rfl rfl hls hrest rfl hdg hcs) hS hA (fun r S1 X1 H1 locs1 hp hP1 hS1 => by obtain ⟨rfl, rfl, rfl⟩ := hp; exact kk H1 locs1 hP1 hS1)
set_option maxHeartbeats 4000000 in
set_option maxRecDepth 100000 in
theorem c_X9_go_1 (l : Launch) (D : va_G) (cA : ClassId) (a : Adr) (S X : Mem) (I : Nat → Prop) (hd : Hd nM a I) (u : Nat) (hu : u < 6) : NI l yX9_go cX9_go 3 (some .int) 0 0 D cA a S X I [.ref (a 20), .int (nI u), .int 1] (fun r S1 X1 => r = (S 17 u) ∧ S1 = S ∧ X1 = X) := by
  refine nGo (by decide) (Nat.le_of_ble_eq_true rfl) ?_
  intro p e s m args below meth c ls C0 hr hlk hK hP hS hl hargs
  obtain ⟨H, hHe⟩ : ∃ H, H = s.heap := ⟨_, rfl⟩
  obtain ⟨locs, hlo⟩ : ∃ L : List Loc, L = [] := ⟨_, rfl⟩
  have hP : WQ D cA a S X I H := hHe ▸ hP
  have hS : va_S (AI a I) s.heap H locs := by rw [hHe, hlo]; exact hS
  rw [← hHe, ← hlo]
  have hA : ∀ q, AI a I q → AI a I q := fun _ h => h
  refine lv_aload_n C0.1 C0.2.1 dX9_go_0 rfl (lv_at hl 0 rfl) ?_
  refine g20 C0 hK hP (hd.1 _ (by decide)) 10 (by decide) fl_X9_25 rfl dX9_go_1 ?_
  refine lv_iconst (v := 4) C0.1 C0.2.1 dX9_go_4 (by decide) ?_
  refine lv_iload_n C0.1 C0.2.1 dX9_go_5 rfl (lv_at hl 1 rfl) ?_
  refine lv_imul C0.1 C0.2.1 dX9_go_6 ?_
  refine lv_iload_n C0.1 C0.2.1 dX9_go_7 rfl (lv_at hl 2 rfl) ?_
  refine lv_iadd C0.1 C0.2.1 dX9_go_8 ?_
  rw [show (4 : Int32) * nI u + 1 = nI (4 * u + 1) from pk_ix3 4 u 1]
  refine mld (k := 5) (by decide) C0 hK hP (hd.1 _ (by decide)) (v := S 17 u) (vp_in_nI (show 4 * u + 1 < 24 by omega) (by decide)) (by rw [nI_clamp (by omega)]; exact rw5 _ _ (by omega)) dX9_go_9 ?_
  exact rtI C0 hr hlk hP hS ⟨rfl, rfl, rfl⟩ dX9_go_10
theorem k_X9_go_1 {n : List Nat} (hd : Hd n a I) (hsub : ∀ k ∈ nM, k ∈ n) (C0 : CallFix p m c cc nL s args GW own) (hK : KK D cA s) (hP : WQ D cA a S X I H) {u : Nat} (hu : u < 6) {v : Int32} (hv : (S 17 u) = v) (hS : va_S A0 H0 H locs) (hA : ∀ q, AI a I q → A0 q) (hls : ls.size = nL) {idx : Nat} (hlink : Cond.methodLink own idx yX9_go ∈ GW) (hR : 1 ≤ R.frames ∧ 22 ≤ R.locals) (hcs : cells ≤ R.cells ∧ slots ≤ R.slots) (hrest : (rest.map fun v => v.category).sum ≤ 8) (hdg : decode cc pc = .ok (.invokevirtual idx, 3)) (kk : ∀ (H1 : Heap) (locs1 : List Loc), WQ D cA a S X I H1 → va_S A0 H0 H1 locs1 → W p l e R s m args below meth c H1 locs1 cells slots Q (F0 m (pc + 3) ls (.int v :: rest))) : W p l e R s m args below meth c H locs cells slots Q (F0 m pc ls (.int 1 :: .int (nI u) :: .ref (a 20) :: rest)) := by
  subst hv
  exact hoI (qV (n := 2) (c_X9_go_1 l D cA a S X I (hd.sub hsub) u hu) C0 hlink im_X9_go se_X9_go in_X9 co_X9_go ⟨rfl, by decide⟩ hR hK hP (hd.1 _ (hsub _ (by decide))) rfl rfl rfl hls hrest rfl hdg hcs) hS hA (fun r S1 X1 H1 locs1 hp hP1 hS1 => by obtain ⟨rfl, rfl, rfl⟩ := hp; exact kk H1 locs1 hP1 hS1)
set_option maxHeartbeats 4000000 in
set_option maxRecDepth 100000 in
theorem c_X9_go_2 (l : Launch) (D : va_G) (cA : ClassId) (a : Adr) (S X : Mem) (I : Nat → Prop) (hd : Hd nM a I) (u : Nat) (hu : u < 6) : NI l yX9_go cX9_go 3 (some .int) 0 0 D cA a S X I [.ref (a 20), .int (nI u), .int 2] (fun r S1 X1 => r = (S 18 u) ∧ S1 = S ∧ X1 = X) := by
  refine nGo (by decide) (Nat.le_of_ble_eq_true rfl) ?_
  intro p e s m args below meth c ls C0 hr hlk hK hP hS hl hargs
  obtain ⟨H, hHe⟩ : ∃ H, H = s.heap := ⟨_, rfl⟩
  obtain ⟨locs, hlo⟩ : ∃ L : List Loc, L = [] := ⟨_, rfl⟩
  have hP : WQ D cA a S X I H := hHe ▸ hP
  have hS : va_S (AI a I) s.heap H locs := by rw [hHe, hlo]; exact hS
  rw [← hHe, ← hlo]
  have hA : ∀ q, AI a I q → AI a I q := fun _ h => h
  refine lv_aload_n C0.1 C0.2.1 dX9_go_0 rfl (lv_at hl 0 rfl) ?_
  refine g20 C0 hK hP (hd.1 _ (by decide)) 10 (by decide) fl_X9_25 rfl dX9_go_1 ?_
  refine lv_iconst (v := 4) C0.1 C0.2.1 dX9_go_4 (by decide) ?_
  refine lv_iload_n C0.1 C0.2.1 dX9_go_5 rfl (lv_at hl 1 rfl) ?_
  refine lv_imul C0.1 C0.2.1 dX9_go_6 ?_
  refine lv_iload_n C0.1 C0.2.1 dX9_go_7 rfl (lv_at hl 2 rfl) ?_
  refine lv_iadd C0.1 C0.2.1 dX9_go_8 ?_
  rw [show (4 : Int32) * nI u + 2 = nI (4 * u + 2) from pk_ix3 4 u 2]
  refine mld (k := 5) (by decide) C0 hK hP (hd.1 _ (by decide)) (v := S 18 u) (vp_in_nI (show 4 * u + 2 < 24 by omega) (by decide)) (by rw [nI_clamp (by omega)]; exact rw5 _ _ (by omega)) dX9_go_9 ?_
  exact rtI C0 hr hlk hP hS ⟨rfl, rfl, rfl⟩ dX9_go_10
theorem k_X9_go_2 {n : List Nat} (hd : Hd n a I) (hsub : ∀ k ∈ nM, k ∈ n) (C0 : CallFix p m c cc nL s args GW own) (hK : KK D cA s) (hP : WQ D cA a S X I H) {u : Nat} (hu : u < 6) {v : Int32} (hv : (S 18 u) = v) (hS : va_S A0 H0 H locs) (hA : ∀ q, AI a I q → A0 q) (hls : ls.size = nL) {idx : Nat} (hlink : Cond.methodLink own idx yX9_go ∈ GW) (hR : 1 ≤ R.frames ∧ 22 ≤ R.locals) (hcs : cells ≤ R.cells ∧ slots ≤ R.slots) (hrest : (rest.map fun v => v.category).sum ≤ 8) (hdg : decode cc pc = .ok (.invokevirtual idx, 3)) (kk : ∀ (H1 : Heap) (locs1 : List Loc), WQ D cA a S X I H1 → va_S A0 H0 H1 locs1 → W p l e R s m args below meth c H1 locs1 cells slots Q (F0 m (pc + 3) ls (.int v :: rest))) : W p l e R s m args below meth c H locs cells slots Q (F0 m pc ls (.int 2 :: .int (nI u) :: .ref (a 20) :: rest)) := by
  subst hv
  exact hoI (qV (n := 2) (c_X9_go_2 l D cA a S X I (hd.sub hsub) u hu) C0 hlink im_X9_go se_X9_go in_X9 co_X9_go ⟨rfl, by decide⟩ hR hK hP (hd.1 _ (hsub _ (by decide))) rfl rfl rfl hls hrest rfl hdg hcs) hS hA (fun r S1 X1 H1 locs1 hp hP1 hS1 => by obtain ⟨rfl, rfl, rfl⟩ := hp; exact kk H1 locs1 hP1 hS1)
set_option maxHeartbeats 4000000 in
set_option maxRecDepth 100000 in
theorem c_X9_go_3 (l : Launch) (D : va_G) (cA : ClassId) (a : Adr) (S X : Mem) (I : Nat → Prop) (hd : Hd nM a I) (u : Nat) (hu : u < 6) : NI l yX9_go cX9_go 3 (some .int) 0 0 D cA a S X I [.ref (a 20), .int (nI u), .int 3] (fun r S1 X1 => r = (S 19 u) ∧ S1 = S ∧ X1 = X) := by
  refine nGo (by decide) (Nat.le_of_ble_eq_true rfl) ?_
  intro p e s m args below meth c ls C0 hr hlk hK hP hS hl hargs
  obtain ⟨H, hHe⟩ : ∃ H, H = s.heap := ⟨_, rfl⟩
  obtain ⟨locs, hlo⟩ : ∃ L : List Loc, L = [] := ⟨_, rfl⟩
  have hP : WQ D cA a S X I H := hHe ▸ hP
  have hS : va_S (AI a I) s.heap H locs := by rw [hHe, hlo]; exact hS
  rw [← hHe, ← hlo]
  have hA : ∀ q, AI a I q → AI a I q := fun _ h => h
  refine lv_aload_n C0.1 C0.2.1 dX9_go_0 rfl (lv_at hl 0 rfl) ?_
  refine g20 C0 hK hP (hd.1 _ (by decide)) 10 (by decide) fl_X9_25 rfl dX9_go_1 ?_
  refine lv_iconst (v := 4) C0.1 C0.2.1 dX9_go_4 (by decide) ?_
  refine lv_iload_n C0.1 C0.2.1 dX9_go_5 rfl (lv_at hl 1 rfl) ?_
  refine lv_imul C0.1 C0.2.1 dX9_go_6 ?_
  refine lv_iload_n C0.1 C0.2.1 dX9_go_7 rfl (lv_at hl 2 rfl) ?_
  refine lv_iadd C0.1 C0.2.1 dX9_go_8 ?_
  rw [show (4 : Int32) * nI u + 3 = nI (4 * u + 3) from pk_ix3 4 u 3]
  refine mld (k := 5) (by decide) C0 hK hP (hd.1 _ (by decide)) (v := S 19 u) (vp_in_nI (show 4 * u + 3 < 24 by omega) (by decide)) (by rw [nI_clamp (by omega)]; exact rw5 _ _ (by omega)) dX9_go_9 ?_
  exact rtI C0 hr hlk hP hS ⟨rfl, rfl, rfl⟩ dX9_go_10
theorem k_X9_go_3 {n : List Nat} (hd : Hd n a I) (hsub : ∀ k ∈ nM, k ∈ n) (C0 : CallFix p m c cc nL s args GW own) (hK : KK D cA s) (hP : WQ D cA a S X I H) {u : Nat} (hu : u < 6) {v : Int32} (hv : (S 19 u) = v) (hS : va_S A0 H0 H locs) (hA : ∀ q, AI a I q → A0 q) (hls : ls.size = nL) {idx : Nat} (hlink : Cond.methodLink own idx yX9_go ∈ GW) (hR : 1 ≤ R.frames ∧ 22 ≤ R.locals) (hcs : cells ≤ R.cells ∧ slots ≤ R.slots) (hrest : (rest.map fun v => v.category).sum ≤ 8) (hdg : decode cc pc = .ok (.invokevirtual idx, 3)) (kk : ∀ (H1 : Heap) (locs1 : List Loc), WQ D cA a S X I H1 → va_S A0 H0 H1 locs1 → W p l e R s m args below meth c H1 locs1 cells slots Q (F0 m (pc + 3) ls (.int v :: rest))) : W p l e R s m args below meth c H locs cells slots Q (F0 m pc ls (.int 3 :: .int (nI u) :: .ref (a 20) :: rest)) := by
  subst hv
  exact hoI (qV (n := 2) (c_X9_go_3 l D cA a S X I (hd.sub hsub) u hu) C0 hlink im_X9_go se_X9_go in_X9 co_X9_go ⟨rfl, by decide⟩ hR hK hP (hd.1 _ (hsub _ (by decide))) rfl rfl rfl hls hrest rfl hdg hcs) hS hA (fun r S1 X1 H1 locs1 hp hP1 hS1 => by obtain ⟨rfl, rfl, rfl⟩ := hp; exact kk H1 locs1 hP1 hS1)
set_option maxHeartbeats 4000000 in
set_option maxRecDepth 100000 in
theorem c_X9_who_0 (l : Launch) (D : va_G) (cA : ClassId) (a : Adr) (S X : Mem) (I : Nat → Prop) (hd : Hd nM a I) (u : Nat) (hu : u < 30) : NI l yX9_who cX9_who 3 (some .int) 0 0 D cA a S X I [.ref (a 20), .int (nI u), .int 0] (fun r S1 X1 => r = (S 20 u) ∧ S1 = S ∧ X1 = X) := by
  refine nGo (by decide) (Nat.le_of_ble_eq_true rfl) ?_
  intro p e s m args below meth c ls C0 hr hlk hK hP hS hl hargs
  obtain ⟨H, hHe⟩ : ∃ H, H = s.heap := ⟨_, rfl⟩
  obtain ⟨locs, hlo⟩ : ∃ L : List Loc, L = [] := ⟨_, rfl⟩
  have hP : WQ D cA a S X I H := hHe ▸ hP
  have hS : va_S (AI a I) s.heap H locs := by rw [hHe, hlo]; exact hS
  rw [← hHe, ← hlo]
  have hA : ∀ q, AI a I q → AI a I q := fun _ h => h
  refine lv_aload_n C0.1 C0.2.1 dX9_who_0 rfl (lv_at hl 0 rfl) ?_
  refine g20 C0 hK hP (hd.1 _ (by decide)) 11 (by decide) fl_X9_28 rfl dX9_who_1 ?_
  refine lv_iconst (v := 5) C0.1 C0.2.1 dX9_who_4 (by decide) ?_
  refine lv_iload_n C0.1 C0.2.1 dX9_who_5 rfl (lv_at hl 1 rfl) ?_
  refine lv_imul C0.1 C0.2.1 dX9_who_6 ?_
  refine lv_iload_n C0.1 C0.2.1 dX9_who_7 rfl (lv_at hl 2 rfl) ?_
  refine lv_iadd C0.1 C0.2.1 dX9_who_8 ?_
  rw [show (5 : Int32) * nI u + 0 = nI (5 * u + 0) from pk_ix3 5 u 0]
  refine mld (k := 6) (by decide) C0 hK hP (hd.1 _ (by decide)) (v := S 20 u) (vp_in_nI (show 5 * u + 0 < 150 by omega) (by decide)) (by rw [nI_clamp (by omega)]; exact rw6 _ _ (by omega)) dX9_who_9 ?_
  exact rtI C0 hr hlk hP hS ⟨rfl, rfl, rfl⟩ dX9_who_10
theorem k_X9_who_0 {n : List Nat} (hd : Hd n a I) (hsub : ∀ k ∈ nM, k ∈ n) (C0 : CallFix p m c cc nL s args GW own) (hK : KK D cA s) (hP : WQ D cA a S X I H) {u : Nat} (hu : u < 30) {v : Int32} (hv : (S 20 u) = v) (hS : va_S A0 H0 H locs) (hA : ∀ q, AI a I q → A0 q) (hls : ls.size = nL) {idx : Nat} (hlink : Cond.methodLink own idx yX9_who ∈ GW) (hR : 1 ≤ R.frames ∧ 22 ≤ R.locals) (hcs : cells ≤ R.cells ∧ slots ≤ R.slots) (hrest : (rest.map fun v => v.category).sum ≤ 8) (hdg : decode cc pc = .ok (.invokevirtual idx, 3)) (kk : ∀ (H1 : Heap) (locs1 : List Loc), WQ D cA a S X I H1 → va_S A0 H0 H1 locs1 → W p l e R s m args below meth c H1 locs1 cells slots Q (F0 m (pc + 3) ls (.int v :: rest))) : W p l e R s m args below meth c H locs cells slots Q (F0 m pc ls (.int 0 :: .int (nI u) :: .ref (a 20) :: rest)) := by
  subst hv
  exact hoI (qV (n := 2) (c_X9_who_0 l D cA a S X I (hd.sub hsub) u hu) C0 hlink im_X9_who se_X9_who in_X9 co_X9_who ⟨rfl, by decide⟩ hR hK hP (hd.1 _ (hsub _ (by decide))) rfl rfl rfl hls hrest rfl hdg hcs) hS hA (fun r S1 X1 H1 locs1 hp hP1 hS1 => by obtain ⟨rfl, rfl, rfl⟩ := hp; exact kk H1 locs1 hP1 hS1)
set_option maxHeartbeats 4000000 in
set_option maxRecDepth 100000 in
theorem c_X9_who_1 (l : Launch) (D : va_G) (cA : ClassId) (a : Adr) (S X : Mem) (I : Nat → Prop) (hd : Hd nM a I) (u : Nat) (hu : u < 30) : NI l yX9_who cX9_who 3 (some .int) 0 0 D cA a S X I [.ref (a 20), .int (nI u), .int 1] (fun r S1 X1 => r = (S 21 u) ∧ S1 = S ∧ X1 = X) := by
  refine nGo (by decide) (Nat.le_of_ble_eq_true rfl) ?_
  intro p e s m args below meth c ls C0 hr hlk hK hP hS hl hargs
  obtain ⟨H, hHe⟩ : ∃ H, H = s.heap := ⟨_, rfl⟩
  obtain ⟨locs, hlo⟩ : ∃ L : List Loc, L = [] := ⟨_, rfl⟩
  have hP : WQ D cA a S X I H := hHe ▸ hP
  have hS : va_S (AI a I) s.heap H locs := by rw [hHe, hlo]; exact hS
  rw [← hHe, ← hlo]
  have hA : ∀ q, AI a I q → AI a I q := fun _ h => h
  refine lv_aload_n C0.1 C0.2.1 dX9_who_0 rfl (lv_at hl 0 rfl) ?_
  refine g20 C0 hK hP (hd.1 _ (by decide)) 11 (by decide) fl_X9_28 rfl dX9_who_1 ?_
  refine lv_iconst (v := 5) C0.1 C0.2.1 dX9_who_4 (by decide) ?_
  refine lv_iload_n C0.1 C0.2.1 dX9_who_5 rfl (lv_at hl 1 rfl) ?_
  refine lv_imul C0.1 C0.2.1 dX9_who_6 ?_
  refine lv_iload_n C0.1 C0.2.1 dX9_who_7 rfl (lv_at hl 2 rfl) ?_
  refine lv_iadd C0.1 C0.2.1 dX9_who_8 ?_
  rw [show (5 : Int32) * nI u + 1 = nI (5 * u + 1) from pk_ix3 5 u 1]
  refine mld (k := 6) (by decide) C0 hK hP (hd.1 _ (by decide)) (v := S 21 u) (vp_in_nI (show 5 * u + 1 < 150 by omega) (by decide)) (by rw [nI_clamp (by omega)]; exact rw6 _ _ (by omega)) dX9_who_9 ?_
  exact rtI C0 hr hlk hP hS ⟨rfl, rfl, rfl⟩ dX9_who_10
theorem k_X9_who_1 {n : List Nat} (hd : Hd n a I) (hsub : ∀ k ∈ nM, k ∈ n) (C0 : CallFix p m c cc nL s args GW own) (hK : KK D cA s) (hP : WQ D cA a S X I H) {u : Nat} (hu : u < 30) {v : Int32} (hv : (S 21 u) = v) (hS : va_S A0 H0 H locs) (hA : ∀ q, AI a I q → A0 q) (hls : ls.size = nL) {idx : Nat} (hlink : Cond.methodLink own idx yX9_who ∈ GW) (hR : 1 ≤ R.frames ∧ 22 ≤ R.locals) (hcs : cells ≤ R.cells ∧ slots ≤ R.slots) (hrest : (rest.map fun v => v.category).sum ≤ 8) (hdg : decode cc pc = .ok (.invokevirtual idx, 3)) (kk : ∀ (H1 : Heap) (locs1 : List Loc), WQ D cA a S X I H1 → va_S A0 H0 H1 locs1 → W p l e R s m args below meth c H1 locs1 cells slots Q (F0 m (pc + 3) ls (.int v :: rest))) : W p l e R s m args below meth c H locs cells slots Q (F0 m pc ls (.int 1 :: .int (nI u) :: .ref (a 20) :: rest)) := by
  subst hv
  exact hoI (qV (n := 2) (c_X9_who_1 l D cA a S X I (hd.sub hsub) u hu) C0 hlink im_X9_who se_X9_who in_X9 co_X9_who ⟨rfl, by decide⟩ hR hK hP (hd.1 _ (hsub _ (by decide))) rfl rfl rfl hls hrest rfl hdg hcs) hS hA (fun r S1 X1 H1 locs1 hp hP1 hS1 => by obtain ⟨rfl, rfl, rfl⟩ := hp; exact kk H1 locs1 hP1 hS1)
set_option maxHeartbeats 4000000 in
set_option maxRecDepth 100000 in
theorem c_X9_who_2 (l : Launch) (D : va_G) (cA : ClassId) (a : Adr) (S X : Mem) (I : Nat → Prop) (hd : Hd nM a I) (u : Nat) (hu : u < 30) : NI l yX9_who cX9_who 3 (some .int) 0 0 D cA a S X I [.ref (a 20), .int (nI u), .int 2] (fun r S1 X1 => r = (S 22 u) ∧ S1 = S ∧ X1 = X) := by
  refine nGo (by decide) (Nat.le_of_ble_eq_true rfl) ?_
  intro p e s m args below meth c ls C0 hr hlk hK hP hS hl hargs
  obtain ⟨H, hHe⟩ : ∃ H, H = s.heap := ⟨_, rfl⟩
  obtain ⟨locs, hlo⟩ : ∃ L : List Loc, L = [] := ⟨_, rfl⟩
  have hP : WQ D cA a S X I H := hHe ▸ hP
  have hS : va_S (AI a I) s.heap H locs := by rw [hHe, hlo]; exact hS
  rw [← hHe, ← hlo]
  have hA : ∀ q, AI a I q → AI a I q := fun _ h => h
  refine lv_aload_n C0.1 C0.2.1 dX9_who_0 rfl (lv_at hl 0 rfl) ?_
  refine g20 C0 hK hP (hd.1 _ (by decide)) 11 (by decide) fl_X9_28 rfl dX9_who_1 ?_
  refine lv_iconst (v := 5) C0.1 C0.2.1 dX9_who_4 (by decide) ?_
  refine lv_iload_n C0.1 C0.2.1 dX9_who_5 rfl (lv_at hl 1 rfl) ?_
  refine lv_imul C0.1 C0.2.1 dX9_who_6 ?_
  refine lv_iload_n C0.1 C0.2.1 dX9_who_7 rfl (lv_at hl 2 rfl) ?_
  refine lv_iadd C0.1 C0.2.1 dX9_who_8 ?_
  rw [show (5 : Int32) * nI u + 2 = nI (5 * u + 2) from pk_ix3 5 u 2]
  refine mld (k := 6) (by decide) C0 hK hP (hd.1 _ (by decide)) (v := S 22 u) (vp_in_nI (show 5 * u + 2 < 150 by omega) (by decide)) (by rw [nI_clamp (by omega)]; exact rw6 _ _ (by omega)) dX9_who_9 ?_
  exact rtI C0 hr hlk hP hS ⟨rfl, rfl, rfl⟩ dX9_who_10
theorem k_X9_who_2 {n : List Nat} (hd : Hd n a I) (hsub : ∀ k ∈ nM, k ∈ n) (C0 : CallFix p m c cc nL s args GW own) (hK : KK D cA s) (hP : WQ D cA a S X I H) {u : Nat} (hu : u < 30) {v : Int32} (hv : (S 22 u) = v) (hS : va_S A0 H0 H locs) (hA : ∀ q, AI a I q → A0 q) (hls : ls.size = nL) {idx : Nat} (hlink : Cond.methodLink own idx yX9_who ∈ GW) (hR : 1 ≤ R.frames ∧ 22 ≤ R.locals) (hcs : cells ≤ R.cells ∧ slots ≤ R.slots) (hrest : (rest.map fun v => v.category).sum ≤ 8) (hdg : decode cc pc = .ok (.invokevirtual idx, 3)) (kk : ∀ (H1 : Heap) (locs1 : List Loc), WQ D cA a S X I H1 → va_S A0 H0 H1 locs1 → W p l e R s m args below meth c H1 locs1 cells slots Q (F0 m (pc + 3) ls (.int v :: rest))) : W p l e R s m args below meth c H locs cells slots Q (F0 m pc ls (.int 2 :: .int (nI u) :: .ref (a 20) :: rest)) := by
  subst hv
  exact hoI (qV (n := 2) (c_X9_who_2 l D cA a S X I (hd.sub hsub) u hu) C0 hlink im_X9_who se_X9_who in_X9 co_X9_who ⟨rfl, by decide⟩ hR hK hP (hd.1 _ (hsub _ (by decide))) rfl rfl rfl hls hrest rfl hdg hcs) hS hA (fun r S1 X1 H1 locs1 hp hP1 hS1 => by obtain ⟨rfl, rfl, rfl⟩ := hp; exact kk H1 locs1 hP1 hS1)
set_option maxHeartbeats 4000000 in
set_option maxRecDepth 100000 in
theorem c_X9_who_3 (l : Launch) (D : va_G) (cA : ClassId) (a : Adr) (S X : Mem) (I : Nat → Prop) (hd : Hd nM a I) (u : Nat) (hu : u < 30) : NI l yX9_who cX9_who 3 (some .int) 0 0 D cA a S X I [.ref (a 20), .int (nI u), .int 3] (fun r S1 X1 => r = (S 23 u) ∧ S1 = S ∧ X1 = X) := by
  refine nGo (by decide) (Nat.le_of_ble_eq_true rfl) ?_
  intro p e s m args below meth c ls C0 hr hlk hK hP hS hl hargs
  obtain ⟨H, hHe⟩ : ∃ H, H = s.heap := ⟨_, rfl⟩
  obtain ⟨locs, hlo⟩ : ∃ L : List Loc, L = [] := ⟨_, rfl⟩
  have hP : WQ D cA a S X I H := hHe ▸ hP
  have hS : va_S (AI a I) s.heap H locs := by rw [hHe, hlo]; exact hS
  rw [← hHe, ← hlo]
  have hA : ∀ q, AI a I q → AI a I q := fun _ h => h
  refine lv_aload_n C0.1 C0.2.1 dX9_who_0 rfl (lv_at hl 0 rfl) ?_
  refine g20 C0 hK hP (hd.1 _ (by decide)) 11 (by decide) fl_X9_28 rfl dX9_who_1 ?_
  refine lv_iconst (v := 5) C0.1 C0.2.1 dX9_who_4 (by decide) ?_
  refine lv_iload_n C0.1 C0.2.1 dX9_who_5 rfl (lv_at hl 1 rfl) ?_
  refine lv_imul C0.1 C0.2.1 dX9_who_6 ?_
  refine lv_iload_n C0.1 C0.2.1 dX9_who_7 rfl (lv_at hl 2 rfl) ?_
  refine lv_iadd C0.1 C0.2.1 dX9_who_8 ?_
  rw [show (5 : Int32) * nI u + 3 = nI (5 * u + 3) from pk_ix3 5 u 3]
  refine mld (k := 6) (by decide) C0 hK hP (hd.1 _ (by decide)) (v := S 23 u) (vp_in_nI (show 5 * u + 3 < 150 by omega) (by decide)) (by rw [nI_clamp (by omega)]; exact rw6 _ _ (by omega)) dX9_who_9 ?_
  exact rtI C0 hr hlk hP hS ⟨rfl, rfl, rfl⟩ dX9_who_10
theorem k_X9_who_3 {n : List Nat} (hd : Hd n a I) (hsub : ∀ k ∈ nM, k ∈ n) (C0 : CallFix p m c cc nL s args GW own) (hK : KK D cA s) (hP : WQ D cA a S X I H) {u : Nat} (hu : u < 30) {v : Int32} (hv : (S 23 u) = v) (hS : va_S A0 H0 H locs) (hA : ∀ q, AI a I q → A0 q) (hls : ls.size = nL) {idx : Nat} (hlink : Cond.methodLink own idx yX9_who ∈ GW) (hR : 1 ≤ R.frames ∧ 22 ≤ R.locals) (hcs : cells ≤ R.cells ∧ slots ≤ R.slots) (hrest : (rest.map fun v => v.category).sum ≤ 8) (hdg : decode cc pc = .ok (.invokevirtual idx, 3)) (kk : ∀ (H1 : Heap) (locs1 : List Loc), WQ D cA a S X I H1 → va_S A0 H0 H1 locs1 → W p l e R s m args below meth c H1 locs1 cells slots Q (F0 m (pc + 3) ls (.int v :: rest))) : W p l e R s m args below meth c H locs cells slots Q (F0 m pc ls (.int 3 :: .int (nI u) :: .ref (a 20) :: rest)) := by
  subst hv
  exact hoI (qV (n := 2) (c_X9_who_3 l D cA a S X I (hd.sub hsub) u hu) C0 hlink im_X9_who se_X9_who in_X9 co_X9_who ⟨rfl, by decide⟩ hR hK hP (hd.1 _ (hsub _ (by decide))) rfl rfl rfl hls hrest rfl hdg hcs) hS hA (fun r S1 X1 H1 locs1 hp hP1 hS1 => by obtain ⟨rfl, rfl, rfl⟩ := hp; exact kk H1 locs1 hP1 hS1)
set_option maxHeartbeats 4000000 in
set_option maxRecDepth 100000 in
theorem c_X9_who_4 (l : Launch) (D : va_G) (cA : ClassId) (a : Adr) (S X : Mem) (I : Nat → Prop) (hd : Hd nM a I) (u : Nat) (hu : u < 30) : NI l yX9_who cX9_who 3 (some .int) 0 0 D cA a S X I [.ref (a 20), .int (nI u), .int 4] (fun r S1 X1 => r = (S 24 u) ∧ S1 = S ∧ X1 = X) := by
  refine nGo (by decide) (Nat.le_of_ble_eq_true rfl) ?_
  intro p e s m args below meth c ls C0 hr hlk hK hP hS hl hargs
  obtain ⟨H, hHe⟩ : ∃ H, H = s.heap := ⟨_, rfl⟩
  obtain ⟨locs, hlo⟩ : ∃ L : List Loc, L = [] := ⟨_, rfl⟩
  have hP : WQ D cA a S X I H := hHe ▸ hP
  have hS : va_S (AI a I) s.heap H locs := by rw [hHe, hlo]; exact hS
  rw [← hHe, ← hlo]
  have hA : ∀ q, AI a I q → AI a I q := fun _ h => h
  refine lv_aload_n C0.1 C0.2.1 dX9_who_0 rfl (lv_at hl 0 rfl) ?_
  refine g20 C0 hK hP (hd.1 _ (by decide)) 11 (by decide) fl_X9_28 rfl dX9_who_1 ?_
  refine lv_iconst (v := 5) C0.1 C0.2.1 dX9_who_4 (by decide) ?_
  refine lv_iload_n C0.1 C0.2.1 dX9_who_5 rfl (lv_at hl 1 rfl) ?_
  refine lv_imul C0.1 C0.2.1 dX9_who_6 ?_
  refine lv_iload_n C0.1 C0.2.1 dX9_who_7 rfl (lv_at hl 2 rfl) ?_
  refine lv_iadd C0.1 C0.2.1 dX9_who_8 ?_
  rw [show (5 : Int32) * nI u + 4 = nI (5 * u + 4) from pk_ix3 5 u 4]
  refine mld (k := 6) (by decide) C0 hK hP (hd.1 _ (by decide)) (v := S 24 u) (vp_in_nI (show 5 * u + 4 < 150 by omega) (by decide)) (by rw [nI_clamp (by omega)]; exact rw6 _ _ (by omega)) dX9_who_9 ?_
  exact rtI C0 hr hlk hP hS ⟨rfl, rfl, rfl⟩ dX9_who_10
theorem k_X9_who_4 {n : List Nat} (hd : Hd n a I) (hsub : ∀ k ∈ nM, k ∈ n) (C0 : CallFix p m c cc nL s args GW own) (hK : KK D cA s) (hP : WQ D cA a S X I H) {u : Nat} (hu : u < 30) {v : Int32} (hv : (S 24 u) = v) (hS : va_S A0 H0 H locs) (hA : ∀ q, AI a I q → A0 q) (hls : ls.size = nL) {idx : Nat} (hlink : Cond.methodLink own idx yX9_who ∈ GW) (hR : 1 ≤ R.frames ∧ 22 ≤ R.locals) (hcs : cells ≤ R.cells ∧ slots ≤ R.slots) (hrest : (rest.map fun v => v.category).sum ≤ 8) (hdg : decode cc pc = .ok (.invokevirtual idx, 3)) (kk : ∀ (H1 : Heap) (locs1 : List Loc), WQ D cA a S X I H1 → va_S A0 H0 H1 locs1 → W p l e R s m args below meth c H1 locs1 cells slots Q (F0 m (pc + 3) ls (.int v :: rest))) : W p l e R s m args below meth c H locs cells slots Q (F0 m pc ls (.int 4 :: .int (nI u) :: .ref (a 20) :: rest)) := by
  subst hv
  exact hoI (qV (n := 2) (c_X9_who_4 l D cA a S X I (hd.sub hsub) u hu) C0 hlink im_X9_who se_X9_who in_X9 co_X9_who ⟨rfl, by decide⟩ hR hK hP (hd.1 _ (hsub _ (by decide))) rfl rfl rfl hls hrest rfl hdg hcs) hS hA (fun r S1 X1 H1 locs1 hp hP1 hS1 => by obtain ⟨rfl, rfl, rfl⟩ := hp; exact kk H1 locs1 hP1 hS1)
set_option maxHeartbeats 4000000 in
set_option maxRecDepth 100000 in
theorem c_X9_setGo_0 (l : Launch) (D : va_G) (cA : ClassId) (a : Adr) (S X : Mem) (I : Nat → Prop) (hd : Hd nM a I) (u : Nat) (x : Int32) (hu : u < 6) : NV l yX9_setGo cX9_setGo 4 none 0 0 D cA a S X I [.ref (a 20), .int (nI u), .int 0, .int x] (fun S1 X1 => S1 = (up S 16 (upd (S 16) u x)) ∧ X1 = X) := by
  refine nGo (by decide) (Nat.le_of_ble_eq_true rfl) ?_
  intro p e s m args below meth c ls C0 hr hlk hK hP hS hl hargs
  obtain ⟨H, hHe⟩ : ∃ H, H = s.heap := ⟨_, rfl⟩
  obtain ⟨locs, hlo⟩ : ∃ L : List Loc, L = [] := ⟨_, rfl⟩
  have hP : WQ D cA a S X I H := hHe ▸ hP
  have hS : va_S (AI a I) s.heap H locs := by rw [hHe, hlo]; exact hS
  rw [← hHe, ← hlo]
  have hA : ∀ q, AI a I q → AI a I q := fun _ h => h
  refine lv_aload_n C0.1 C0.2.1 dX9_setGo_0 rfl (lv_at hl 0 rfl) ?_
  refine g20 C0 hK hP (hd.1 _ (by decide)) 10 (by decide) fl_X9_25 rfl dX9_setGo_1 ?_
  refine lv_iconst (v := 4) C0.1 C0.2.1 dX9_setGo_4 (by decide) ?_
  refine lv_iload_n C0.1 C0.2.1 dX9_setGo_5 rfl (lv_at hl 1 rfl) ?_
  refine lv_imul C0.1 C0.2.1 dX9_setGo_6 ?_
  refine lv_iload_n C0.1 C0.2.1 dX9_setGo_7 rfl (lv_at hl 2 rfl) ?_
  refine lv_iadd C0.1 C0.2.1 dX9_setGo_8 ?_
  refine lv_iload_n C0.1 C0.2.1 dX9_setGo_9 rfl (lv_at hl 3 rfl) ?_
  rw [show (4 : Int32) * nI u + 0 = nI (4 * u + 0) from pk_ix3 4 u 0]
  refine mst (k := 5) (by decide) C0 hK hP hS hA (hd.1 _ (by decide)) hd.2.2 (vp_in_nI (show 4 * u + 0 < 24 by omega) (by decide)) (up S 16 (upd (S 16) u x)) X (fun q9 => by rw [nI_clamp (by omega)]; exact st5 (u := u) (w := 0) _ _ _ (by omega) q9) (fun j9 _ h9 => cm_at (lo := 16) (hi := 20) (fun k9 h8 => up_ne (by omega)) (fun _ => rfl) (by omega) h9) dX9_setGo_10 (fun H locs hP hS => ?_)
  have hP : WQ D cA a (up S 16 (upd (S 16) u x)) X I H := hP
  exact rtV C0 hr hlk hP hS ⟨rfl, rfl⟩ dX9_setGo_11
theorem k_X9_setGo_0 {n : List Nat} (hd : Hd n a I) (hsub : ∀ k ∈ nM, k ∈ n) (C0 : CallFix p m c cc nL s args GW own) (hK : KK D cA s) (hP : WQ D cA a S X I H) {u : Nat} {x : Int32} (hu : u < 6) (hS : va_S A0 H0 H locs) (hA : ∀ q, AI a I q → A0 q) (hls : ls.size = nL) {idx : Nat} (hlink : Cond.methodLink own idx yX9_setGo ∈ GW) (hR : 1 ≤ R.frames ∧ 23 ≤ R.locals) (hcs : cells ≤ R.cells ∧ slots ≤ R.slots) (hrest : (rest.map fun v => v.category).sum ≤ 8) (hdg : decode cc pc = .ok (.invokevirtual idx, 3)) (kk : ∀ (H1 : Heap) (locs1 : List Loc), WQ D cA a (up S 16 (upd (S 16) u x)) X I H1 → va_S A0 H0 H1 locs1 → W p l e R s m args below meth c H1 locs1 cells slots Q (F0 m (pc + 3) ls rest)) : W p l e R s m args below meth c H locs cells slots Q (F0 m pc ls (.int x :: .int 0 :: .int (nI u) :: .ref (a 20) :: rest)) := by
  exact hoV (qV (n := 3) (c_X9_setGo_0 l D cA a S X I (hd.sub hsub) u x hu) C0 hlink im_X9_setGo se_X9_setGo in_X9 co_X9_setGo ⟨rfl, by decide⟩ hR hK hP (hd.1 _ (hsub _ (by decide))) rfl rfl rfl hls hrest rfl hdg hcs) hS hA (fun S1 X1 H1 locs1 hp hP1 hS1 => by obtain ⟨rfl, rfl⟩ := hp; exact kk H1 locs1 hP1 hS1)
set_option maxHeartbeats 4000000 in
set_option maxRecDepth 100000 in
theorem c_X9_setGo_1 (l : Launch) (D : va_G) (cA : ClassId) (a : Adr) (S X : Mem) (I : Nat → Prop) (hd : Hd nM a I) (u : Nat) (x : Int32) (hu : u < 6) : NV l yX9_setGo cX9_setGo 4 none 0 0 D cA a S X I [.ref (a 20), .int (nI u), .int 1, .int x] (fun S1 X1 => S1 = (up S 17 (upd (S 17) u x)) ∧ X1 = X) := by
  refine nGo (by decide) (Nat.le_of_ble_eq_true rfl) ?_
  intro p e s m args below meth c ls C0 hr hlk hK hP hS hl hargs
  obtain ⟨H, hHe⟩ : ∃ H, H = s.heap := ⟨_, rfl⟩
  obtain ⟨locs, hlo⟩ : ∃ L : List Loc, L = [] := ⟨_, rfl⟩
  have hP : WQ D cA a S X I H := hHe ▸ hP
  have hS : va_S (AI a I) s.heap H locs := by rw [hHe, hlo]; exact hS
  rw [← hHe, ← hlo]
  have hA : ∀ q, AI a I q → AI a I q := fun _ h => h
  refine lv_aload_n C0.1 C0.2.1 dX9_setGo_0 rfl (lv_at hl 0 rfl) ?_
  refine g20 C0 hK hP (hd.1 _ (by decide)) 10 (by decide) fl_X9_25 rfl dX9_setGo_1 ?_
  refine lv_iconst (v := 4) C0.1 C0.2.1 dX9_setGo_4 (by decide) ?_
  refine lv_iload_n C0.1 C0.2.1 dX9_setGo_5 rfl (lv_at hl 1 rfl) ?_
  refine lv_imul C0.1 C0.2.1 dX9_setGo_6 ?_
  refine lv_iload_n C0.1 C0.2.1 dX9_setGo_7 rfl (lv_at hl 2 rfl) ?_
  refine lv_iadd C0.1 C0.2.1 dX9_setGo_8 ?_
  refine lv_iload_n C0.1 C0.2.1 dX9_setGo_9 rfl (lv_at hl 3 rfl) ?_
  rw [show (4 : Int32) * nI u + 1 = nI (4 * u + 1) from pk_ix3 4 u 1]
  refine mst (k := 5) (by decide) C0 hK hP hS hA (hd.1 _ (by decide)) hd.2.2 (vp_in_nI (show 4 * u + 1 < 24 by omega) (by decide)) (up S 17 (upd (S 17) u x)) X (fun q9 => by rw [nI_clamp (by omega)]; exact st5 (u := u) (w := 1) _ _ _ (by omega) q9) (fun j9 _ h9 => cm_at (lo := 16) (hi := 20) (fun k9 h8 => up_ne (by omega)) (fun _ => rfl) (by omega) h9) dX9_setGo_10 (fun H locs hP hS => ?_)
  have hP : WQ D cA a (up S 17 (upd (S 17) u x)) X I H := hP
  exact rtV C0 hr hlk hP hS ⟨rfl, rfl⟩ dX9_setGo_11
theorem k_X9_setGo_1 {n : List Nat} (hd : Hd n a I) (hsub : ∀ k ∈ nM, k ∈ n) (C0 : CallFix p m c cc nL s args GW own) (hK : KK D cA s) (hP : WQ D cA a S X I H) {u : Nat} {x : Int32} (hu : u < 6) (hS : va_S A0 H0 H locs) (hA : ∀ q, AI a I q → A0 q) (hls : ls.size = nL) {idx : Nat} (hlink : Cond.methodLink own idx yX9_setGo ∈ GW) (hR : 1 ≤ R.frames ∧ 23 ≤ R.locals) (hcs : cells ≤ R.cells ∧ slots ≤ R.slots) (hrest : (rest.map fun v => v.category).sum ≤ 8) (hdg : decode cc pc = .ok (.invokevirtual idx, 3)) (kk : ∀ (H1 : Heap) (locs1 : List Loc), WQ D cA a (up S 17 (upd (S 17) u x)) X I H1 → va_S A0 H0 H1 locs1 → W p l e R s m args below meth c H1 locs1 cells slots Q (F0 m (pc + 3) ls rest)) : W p l e R s m args below meth c H locs cells slots Q (F0 m pc ls (.int x :: .int 1 :: .int (nI u) :: .ref (a 20) :: rest)) := by
  exact hoV (qV (n := 3) (c_X9_setGo_1 l D cA a S X I (hd.sub hsub) u x hu) C0 hlink im_X9_setGo se_X9_setGo in_X9 co_X9_setGo ⟨rfl, by decide⟩ hR hK hP (hd.1 _ (hsub _ (by decide))) rfl rfl rfl hls hrest rfl hdg hcs) hS hA (fun S1 X1 H1 locs1 hp hP1 hS1 => by obtain ⟨rfl, rfl⟩ := hp; exact kk H1 locs1 hP1 hS1)
set_option maxHeartbeats 4000000 in
set_option maxRecDepth 100000 in
theorem c_X9_setGo_2 (l : Launch) (D : va_G) (cA : ClassId) (a : Adr) (S X : Mem) (I : Nat → Prop) (hd : Hd nM a I) (u : Nat) (x : Int32) (hu : u < 6) : NV l yX9_setGo cX9_setGo 4 none 0 0 D cA a S X I [.ref (a 20), .int (nI u), .int 2, .int x] (fun S1 X1 => S1 = (up S 18 (upd (S 18) u x)) ∧ X1 = X) := by
  refine nGo (by decide) (Nat.le_of_ble_eq_true rfl) ?_
  intro p e s m args below meth c ls C0 hr hlk hK hP hS hl hargs
  obtain ⟨H, hHe⟩ : ∃ H, H = s.heap := ⟨_, rfl⟩
  obtain ⟨locs, hlo⟩ : ∃ L : List Loc, L = [] := ⟨_, rfl⟩
  have hP : WQ D cA a S X I H := hHe ▸ hP
  have hS : va_S (AI a I) s.heap H locs := by rw [hHe, hlo]; exact hS
  rw [← hHe, ← hlo]
  have hA : ∀ q, AI a I q → AI a I q := fun _ h => h
  refine lv_aload_n C0.1 C0.2.1 dX9_setGo_0 rfl (lv_at hl 0 rfl) ?_
  refine g20 C0 hK hP (hd.1 _ (by decide)) 10 (by decide) fl_X9_25 rfl dX9_setGo_1 ?_
  refine lv_iconst (v := 4) C0.1 C0.2.1 dX9_setGo_4 (by decide) ?_
  refine lv_iload_n C0.1 C0.2.1 dX9_setGo_5 rfl (lv_at hl 1 rfl) ?_
  refine lv_imul C0.1 C0.2.1 dX9_setGo_6 ?_
  refine lv_iload_n C0.1 C0.2.1 dX9_setGo_7 rfl (lv_at hl 2 rfl) ?_
  refine lv_iadd C0.1 C0.2.1 dX9_setGo_8 ?_
  refine lv_iload_n C0.1 C0.2.1 dX9_setGo_9 rfl (lv_at hl 3 rfl) ?_
  rw [show (4 : Int32) * nI u + 2 = nI (4 * u + 2) from pk_ix3 4 u 2]
  refine mst (k := 5) (by decide) C0 hK hP hS hA (hd.1 _ (by decide)) hd.2.2 (vp_in_nI (show 4 * u + 2 < 24 by omega) (by decide)) (up S 18 (upd (S 18) u x)) X (fun q9 => by rw [nI_clamp (by omega)]; exact st5 (u := u) (w := 2) _ _ _ (by omega) q9) (fun j9 _ h9 => cm_at (lo := 16) (hi := 20) (fun k9 h8 => up_ne (by omega)) (fun _ => rfl) (by omega) h9) dX9_setGo_10 (fun H locs hP hS => ?_)
  have hP : WQ D cA a (up S 18 (upd (S 18) u x)) X I H := hP
  exact rtV C0 hr hlk hP hS ⟨rfl, rfl⟩ dX9_setGo_11
theorem k_X9_setGo_2 {n : List Nat} (hd : Hd n a I) (hsub : ∀ k ∈ nM, k ∈ n) (C0 : CallFix p m c cc nL s args GW own) (hK : KK D cA s) (hP : WQ D cA a S X I H) {u : Nat} {x : Int32} (hu : u < 6) (hS : va_S A0 H0 H locs) (hA : ∀ q, AI a I q → A0 q) (hls : ls.size = nL) {idx : Nat} (hlink : Cond.methodLink own idx yX9_setGo ∈ GW) (hR : 1 ≤ R.frames ∧ 23 ≤ R.locals) (hcs : cells ≤ R.cells ∧ slots ≤ R.slots) (hrest : (rest.map fun v => v.category).sum ≤ 8) (hdg : decode cc pc = .ok (.invokevirtual idx, 3)) (kk : ∀ (H1 : Heap) (locs1 : List Loc), WQ D cA a (up S 18 (upd (S 18) u x)) X I H1 → va_S A0 H0 H1 locs1 → W p l e R s m args below meth c H1 locs1 cells slots Q (F0 m (pc + 3) ls rest)) : W p l e R s m args below meth c H locs cells slots Q (F0 m pc ls (.int x :: .int 2 :: .int (nI u) :: .ref (a 20) :: rest)) := by
  exact hoV (qV (n := 3) (c_X9_setGo_2 l D cA a S X I (hd.sub hsub) u x hu) C0 hlink im_X9_setGo se_X9_setGo in_X9 co_X9_setGo ⟨rfl, by decide⟩ hR hK hP (hd.1 _ (hsub _ (by decide))) rfl rfl rfl hls hrest rfl hdg hcs) hS hA (fun S1 X1 H1 locs1 hp hP1 hS1 => by obtain ⟨rfl, rfl⟩ := hp; exact kk H1 locs1 hP1 hS1)
set_option maxHeartbeats 4000000 in
set_option maxRecDepth 100000 in
theorem c_X9_setGo_3 (l : Launch) (D : va_G) (cA : ClassId) (a : Adr) (S X : Mem) (I : Nat → Prop) (hd : Hd nM a I) (u : Nat) (x : Int32) (hu : u < 6) : NV l yX9_setGo cX9_setGo 4 none 0 0 D cA a S X I [.ref (a 20), .int (nI u), .int 3, .int x] (fun S1 X1 => S1 = (up S 19 (upd (S 19) u x)) ∧ X1 = X) := by
  refine nGo (by decide) (Nat.le_of_ble_eq_true rfl) ?_
  intro p e s m args below meth c ls C0 hr hlk hK hP hS hl hargs
  obtain ⟨H, hHe⟩ : ∃ H, H = s.heap := ⟨_, rfl⟩
  obtain ⟨locs, hlo⟩ : ∃ L : List Loc, L = [] := ⟨_, rfl⟩
  have hP : WQ D cA a S X I H := hHe ▸ hP
  have hS : va_S (AI a I) s.heap H locs := by rw [hHe, hlo]; exact hS
  rw [← hHe, ← hlo]
  have hA : ∀ q, AI a I q → AI a I q := fun _ h => h
  refine lv_aload_n C0.1 C0.2.1 dX9_setGo_0 rfl (lv_at hl 0 rfl) ?_
  refine g20 C0 hK hP (hd.1 _ (by decide)) 10 (by decide) fl_X9_25 rfl dX9_setGo_1 ?_
  refine lv_iconst (v := 4) C0.1 C0.2.1 dX9_setGo_4 (by decide) ?_
  refine lv_iload_n C0.1 C0.2.1 dX9_setGo_5 rfl (lv_at hl 1 rfl) ?_
  refine lv_imul C0.1 C0.2.1 dX9_setGo_6 ?_
  refine lv_iload_n C0.1 C0.2.1 dX9_setGo_7 rfl (lv_at hl 2 rfl) ?_
  refine lv_iadd C0.1 C0.2.1 dX9_setGo_8 ?_
  refine lv_iload_n C0.1 C0.2.1 dX9_setGo_9 rfl (lv_at hl 3 rfl) ?_
  rw [show (4 : Int32) * nI u + 3 = nI (4 * u + 3) from pk_ix3 4 u 3]
  refine mst (k := 5) (by decide) C0 hK hP hS hA (hd.1 _ (by decide)) hd.2.2 (vp_in_nI (show 4 * u + 3 < 24 by omega) (by decide)) (up S 19 (upd (S 19) u x)) X (fun q9 => by rw [nI_clamp (by omega)]; exact st5 (u := u) (w := 3) _ _ _ (by omega) q9) (fun j9 _ h9 => cm_at (lo := 16) (hi := 20) (fun k9 h8 => up_ne (by omega)) (fun _ => rfl) (by omega) h9) dX9_setGo_10 (fun H locs hP hS => ?_)
  have hP : WQ D cA a (up S 19 (upd (S 19) u x)) X I H := hP
  exact rtV C0 hr hlk hP hS ⟨rfl, rfl⟩ dX9_setGo_11
theorem k_X9_setGo_3 {n : List Nat} (hd : Hd n a I) (hsub : ∀ k ∈ nM, k ∈ n) (C0 : CallFix p m c cc nL s args GW own) (hK : KK D cA s) (hP : WQ D cA a S X I H) {u : Nat} {x : Int32} (hu : u < 6) (hS : va_S A0 H0 H locs) (hA : ∀ q, AI a I q → A0 q) (hls : ls.size = nL) {idx : Nat} (hlink : Cond.methodLink own idx yX9_setGo ∈ GW) (hR : 1 ≤ R.frames ∧ 23 ≤ R.locals) (hcs : cells ≤ R.cells ∧ slots ≤ R.slots) (hrest : (rest.map fun v => v.category).sum ≤ 8) (hdg : decode cc pc = .ok (.invokevirtual idx, 3)) (kk : ∀ (H1 : Heap) (locs1 : List Loc), WQ D cA a (up S 19 (upd (S 19) u x)) X I H1 → va_S A0 H0 H1 locs1 → W p l e R s m args below meth c H1 locs1 cells slots Q (F0 m (pc + 3) ls rest)) : W p l e R s m args below meth c H locs cells slots Q (F0 m pc ls (.int x :: .int 3 :: .int (nI u) :: .ref (a 20) :: rest)) := by
  exact hoV (qV (n := 3) (c_X9_setGo_3 l D cA a S X I (hd.sub hsub) u x hu) C0 hlink im_X9_setGo se_X9_setGo in_X9 co_X9_setGo ⟨rfl, by decide⟩ hR hK hP (hd.1 _ (hsub _ (by decide))) rfl rfl rfl hls hrest rfl hdg hcs) hS hA (fun S1 X1 H1 locs1 hp hP1 hS1 => by obtain ⟨rfl, rfl⟩ := hp; exact kk H1 locs1 hP1 hS1)
set_option maxHeartbeats 4000000 in
set_option maxRecDepth 100000 in
theorem c_X9_setWho_0 (l : Launch) (D : va_G) (cA : ClassId) (a : Adr) (S X : Mem) (I : Nat → Prop) (hd : Hd nM a I) (u : Nat) (x : Int32) (hu : u < 30) : NV l yX9_setWho cX9_setWho 4 none 0 0 D cA a S X I [.ref (a 20), .int (nI u), .int 0, .int x] (fun S1 X1 => S1 = (up S 20 (upd (S 20) u x)) ∧ X1 = X) := by
  refine nGo (by decide) (Nat.le_of_ble_eq_true rfl) ?_
  intro p e s m args below meth c ls C0 hr hlk hK hP hS hl hargs
  obtain ⟨H, hHe⟩ : ∃ H, H = s.heap := ⟨_, rfl⟩
  obtain ⟨locs, hlo⟩ : ∃ L : List Loc, L = [] := ⟨_, rfl⟩
  have hP : WQ D cA a S X I H := hHe ▸ hP
  have hS : va_S (AI a I) s.heap H locs := by rw [hHe, hlo]; exact hS
  rw [← hHe, ← hlo]
  have hA : ∀ q, AI a I q → AI a I q := fun _ h => h
  refine lv_aload_n C0.1 C0.2.1 dX9_setWho_0 rfl (lv_at hl 0 rfl) ?_
  refine g20 C0 hK hP (hd.1 _ (by decide)) 11 (by decide) fl_X9_28 rfl dX9_setWho_1 ?_
  refine lv_iconst (v := 5) C0.1 C0.2.1 dX9_setWho_4 (by decide) ?_
  refine lv_iload_n C0.1 C0.2.1 dX9_setWho_5 rfl (lv_at hl 1 rfl) ?_
  refine lv_imul C0.1 C0.2.1 dX9_setWho_6 ?_
  refine lv_iload_n C0.1 C0.2.1 dX9_setWho_7 rfl (lv_at hl 2 rfl) ?_
  refine lv_iadd C0.1 C0.2.1 dX9_setWho_8 ?_
  refine lv_iload_n C0.1 C0.2.1 dX9_setWho_9 rfl (lv_at hl 3 rfl) ?_
  rw [show (5 : Int32) * nI u + 0 = nI (5 * u + 0) from pk_ix3 5 u 0]
  refine mst (k := 6) (by decide) C0 hK hP hS hA (hd.1 _ (by decide)) hd.2.2 (vp_in_nI (show 5 * u + 0 < 150 by omega) (by decide)) (up S 20 (upd (S 20) u x)) X (fun q9 => by rw [nI_clamp (by omega)]; exact st6 (u := u) (w := 0) _ _ _ (by omega) q9) (fun j9 _ h9 => cm_at (lo := 20) (hi := 25) (fun k9 h8 => up_ne (by omega)) (fun _ => rfl) (by omega) h9) dX9_setWho_10 (fun H locs hP hS => ?_)
  have hP : WQ D cA a (up S 20 (upd (S 20) u x)) X I H := hP
  exact rtV C0 hr hlk hP hS ⟨rfl, rfl⟩ dX9_setWho_11
theorem k_X9_setWho_0 {n : List Nat} (hd : Hd n a I) (hsub : ∀ k ∈ nM, k ∈ n) (C0 : CallFix p m c cc nL s args GW own) (hK : KK D cA s) (hP : WQ D cA a S X I H) {u : Nat} {x : Int32} (hu : u < 30) (hS : va_S A0 H0 H locs) (hA : ∀ q, AI a I q → A0 q) (hls : ls.size = nL) {idx : Nat} (hlink : Cond.methodLink own idx yX9_setWho ∈ GW) (hR : 1 ≤ R.frames ∧ 23 ≤ R.locals) (hcs : cells ≤ R.cells ∧ slots ≤ R.slots) (hrest : (rest.map fun v => v.category).sum ≤ 8) (hdg : decode cc pc = .ok (.invokevirtual idx, 3)) (kk : ∀ (H1 : Heap) (locs1 : List Loc), WQ D cA a (up S 20 (upd (S 20) u x)) X I H1 → va_S A0 H0 H1 locs1 → W p l e R s m args below meth c H1 locs1 cells slots Q (F0 m (pc + 3) ls rest)) : W p l e R s m args below meth c H locs cells slots Q (F0 m pc ls (.int x :: .int 0 :: .int (nI u) :: .ref (a 20) :: rest)) := by
  exact hoV (qV (n := 3) (c_X9_setWho_0 l D cA a S X I (hd.sub hsub) u x hu) C0 hlink im_X9_setWho se_X9_setWho in_X9 co_X9_setWho ⟨rfl, by decide⟩ hR hK hP (hd.1 _ (hsub _ (by decide))) rfl rfl rfl hls hrest rfl hdg hcs) hS hA (fun S1 X1 H1 locs1 hp hP1 hS1 => by obtain ⟨rfl, rfl⟩ := hp; exact kk H1 locs1 hP1 hS1)
set_option maxHeartbeats 4000000 in
set_option maxRecDepth 100000 in
theorem c_X9_setWho_1 (l : Launch) (D : va_G) (cA : ClassId) (a : Adr) (S X : Mem) (I : Nat → Prop) (hd : Hd nM a I) (u : Nat) (x : Int32) (hu : u < 30) : NV l yX9_setWho cX9_setWho 4 none 0 0 D cA a S X I [.ref (a 20), .int (nI u), .int 1, .int x] (fun S1 X1 => S1 = (up S 21 (upd (S 21) u x)) ∧ X1 = X) := by
  refine nGo (by decide) (Nat.le_of_ble_eq_true rfl) ?_
  intro p e s m args below meth c ls C0 hr hlk hK hP hS hl hargs
  obtain ⟨H, hHe⟩ : ∃ H, H = s.heap := ⟨_, rfl⟩
  obtain ⟨locs, hlo⟩ : ∃ L : List Loc, L = [] := ⟨_, rfl⟩
  have hP : WQ D cA a S X I H := hHe ▸ hP
  have hS : va_S (AI a I) s.heap H locs := by rw [hHe, hlo]; exact hS
  rw [← hHe, ← hlo]
  have hA : ∀ q, AI a I q → AI a I q := fun _ h => h
  refine lv_aload_n C0.1 C0.2.1 dX9_setWho_0 rfl (lv_at hl 0 rfl) ?_
  refine g20 C0 hK hP (hd.1 _ (by decide)) 11 (by decide) fl_X9_28 rfl dX9_setWho_1 ?_
  refine lv_iconst (v := 5) C0.1 C0.2.1 dX9_setWho_4 (by decide) ?_
  refine lv_iload_n C0.1 C0.2.1 dX9_setWho_5 rfl (lv_at hl 1 rfl) ?_
  refine lv_imul C0.1 C0.2.1 dX9_setWho_6 ?_
  refine lv_iload_n C0.1 C0.2.1 dX9_setWho_7 rfl (lv_at hl 2 rfl) ?_
  refine lv_iadd C0.1 C0.2.1 dX9_setWho_8 ?_
  refine lv_iload_n C0.1 C0.2.1 dX9_setWho_9 rfl (lv_at hl 3 rfl) ?_
  rw [show (5 : Int32) * nI u + 1 = nI (5 * u + 1) from pk_ix3 5 u 1]
  refine mst (k := 6) (by decide) C0 hK hP hS hA (hd.1 _ (by decide)) hd.2.2 (vp_in_nI (show 5 * u + 1 < 150 by omega) (by decide)) (up S 21 (upd (S 21) u x)) X (fun q9 => by rw [nI_clamp (by omega)]; exact st6 (u := u) (w := 1) _ _ _ (by omega) q9) (fun j9 _ h9 => cm_at (lo := 20) (hi := 25) (fun k9 h8 => up_ne (by omega)) (fun _ => rfl) (by omega) h9) dX9_setWho_10 (fun H locs hP hS => ?_)
  have hP : WQ D cA a (up S 21 (upd (S 21) u x)) X I H := hP
  exact rtV C0 hr hlk hP hS ⟨rfl, rfl⟩ dX9_setWho_11
theorem k_X9_setWho_1 {n : List Nat} (hd : Hd n a I) (hsub : ∀ k ∈ nM, k ∈ n) (C0 : CallFix p m c cc nL s args GW own) (hK : KK D cA s) (hP : WQ D cA a S X I H) {u : Nat} {x : Int32} (hu : u < 30) (hS : va_S A0 H0 H locs) (hA : ∀ q, AI a I q → A0 q) (hls : ls.size = nL) {idx : Nat} (hlink : Cond.methodLink own idx yX9_setWho ∈ GW) (hR : 1 ≤ R.frames ∧ 23 ≤ R.locals) (hcs : cells ≤ R.cells ∧ slots ≤ R.slots) (hrest : (rest.map fun v => v.category).sum ≤ 8) (hdg : decode cc pc = .ok (.invokevirtual idx, 3)) (kk : ∀ (H1 : Heap) (locs1 : List Loc), WQ D cA a (up S 21 (upd (S 21) u x)) X I H1 → va_S A0 H0 H1 locs1 → W p l e R s m args below meth c H1 locs1 cells slots Q (F0 m (pc + 3) ls rest)) : W p l e R s m args below meth c H locs cells slots Q (F0 m pc ls (.int x :: .int 1 :: .int (nI u) :: .ref (a 20) :: rest)) := by
  exact hoV (qV (n := 3) (c_X9_setWho_1 l D cA a S X I (hd.sub hsub) u x hu) C0 hlink im_X9_setWho se_X9_setWho in_X9 co_X9_setWho ⟨rfl, by decide⟩ hR hK hP (hd.1 _ (hsub _ (by decide))) rfl rfl rfl hls hrest rfl hdg hcs) hS hA (fun S1 X1 H1 locs1 hp hP1 hS1 => by obtain ⟨rfl, rfl⟩ := hp; exact kk H1 locs1 hP1 hS1)
set_option maxHeartbeats 4000000 in
set_option maxRecDepth 100000 in
theorem c_X9_setWho_2 (l : Launch) (D : va_G) (cA : ClassId) (a : Adr) (S X : Mem) (I : Nat → Prop) (hd : Hd nM a I) (u : Nat) (x : Int32) (hu : u < 30) : NV l yX9_setWho cX9_setWho 4 none 0 0 D cA a S X I [.ref (a 20), .int (nI u), .int 2, .int x] (fun S1 X1 => S1 = (up S 22 (upd (S 22) u x)) ∧ X1 = X) := by
  refine nGo (by decide) (Nat.le_of_ble_eq_true rfl) ?_
  intro p e s m args below meth c ls C0 hr hlk hK hP hS hl hargs
  obtain ⟨H, hHe⟩ : ∃ H, H = s.heap := ⟨_, rfl⟩
  obtain ⟨locs, hlo⟩ : ∃ L : List Loc, L = [] := ⟨_, rfl⟩
  have hP : WQ D cA a S X I H := hHe ▸ hP
  have hS : va_S (AI a I) s.heap H locs := by rw [hHe, hlo]; exact hS
  rw [← hHe, ← hlo]
  have hA : ∀ q, AI a I q → AI a I q := fun _ h => h
  refine lv_aload_n C0.1 C0.2.1 dX9_setWho_0 rfl (lv_at hl 0 rfl) ?_
  refine g20 C0 hK hP (hd.1 _ (by decide)) 11 (by decide) fl_X9_28 rfl dX9_setWho_1 ?_
  refine lv_iconst (v := 5) C0.1 C0.2.1 dX9_setWho_4 (by decide) ?_
  refine lv_iload_n C0.1 C0.2.1 dX9_setWho_5 rfl (lv_at hl 1 rfl) ?_
  refine lv_imul C0.1 C0.2.1 dX9_setWho_6 ?_
  refine lv_iload_n C0.1 C0.2.1 dX9_setWho_7 rfl (lv_at hl 2 rfl) ?_
  refine lv_iadd C0.1 C0.2.1 dX9_setWho_8 ?_
  refine lv_iload_n C0.1 C0.2.1 dX9_setWho_9 rfl (lv_at hl 3 rfl) ?_
  rw [show (5 : Int32) * nI u + 2 = nI (5 * u + 2) from pk_ix3 5 u 2]
  refine mst (k := 6) (by decide) C0 hK hP hS hA (hd.1 _ (by decide)) hd.2.2 (vp_in_nI (show 5 * u + 2 < 150 by omega) (by decide)) (up S 22 (upd (S 22) u x)) X (fun q9 => by rw [nI_clamp (by omega)]; exact st6 (u := u) (w := 2) _ _ _ (by omega) q9) (fun j9 _ h9 => cm_at (lo := 20) (hi := 25) (fun k9 h8 => up_ne (by omega)) (fun _ => rfl) (by omega) h9) dX9_setWho_10 (fun H locs hP hS => ?_)
  have hP : WQ D cA a (up S 22 (upd (S 22) u x)) X I H := hP
  exact rtV C0 hr hlk hP hS ⟨rfl, rfl⟩ dX9_setWho_11
theorem k_X9_setWho_2 {n : List Nat} (hd : Hd n a I) (hsub : ∀ k ∈ nM, k ∈ n) (C0 : CallFix p m c cc nL s args GW own) (hK : KK D cA s) (hP : WQ D cA a S X I H) {u : Nat} {x : Int32} (hu : u < 30) (hS : va_S A0 H0 H locs) (hA : ∀ q, AI a I q → A0 q) (hls : ls.size = nL) {idx : Nat} (hlink : Cond.methodLink own idx yX9_setWho ∈ GW) (hR : 1 ≤ R.frames ∧ 23 ≤ R.locals) (hcs : cells ≤ R.cells ∧ slots ≤ R.slots) (hrest : (rest.map fun v => v.category).sum ≤ 8) (hdg : decode cc pc = .ok (.invokevirtual idx, 3)) (kk : ∀ (H1 : Heap) (locs1 : List Loc), WQ D cA a (up S 22 (upd (S 22) u x)) X I H1 → va_S A0 H0 H1 locs1 → W p l e R s m args below meth c H1 locs1 cells slots Q (F0 m (pc + 3) ls rest)) : W p l e R s m args below meth c H locs cells slots Q (F0 m pc ls (.int x :: .int 2 :: .int (nI u) :: .ref (a 20) :: rest)) := by
  exact hoV (qV (n := 3) (c_X9_setWho_2 l D cA a S X I (hd.sub hsub) u x hu) C0 hlink im_X9_setWho se_X9_setWho in_X9 co_X9_setWho ⟨rfl, by decide⟩ hR hK hP (hd.1 _ (hsub _ (by decide))) rfl rfl rfl hls hrest rfl hdg hcs) hS hA (fun S1 X1 H1 locs1 hp hP1 hS1 => by obtain ⟨rfl, rfl⟩ := hp; exact kk H1 locs1 hP1 hS1)
set_option maxHeartbeats 4000000 in
set_option maxRecDepth 100000 in
theorem c_X9_setWho_3 (l : Launch) (D : va_G) (cA : ClassId) (a : Adr) (S X : Mem) (I : Nat → Prop) (hd : Hd nM a I) (u : Nat) (x : Int32) (hu : u < 30) : NV l yX9_setWho cX9_setWho 4 none 0 0 D cA a S X I [.ref (a 20), .int (nI u), .int 3, .int x] (fun S1 X1 => S1 = (up S 23 (upd (S 23) u x)) ∧ X1 = X) := by
  refine nGo (by decide) (Nat.le_of_ble_eq_true rfl) ?_
  intro p e s m args below meth c ls C0 hr hlk hK hP hS hl hargs
  obtain ⟨H, hHe⟩ : ∃ H, H = s.heap := ⟨_, rfl⟩
  obtain ⟨locs, hlo⟩ : ∃ L : List Loc, L = [] := ⟨_, rfl⟩
  have hP : WQ D cA a S X I H := hHe ▸ hP
  have hS : va_S (AI a I) s.heap H locs := by rw [hHe, hlo]; exact hS
  rw [← hHe, ← hlo]
  have hA : ∀ q, AI a I q → AI a I q := fun _ h => h
  refine lv_aload_n C0.1 C0.2.1 dX9_setWho_0 rfl (lv_at hl 0 rfl) ?_
  refine g20 C0 hK hP (hd.1 _ (by decide)) 11 (by decide) fl_X9_28 rfl dX9_setWho_1 ?_
  refine lv_iconst (v := 5) C0.1 C0.2.1 dX9_setWho_4 (by decide) ?_
  refine lv_iload_n C0.1 C0.2.1 dX9_setWho_5 rfl (lv_at hl 1 rfl) ?_
  refine lv_imul C0.1 C0.2.1 dX9_setWho_6 ?_
  refine lv_iload_n C0.1 C0.2.1 dX9_setWho_7 rfl (lv_at hl 2 rfl) ?_
  refine lv_iadd C0.1 C0.2.1 dX9_setWho_8 ?_
  refine lv_iload_n C0.1 C0.2.1 dX9_setWho_9 rfl (lv_at hl 3 rfl) ?_
  rw [show (5 : Int32) * nI u + 3 = nI (5 * u + 3) from pk_ix3 5 u 3]
  refine mst (k := 6) (by decide) C0 hK hP hS hA (hd.1 _ (by decide)) hd.2.2 (vp_in_nI (show 5 * u + 3 < 150 by omega) (by decide)) (up S 23 (upd (S 23) u x)) X (fun q9 => by rw [nI_clamp (by omega)]; exact st6 (u := u) (w := 3) _ _ _ (by omega) q9) (fun j9 _ h9 => cm_at (lo := 20) (hi := 25) (fun k9 h8 => up_ne (by omega)) (fun _ => rfl) (by omega) h9) dX9_setWho_10 (fun H locs hP hS => ?_)
  have hP : WQ D cA a (up S 23 (upd (S 23) u x)) X I H := hP
  exact rtV C0 hr hlk hP hS ⟨rfl, rfl⟩ dX9_setWho_11
theorem k_X9_setWho_3 {n : List Nat} (hd : Hd n a I) (hsub : ∀ k ∈ nM, k ∈ n) (C0 : CallFix p m c cc nL s args GW own) (hK : KK D cA s) (hP : WQ D cA a S X I H) {u : Nat} {x : Int32} (hu : u < 30) (hS : va_S A0 H0 H locs) (hA : ∀ q, AI a I q → A0 q) (hls : ls.size = nL) {idx : Nat} (hlink : Cond.methodLink own idx yX9_setWho ∈ GW) (hR : 1 ≤ R.frames ∧ 23 ≤ R.locals) (hcs : cells ≤ R.cells ∧ slots ≤ R.slots) (hrest : (rest.map fun v => v.category).sum ≤ 8) (hdg : decode cc pc = .ok (.invokevirtual idx, 3)) (kk : ∀ (H1 : Heap) (locs1 : List Loc), WQ D cA a (up S 23 (upd (S 23) u x)) X I H1 → va_S A0 H0 H1 locs1 → W p l e R s m args below meth c H1 locs1 cells slots Q (F0 m (pc + 3) ls rest)) : W p l e R s m args below meth c H locs cells slots Q (F0 m pc ls (.int x :: .int 3 :: .int (nI u) :: .ref (a 20) :: rest)) := by
  exact hoV (qV (n := 3) (c_X9_setWho_3 l D cA a S X I (hd.sub hsub) u x hu) C0 hlink im_X9_setWho se_X9_setWho in_X9 co_X9_setWho ⟨rfl, by decide⟩ hR hK hP (hd.1 _ (hsub _ (by decide))) rfl rfl rfl hls hrest rfl hdg hcs) hS hA (fun S1 X1 H1 locs1 hp hP1 hS1 => by obtain ⟨rfl, rfl⟩ := hp; exact kk H1 locs1 hP1 hS1)
set_option maxHeartbeats 4000000 in
set_option maxRecDepth 100000 in
theorem c_X9_setWho_4 (l : Launch) (D : va_G) (cA : ClassId) (a : Adr) (S X : Mem) (I : Nat → Prop) (hd : Hd nM a I) (u : Nat) (x : Int32) (hu : u < 30) : NV l yX9_setWho cX9_setWho 4 none 0 0 D cA a S X I [.ref (a 20), .int (nI u), .int 4, .int x] (fun S1 X1 => S1 = (up S 24 (upd (S 24) u x)) ∧ X1 = X) := by
  refine nGo (by decide) (Nat.le_of_ble_eq_true rfl) ?_
  intro p e s m args below meth c ls C0 hr hlk hK hP hS hl hargs
  obtain ⟨H, hHe⟩ : ∃ H, H = s.heap := ⟨_, rfl⟩
  obtain ⟨locs, hlo⟩ : ∃ L : List Loc, L = [] := ⟨_, rfl⟩
  have hP : WQ D cA a S X I H := hHe ▸ hP
  have hS : va_S (AI a I) s.heap H locs := by rw [hHe, hlo]; exact hS
  rw [← hHe, ← hlo]
  have hA : ∀ q, AI a I q → AI a I q := fun _ h => h
  refine lv_aload_n C0.1 C0.2.1 dX9_setWho_0 rfl (lv_at hl 0 rfl) ?_
  refine g20 C0 hK hP (hd.1 _ (by decide)) 11 (by decide) fl_X9_28 rfl dX9_setWho_1 ?_
  refine lv_iconst (v := 5) C0.1 C0.2.1 dX9_setWho_4 (by decide) ?_
  refine lv_iload_n C0.1 C0.2.1 dX9_setWho_5 rfl (lv_at hl 1 rfl) ?_
  refine lv_imul C0.1 C0.2.1 dX9_setWho_6 ?_
  refine lv_iload_n C0.1 C0.2.1 dX9_setWho_7 rfl (lv_at hl 2 rfl) ?_
  refine lv_iadd C0.1 C0.2.1 dX9_setWho_8 ?_
  refine lv_iload_n C0.1 C0.2.1 dX9_setWho_9 rfl (lv_at hl 3 rfl) ?_
  rw [show (5 : Int32) * nI u + 4 = nI (5 * u + 4) from pk_ix3 5 u 4]
  refine mst (k := 6) (by decide) C0 hK hP hS hA (hd.1 _ (by decide)) hd.2.2 (vp_in_nI (show 5 * u + 4 < 150 by omega) (by decide)) (up S 24 (upd (S 24) u x)) X (fun q9 => by rw [nI_clamp (by omega)]; exact st6 (u := u) (w := 4) _ _ _ (by omega) q9) (fun j9 _ h9 => cm_at (lo := 20) (hi := 25) (fun k9 h8 => up_ne (by omega)) (fun _ => rfl) (by omega) h9) dX9_setWho_10 (fun H locs hP hS => ?_)
  have hP : WQ D cA a (up S 24 (upd (S 24) u x)) X I H := hP
  exact rtV C0 hr hlk hP hS ⟨rfl, rfl⟩ dX9_setWho_11
theorem k_X9_setWho_4 {n : List Nat} (hd : Hd n a I) (hsub : ∀ k ∈ nM, k ∈ n) (C0 : CallFix p m c cc nL s args GW own) (hK : KK D cA s) (hP : WQ D cA a S X I H) {u : Nat} {x : Int32} (hu : u < 30) (hS : va_S A0 H0 H locs) (hA : ∀ q, AI a I q → A0 q) (hls : ls.size = nL) {idx : Nat} (hlink : Cond.methodLink own idx yX9_setWho ∈ GW) (hR : 1 ≤ R.frames ∧ 23 ≤ R.locals) (hcs : cells ≤ R.cells ∧ slots ≤ R.slots) (hrest : (rest.map fun v => v.category).sum ≤ 8) (hdg : decode cc pc = .ok (.invokevirtual idx, 3)) (kk : ∀ (H1 : Heap) (locs1 : List Loc), WQ D cA a (up S 24 (upd (S 24) u x)) X I H1 → va_S A0 H0 H1 locs1 → W p l e R s m args below meth c H1 locs1 cells slots Q (F0 m (pc + 3) ls rest)) : W p l e R s m args below meth c H locs cells slots Q (F0 m pc ls (.int x :: .int 4 :: .int (nI u) :: .ref (a 20) :: rest)) := by
  exact hoV (qV (n := 3) (c_X9_setWho_4 l D cA a S X I (hd.sub hsub) u x hu) C0 hlink im_X9_setWho se_X9_setWho in_X9 co_X9_setWho ⟨rfl, by decide⟩ hR hK hP (hd.1 _ (hsub _ (by decide))) rfl rfl rfl hls hrest rfl hdg hcs) hS hA (fun S1 X1 H1 locs1 hp hP1 hS1 => by obtain ⟨rfl, rfl⟩ := hp; exact kk H1 locs1 hP1 hS1)
end CLS
