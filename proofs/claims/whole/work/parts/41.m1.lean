/-! THE REFERENCE'S SMALL METHODS. -/
theorem pk_ix3 (k u w : Nat) : (nI k : Int32) * nI u + nI w = nI (k * u + w) := by rw [pk_mul, nI_add]
theorem rw4 (S X : Mem) {u w : Nat} (hw : w < 6) : rwm S X 4 (6 * u + w) = S (4 + w) u := by
  show S (4 + (6 * u + w) % 6) ((6 * u + w) / 6) = _
  rw [show (6 * u + w) % 6 = w by omega, show (6 * u + w) / 6 = u by omega]
theorem rw5 (S X : Mem) {u w : Nat} (hw : w < 4) : rwm S X 5 (4 * u + w) = S (16 + w) u := by
  show S (16 + (4 * u + w) % 4) ((4 * u + w) / 4) = _
  rw [show (4 * u + w) % 4 = w by omega, show (4 * u + w) / 4 = u by omega]
theorem rw6 (S X : Mem) {u w : Nat} (hw : w < 5) : rwm S X 6 (5 * u + w) = S (20 + w) u := by
  show S (20 + (5 * u + w) % 5) ((5 * u + w) / 5) = _
  rw [show (5 * u + w) % 5 = w by omega, show (5 * u + w) / 5 = u by omega]
theorem st5 (S X : Mem) {u w : Nat} (x : Int32) (hw : w < 4) (q : Nat) : rwm (up S (16 + w) (upd (S (16 + w)) u x)) X 5 q = upd (rwm S X 5) (4 * u + w) x q := by
  show up S (16 + w) (upd (S (16 + w)) u x) (16 + q % 4) (q / 4) = if q = 4 * u + w then x else S (16 + q % 4) (q / 4)
  by_cases h1 : q % 4 = w
  · rw [h1, up_eq]
    by_cases h2 : q / 4 = u
    · rw [if_pos (by omega), h2]; exact if_pos rfl
    · rw [if_neg (by omega)]; exact if_neg h2
  · rw [up_ne (by omega), if_neg (by omega)]
theorem st6 (S X : Mem) {u w : Nat} (x : Int32) (hw : w < 5) (q : Nat) : rwm (up S (20 + w) (upd (S (20 + w)) u x)) X 6 q = upd (rwm S X 6) (5 * u + w) x q := by
  show up S (20 + w) (upd (S (20 + w)) u x) (20 + q % 5) (q / 5) = if q = 5 * u + w then x else S (20 + q % 5) (q / 5)
  by_cases h1 : q % 5 = w
  · rw [h1, up_eq]
    by_cases h2 : q / 5 = u
    · rw [if_pos (by omega), h2]; exact if_pos rfl
    · rw [if_neg (by omega)]; exact if_neg h2
  · rw [up_ne (by omega), if_neg (by omega)]
/-- what a write into one of the rows leaves -/
theorem cm_at {cA : ClassId} {a : Adr} {S X S1 X1 : Mem} {lo hi r : Nat} (hS : ∀ k, ¬ (lo ≤ k ∧ k < hi) → S1 k = S k) (hX : ∀ k, X1 k = X k) (hr : (r = 0 ∧ lo = 0 ∧ hi = 1) ∨ (r = 1 ∧ lo = 1 ∧ hi = 2) ∨ (r = 2 ∧ lo = 2 ∧ hi = 3) ∨ (r = 3 ∧ lo = 3 ∧ hi = 4) ∨ (r = 4 ∧ lo = 4 ∧ hi = 10) ∨ (r = 5 ∧ lo = 16 ∧ hi = 20) ∨ (r = 6 ∧ lo = 20 ∧ hi = 25)) {j : Nat} (hj : j ≠ r) : cm cA a S1 X1 j = cm cA a S X j := by
  have eX : X1 = X := funext hX
  subst eX
  unfold cm
  by_cases h : j < 10
  · rw [if_pos h, if_pos h]
    have e : rwm S1 X1 j = rwm S X1 j := by
      unfold rwm
      split <;> first | rfl | exact hS _ (by omega) | (funext i; exact congrFun (hS _ (by omega)) _)
    rw [e]
  · rw [if_neg h, if_neg h, hS 81 (by omega), hS 82 (by omega), hS 85 (by omega), hS 86 (by omega)]
theorem cm_sc {cA : ClassId} {a : Adr} {S X X1 : Mem} {r c : Nat} (hX : ∀ k, k ≠ c → X1 k = X k) (hr : (r = 7 ∧ c = 15) ∨ (r = 8 ∧ c = 10) ∨ (r = 9 ∧ c = 12)) {j : Nat} (hj : j ≠ r) : cm cA a S X1 j = cm cA a S X j := by
  unfold cm
  by_cases h : j < 10
  · rw [if_pos h, if_pos h]
    have e : rwm S X1 j = rwm S X j := by
      have h9 : j = 0 ∨ j = 1 ∨ j = 2 ∨ j = 3 ∨ j = 4 ∨ j = 5 ∨ j = 6 ∨ j = 7 ∨ j = 8 ∨ j = 9 := by omega
      rcases h9 with rfl | rfl | rfl | rfl | rfl | rfl | rfl | rfl | rfl | rfl <;> first | rfl | exact hX _ (by omega)
    rw [e]
  · rw [if_neg h, if_neg h, hX 87 (by omega)]
section CLS
variable {p : Program} {l : Launch} {e : Env} {R : Room} {s : State} {m : MethodId} {args : Array Value} {below : List Frame} {meth : Method} {c : Code} {H : Heap} {locs : List Loc} {cells slots : Nat} {Q : State → Prop}
variable {cc : ByteArray} {nL : Nat} {own : String} {pc : Nat} {ls : Array Slot} {rest : List Value} {D : va_G} {cA : ClassId} {a : Adr} {S X : Mem} {I : Nat → Prop} {H0 : Heap} {A0 : Nat → Prop}
set_option maxHeartbeats 4000000 in
set_option maxRecDepth 100000 in
theorem c_X9_isIn (l : Launch) (D : va_G) (cA : ClassId) (a : Adr) (S X : Mem) (I : Nat → Prop) (hd : Hd n0 a I) (x : Int32) (lo : Int32) (hi : Int32) : NI l yX9_isIn cX9_isIn 3 (some .boolean) 0 0 D cA a S X I [.int x, .int lo, .int hi] (fun r S1 X1 => r = (bI (decide (lo ≤ x) && decide (x ≤ hi))) ∧ S1 = S ∧ X1 = X) := by
  refine nGo (by decide) (Nat.le_of_ble_eq_true rfl) ?_
  intro p e s m args below meth c ls C0 hr hlk hK hP hS hl hargs
  obtain ⟨H, hHe⟩ : ∃ H, H = s.heap := ⟨_, rfl⟩
  obtain ⟨locs, hlo⟩ : ∃ L : List Loc, L = [] := ⟨_, rfl⟩
  have hP : WQ D cA a S X I H := hHe ▸ hP
  have hS : va_S (AI a I) s.heap H locs := by rw [hHe, hlo]; exact hS
  rw [← hHe, ← hlo]
  have hA : ∀ q, AI a I q → AI a I q := fun _ h => h
  refine lv_iload_n C0.1 C0.2.1 dX9_isIn_0 rfl (lv_at hl 0 rfl) ?_
  refine lv_iload_n C0.1 C0.2.1 dX9_isIn_1 rfl (lv_at hl 1 rfl) ?_
  refine lv_icmp_lt (tgt := 14) C0.1 C0.2.1 dX9_isIn_2 (by decide) (fun c_2 => ?_) (fun c_2 => ?_)
  · refine lv_iconst (v := 0) C0.1 C0.2.1 dX9_isIn_14 (by decide) ?_
    exact rtZ C0 hr hlk hP hS rfl ⟨(bI_f (by simp only [Bool.eq_false_iff, ne_eq, Bool.and_eq_true, Bool.or_eq_true, decide_eq_true_eq, Int32.le_iff_toInt_le, Int32.lt_iff_toInt_lt, ← Int32.toInt_inj, Int32.reduceToInt] at c_2 ⊢; omega)).symm, rfl, rfl⟩ dX9_isIn_15
  · refine lv_iload_n C0.1 C0.2.1 dX9_isIn_5 rfl (lv_at hl 0 rfl) ?_
    refine lv_iload_n C0.1 C0.2.1 dX9_isIn_6 rfl (lv_at hl 2 rfl) ?_
    refine lv_icmp_gt (tgt := 14) C0.1 C0.2.1 dX9_isIn_7 (by decide) (fun c_7 => ?_) (fun c_7 => ?_)
    · refine lv_iconst (v := 0) C0.1 C0.2.1 dX9_isIn_14 (by decide) ?_
      exact rtZ C0 hr hlk hP hS rfl ⟨(bI_f (by simp only [Bool.eq_false_iff, ne_eq, Bool.and_eq_true, Bool.or_eq_true, decide_eq_true_eq, Int32.le_iff_toInt_le, Int32.lt_iff_toInt_lt, ← Int32.toInt_inj, Int32.reduceToInt] at c_2 c_7 ⊢; omega)).symm, rfl, rfl⟩ dX9_isIn_15
    · refine lv_iconst (v := 1) C0.1 C0.2.1 dX9_isIn_10 (by decide) ?_
      refine lv_goto (tgt := 15) C0.1 C0.2.1 dX9_isIn_11 (by decide) ?_
      exact rtZ C0 hr hlk hP hS rfl ⟨(bI_t (by simp only [Bool.eq_false_iff, ne_eq, Bool.and_eq_true, Bool.or_eq_true, decide_eq_true_eq, Int32.le_iff_toInt_le, Int32.lt_iff_toInt_lt, ← Int32.toInt_inj, Int32.reduceToInt] at c_2 c_7 ⊢; omega)).symm, rfl, rfl⟩ dX9_isIn_15
theorem k_X9_isIn {n : List Nat} (hd : Hd n a I) (hsub : ∀ k ∈ n0, k ∈ n) (C0 : CallFix p m c cc nL s args GW own) (hK : KK D cA s) (hP : WQ D cA a S X I H) {x : Int32} {lo : Int32} {hi : Int32} {v : Int32} (hv : (bI (decide (lo ≤ x) && decide (x ≤ hi))) = v) (hS : va_S A0 H0 H locs) (hA : ∀ q, AI a I q → A0 q) (hls : ls.size = nL) {idx : Nat} (hlink : Cond.methodLink own idx yX9_isIn ∈ GW) (hR : 1 ≤ R.frames ∧ 22 ≤ R.locals) (hcs : cells ≤ R.cells ∧ slots ≤ R.slots) (hrest : (rest.map fun v => v.category).sum ≤ 8) (hdg : decode cc pc = .ok (.invokestatic idx, 3)) (kk : ∀ (H1 : Heap) (locs1 : List Loc), WQ D cA a S X I H1 → va_S A0 H0 H1 locs1 → W p l e R s m args below meth c H1 locs1 cells slots Q (F0 m (pc + 3) ls (.int v :: rest))) : W p l e R s m args below meth c H locs cells slots Q (F0 m pc ls (.int hi :: .int lo :: .int x :: rest)) := by
  subst hv
  exact hoI (qS (n := 3) (c_X9_isIn l D cA a S X I (hd.sub hsub) x lo hi ) C0 hlink sm_X9_isIn in_X9 co_X9_isIn (by decide) hR hK hP rfl hls hrest rfl hdg hcs) hS hA (fun r S1 X1 H1 locs1 hp hP1 hS1 => by obtain ⟨rfl, rfl, rfl⟩ := hp; exact kk H1 locs1 hP1 hS1)
set_option maxHeartbeats 4000000 in
set_option maxRecDepth 100000 in
theorem c_X9_isCell (l : Launch) (D : va_G) (cA : ClassId) (a : Adr) (S X : Mem) (I : Nat → Prop) (hd : Hd n0 a I) (x : Int32) (y : Int32) : NI l yX9_isCell cX9_isCell 2 (some .boolean) 1 22 D cA a S X I [.int x, .int y] (fun r S1 X1 => r = (bI ((decide (0 ≤ x) && decide (x ≤ 13)) && (decide (0 ≤ y) && decide (y ≤ 13)))) ∧ S1 = S ∧ X1 = X) := by
  refine nGo (by decide) (Nat.le_of_ble_eq_true rfl) ?_
  intro p e s m args below meth c ls C0 hr hlk hK hP hS hl hargs
  obtain ⟨H, hHe⟩ : ∃ H, H = s.heap := ⟨_, rfl⟩
  obtain ⟨locs, hlo⟩ : ∃ L : List Loc, L = [] := ⟨_, rfl⟩
  have hP : WQ D cA a S X I H := hHe ▸ hP
  have hS : va_S (AI a I) s.heap H locs := by rw [hHe, hlo]; exact hS
  rw [← hHe, ← hlo]
  have hA : ∀ q, AI a I q → AI a I q := fun _ h => h
  refine lv_iload_n C0.1 C0.2.1 dX9_isCell_0 rfl (lv_at hl 0 rfl) ?_
  refine lv_iconst (v := 0) C0.1 C0.2.1 dX9_isCell_1 (by decide) ?_
  refine lv_bipush (v := 13) C0.1 C0.2.1 dX9_isCell_2 (by decide) ?_
  refine k_X9_isIn hd sId C0 hK hP  (v := bI (decide (0 ≤ x) && decide (x ≤ 13))) rfl hS hA hl.1 ml_X9_44 ⟨Nat.le_of_ble_eq_true rfl, Nat.le_of_ble_eq_true rfl⟩ ⟨Nat.zero_le _, Nat.zero_le _⟩ (Nat.le_of_ble_eq_true rfl) dX9_isCell_4 (fun H locs hP hS => ?_)
  refine lv_if_eq (tgt := 24) C0.1 C0.2.1 dX9_isCell_7 (by decide) (fun c_7 => ?_) (fun c_7 => ?_)
  · have c_7 := bI_eq c_7
    refine lv_iconst (v := 0) C0.1 C0.2.1 dX9_isCell_24 (by decide) ?_
    exact rtZ C0 hr hlk hP hS rfl ⟨(bI_f (by simp only [Bool.eq_false_iff, ne_eq, Bool.and_eq_true, Bool.or_eq_true, decide_eq_true_eq, Int32.le_iff_toInt_le, Int32.lt_iff_toInt_lt, ← Int32.toInt_inj, Int32.reduceToInt] at c_7 ⊢; omega)).symm, rfl, rfl⟩ dX9_isCell_25
  · have c_7 := bI_ne c_7
    refine lv_iload_n C0.1 C0.2.1 dX9_isCell_10 rfl (lv_at hl 1 rfl) ?_
    refine lv_iconst (v := 0) C0.1 C0.2.1 dX9_isCell_11 (by decide) ?_
    refine lv_bipush (v := 13) C0.1 C0.2.1 dX9_isCell_12 (by decide) ?_
    refine k_X9_isIn hd sId C0 hK hP  (v := bI (decide (0 ≤ y) && decide (y ≤ 13))) rfl hS hA hl.1 ml_X9_44 ⟨Nat.le_of_ble_eq_true rfl, Nat.le_of_ble_eq_true rfl⟩ ⟨Nat.zero_le _, Nat.zero_le _⟩ (Nat.le_of_ble_eq_true rfl) dX9_isCell_14 (fun H locs hP hS => ?_)
    refine lv_if_eq (tgt := 24) C0.1 C0.2.1 dX9_isCell_17 (by decide) (fun c_17 => ?_) (fun c_17 => ?_)
    · have c_17 := bI_eq c_17
      refine lv_iconst (v := 0) C0.1 C0.2.1 dX9_isCell_24 (by decide) ?_
      exact rtZ C0 hr hlk hP hS rfl ⟨(bI_f (by simp only [Bool.eq_false_iff, ne_eq, Bool.and_eq_true, Bool.or_eq_true, decide_eq_true_eq, Int32.le_iff_toInt_le, Int32.lt_iff_toInt_lt, ← Int32.toInt_inj, Int32.reduceToInt] at c_7 c_17 ⊢; omega)).symm, rfl, rfl⟩ dX9_isCell_25
    · have c_17 := bI_ne c_17
      refine lv_iconst (v := 1) C0.1 C0.2.1 dX9_isCell_20 (by decide) ?_
      refine lv_goto (tgt := 25) C0.1 C0.2.1 dX9_isCell_21 (by decide) ?_
      exact rtZ C0 hr hlk hP hS rfl ⟨(bI_t (by simp only [Bool.eq_false_iff, ne_eq, Bool.and_eq_true, Bool.or_eq_true, decide_eq_true_eq, Int32.le_iff_toInt_le, Int32.lt_iff_toInt_lt, ← Int32.toInt_inj, Int32.reduceToInt] at c_7 c_17 ⊢; omega)).symm, rfl, rfl⟩ dX9_isCell_25
theorem k_X9_isCell {n : List Nat} (hd : Hd n a I) (hsub : ∀ k ∈ n0, k ∈ n) (C0 : CallFix p m c cc nL s args GW own) (hK : KK D cA s) (hP : WQ D cA a S X I H) {x : Int32} {y : Int32} {v : Int32} (hv : (bI ((decide (0 ≤ x) && decide (x ≤ 13)) && (decide (0 ≤ y) && decide (y ≤ 13)))) = v) (hS : va_S A0 H0 H locs) (hA : ∀ q, AI a I q → A0 q) (hls : ls.size = nL) {idx : Nat} (hlink : Cond.methodLink own idx yX9_isCell ∈ GW) (hR : 2 ≤ R.frames ∧ 43 ≤ R.locals) (hcs : cells ≤ R.cells ∧ slots ≤ R.slots) (hrest : (rest.map fun v => v.category).sum ≤ 8) (hdg : decode cc pc = .ok (.invokestatic idx, 3)) (kk : ∀ (H1 : Heap) (locs1 : List Loc), WQ D cA a S X I H1 → va_S A0 H0 H1 locs1 → W p l e R s m args below meth c H1 locs1 cells slots Q (F0 m (pc + 3) ls (.int v :: rest))) : W p l e R s m args below meth c H locs cells slots Q (F0 m pc ls (.int y :: .int x :: rest)) := by
  subst hv
  exact hoI (qS (n := 2) (c_X9_isCell l D cA a S X I (hd.sub hsub) x y ) C0 hlink sm_X9_isCell in_X9 co_X9_isCell (by decide) hR hK hP rfl hls hrest rfl hdg hcs) hS hA (fun r S1 X1 H1 locs1 hp hP1 hS1 => by obtain ⟨rfl, rfl, rfl⟩ := hp; exact kk H1 locs1 hP1 hS1)
set_option maxHeartbeats 4000000 in
set_option maxRecDepth 100000 in
theorem c_X9_fail (l : Launch) (D : va_G) (cA : ClassId) (a : Adr) (S X : Mem) (I : Nat → Prop) (hd : Hd nM a I) (x : Int32) : NI l yX9_fail cX9_fail 2 (some .int) 0 0 D cA a S X I [.ref (a 20), .int x] (fun r S1 X1 => r = 0 ∧ S1 = S ∧ X1 = (up X 87 (fun _ => x))) := by
  refine nGo (by decide) (Nat.le_of_ble_eq_true rfl) ?_
  intro p e s m args below meth c ls C0 hr hlk hK hP hS hl hargs
  obtain ⟨H, hHe⟩ : ∃ H, H = s.heap := ⟨_, rfl⟩
  obtain ⟨locs, hlo⟩ : ∃ L : List Loc, L = [] := ⟨_, rfl⟩
  have hP : WQ D cA a S X I H := hHe ▸ hP
  have hS : va_S (AI a I) s.heap H locs := by rw [hHe, hlo]; exact hS
  rw [← hHe, ← hlo]
  have hA : ∀ q, AI a I q → AI a I q := fun _ h => h
  refine lv_aload_n C0.1 C0.2.1 dX9_fail_0 rfl (lv_at hl 0 rfl) ?_
  refine lv_iload_n C0.1 C0.2.1 dX9_fail_1 rfl (lv_at hl 1 rfl) ?_
  refine p20 C0 hK hP hS hA (hd.1 _ (by decide)) hd.2.2 0 (by decide) fl_X9_40 rfl (by decide +kernel) (x := x) S (up X 87 (fun _ => x)) rfl (fun k9 _ h9 => cm_num (fun _ _ => rfl) (fun k9 h9 => up_ne (by omega)) h9) dX9_fail_2 (fun H locs hP hS => ?_)
  have hP : WQ D cA a S (up X 87 (fun _ => x)) I H := hP
  refine lv_iconst (v := 0) C0.1 C0.2.1 dX9_fail_5 (by decide) ?_
  exact rtI C0 hr hlk hP hS ⟨rfl, rfl, rfl⟩ dX9_fail_6
theorem k_X9_fail {n : List Nat} (hd : Hd n a I) (hsub : ∀ k ∈ nM, k ∈ n) (C0 : CallFix p m c cc nL s args GW own) (hK : KK D cA s) (hP : WQ D cA a S X I H) {x : Int32} {v : Int32} (hv : 0 = v) (hS : va_S A0 H0 H locs) (hA : ∀ q, AI a I q → A0 q) (hls : ls.size = nL) {idx : Nat} (hlink : Cond.methodLink own idx yX9_fail ∈ GW) (hR : 1 ≤ R.frames ∧ 21 ≤ R.locals) (hcs : cells ≤ R.cells ∧ slots ≤ R.slots) (hrest : (rest.map fun v => v.category).sum ≤ 8) (hdg : decode cc pc = .ok (.invokevirtual idx, 3)) (kk : ∀ (H1 : Heap) (locs1 : List Loc), WQ D cA a S (up X 87 (fun _ => x)) I H1 → va_S A0 H0 H1 locs1 → W p l e R s m args below meth c H1 locs1 cells slots Q (F0 m (pc + 3) ls (.int v :: rest))) : W p l e R s m args below meth c H locs cells slots Q (F0 m pc ls (.int x :: .ref (a 20) :: rest)) := by
  subst hv
  exact hoI (qV (n := 1) (c_X9_fail l D cA a S X I (hd.sub hsub) x ) C0 hlink im_X9_fail se_X9_fail in_X9 co_X9_fail ⟨rfl, by decide⟩ hR hK hP (hd.1 _ (hsub _ (by decide))) rfl rfl rfl hls hrest rfl hdg hcs) hS hA (fun r S1 X1 H1 locs1 hp hP1 hS1 => by obtain ⟨rfl, rfl, rfl⟩ := hp; exact kk H1 locs1 hP1 hS1)
set_option maxHeartbeats 4000000 in
set_option maxRecDepth 100000 in
theorem c_X9_thrown (l : Launch) (D : va_G) (cA : ClassId) (a : Adr) (S X : Mem) (I : Nat → Prop) (hd : Hd nM a I) : NI l yX9_thrown cX9_thrown 1 (some .int) 0 0 D cA a S X I [.ref (a 20)] (fun r S1 X1 => r = ((X 87) 0) ∧ S1 = S ∧ X1 = X) := by
  refine nGo (by decide) (Nat.le_of_ble_eq_true rfl) ?_
  intro p e s m args below meth c ls C0 hr hlk hK hP hS hl hargs
  obtain ⟨H, hHe⟩ : ∃ H, H = s.heap := ⟨_, rfl⟩
  obtain ⟨locs, hlo⟩ : ∃ L : List Loc, L = [] := ⟨_, rfl⟩
  have hP : WQ D cA a S X I H := hHe ▸ hP
  have hS : va_S (AI a I) s.heap H locs := by rw [hHe, hlo]; exact hS
  rw [← hHe, ← hlo]
  have hA : ∀ q, AI a I q → AI a I q := fun _ h => h
  refine lv_aload_n C0.1 C0.2.1 dX9_thrown_0 rfl (lv_at hl 0 rfl) ?_
  refine g20i (v := X 87 0) C0 hK hP (hd.1 _ (by decide)) 0 (by decide) fl_X9_40 rfl rfl dX9_thrown_1 ?_
  exact rtI C0 hr hlk hP hS ⟨rfl, rfl, rfl⟩ dX9_thrown_4
theorem k_X9_thrown {n : List Nat} (hd : Hd n a I) (hsub : ∀ k ∈ nM, k ∈ n) (C0 : CallFix p m c cc nL s args GW own) (hK : KK D cA s) (hP : WQ D cA a S X I H) {v : Int32} (hv : ((X 87) 0) = v) (hS : va_S A0 H0 H locs) (hA : ∀ q, AI a I q → A0 q) (hls : ls.size = nL) {idx : Nat} (hlink : Cond.methodLink own idx yX9_thrown ∈ GW) (hR : 1 ≤ R.frames ∧ 20 ≤ R.locals) (hcs : cells ≤ R.cells ∧ slots ≤ R.slots) (hrest : (rest.map fun v => v.category).sum ≤ 8) (hdg : decode cc pc = .ok (.invokevirtual idx, 3)) (kk : ∀ (H1 : Heap) (locs1 : List Loc), WQ D cA a S X I H1 → va_S A0 H0 H1 locs1 → W p l e R s m args below meth c H1 locs1 cells slots Q (F0 m (pc + 3) ls (.int v :: rest))) : W p l e R s m args below meth c H locs cells slots Q (F0 m pc ls (.ref (a 20) :: rest)) := by
  subst hv
  exact hoI (qV (n := 0) (c_X9_thrown l D cA a S X I (hd.sub hsub)  ) C0 hlink im_X9_thrown se_X9_thrown in_X9 co_X9_thrown ⟨rfl, by decide⟩ hR hK hP (hd.1 _ (hsub _ (by decide))) rfl rfl rfl hls hrest rfl hdg hcs) hS hA (fun r S1 X1 H1 locs1 hp hP1 hS1 => by obtain ⟨rfl, rfl, rfl⟩ := hp; exact kk H1 locs1 hP1 hS1)
end CLS
