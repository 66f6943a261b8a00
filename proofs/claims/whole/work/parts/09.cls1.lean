abbrev nT : List Nat := [0, 1, 2, 3, 4, 5, 6, 7, 8, 9, 10, 11, 12, 13, 14, 15, 16, 17, 18, 19, 20, 21, 22, 23, 24, 40, 41, 42, 43, 44, 45, 46, 47, 48, 49, 50, 51, 52, 53, 54, 55, 56, 57, 58, 59, 60, 61, 62, 63, 64, 80, 81, 82, 83, 84, 85, 86]
abbrev nCH : List Nat := [4, 5, 6, 7, 8, 9, 10, 11, 12, 44, 45, 46, 47, 48, 49, 50, 51, 52, 82, 83]
abbrev n0 : List Nat := []
def bI (b : Bool) : Int32 := if b = true then 1 else 0
theorem bI_t {b : Bool} (h : b = true) : bI b = 1 := if_pos h
theorem bI_f {b : Bool} (h : b = false) : bI b = 0 := by rw [h]; rfl
theorem bI_ne {b : Bool} (h : ¬ bI b = 0) : b = true := by cases b with | true => rfl | false => exact absurd rfl h
theorem bI_eq {b : Bool} (h : bI b = 0) : b = false := by cases b with | false => rfl | true => cases h
theorem le_of_nlt {x y : Int32} (h : ¬ x < y) : y ≤ x := Int32.not_lt.mp h
theorem sw_out1 {x : Int32} (h0 : ¬ x = 0) (h1 : ¬ x = 1) : x.toInt < 0 ∨ 1 < x.toInt := by
  have e0 : ¬ x.toInt = 0 := fun h => h0 (Int32.toInt_inj.mp h)
  have e1 : ¬ x.toInt = 1 := fun h => h1 (Int32.toInt_inj.mp h)
  omega
theorem sw_out2 {x : Int32} (h0 : ¬ x = 0) (h1 : ¬ x = 1) (h2 : ¬ x = 2) : x.toInt < 0 ∨ 2 < x.toInt := by
  have e2 : ¬ x.toInt = 2 := fun h => h2 (Int32.toInt_inj.mp h)
  rcases sw_out1 h0 h1 with h | h
  · exact Or.inl h
  · exact Or.inr (by omega)
theorem sw_out3 {x : Int32} (h0 : ¬ x = 0) (h1 : ¬ x = 1) (h2 : ¬ x = 2) (h3 : ¬ x = 3) : x.toInt < 0 ∨ 3 < x.toInt := by
  have e3 : ¬ x.toInt = 3 := fun h => h3 (Int32.toInt_inj.mp h)
  rcases sw_out2 h0 h1 h2 with h | h
  · exact Or.inl h
  · exact Or.inr (by omega)
theorem sw_out4 {x : Int32} (h0 : ¬ x = 0) (h1 : ¬ x = 1) (h2 : ¬ x = 2) (h3 : ¬ x = 3) (h4 : ¬ x = 4) : x.toInt < 0 ∨ 4 < x.toInt := by
  have e4 : ¬ x.toInt = 4 := fun h => h4 (Int32.toInt_inj.mp h)
  rcases sw_out3 h0 h1 h2 h3 with h | h
  · exact Or.inl h
  · exact Or.inr (by omega)
theorem sw_out5 {x : Int32} (h0 : ¬ x = 0) (h1 : ¬ x = 1) (h2 : ¬ x = 2) (h3 : ¬ x = 3) (h4 : ¬ x = 4) (h5 : ¬ x = 5) : x.toInt < 0 ∨ 5 < x.toInt := by
  have e5 : ¬ x.toInt = 5 := fun h => h5 (Int32.toInt_inj.mp h)
  rcases sw_out4 h0 h1 h2 h3 h4 with h | h
  · exact Or.inl h
  · exact Or.inr (by omega)
theorem sw_out6 {x : Int32} (h0 : ¬ x = 0) (h1 : ¬ x = 1) (h2 : ¬ x = 2) (h3 : ¬ x = 3) (h4 : ¬ x = 4) (h5 : ¬ x = 5) (h6 : ¬ x = 6) : x.toInt < 0 ∨ 6 < x.toInt := by
  have e6 : ¬ x.toInt = 6 := fun h => h6 (Int32.toInt_inj.mp h)
  rcases sw_out5 h0 h1 h2 h3 h4 h5 with h | h
  · exact Or.inl h
  · exact Or.inr (by omega)
theorem sw_out7 {x : Int32} (h0 : ¬ x = 0) (h1 : ¬ x = 1) (h2 : ¬ x = 2) (h3 : ¬ x = 3) (h4 : ¬ x = 4) (h5 : ¬ x = 5) (h6 : ¬ x = 6) (h7 : ¬ x = 7) : x.toInt < 0 ∨ 7 < x.toInt := by
  have e7 : ¬ x.toInt = 7 := fun h => h7 (Int32.toInt_inj.mp h)
  rcases sw_out6 h0 h1 h2 h3 h4 h5 h6 with h | h
  · exact Or.inl h
  · exact Or.inr (by omega)
theorem sw_out8 {x : Int32} (h0 : ¬ x = 0) (h1 : ¬ x = 1) (h2 : ¬ x = 2) (h3 : ¬ x = 3) (h4 : ¬ x = 4) (h5 : ¬ x = 5) (h6 : ¬ x = 6) (h7 : ¬ x = 7) (h8 : ¬ x = 8) : x.toInt < 0 ∨ 8 < x.toInt := by
  have e8 : ¬ x.toInt = 8 := fun h => h8 (Int32.toInt_inj.mp h)
  rcases sw_out7 h0 h1 h2 h3 h4 h5 h6 h7 with h | h
  · exact Or.inl h
  · exact Or.inr (by omega)
theorem sw_out9 {x : Int32} (h0 : ¬ x = 0) (h1 : ¬ x = 1) (h2 : ¬ x = 2) (h3 : ¬ x = 3) (h4 : ¬ x = 4) (h5 : ¬ x = 5) (h6 : ¬ x = 6) (h7 : ¬ x = 7) (h8 : ¬ x = 8) (h9 : ¬ x = 9) : x.toInt < 0 ∨ 9 < x.toInt := by
  have e9 : ¬ x.toInt = 9 := fun h => h9 (Int32.toInt_inj.mp h)
  rcases sw_out8 h0 h1 h2 h3 h4 h5 h6 h7 h8 with h | h
  · exact Or.inl h
  · exact Or.inr (by omega)
/-- the depth of a cell at a level -/
def dpt (S : Mem) (c lv : Int32) : Int32 := if 0 < lv - rg (S 0) 196 c then lv - rg (S 0) 196 c else 0
def fndF (P : Nat → Bool) : Nat → Nat → Int32
  | _, 0 => -1
  | i, n + 1 => if P i = true then nI i else fndF P (i + 1) n
section CLS
variable {p : Program} {l : Launch} {e : Env} {R : Room} {s : State} {m : MethodId} {args : Array Value} {below : List Frame} {meth : Method} {c : Code} {H : Heap} {locs : List Loc} {cells slots : Nat} {Q : State → Prop}
variable {cc : ByteArray} {nL : Nat} {own : String} {pc : Nat} {ls : Array Slot} {rest : List Value} {D : va_G} {cA : ClassId} {a : Adr} {S X : Mem} {I : Nat → Prop} {H0 : Heap} {A0 : Nat → Prop}
set_option maxHeartbeats 4000000 in
set_option maxRecDepth 100000 in
theorem c_X8_within (l : Launch) (D : va_G) (cA : ClassId) (a : Adr) (S X : Mem) (I : Nat → Prop) (hd : Hd n0 a I) (x : Int32) (lo : Int32) (hi : Int32) : MI l yX8_within cX8_within 3 (some .boolean) 0 0 D cA a S X I [.int x, .int lo, .int hi] (fun r S1 X1 => r = (bI (decide (lo ≤ x) && decide (x ≤ hi))) ∧ S1 = S ∧ X1 = X) := by
  refine mGo (by decide) (Nat.le_of_ble_eq_true rfl) ?_
  intro p e s m args below meth c ls C0 hr hlk hK hP hS hl hargs
  obtain ⟨H, hHe⟩ : ∃ H, H = s.heap := ⟨_, rfl⟩
  obtain ⟨locs, hlo⟩ : ∃ L : List Loc, L = [] := ⟨_, rfl⟩
  have hP : WP D cA a S X I H := hHe ▸ hP
  have hS : va_S (AI a I) s.heap H locs := by rw [hHe, hlo]; exact hS
  rw [← hHe, ← hlo]
  have hA : ∀ q, AI a I q → AI a I q := fun _ h => h
  refine lv_iload_n C0.1 C0.2.1 dX8_within_0 rfl (lv_at hl 0 rfl) ?_
  refine lv_iload_n C0.1 C0.2.1 dX8_within_1 rfl (lv_at hl 1 rfl) ?_
  refine lv_icmp_lt (tgt := 14) C0.1 C0.2.1 dX8_within_2 (by decide) (fun c_2 => ?_) (fun c_2 => ?_)
  · refine lv_iconst (v := 0) C0.1 C0.2.1 dX8_within_14 (by decide) ?_
    exact retZ C0 hr hlk hP hS rfl ⟨(bI_f (by simp only [Bool.eq_false_iff, ne_eq, Bool.and_eq_true, Bool.or_eq_true, decide_eq_true_eq, Int32.le_iff_toInt_le, Int32.lt_iff_toInt_lt, ← Int32.toInt_inj, Int32.reduceToInt] at c_2 ⊢; omega)).symm, rfl, rfl⟩ dX8_within_15
  · refine lv_iload_n C0.1 C0.2.1 dX8_within_5 rfl (lv_at hl 0 rfl) ?_
    refine lv_iload_n C0.1 C0.2.1 dX8_within_6 rfl (lv_at hl 2 rfl) ?_
    refine lv_icmp_gt (tgt := 14) C0.1 C0.2.1 dX8_within_7 (by decide) (fun c_7 => ?_) (fun c_7 => ?_)
    · refine lv_iconst (v := 0) C0.1 C0.2.1 dX8_within_14 (by decide) ?_
      exact retZ C0 hr hlk hP hS rfl ⟨(bI_f (by simp only [Bool.eq_false_iff, ne_eq, Bool.and_eq_true, Bool.or_eq_true, decide_eq_true_eq, Int32.le_iff_toInt_le, Int32.lt_iff_toInt_lt, ← Int32.toInt_inj, Int32.reduceToInt] at c_2 c_7 ⊢; omega)).symm, rfl, rfl⟩ dX8_within_15
    · refine lv_iconst (v := 1) C0.1 C0.2.1 dX8_within_10 (by decide) ?_
      refine lv_goto (tgt := 15) C0.1 C0.2.1 dX8_within_11 (by decide) ?_
      exact retZ C0 hr hlk hP hS rfl ⟨(bI_t (by simp only [Bool.eq_false_iff, ne_eq, Bool.and_eq_true, Bool.or_eq_true, decide_eq_true_eq, Int32.le_iff_toInt_le, Int32.lt_iff_toInt_lt, ← Int32.toInt_inj, Int32.reduceToInt] at c_2 c_7 ⊢; omega)).symm, rfl, rfl⟩ dX8_within_15
theorem k_X8_within {n : List Nat} (hd : Hd n a I) (hsub : ∀ k ∈ n0, k ∈ n) (C0 : CallFix p m c cc nL s args GW own) (hK : KK D cA s) (hP : WP D cA a S X I H) {x : Int32} {lo : Int32} {hi : Int32} {v : Int32} (hv : (bI (decide (lo ≤ x) && decide (x ≤ hi))) = v) (hS : va_S A0 H0 H locs) (hA : ∀ q, AI a I q → A0 q) (hls : ls.size = nL) {idx : Nat} (hlink : Cond.methodLink own idx yX8_within ∈ GW) (hR : 1 ≤ R.frames ∧ 22 ≤ R.locals) (hcs : cells ≤ R.cells ∧ slots ≤ R.slots) (hrest : (rest.map fun v => v.category).sum ≤ 8) (hdg : decode cc pc = .ok (.invokestatic idx, 3)) (kk : ∀ (H1 : Heap) (locs1 : List Loc), WP D cA a S X I H1 → va_S A0 H0 H1 locs1 → W p l e R s m args below meth c H1 locs1 cells slots Q (F0 m (pc + 3) ls (.int v :: rest))) : W p l e R s m args below meth c H locs cells slots Q (F0 m pc ls (.int hi :: .int lo :: .int x :: rest)) := by
  subst hv
  exact goI (rS (n := 3) (c_X8_within l D cA a S X I (hd.sub hsub) x lo hi ) C0 hlink sm_X8_within in_X8 co_X8_within (by decide) hR hK hP rfl hls hrest rfl hdg hcs) hS hA (fun r S1 X1 H1 locs1 hp hP1 hS1 => by obtain ⟨rfl, rfl, rfl⟩ := hp; exact kk H1 locs1 hP1 hS1)
set_option maxHeartbeats 4000000 in
set_option maxRecDepth 100000 in
theorem c_X8_isOneOf (l : Launch) (D : va_G) (cA : ClassId) (a : Adr) (S X : Mem) (I : Nat → Prop) (hd : Hd n0 a I) (x : Int32) (hi : Int32) : MI l yX8_isOneOf cX8_isOneOf 2 (some .boolean) 0 0 D cA a S X I [.int x, .int hi] (fun r S1 X1 => r = (bI (decide (0 ≤ x) && decide (x < hi))) ∧ S1 = S ∧ X1 = X) := by
  refine mGo (by decide) (Nat.le_of_ble_eq_true rfl) ?_
  intro p e s m args below meth c ls C0 hr hlk hK hP hS hl hargs
  obtain ⟨H, hHe⟩ : ∃ H, H = s.heap := ⟨_, rfl⟩
  obtain ⟨locs, hlo⟩ : ∃ L : List Loc, L = [] := ⟨_, rfl⟩
  have hP : WP D cA a S X I H := hHe ▸ hP
  have hS : va_S (AI a I) s.heap H locs := by rw [hHe, hlo]; exact hS
  rw [← hHe, ← hlo]
  have hA : ∀ q, AI a I q → AI a I q := fun _ h => h
  refine lv_iload_n C0.1 C0.2.1 dX8_isOneOf_0 rfl (lv_at hl 0 rfl) ?_
  refine lv_if_lt (tgt := 13) C0.1 C0.2.1 dX8_isOneOf_1 (by decide) (fun c_1 => ?_) (fun c_1 => ?_)
  · refine lv_iconst (v := 0) C0.1 C0.2.1 dX8_isOneOf_13 (by decide) ?_
    exact retZ C0 hr hlk hP hS rfl ⟨(bI_f (by simp only [Bool.eq_false_iff, ne_eq, Bool.and_eq_true, Bool.or_eq_true, decide_eq_true_eq, Int32.le_iff_toInt_le, Int32.lt_iff_toInt_lt, ← Int32.toInt_inj, Int32.reduceToInt] at c_1 ⊢; omega)).symm, rfl, rfl⟩ dX8_isOneOf_14
  · refine lv_iload_n C0.1 C0.2.1 dX8_isOneOf_4 rfl (lv_at hl 0 rfl) ?_
    refine lv_iload_n C0.1 C0.2.1 dX8_isOneOf_5 rfl (lv_at hl 1 rfl) ?_
    refine lv_icmp_ge (tgt := 13) C0.1 C0.2.1 dX8_isOneOf_6 (by decide) (fun c_6 => ?_) (fun c_6 => ?_)
    · refine lv_iconst (v := 0) C0.1 C0.2.1 dX8_isOneOf_13 (by decide) ?_
      exact retZ C0 hr hlk hP hS rfl ⟨(bI_f (by simp only [Bool.eq_false_iff, ne_eq, Bool.and_eq_true, Bool.or_eq_true, decide_eq_true_eq, Int32.le_iff_toInt_le, Int32.lt_iff_toInt_lt, ← Int32.toInt_inj, Int32.reduceToInt] at c_1 c_6 ⊢; omega)).symm, rfl, rfl⟩ dX8_isOneOf_14
    · refine lv_iconst (v := 1) C0.1 C0.2.1 dX8_isOneOf_9 (by decide) ?_
      refine lv_goto (tgt := 14) C0.1 C0.2.1 dX8_isOneOf_10 (by decide) ?_
      exact retZ C0 hr hlk hP hS rfl ⟨(bI_t (by simp only [Bool.eq_false_iff, ne_eq, Bool.and_eq_true, Bool.or_eq_true, decide_eq_true_eq, Int32.le_iff_toInt_le, Int32.lt_iff_toInt_lt, ← Int32.toInt_inj, Int32.reduceToInt] at c_1 c_6 ⊢; omega)).symm, rfl, rfl⟩ dX8_isOneOf_14
theorem k_X8_isOneOf {n : List Nat} (hd : Hd n a I) (hsub : ∀ k ∈ n0, k ∈ n) (C0 : CallFix p m c cc nL s args GW own) (hK : KK D cA s) (hP : WP D cA a S X I H) {x : Int32} {hi : Int32} {v : Int32} (hv : (bI (decide (0 ≤ x) && decide (x < hi))) = v) (hS : va_S A0 H0 H locs) (hA : ∀ q, AI a I q → A0 q) (hls : ls.size = nL) {idx : Nat} (hlink : Cond.methodLink own idx yX8_isOneOf ∈ GW) (hR : 1 ≤ R.frames ∧ 21 ≤ R.locals) (hcs : cells ≤ R.cells ∧ slots ≤ R.slots) (hrest : (rest.map fun v => v.category).sum ≤ 8) (hdg : decode cc pc = .ok (.invokestatic idx, 3)) (kk : ∀ (H1 : Heap) (locs1 : List Loc), WP D cA a S X I H1 → va_S A0 H0 H1 locs1 → W p l e R s m args below meth c H1 locs1 cells slots Q (F0 m (pc + 3) ls (.int v :: rest))) : W p l e R s m args below meth c H locs cells slots Q (F0 m pc ls (.int hi :: .int x :: rest)) := by
  subst hv
  exact goI (rS (n := 2) (c_X8_isOneOf l D cA a S X I (hd.sub hsub) x hi ) C0 hlink sm_X8_isOneOf in_X8 co_X8_isOneOf (by decide) hR hK hP rfl hls hrest rfl hdg hcs) hS hA (fun r S1 X1 H1 locs1 hp hP1 hS1 => by obtain ⟨rfl, rfl, rfl⟩ := hp; exact kk H1 locs1 hP1 hS1)
set_option maxHeartbeats 4000000 in
set_option maxRecDepth 100000 in
theorem c_X8_onPlain (l : Launch) (D : va_G) (cA : ClassId) (a : Adr) (S X : Mem) (I : Nat → Prop) (hd : Hd n0 a I) (x : Int32) (y : Int32) : MI l yX8_onPlain cX8_onPlain 2 (some .boolean) 1 21 D cA a S X I [.int x, .int y] (fun r S1 X1 => r = (bI ((decide (0 ≤ x) && decide (x < 14)) && (decide (0 ≤ y) && decide (y < 14)))) ∧ S1 = S ∧ X1 = X) := by
  refine mGo (by decide) (Nat.le_of_ble_eq_true rfl) ?_
  intro p e s m args below meth c ls C0 hr hlk hK hP hS hl hargs
  obtain ⟨H, hHe⟩ : ∃ H, H = s.heap := ⟨_, rfl⟩
  obtain ⟨locs, hlo⟩ : ∃ L : List Loc, L = [] := ⟨_, rfl⟩
  have hP : WP D cA a S X I H := hHe ▸ hP
  have hS : va_S (AI a I) s.heap H locs := by rw [hHe, hlo]; exact hS
  rw [← hHe, ← hlo]
  have hA : ∀ q, AI a I q → AI a I q := fun _ h => h
  refine lv_iload_n C0.1 C0.2.1 dX8_onPlain_0 rfl (lv_at hl 0 rfl) ?_
  refine lv_bipush (v := 14) C0.1 C0.2.1 dX8_onPlain_1 (by decide) ?_
  refine k_X8_isOneOf hd (by decide) C0 hK hP  (v := bI (decide (0 ≤ x) && decide (x < 14))) rfl hS hA hl.1 ml_X8_91 ⟨Nat.le_of_ble_eq_true rfl, Nat.le_of_ble_eq_true rfl⟩ ⟨Nat.zero_le _, Nat.zero_le _⟩ (Nat.le_of_ble_eq_true rfl) dX8_onPlain_3 (fun H locs hP hS => ?_)
  refine lv_if_eq (tgt := 22) C0.1 C0.2.1 dX8_onPlain_6 (by decide) (fun c_6 => ?_) (fun c_6 => ?_)
  · have c_6 := bI_eq c_6
    refine lv_iconst (v := 0) C0.1 C0.2.1 dX8_onPlain_22 (by decide) ?_
    exact retZ C0 hr hlk hP hS rfl ⟨(bI_f (by simp only [Bool.eq_false_iff, ne_eq, Bool.and_eq_true, Bool.or_eq_true, decide_eq_true_eq, Int32.le_iff_toInt_le, Int32.lt_iff_toInt_lt, ← Int32.toInt_inj, Int32.reduceToInt] at c_6 ⊢; omega)).symm, rfl, rfl⟩ dX8_onPlain_23
  · have c_6 := bI_ne c_6
    refine lv_iload_n C0.1 C0.2.1 dX8_onPlain_9 rfl (lv_at hl 1 rfl) ?_
    refine lv_bipush (v := 14) C0.1 C0.2.1 dX8_onPlain_10 (by decide) ?_
    refine k_X8_isOneOf hd (by decide) C0 hK hP  (v := bI (decide (0 ≤ y) && decide (y < 14))) rfl hS hA hl.1 ml_X8_91 ⟨Nat.le_of_ble_eq_true rfl, Nat.le_of_ble_eq_true rfl⟩ ⟨Nat.zero_le _, Nat.zero_le _⟩ (Nat.le_of_ble_eq_true rfl) dX8_onPlain_12 (fun H locs hP hS => ?_)
    refine lv_if_eq (tgt := 22) C0.1 C0.2.1 dX8_onPlain_15 (by decide) (fun c_15 => ?_) (fun c_15 => ?_)
    · have c_15 := bI_eq c_15
      refine lv_iconst (v := 0) C0.1 C0.2.1 dX8_onPlain_22 (by decide) ?_
      exact retZ C0 hr hlk hP hS rfl ⟨(bI_f (by simp only [Bool.eq_false_iff, ne_eq, Bool.and_eq_true, Bool.or_eq_true, decide_eq_true_eq, Int32.le_iff_toInt_le, Int32.lt_iff_toInt_lt, ← Int32.toInt_inj, Int32.reduceToInt] at c_6 c_15 ⊢; omega)).symm, rfl, rfl⟩ dX8_onPlain_23
    · have c_15 := bI_ne c_15
      refine lv_iconst (v := 1) C0.1 C0.2.1 dX8_onPlain_18 (by decide) ?_
      refine lv_goto (tgt := 23) C0.1 C0.2.1 dX8_onPlain_19 (by decide) ?_
      exact retZ C0 hr hlk hP hS rfl ⟨(bI_t (by simp only [Bool.eq_false_iff, ne_eq, Bool.and_eq_true, Bool.or_eq_true, decide_eq_true_eq, Int32.le_iff_toInt_le, Int32.lt_iff_toInt_lt, ← Int32.toInt_inj, Int32.reduceToInt] at c_6 c_15 ⊢; omega)).symm, rfl, rfl⟩ dX8_onPlain_23
theorem k_X8_onPlain {n : List Nat} (hd : Hd n a I) (hsub : ∀ k ∈ n0, k ∈ n) (C0 : CallFix p m c cc nL s args GW own) (hK : KK D cA s) (hP : WP D cA a S X I H) {x : Int32} {y : Int32} {v : Int32} (hv : (bI ((decide (0 ≤ x) && decide (x < 14)) && (decide (0 ≤ y) && decide (y < 14)))) = v) (hS : va_S A0 H0 H locs) (hA : ∀ q, AI a I q → A0 q) (hls : ls.size = nL) {idx : Nat} (hlink : Cond.methodLink own idx yX8_onPlain ∈ GW) (hR : 2 ≤ R.frames ∧ 42 ≤ R.locals) (hcs : cells ≤ R.cells ∧ slots ≤ R.slots) (hrest : (rest.map fun v => v.category).sum ≤ 8) (hdg : decode cc pc = .ok (.invokestatic idx, 3)) (kk : ∀ (H1 : Heap) (locs1 : List Loc), WP D cA a S X I H1 → va_S A0 H0 H1 locs1 → W p l e R s m args below meth c H1 locs1 cells slots Q (F0 m (pc + 3) ls (.int v :: rest))) : W p l e R s m args below meth c H locs cells slots Q (F0 m pc ls (.int y :: .int x :: rest)) := by
  subst hv
  exact goI (rS (n := 2) (c_X8_onPlain l D cA a S X I (hd.sub hsub) x y ) C0 hlink sm_X8_onPlain in_X8 co_X8_onPlain (by decide) hR hK hP rfl hls hrest rfl hdg hcs) hS hA (fun r S1 X1 H1 locs1 hp hP1 hS1 => by obtain ⟨rfl, rfl, rfl⟩ := hp; exact kk H1 locs1 hP1 hS1)
set_option maxHeartbeats 4000000 in
set_option maxRecDepth 100000 in
theorem c_X8_cellOf (l : Launch) (D : va_G) (cA : ClassId) (a : Adr) (S X : Mem) (I : Nat → Prop) (hd : Hd n0 a I) (x : Int32) (y : Int32) : MI l yX8_cellOf cX8_cellOf 2 (some .int) 0 0 D cA a S X I [.int x, .int y] (fun r S1 X1 => r = (x + 14 * y) ∧ S1 = S ∧ X1 = X) := by
  refine mGo (by decide) (Nat.le_of_ble_eq_true rfl) ?_
  intro p e s m args below meth c ls C0 hr hlk hK hP hS hl hargs
  obtain ⟨H, hHe⟩ : ∃ H, H = s.heap := ⟨_, rfl⟩
  obtain ⟨locs, hlo⟩ : ∃ L : List Loc, L = [] := ⟨_, rfl⟩
  have hP : WP D cA a S X I H := hHe ▸ hP
  have hS : va_S (AI a I) s.heap H locs := by rw [hHe, hlo]; exact hS
  rw [← hHe, ← hlo]
  have hA : ∀ q, AI a I q → AI a I q := fun _ h => h
  refine lv_iload_n C0.1 C0.2.1 dX8_cellOf_0 rfl (lv_at hl 0 rfl) ?_
  refine lv_bipush (v := 14) C0.1 C0.2.1 dX8_cellOf_1 (by decide) ?_
  refine lv_iload_n C0.1 C0.2.1 dX8_cellOf_3 rfl (lv_at hl 1 rfl) ?_
  refine lv_imul C0.1 C0.2.1 dX8_cellOf_4 ?_
  refine lv_iadd C0.1 C0.2.1 dX8_cellOf_5 ?_
  exact retI C0 hr hlk hP hS ⟨rfl, rfl, rfl⟩ dX8_cellOf_6
theorem k_X8_cellOf {n : List Nat} (hd : Hd n a I) (hsub : ∀ k ∈ n0, k ∈ n) (C0 : CallFix p m c cc nL s args GW own) (hK : KK D cA s) (hP : WP D cA a S X I H) {x : Int32} {y : Int32} {v : Int32} (hv : (x + 14 * y) = v) (hS : va_S A0 H0 H locs) (hA : ∀ q, AI a I q → A0 q) (hls : ls.size = nL) {idx : Nat} (hlink : Cond.methodLink own idx yX8_cellOf ∈ GW) (hR : 1 ≤ R.frames ∧ 21 ≤ R.locals) (hcs : cells ≤ R.cells ∧ slots ≤ R.slots) (hrest : (rest.map fun v => v.category).sum ≤ 8) (hdg : decode cc pc = .ok (.invokestatic idx, 3)) (kk : ∀ (H1 : Heap) (locs1 : List Loc), WP D cA a S X I H1 → va_S A0 H0 H1 locs1 → W p l e R s m args below meth c H1 locs1 cells slots Q (F0 m (pc + 3) ls (.int v :: rest))) : W p l e R s m args below meth c H locs cells slots Q (F0 m pc ls (.int y :: .int x :: rest)) := by
  subst hv
  exact goI (rS (n := 2) (c_X8_cellOf l D cA a S X I (hd.sub hsub) x y ) C0 hlink sm_X8_cellOf in_X8 co_X8_cellOf (by decide) hR hK hP rfl hls hrest rfl hdg hcs) hS hA (fun r S1 X1 H1 locs1 hp hP1 hS1 => by obtain ⟨rfl, rfl, rfl⟩ := hp; exact kk H1 locs1 hP1 hS1)
set_option maxHeartbeats 4000000 in
set_option maxRecDepth 100000 in
theorem c_X8_columnOf (l : Launch) (D : va_G) (cA : ClassId) (a : Adr) (S X : Mem) (I : Nat → Prop) (hd : Hd n0 a I) (x : Int32) : MI l yX8_columnOf cX8_columnOf 1 (some .int) 0 0 D cA a S X I [.int x] (fun r S1 X1 => r = (x - x / 14 * 14) ∧ S1 = S ∧ X1 = X) := by
  refine mGo (by decide) (Nat.le_of_ble_eq_true rfl) ?_
  intro p e s m args below meth c ls C0 hr hlk hK hP hS hl hargs
  obtain ⟨H, hHe⟩ : ∃ H, H = s.heap := ⟨_, rfl⟩
  obtain ⟨locs, hlo⟩ : ∃ L : List Loc, L = [] := ⟨_, rfl⟩
  have hP : WP D cA a S X I H := hHe ▸ hP
  have hS : va_S (AI a I) s.heap H locs := by rw [hHe, hlo]; exact hS
  rw [← hHe, ← hlo]
  have hA : ∀ q, AI a I q → AI a I q := fun _ h => h
  refine lv_iload_n C0.1 C0.2.1 dX8_columnOf_0 rfl (lv_at hl 0 rfl) ?_
  refine lv_bipush (v := 14) C0.1 C0.2.1 dX8_columnOf_1 (by decide) ?_
  refine lv_irem C0.1 C0.2.1 dX8_columnOf_3 (by decide) ?_
  exact retI C0 hr hlk hP hS ⟨rfl, rfl, rfl⟩ dX8_columnOf_4
theorem k_X8_columnOf {n : List Nat} (hd : Hd n a I) (hsub : ∀ k ∈ n0, k ∈ n) (C0 : CallFix p m c cc nL s args GW own) (hK : KK D cA s) (hP : WP D cA a S X I H) {x : Int32} {v : Int32} (hv : (x - x / 14 * 14) = v) (hS : va_S A0 H0 H locs) (hA : ∀ q, AI a I q → A0 q) (hls : ls.size = nL) {idx : Nat} (hlink : Cond.methodLink own idx yX8_columnOf ∈ GW) (hR : 1 ≤ R.frames ∧ 20 ≤ R.locals) (hcs : cells ≤ R.cells ∧ slots ≤ R.slots) (hrest : (rest.map fun v => v.category).sum ≤ 8) (hdg : decode cc pc = .ok (.invokestatic idx, 3)) (kk : ∀ (H1 : Heap) (locs1 : List Loc), WP D cA a S X I H1 → va_S A0 H0 H1 locs1 → W p l e R s m args below meth c H1 locs1 cells slots Q (F0 m (pc + 3) ls (.int v :: rest))) : W p l e R s m args below meth c H locs cells slots Q (F0 m pc ls (.int x :: rest)) := by
  subst hv
  exact goI (rS (n := 1) (c_X8_columnOf l D cA a S X I (hd.sub hsub) x ) C0 hlink sm_X8_columnOf in_X8 co_X8_columnOf (by decide) hR hK hP rfl hls hrest rfl hdg hcs) hS hA (fun r S1 X1 H1 locs1 hp hP1 hS1 => by obtain ⟨rfl, rfl, rfl⟩ := hp; exact kk H1 locs1 hP1 hS1)
theorem kn_X8_columnOf {n : List Nat} (hd : Hd n a I) (hsub : ∀ k ∈ n0, k ∈ n) (C0 : CallFix p m c cc nL s args GW own) (hK : KK D cA s) (hP : WP D cA a S X I H) {x : Int32} {v : Int32} (hv : (x - x / 14 * 14) = v) (hS : va_S A0 H0 H locs) (hA : ∀ q, AI a I q → A0 q) (hls : ls.size = nL) {idx : Nat} {host : String} (hlink : va_Nw (.methodLinkNest own idx yX8_columnOf host) s) (hR : 1 ≤ R.frames ∧ 20 ≤ R.locals) (hcs : cells ≤ R.cells ∧ slots ≤ R.slots) (hrest : (rest.map fun v => v.category).sum ≤ 8) (hdg : decode cc pc = .ok (.invokestatic idx, 3)) (kk : ∀ (H1 : Heap) (locs1 : List Loc), WP D cA a S X I H1 → va_S A0 H0 H1 locs1 → W p l e R s m args below meth c H1 locs1 cells slots Q (F0 m (pc + 3) ls (.int v :: rest))) : W p l e R s m args below meth c H locs cells slots Q (F0 m pc ls (.int x :: rest)) := by
  subst hv
  exact goI (rSN (n := 1) (c_X8_columnOf l D cA a S X I (hd.sub hsub) x ) C0 hlink sm_X8_columnOf in_X8 co_X8_columnOf (by decide) hR hK hP rfl hls hrest rfl hdg hcs) hS hA (fun r S1 X1 H1 locs1 hp hP1 hS1 => by obtain ⟨rfl, rfl, rfl⟩ := hp; exact kk H1 locs1 hP1 hS1)
set_option maxHeartbeats 4000000 in
set_option maxRecDepth 100000 in
theorem c_X8_rowOf (l : Launch) (D : va_G) (cA : ClassId) (a : Adr) (S X : Mem) (I : Nat → Prop) (hd : Hd n0 a I) (x : Int32) : MI l yX8_rowOf cX8_rowOf 1 (some .int) 0 0 D cA a S X I [.int x] (fun r S1 X1 => r = (x / 14) ∧ S1 = S ∧ X1 = X) := by
  refine mGo (by decide) (Nat.le_of_ble_eq_true rfl) ?_
  intro p e s m args below meth c ls C0 hr hlk hK hP hS hl hargs
  obtain ⟨H, hHe⟩ : ∃ H, H = s.heap := ⟨_, rfl⟩
  obtain ⟨locs, hlo⟩ : ∃ L : List Loc, L = [] := ⟨_, rfl⟩
  have hP : WP D cA a S X I H := hHe ▸ hP
  have hS : va_S (AI a I) s.heap H locs := by rw [hHe, hlo]; exact hS
  rw [← hHe, ← hlo]
  have hA : ∀ q, AI a I q → AI a I q := fun _ h => h
  refine lv_iload_n C0.1 C0.2.1 dX8_rowOf_0 rfl (lv_at hl 0 rfl) ?_
  refine lv_bipush (v := 14) C0.1 C0.2.1 dX8_rowOf_1 (by decide) ?_
  refine lv_idiv C0.1 C0.2.1 dX8_rowOf_3 (by decide) ?_
  exact retI C0 hr hlk hP hS ⟨rfl, rfl, rfl⟩ dX8_rowOf_4
theorem k_X8_rowOf {n : List Nat} (hd : Hd n a I) (hsub : ∀ k ∈ n0, k ∈ n) (C0 : CallFix p m c cc nL s args GW own) (hK : KK D cA s) (hP : WP D cA a S X I H) {x : Int32} {v : Int32} (hv : (x / 14) = v) (hS : va_S A0 H0 H locs) (hA : ∀ q, AI a I q → A0 q) (hls : ls.size = nL) {idx : Nat} (hlink : Cond.methodLink own idx yX8_rowOf ∈ GW) (hR : 1 ≤ R.frames ∧ 20 ≤ R.locals) (hcs : cells ≤ R.cells ∧ slots ≤ R.slots) (hrest : (rest.map fun v => v.category).sum ≤ 8) (hdg : decode cc pc = .ok (.invokestatic idx, 3)) (kk : ∀ (H1 : Heap) (locs1 : List Loc), WP D cA a S X I H1 → va_S A0 H0 H1 locs1 → W p l e R s m args below meth c H1 locs1 cells slots Q (F0 m (pc + 3) ls (.int v :: rest))) : W p l e R s m args below meth c H locs cells slots Q (F0 m pc ls (.int x :: rest)) := by
  subst hv
  exact goI (rS (n := 1) (c_X8_rowOf l D cA a S X I (hd.sub hsub) x ) C0 hlink sm_X8_rowOf in_X8 co_X8_rowOf (by decide) hR hK hP rfl hls hrest rfl hdg hcs) hS hA (fun r S1 X1 H1 locs1 hp hP1 hS1 => by obtain ⟨rfl, rfl, rfl⟩ := hp; exact kk H1 locs1 hP1 hS1)
theorem kn_X8_rowOf {n : List Nat} (hd : Hd n a I) (hsub : ∀ k ∈ n0, k ∈ n) (C0 : CallFix p m c cc nL s args GW own) (hK : KK D cA s) (hP : WP D cA a S X I H) {x : Int32} {v : Int32} (hv : (x / 14) = v) (hS : va_S A0 H0 H locs) (hA : ∀ q, AI a I q → A0 q) (hls : ls.size = nL) {idx : Nat} {host : String} (hlink : va_Nw (.methodLinkNest own idx yX8_rowOf host) s) (hR : 1 ≤ R.frames ∧ 20 ≤ R.locals) (hcs : cells ≤ R.cells ∧ slots ≤ R.slots) (hrest : (rest.map fun v => v.category).sum ≤ 8) (hdg : decode cc pc = .ok (.invokestatic idx, 3)) (kk : ∀ (H1 : Heap) (locs1 : List Loc), WP D cA a S X I H1 → va_S A0 H0 H1 locs1 → W p l e R s m args below meth c H1 locs1 cells slots Q (F0 m (pc + 3) ls (.int v :: rest))) : W p l e R s m args below meth c H locs cells slots Q (F0 m pc ls (.int x :: rest)) := by
  subst hv
  exact goI (rSN (n := 1) (c_X8_rowOf l D cA a S X I (hd.sub hsub) x ) C0 hlink sm_X8_rowOf in_X8 co_X8_rowOf (by decide) hR hK hP rfl hls hrest rfl hdg hcs) hS hA (fun r S1 X1 H1 locs1 hp hP1 hS1 => by obtain ⟨rfl, rfl, rfl⟩ := hp; exact kk H1 locs1 hP1 hS1)
set_option maxHeartbeats 4000000 in
set_option maxRecDepth 100000 in
theorem c_X4_levelAt (l : Launch) (D : va_G) (cA : ClassId) (a : Adr) (S X : Mem) (I : Nat → Prop) (hd : Hd nT a I) (h : Int32) : MI l yX4_levelAt cX4_levelAt 2 (some .int) 1 21 D cA a S X I [.ref (a 80), .int h] (fun r S1 X1 => r = (rg (S 2) 12 (h - h / 12 * 12)) ∧ S1 = S ∧ X1 = X) := by
  refine mGo (by decide) (Nat.le_of_ble_eq_true rfl) ?_
  intro p e s m args below meth c ls C0 hr hlk hK hP hS hl hargs
  obtain ⟨H, hHe⟩ : ∃ H, H = s.heap := ⟨_, rfl⟩
  obtain ⟨locs, hlo⟩ : ∃ L : List Loc, L = [] := ⟨_, rfl⟩
  have hP : WP D cA a S X I H := hHe ▸ hP
  have hS : va_S (AI a I) s.heap H locs := by rw [hHe, hlo]; exact hS
  rw [← hHe, ← hlo]
  have hA : ∀ q, AI a I q → AI a I q := fun _ h => h
  refine lv_aload_n C0.1 C0.2.1 dX4_levelAt_0 rfl (lv_at hl 0 rfl) ?_
  refine g80_water C0 hK hP (hd.1 _ (by decide)) fl_X4_23 dX4_levelAt_1 ?_
  refine lv_iload_n C0.1 C0.2.1 dX4_levelAt_4 rfl (lv_at hl 1 rfl) ?_
  refine lv_bipush (v := 12) C0.1 C0.2.1 dX4_levelAt_5 (by decide) ?_
  refine lv_irem C0.1 C0.2.1 dX4_levelAt_7 (by decide) ?_
  refine k_X5_get (v := rg (S 2) 12 (h - h / 12 * 12)) 2 (by decide) hd (by decide) (by decide) C0 hK hP rfl hS hA hl.1 ml_X4_29 ⟨Nat.le_of_ble_eq_true rfl, Nat.le_of_ble_eq_true rfl⟩ ⟨Nat.zero_le _, Nat.zero_le _⟩ (Nat.le_of_ble_eq_true rfl) dX4_levelAt_8 (fun H locs hP hS => ?_)
  exact retI C0 hr hlk hP hS ⟨rfl, rfl, rfl⟩ dX4_levelAt_11
theorem k_X4_levelAt {n : List Nat} (hd : Hd n a I) (hsub : ∀ k ∈ nT, k ∈ n) (C0 : CallFix p m c cc nL s args GW own) (hK : KK D cA s) (hP : WP D cA a S X I H) {h : Int32} {v : Int32} (hv : (rg (S 2) 12 (h - h / 12 * 12)) = v) (hS : va_S A0 H0 H locs) (hA : ∀ q, AI a I q → A0 q) (hls : ls.size = nL) {idx : Nat} (hlink : Cond.methodLink own idx yX4_levelAt ∈ GW) (hR : 2 ≤ R.frames ∧ 42 ≤ R.locals) (hcs : cells ≤ R.cells ∧ slots ≤ R.slots) (hrest : (rest.map fun v => v.category).sum ≤ 8) (hdg : decode cc pc = .ok (.invokevirtual idx, 3)) (kk : ∀ (H1 : Heap) (locs1 : List Loc), WP D cA a S X I H1 → va_S A0 H0 H1 locs1 → W p l e R s m args below meth c H1 locs1 cells slots Q (F0 m (pc + 3) ls (.int v :: rest))) : W p l e R s m args below meth c H locs cells slots Q (F0 m pc ls (.int h :: .ref (a 80) :: rest)) := by
  subst hv
  exact goI (rV (n := 1) (c_X4_levelAt l D cA a S X I (hd.sub hsub) h ) C0 hlink im_X4_levelAt se_X4_levelAt in_X4 co_X4_levelAt ⟨rfl, by decide⟩ hR hK hP (hd.1 _ (hsub _ (by decide))) rfl rfl rfl hls hrest rfl hdg hcs) hS hA (fun r S1 X1 H1 locs1 hp hP1 hS1 => by obtain ⟨rfl, rfl, rfl⟩ := hp; exact kk H1 locs1 hP1 hS1)
set_option maxHeartbeats 4000000 in
set_option maxRecDepth 100000 in
theorem c_X4_depth (l : Launch) (D : va_G) (cA : ClassId) (a : Adr) (S X : Mem) (I : Nat → Prop) (hd : Hd nT a I) (x : Int32) (lv : Int32) : MI l yX4_depth cX4_depth 3 (some .int) 1 21 D cA a S X I [.ref (a 80), .int x, .int lv] (fun r S1 X1 => r = (dpt S x lv) ∧ S1 = S ∧ X1 = X) := by
  refine mGo (by decide) (Nat.le_of_ble_eq_true rfl) ?_
  intro p e s m args below meth c ls C0 hr hlk hK hP hS hl hargs
  obtain ⟨H, hHe⟩ : ∃ H, H = s.heap := ⟨_, rfl⟩
  obtain ⟨locs, hlo⟩ : ∃ L : List Loc, L = [] := ⟨_, rfl⟩
  have hP : WP D cA a S X I H := hHe ▸ hP
  have hS : va_S (AI a I) s.heap H locs := by rw [hHe, hlo]; exact hS
  rw [← hHe, ← hlo]
  have hA : ∀ q, AI a I q → AI a I q := fun _ h => h
  refine lv_iconst (v := 0) C0.1 C0.2.1 dX4_depth_0 (by decide) ?_
  refine lv_iload_n C0.1 C0.2.1 dX4_depth_1 rfl (lv_at hl 2 rfl) ?_
  refine lv_aload_n C0.1 C0.2.1 dX4_depth_2 rfl (lv_at hl 0 rfl) ?_
  refine g80_ground C0 hK hP (hd.1 _ (by decide)) fl_X4_14 dX4_depth_3 ?_
  refine lv_iload_n C0.1 C0.2.1 dX4_depth_6 rfl (lv_at hl 1 rfl) ?_
  refine k_X5_get (v := rg (S 0) 196 x) 0 (by decide) hd (by decide) (by decide) C0 hK hP rfl hS hA hl.1 ml_X4_29 ⟨Nat.le_of_ble_eq_true rfl, Nat.le_of_ble_eq_true rfl⟩ ⟨Nat.zero_le _, Nat.zero_le _⟩ (Nat.le_of_ble_eq_true rfl) dX4_depth_7 (fun H locs hP hS => ?_)
  refine lv_isub C0.1 C0.2.1 dX4_depth_10 ?_
  refine va_mmax C0.1 C0.2.1 (C0.2.2.1.trans hl.1.symm) C0.2.2.2.1 (C0.2.2.2.2 _ ml_X4_33) (C0.2.2.2.2 _ sm_M_max) (C0.2.2.2.2 _ in_J9) (C0.2.2.2.2 _ co_M_max) (Nat.le_of_ble_eq_true rfl) (Nat.le_of_ble_eq_true rfl) (Nat.zero_le _) (Nat.zero_le _) dX4_depth_11 ?_
  exact retI C0 hr hlk hP hS ⟨rfl, rfl, rfl⟩ dX4_depth_14
theorem k_X4_depth {n : List Nat} (hd : Hd n a I) (hsub : ∀ k ∈ nT, k ∈ n) (C0 : CallFix p m c cc nL s args GW own) (hK : KK D cA s) (hP : WP D cA a S X I H) {x : Int32} {lv : Int32} {v : Int32} (hv : (dpt S x lv) = v) (hS : va_S A0 H0 H locs) (hA : ∀ q, AI a I q → A0 q) (hls : ls.size = nL) {idx : Nat} (hlink : Cond.methodLink own idx yX4_depth ∈ GW) (hR : 2 ≤ R.frames ∧ 43 ≤ R.locals) (hcs : cells ≤ R.cells ∧ slots ≤ R.slots) (hrest : (rest.map fun v => v.category).sum ≤ 8) (hdg : decode cc pc = .ok (.invokevirtual idx, 3)) (kk : ∀ (H1 : Heap) (locs1 : List Loc), WP D cA a S X I H1 → va_S A0 H0 H1 locs1 → W p l e R s m args below meth c H1 locs1 cells slots Q (F0 m (pc + 3) ls (.int v :: rest))) : W p l e R s m args below meth c H locs cells slots Q (F0 m pc ls (.int lv :: .int x :: .ref (a 80) :: rest)) := by
  subst hv
  exact goI (rV (n := 2) (c_X4_depth l D cA a S X I (hd.sub hsub) x lv ) C0 hlink im_X4_depth se_X4_depth in_X4 co_X4_depth ⟨rfl, by decide⟩ hR hK hP (hd.1 _ (hsub _ (by decide))) rfl rfl rfl hls hrest rfl hdg hcs) hS hA (fun r S1 X1 H1 locs1 hp hP1 hS1 => by obtain ⟨rfl, rfl, rfl⟩ := hp; exact kk H1 locs1 hP1 hS1)
set_option maxHeartbeats 4000000 in
set_option maxRecDepth 100000 in
theorem c_X4_showsStake (l : Launch) (D : va_G) (cA : ClassId) (a : Adr) (S X : Mem) (I : Nat → Prop) (hd : Hd nT a I) (x : Int32) (lv : Int32) : MI l yX4_showsStake cX4_showsStake 3 (some .boolean) 2 43 D cA a S X I [.ref (a 80), .int x, .int lv] (fun r S1 X1 => r = (bI (decide (dpt S x lv < rg (S 1) 196 x))) ∧ S1 = S ∧ X1 = X) := by
  refine mGo (by decide) (Nat.le_of_ble_eq_true rfl) ?_
  intro p e s m args below meth c ls C0 hr hlk hK hP hS hl hargs
  obtain ⟨H, hHe⟩ : ∃ H, H = s.heap := ⟨_, rfl⟩
  obtain ⟨locs, hlo⟩ : ∃ L : List Loc, L = [] := ⟨_, rfl⟩
  have hP : WP D cA a S X I H := hHe ▸ hP
  have hS : va_S (AI a I) s.heap H locs := by rw [hHe, hlo]; exact hS
  rw [← hHe, ← hlo]
  have hA : ∀ q, AI a I q → AI a I q := fun _ h => h
  refine lv_aload_n C0.1 C0.2.1 dX4_showsStake_0 rfl (lv_at hl 0 rfl) ?_
  refine lv_iload_n C0.1 C0.2.1 dX4_showsStake_1 rfl (lv_at hl 1 rfl) ?_
  refine lv_iload_n C0.1 C0.2.1 dX4_showsStake_2 rfl (lv_at hl 2 rfl) ?_
  refine k_X4_depth hd (by decide) C0 hK hP  (v := dpt S x lv) rfl hS hA hl.1 ml_X4_39 ⟨Nat.le_of_ble_eq_true rfl, Nat.le_of_ble_eq_true rfl⟩ ⟨Nat.zero_le _, Nat.zero_le _⟩ (Nat.le_of_ble_eq_true rfl) dX4_showsStake_3 (fun H locs hP hS => ?_)
  refine lv_aload_n C0.1 C0.2.1 dX4_showsStake_6 rfl (lv_at hl 0 rfl) ?_
  refine g80_stake C0 hK hP (hd.1 _ (by decide)) fl_X4_20 dX4_showsStake_7 ?_
  refine lv_iload_n C0.1 C0.2.1 dX4_showsStake_10 rfl (lv_at hl 1 rfl) ?_
  refine k_X5_get (v := rg (S 1) 196 x) 1 (by decide) hd (by decide) (by decide) C0 hK hP rfl hS hA hl.1 ml_X4_29 ⟨Nat.le_of_ble_eq_true rfl, Nat.le_of_ble_eq_true rfl⟩ ⟨Nat.zero_le _, Nat.zero_le _⟩ (Nat.le_of_ble_eq_true rfl) dX4_showsStake_11 (fun H locs hP hS => ?_)
  refine lv_icmp_ge (tgt := 21) C0.1 C0.2.1 dX4_showsStake_14 (by decide) (fun c_14 => ?_) (fun c_14 => ?_)
  · refine lv_iconst (v := 0) C0.1 C0.2.1 dX4_showsStake_21 (by decide) ?_
    exact retZ C0 hr hlk hP hS rfl ⟨(bI_f (by simp only [Bool.eq_false_iff, ne_eq, Bool.and_eq_true, Bool.or_eq_true, decide_eq_true_eq, Int32.le_iff_toInt_le, Int32.lt_iff_toInt_lt, ← Int32.toInt_inj, Int32.reduceToInt] at c_14 ⊢; omega)).symm, rfl, rfl⟩ dX4_showsStake_22
  · refine lv_iconst (v := 1) C0.1 C0.2.1 dX4_showsStake_17 (by decide) ?_
    refine lv_goto (tgt := 22) C0.1 C0.2.1 dX4_showsStake_18 (by decide) ?_
    exact retZ C0 hr hlk hP hS rfl ⟨(bI_t (by simp only [Bool.eq_false_iff, ne_eq, Bool.and_eq_true, Bool.or_eq_true, decide_eq_true_eq, Int32.le_iff_toInt_le, Int32.lt_iff_toInt_lt, ← Int32.toInt_inj, Int32.reduceToInt] at c_14 ⊢; omega)).symm, rfl, rfl⟩ dX4_showsStake_22
theorem k_X4_showsStake {n : List Nat} (hd : Hd n a I) (hsub : ∀ k ∈ nT, k ∈ n) (C0 : CallFix p m c cc nL s args GW own) (hK : KK D cA s) (hP : WP D cA a S X I H) {x : Int32} {lv : Int32} {v : Int32} (hv : (bI (decide (dpt S x lv < rg (S 1) 196 x))) = v) (hS : va_S A0 H0 H locs) (hA : ∀ q, AI a I q → A0 q) (hls : ls.size = nL) {idx : Nat} (hlink : Cond.methodLink own idx yX4_showsStake ∈ GW) (hR : 3 ≤ R.frames ∧ 65 ≤ R.locals) (hcs : cells ≤ R.cells ∧ slots ≤ R.slots) (hrest : (rest.map fun v => v.category).sum ≤ 8) (hdg : decode cc pc = .ok (.invokevirtual idx, 3)) (kk : ∀ (H1 : Heap) (locs1 : List Loc), WP D cA a S X I H1 → va_S A0 H0 H1 locs1 → W p l e R s m args below meth c H1 locs1 cells slots Q (F0 m (pc + 3) ls (.int v :: rest))) : W p l e R s m args below meth c H locs cells slots Q (F0 m pc ls (.int lv :: .int x :: .ref (a 80) :: rest)) := by
  subst hv
  exact goI (rV (n := 2) (c_X4_showsStake l D cA a S X I (hd.sub hsub) x lv ) C0 hlink im_X4_showsStake se_X4_showsStake in_X4 co_X4_showsStake ⟨rfl, by decide⟩ hR hK hP (hd.1 _ (hsub _ (by decide))) rfl rfl rfl hls hrest rfl hdg hcs) hS hA (fun r S1 X1 H1 locs1 hp hP1 hS1 => by obtain ⟨rfl, rfl, rfl⟩ := hp; exact kk H1 locs1 hP1 hS1)
set_option maxHeartbeats 4000000 in
set_option maxRecDepth 100000 in
theorem c_X3_add (l : Launch) (D : va_G) (cA : ClassId) (a : Adr) (S X : Mem) (I : Nat → Prop) (hd : Hd nT a I) (x : Int32) : MI l yX3_add cX3_add 3 (some .int) 1 22 D cA a S X I [.ref (a 81), .int x] (fun r S1 X1 => r = ((S 81) 0) ∧ S1 = (up (up S 3 (us (S 3) 8 ((S 81) 0) x)) 81 (fun _ => (S 81) 0 + 1)) ∧ X1 = X) := by
  refine mGo (by decide) (Nat.le_of_ble_eq_true rfl) ?_
  intro p e s m args below meth c ls C0 hr hlk hK hP hS hl hargs
  obtain ⟨H, hHe⟩ : ∃ H, H = s.heap := ⟨_, rfl⟩
  obtain ⟨locs, hlo⟩ : ∃ L : List Loc, L = [] := ⟨_, rfl⟩
  have hP : WP D cA a S X I H := hHe ▸ hP
  have hS : va_S (AI a I) s.heap H locs := by rw [hHe, hlo]; exact hS
  rw [← hHe, ← hlo]
  have hA : ∀ q, AI a I q → AI a I q := fun _ h => h
  refine lv_aload_n C0.1 C0.2.1 dX3_add_0 rfl (lv_at hl 0 rfl) ?_
  refine g81_number (v := S 81 0) C0 hK hP (hd.1 _ (by decide)) fl_X3_20 rfl dX3_add_1 ?_
  refine lv_istore_n (lv' := [(2, .int (S 81 0)), (0, .ref (a 81)), (1, .int x)]) C0.1 C0.2.1 dX3_add_4 rfl hl (by decide) rfl (fun ls hl => ?_)
  refine lv_aload_n C0.1 C0.2.1 dX3_add_5 rfl (lv_at hl 1 rfl) ?_
  refine g81_cell C0 hK hP (hd.1 _ (by decide)) fl_X3_14 dX3_add_6 ?_
  refine lv_iload_n C0.1 C0.2.1 dX3_add_9 rfl (lv_at hl 0 rfl) ?_
  refine lv_iload_n C0.1 C0.2.1 dX3_add_10 rfl (lv_at hl 2 rfl) ?_
  refine k_X5_set 3 (by decide) hd (by decide) (by decide) C0 hK hP hS hA hl.1 ml_X3_24 ⟨Nat.le_of_ble_eq_true rfl, Nat.le_of_ble_eq_true rfl⟩ ⟨Nat.zero_le _, Nat.zero_le _⟩ (Nat.le_of_ble_eq_true rfl) dX3_add_11 (fun H locs hP hS => ?_)
  have hP : WP D cA a (up S 3 (us (S 3) 8 (S 81 0) x)) X I H := hP
  refine lv_aload_n C0.1 C0.2.1 dX3_add_14 rfl (lv_at hl 1 rfl) ?_
  refine lv_dup C0.1 C0.2.1 dX3_add_15 rfl ?_
  refine g81_number (v := S 81 0) C0 hK hP (hd.1 _ (by decide)) fl_X3_20 rfl dX3_add_16 ?_
  refine lv_iconst (v := 1) C0.1 C0.2.1 dX3_add_19 (by decide) ?_
  refine lv_iadd C0.1 C0.2.1 dX3_add_20 ?_
  refine p81_number (x := ((S 81 0) + 1)) C0 hK hP hS hA (hd.1 _ (by decide)) hd.2.2 fl_X3_20 dX3_add_21 (fun H locs hP hS => ?_)
  have hP : WP D cA a (up (up S 3 (us (S 3) 8 (S 81 0) x)) 81 (fun _ => (S 81 0) + 1)) X I H := hP
  refine lv_iload_n C0.1 C0.2.1 dX3_add_24 rfl (lv_at hl 0 rfl) ?_
  exact retI C0 hr hlk hP hS ⟨rfl, rfl, rfl⟩ dX3_add_25
theorem k_X3_add {n : List Nat} (hd : Hd n a I) (hsub : ∀ k ∈ nT, k ∈ n) (C0 : CallFix p m c cc nL s args GW own) (hK : KK D cA s) (hP : WP D cA a S X I H) {x : Int32} {v : Int32} (hv : ((S 81) 0) = v) (hS : va_S A0 H0 H locs) (hA : ∀ q, AI a I q → A0 q) (hls : ls.size = nL) {idx : Nat} (hlink : Cond.methodLink own idx yX3_add ∈ GW) (hR : 2 ≤ R.frames ∧ 44 ≤ R.locals) (hcs : cells ≤ R.cells ∧ slots ≤ R.slots) (hrest : (rest.map fun v => v.category).sum ≤ 8) (hdg : decode cc pc = .ok (.invokevirtual idx, 3)) (kk : ∀ (H1 : Heap) (locs1 : List Loc), WP D cA a (up (up S 3 (us (S 3) 8 ((S 81) 0) x)) 81 (fun _ => (S 81) 0 + 1)) X I H1 → va_S A0 H0 H1 locs1 → W p l e R s m args below meth c H1 locs1 cells slots Q (F0 m (pc + 3) ls (.int v :: rest))) : W p l e R s m args below meth c H locs cells slots Q (F0 m pc ls (.int x :: .ref (a 81) :: rest)) := by
  subst hv
  exact goI (rV (n := 1) (c_X3_add l D cA a S X I (hd.sub hsub) x ) C0 hlink im_X3_add se_X3_add in_X3 co_X3_add ⟨rfl, by decide⟩ hR hK hP (hd.1 _ (hsub _ (by decide))) rfl rfl rfl hls hrest rfl hdg hcs) hS hA (fun r S1 X1 H1 locs1 hp hP1 hS1 => by obtain ⟨rfl, rfl, rfl⟩ := hp; exact kk H1 locs1 hP1 hS1)
set_option maxHeartbeats 4000000 in
set_option maxRecDepth 100000 in
theorem c_X2_add (l : Launch) (D : va_G) (cA : ClassId) (a : Adr) (S X : Mem) (I : Nat → Prop) (hd : Hd nT a I) (h : Int32) (q : Int32) : MI l yX2_add cX2_add 4 (some .int) 1 22 D cA a S X I [.ref (a 82), .int h, .int q] (fun r S1 X1 => r = ((S 82) 0) ∧ S1 = (up (up (up S 4 (us (S 4) 6 ((S 82) 0) h)) 5 (us (S 5) 6 ((S 82) 0) q)) 82 (fun _ => (S 82) 0 + 1)) ∧ X1 = X) := by
  refine mGo (by decide) (Nat.le_of_ble_eq_true rfl) ?_
  intro p e s m args below meth c ls C0 hr hlk hK hP hS hl hargs
  obtain ⟨H, hHe⟩ : ∃ H, H = s.heap := ⟨_, rfl⟩
  obtain ⟨locs, hlo⟩ : ∃ L : List Loc, L = [] := ⟨_, rfl⟩
  have hP : WP D cA a S X I H := hHe ▸ hP
  have hS : va_S (AI a I) s.heap H locs := by rw [hHe, hlo]; exact hS
  rw [← hHe, ← hlo]
  have hA : ∀ q, AI a I q → AI a I q := fun _ h => h
  refine lv_aload_n C0.1 C0.2.1 dX2_add_0 rfl (lv_at hl 0 rfl) ?_
  refine g82_number (v := S 82 0) C0 hK hP (hd.1 _ (by decide)) fl_X2_35 rfl dX2_add_1 ?_
  refine lv_istore_n (lv' := [(3, .int (S 82 0)), (0, .ref (a 82)), (1, .int h), (2, .int q)]) C0.1 C0.2.1 dX2_add_4 rfl hl (by decide) rfl (fun ls hl => ?_)
  refine lv_aload_n C0.1 C0.2.1 dX2_add_5 rfl (lv_at hl 1 rfl) ?_
  refine g82_home C0 hK hP (hd.1 _ (by decide)) fl_X2_14 dX2_add_6 ?_
  refine lv_iload_n C0.1 C0.2.1 dX2_add_9 rfl (lv_at hl 0 rfl) ?_
  refine lv_iload_n C0.1 C0.2.1 dX2_add_10 rfl (lv_at hl 2 rfl) ?_
  refine k_X5_set 4 (by decide) hd (by decide) (by decide) C0 hK hP hS hA hl.1 ml_X2_39 ⟨Nat.le_of_ble_eq_true rfl, Nat.le_of_ble_eq_true rfl⟩ ⟨Nat.zero_le _, Nat.zero_le _⟩ (Nat.le_of_ble_eq_true rfl) dX2_add_11 (fun H locs hP hS => ?_)
  have hP : WP D cA a (up S 4 (us (S 4) 6 (S 82 0) h)) X I H := hP
  refine lv_aload_n C0.1 C0.2.1 dX2_add_14 rfl (lv_at hl 1 rfl) ?_
  refine g82_goal C0 hK hP (hd.1 _ (by decide)) fl_X2_20 dX2_add_15 ?_
  refine lv_iload_n C0.1 C0.2.1 dX2_add_18 rfl (lv_at hl 0 rfl) ?_
  refine lv_iload_n C0.1 C0.2.1 dX2_add_19 rfl (lv_at hl 3 rfl) ?_
  refine k_X5_set 5 (by decide) hd (by decide) (by decide) C0 hK hP hS hA hl.1 ml_X2_39 ⟨Nat.le_of_ble_eq_true rfl, Nat.le_of_ble_eq_true rfl⟩ ⟨Nat.zero_le _, Nat.zero_le _⟩ (Nat.le_of_ble_eq_true rfl) dX2_add_20 (fun H locs hP hS => ?_)
  have hP : WP D cA a (up (up S 4 (us (S 4) 6 (S 82 0) h)) 5 (us (S 5) 6 (S 82 0) q)) X I H := hP
  refine lv_aload_n C0.1 C0.2.1 dX2_add_23 rfl (lv_at hl 1 rfl) ?_
  refine lv_dup C0.1 C0.2.1 dX2_add_24 rfl ?_
  refine g82_number (v := S 82 0) C0 hK hP (hd.1 _ (by decide)) fl_X2_35 rfl dX2_add_25 ?_
  refine lv_iconst (v := 1) C0.1 C0.2.1 dX2_add_28 (by decide) ?_
  refine lv_iadd C0.1 C0.2.1 dX2_add_29 ?_
  refine p82_number (x := ((S 82 0) + 1)) C0 hK hP hS hA (hd.1 _ (by decide)) hd.2.2 fl_X2_35 dX2_add_30 (fun H locs hP hS => ?_)
  have hP : WP D cA a (up (up (up S 4 (us (S 4) 6 (S 82 0) h)) 5 (us (S 5) 6 (S 82 0) q)) 82 (fun _ => (S 82 0) + 1)) X I H := hP
  refine lv_iload_n C0.1 C0.2.1 dX2_add_33 rfl (lv_at hl 0 rfl) ?_
  exact retI C0 hr hlk hP hS ⟨rfl, rfl, rfl⟩ dX2_add_34
theorem k_X2_add {n : List Nat} (hd : Hd n a I) (hsub : ∀ k ∈ nT, k ∈ n) (C0 : CallFix p m c cc nL s args GW own) (hK : KK D cA s) (hP : WP D cA a S X I H) {h : Int32} {q : Int32} {v : Int32} (hv : ((S 82) 0) = v) (hS : va_S A0 H0 H locs) (hA : ∀ q, AI a I q → A0 q) (hls : ls.size = nL) {idx : Nat} (hlink : Cond.methodLink own idx yX2_add ∈ GW) (hR : 2 ≤ R.frames ∧ 45 ≤ R.locals) (hcs : cells ≤ R.cells ∧ slots ≤ R.slots) (hrest : (rest.map fun v => v.category).sum ≤ 8) (hdg : decode cc pc = .ok (.invokevirtual idx, 3)) (kk : ∀ (H1 : Heap) (locs1 : List Loc), WP D cA a (up (up (up S 4 (us (S 4) 6 ((S 82) 0) h)) 5 (us (S 5) 6 ((S 82) 0) q)) 82 (fun _ => (S 82) 0 + 1)) X I H1 → va_S A0 H0 H1 locs1 → W p l e R s m args below meth c H1 locs1 cells slots Q (F0 m (pc + 3) ls (.int v :: rest))) : W p l e R s m args below meth c H locs cells slots Q (F0 m pc ls (.int q :: .int h :: .ref (a 82) :: rest)) := by
  subst hv
  exact goI (rV (n := 2) (c_X2_add l D cA a S X I (hd.sub hsub) h q ) C0 hlink im_X2_add se_X2_add in_X2 co_X2_add ⟨rfl, by decide⟩ hR hK hP (hd.1 _ (hsub _ (by decide))) rfl rfl rfl hls hrest rfl hdg hcs) hS hA (fun r S1 X1 H1 locs1 hp hP1 hS1 => by obtain ⟨rfl, rfl, rfl⟩ := hp; exact kk H1 locs1 hP1 hS1)
set_option maxHeartbeats 4000000 in
set_option maxRecDepth 100000 in
theorem c_X2_fitOut (l : Launch) (D : va_G) (cA : ClassId) (a : Adr) (S X : Mem) (I : Nat → Prop) (hd : Hd nT a I) (q : Int32) (x6 : Int32) (x7 : Int32) (x8 : Int32) (x9 : Int32) : MV l yX2_fitOut cX2_fitOut 6 none 1 22 D cA a S X I [.ref (a 82), .int q, .int x6, .int x7, .int x8, .int x9] (fun S1 X1 => S1 = (up (up (up (up S 6 (us (S 6) 6 q x6)) 7 (us (S 7) 6 q x7)) 8 (us (S 8) 6 q x8)) 9 (us (S 9) 6 q x9)) ∧ X1 = X) := by
  refine mGo (by decide) (Nat.le_of_ble_eq_true rfl) ?_
  intro p e s m args below meth c ls C0 hr hlk hK hP hS hl hargs
  obtain ⟨H, hHe⟩ : ∃ H, H = s.heap := ⟨_, rfl⟩
  obtain ⟨locs, hlo⟩ : ∃ L : List Loc, L = [] := ⟨_, rfl⟩
  have hP : WP D cA a S X I H := hHe ▸ hP
  have hS : va_S (AI a I) s.heap H locs := by rw [hHe, hlo]; exact hS
  rw [← hHe, ← hlo]
  have hA : ∀ q, AI a I q → AI a I q := fun _ h => h
  refine lv_aload_n C0.1 C0.2.1 dX2_fitOut_0 rfl (lv_at hl 0 rfl) ?_
  refine g82_draught C0 hK hP (hd.1 _ (by decide)) fl_X2_23 dX2_fitOut_1 ?_
  refine lv_iload_n C0.1 C0.2.1 dX2_fitOut_4 rfl (lv_at hl 1 rfl) ?_
  refine lv_iload_n C0.1 C0.2.1 dX2_fitOut_5 rfl (lv_at hl 2 rfl) ?_
  refine k_X5_set 6 (by decide) hd (by decide) (by decide) C0 hK hP hS hA hl.1 ml_X2_39 ⟨Nat.le_of_ble_eq_true rfl, Nat.le_of_ble_eq_true rfl⟩ ⟨Nat.zero_le _, Nat.zero_le _⟩ (Nat.le_of_ble_eq_true rfl) dX2_fitOut_6 (fun H locs hP hS => ?_)
  have hP : WP D cA a (up S 6 (us (S 6) 6 q x6)) X I H := hP
  refine lv_aload_n C0.1 C0.2.1 dX2_fitOut_9 rfl (lv_at hl 0 rfl) ?_
  refine g82_pole C0 hK hP (hd.1 _ (by decide)) fl_X2_26 dX2_fitOut_10 ?_
  refine lv_iload_n C0.1 C0.2.1 dX2_fitOut_13 rfl (lv_at hl 1 rfl) ?_
  refine lv_iload_n C0.1 C0.2.1 dX2_fitOut_14 rfl (lv_at hl 3 rfl) ?_
  refine k_X5_set 7 (by decide) hd (by decide) (by decide) C0 hK hP hS hA hl.1 ml_X2_39 ⟨Nat.le_of_ble_eq_true rfl, Nat.le_of_ble_eq_true rfl⟩ ⟨Nat.zero_le _, Nat.zero_le _⟩ (Nat.le_of_ble_eq_true rfl) dX2_fitOut_15 (fun H locs hP hS => ?_)
  have hP : WP D cA a (up (up S 6 (us (S 6) 6 q x6)) 7 (us (S 7) 6 q x7)) X I H := hP
  refine lv_aload_n C0.1 C0.2.1 dX2_fitOut_18 rfl (lv_at hl 0 rfl) ?_
  refine g82_room C0 hK hP (hd.1 _ (by decide)) fl_X2_29 dX2_fitOut_19 ?_
  refine lv_iload_n C0.1 C0.2.1 dX2_fitOut_22 rfl (lv_at hl 1 rfl) ?_
  refine lv_iload C0.1 C0.2.1 dX2_fitOut_23 (lv_at hl 4 rfl) ?_
  refine k_X5_set 8 (by decide) hd (by decide) (by decide) C0 hK hP hS hA hl.1 ml_X2_39 ⟨Nat.le_of_ble_eq_true rfl, Nat.le_of_ble_eq_true rfl⟩ ⟨Nat.zero_le _, Nat.zero_le _⟩ (Nat.le_of_ble_eq_true rfl) dX2_fitOut_25 (fun H locs hP hS => ?_)
  have hP : WP D cA a (up (up (up S 6 (us (S 6) 6 q x6)) 7 (us (S 7) 6 q x7)) 8 (us (S 8) 6 q x8)) X I H := hP
  refine lv_aload_n C0.1 C0.2.1 dX2_fitOut_28 rfl (lv_at hl 0 rfl) ?_
  refine g82_toll C0 hK hP (hd.1 _ (by decide)) fl_X2_32 dX2_fitOut_29 ?_
  refine lv_iload_n C0.1 C0.2.1 dX2_fitOut_32 rfl (lv_at hl 1 rfl) ?_
  refine lv_iload C0.1 C0.2.1 dX2_fitOut_33 (lv_at hl 5 rfl) ?_
  refine k_X5_set 9 (by decide) hd (by decide) (by decide) C0 hK hP hS hA hl.1 ml_X2_39 ⟨Nat.le_of_ble_eq_true rfl, Nat.le_of_ble_eq_true rfl⟩ ⟨Nat.zero_le _, Nat.zero_le _⟩ (Nat.le_of_ble_eq_true rfl) dX2_fitOut_35 (fun H locs hP hS => ?_)
  have hP : WP D cA a (up (up (up (up S 6 (us (S 6) 6 q x6)) 7 (us (S 7) 6 q x7)) 8 (us (S 8) 6 q x8)) 9 (us (S 9) 6 q x9)) X I H := hP
  exact retV C0 hr hlk hP hS ⟨rfl, rfl⟩ dX2_fitOut_38
theorem k_X2_fitOut {n : List Nat} (hd : Hd n a I) (hsub : ∀ k ∈ nT, k ∈ n) (C0 : CallFix p m c cc nL s args GW own) (hK : KK D cA s) (hP : WP D cA a S X I H) {q : Int32} {x6 : Int32} {x7 : Int32} {x8 : Int32} {x9 : Int32} (hS : va_S A0 H0 H locs) (hA : ∀ q, AI a I q → A0 q) (hls : ls.size = nL) {idx : Nat} (hlink : Cond.methodLink own idx yX2_fitOut ∈ GW) (hR : 2 ≤ R.frames ∧ 47 ≤ R.locals) (hcs : cells ≤ R.cells ∧ slots ≤ R.slots) (hrest : (rest.map fun v => v.category).sum ≤ 8) (hdg : decode cc pc = .ok (.invokevirtual idx, 3)) (kk : ∀ (H1 : Heap) (locs1 : List Loc), WP D cA a (up (up (up (up S 6 (us (S 6) 6 q x6)) 7 (us (S 7) 6 q x7)) 8 (us (S 8) 6 q x8)) 9 (us (S 9) 6 q x9)) X I H1 → va_S A0 H0 H1 locs1 → W p l e R s m args below meth c H1 locs1 cells slots Q (F0 m (pc + 3) ls rest)) : W p l e R s m args below meth c H locs cells slots Q (F0 m pc ls (.int x9 :: .int x8 :: .int x7 :: .int x6 :: .int q :: .ref (a 82) :: rest)) := by
  exact goV (rV (n := 5) (c_X2_fitOut l D cA a S X I (hd.sub hsub) q x6 x7 x8 x9 ) C0 hlink im_X2_fitOut se_X2_fitOut in_X2 co_X2_fitOut ⟨rfl, by decide⟩ hR hK hP (hd.1 _ (hsub _ (by decide))) rfl rfl rfl hls hrest rfl hdg hcs) hS hA (fun S1 X1 H1 locs1 hp hP1 hS1 => by obtain ⟨rfl, rfl⟩ := hp; exact kk H1 locs1 hP1 hS1)
set_option maxHeartbeats 4000000 in
set_option maxRecDepth 100000 in
theorem c_X2_floats (l : Launch) (D : va_G) (cA : ClassId) (a : Adr) (S X : Mem) (I : Nat → Prop) (hd : Hd nT a I) (q : Int32) (x : Int32) : MI l yX2_floats cX2_floats 3 (some .boolean) 1 21 D cA a S X I [.ref (a 82), .int q, .int x] (fun r S1 X1 => r = (bI (decide (rg (S 6) 6 q ≤ x) && decide (x ≤ rg (S 7) 6 q))) ∧ S1 = S ∧ X1 = X) := by
  refine mGo (by decide) (Nat.le_of_ble_eq_true rfl) ?_
  intro p e s m args below meth c ls C0 hr hlk hK hP hS hl hargs
  obtain ⟨H, hHe⟩ : ∃ H, H = s.heap := ⟨_, rfl⟩
  obtain ⟨locs, hlo⟩ : ∃ L : List Loc, L = [] := ⟨_, rfl⟩
  have hP : WP D cA a S X I H := hHe ▸ hP
  have hS : va_S (AI a I) s.heap H locs := by rw [hHe, hlo]; exact hS
  rw [← hHe, ← hlo]
  have hA : ∀ q, AI a I q → AI a I q := fun _ h => h
  refine lv_iload_n C0.1 C0.2.1 dX2_floats_0 rfl (lv_at hl 2 rfl) ?_
  refine lv_aload_n C0.1 C0.2.1 dX2_floats_1 rfl (lv_at hl 0 rfl) ?_
  refine g82_draught C0 hK hP (hd.1 _ (by decide)) fl_X2_23 dX2_floats_2 ?_
  refine lv_iload_n C0.1 C0.2.1 dX2_floats_5 rfl (lv_at hl 1 rfl) ?_
  refine k_X5_get (v := rg (S 6) 6 q) 6 (by decide) hd (by decide) (by decide) C0 hK hP rfl hS hA hl.1 ml_X2_43 ⟨Nat.le_of_ble_eq_true rfl, Nat.le_of_ble_eq_true rfl⟩ ⟨Nat.zero_le _, Nat.zero_le _⟩ (Nat.le_of_ble_eq_true rfl) dX2_floats_6 (fun H locs hP hS => ?_)
  refine lv_icmp_lt (tgt := 28) C0.1 C0.2.1 dX2_floats_9 (by decide) (fun c_9 => ?_) (fun c_9 => ?_)
  · refine lv_iconst (v := 0) C0.1 C0.2.1 dX2_floats_28 (by decide) ?_
    exact retZ C0 hr hlk hP hS rfl ⟨(bI_f (by simp only [Bool.eq_false_iff, ne_eq, Bool.and_eq_true, Bool.or_eq_true, decide_eq_true_eq, Int32.le_iff_toInt_le, Int32.lt_iff_toInt_lt, ← Int32.toInt_inj, Int32.reduceToInt] at c_9 ⊢; omega)).symm, rfl, rfl⟩ dX2_floats_29
  · refine lv_iload_n C0.1 C0.2.1 dX2_floats_12 rfl (lv_at hl 2 rfl) ?_
    refine lv_aload_n C0.1 C0.2.1 dX2_floats_13 rfl (lv_at hl 0 rfl) ?_
    refine g82_pole C0 hK hP (hd.1 _ (by decide)) fl_X2_26 dX2_floats_14 ?_
    refine lv_iload_n C0.1 C0.2.1 dX2_floats_17 rfl (lv_at hl 1 rfl) ?_
    refine k_X5_get (v := rg (S 7) 6 q) 7 (by decide) hd (by decide) (by decide) C0 hK hP rfl hS hA hl.1 ml_X2_43 ⟨Nat.le_of_ble_eq_true rfl, Nat.le_of_ble_eq_true rfl⟩ ⟨Nat.zero_le _, Nat.zero_le _⟩ (Nat.le_of_ble_eq_true rfl) dX2_floats_18 (fun H locs hP hS => ?_)
    refine lv_icmp_gt (tgt := 28) C0.1 C0.2.1 dX2_floats_21 (by decide) (fun c_21 => ?_) (fun c_21 => ?_)
    · refine lv_iconst (v := 0) C0.1 C0.2.1 dX2_floats_28 (by decide) ?_
      exact retZ C0 hr hlk hP hS rfl ⟨(bI_f (by simp only [Bool.eq_false_iff, ne_eq, Bool.and_eq_true, Bool.or_eq_true, decide_eq_true_eq, Int32.le_iff_toInt_le, Int32.lt_iff_toInt_lt, ← Int32.toInt_inj, Int32.reduceToInt] at c_9 c_21 ⊢; omega)).symm, rfl, rfl⟩ dX2_floats_29
    · refine lv_iconst (v := 1) C0.1 C0.2.1 dX2_floats_24 (by decide) ?_
      refine lv_goto (tgt := 29) C0.1 C0.2.1 dX2_floats_25 (by decide) ?_
      exact retZ C0 hr hlk hP hS rfl ⟨(bI_t (by simp only [Bool.eq_false_iff, ne_eq, Bool.and_eq_true, Bool.or_eq_true, decide_eq_true_eq, Int32.le_iff_toInt_le, Int32.lt_iff_toInt_lt, ← Int32.toInt_inj, Int32.reduceToInt] at c_9 c_21 ⊢; omega)).symm, rfl, rfl⟩ dX2_floats_29
theorem k_X2_floats {n : List Nat} (hd : Hd n a I) (hsub : ∀ k ∈ nT, k ∈ n) (C0 : CallFix p m c cc nL s args GW own) (hK : KK D cA s) (hP : WP D cA a S X I H) {q : Int32} {x : Int32} {v : Int32} (hv : (bI (decide (rg (S 6) 6 q ≤ x) && decide (x ≤ rg (S 7) 6 q))) = v) (hS : va_S A0 H0 H locs) (hA : ∀ q, AI a I q → A0 q) (hls : ls.size = nL) {idx : Nat} (hlink : Cond.methodLink own idx yX2_floats ∈ GW) (hR : 2 ≤ R.frames ∧ 43 ≤ R.locals) (hcs : cells ≤ R.cells ∧ slots ≤ R.slots) (hrest : (rest.map fun v => v.category).sum ≤ 8) (hdg : decode cc pc = .ok (.invokevirtual idx, 3)) (kk : ∀ (H1 : Heap) (locs1 : List Loc), WP D cA a S X I H1 → va_S A0 H0 H1 locs1 → W p l e R s m args below meth c H1 locs1 cells slots Q (F0 m (pc + 3) ls (.int v :: rest))) : W p l e R s m args below meth c H locs cells slots Q (F0 m pc ls (.int x :: .int q :: .ref (a 82) :: rest)) := by
  subst hv
  exact goI (rV (n := 2) (c_X2_floats l D cA a S X I (hd.sub hsub) q x ) C0 hlink im_X2_floats se_X2_floats in_X2 co_X2_floats ⟨rfl, by decide⟩ hR hK hP (hd.1 _ (hsub _ (by decide))) rfl rfl rfl hls hrest rfl hdg hcs) hS hA (fun r S1 X1 H1 locs1 hp hP1 hS1 => by obtain ⟨rfl, rfl, rfl⟩ := hp; exact kk H1 locs1 hP1 hS1)
set_option maxHeartbeats 4000000 in
set_option maxRecDepth 100000 in
theorem c_X2_goesFrom (l : Launch) (D : va_G) (cA : ClassId) (a : Adr) (S X : Mem) (I : Nat → Prop) (hd : Hd nCH a I) (q : Int32) (x : Int32) : MI l yX2_goesFrom cX2_goesFrom 3 (some .boolean) 1 21 D cA a S X I [.ref (a 82), .int q, .int x] (fun r S1 X1 => r = (bI (decide (rg (S 4) 6 q = x) || decide (rg (S 5) 6 q = x))) ∧ S1 = S ∧ X1 = X) := by
  refine mGo (by decide) (Nat.le_of_ble_eq_true rfl) ?_
  intro p e s m args below meth c ls C0 hr hlk hK hP hS hl hargs
  obtain ⟨H, hHe⟩ : ∃ H, H = s.heap := ⟨_, rfl⟩
  obtain ⟨locs, hlo⟩ : ∃ L : List Loc, L = [] := ⟨_, rfl⟩
  have hP : WP D cA a S X I H := hHe ▸ hP
  have hS : va_S (AI a I) s.heap H locs := by rw [hHe, hlo]; exact hS
  rw [← hHe, ← hlo]
  have hA : ∀ q, AI a I q → AI a I q := fun _ h => h
  refine lv_aload_n C0.1 C0.2.1 dX2_goesFrom_0 rfl (lv_at hl 0 rfl) ?_
  refine g82_home C0 hK hP (hd.1 _ (by decide)) fl_X2_14 dX2_goesFrom_1 ?_
  refine lv_iload_n C0.1 C0.2.1 dX2_goesFrom_4 rfl (lv_at hl 1 rfl) ?_
  refine k_X5_get (v := rg (S 4) 6 q) 4 (by decide) hd (by decide) (by decide) C0 hK hP rfl hS hA hl.1 ml_X2_43 ⟨Nat.le_of_ble_eq_true rfl, Nat.le_of_ble_eq_true rfl⟩ ⟨Nat.zero_le _, Nat.zero_le _⟩ (Nat.le_of_ble_eq_true rfl) dX2_goesFrom_5 (fun H locs hP hS => ?_)
  refine lv_iload_n C0.1 C0.2.1 dX2_goesFrom_8 rfl (lv_at hl 2 rfl) ?_
  refine lv_icmp_eq (tgt := 24) C0.1 C0.2.1 dX2_goesFrom_9 (by decide) (fun c_9 => ?_) (fun c_9 => ?_)
  · refine lv_iconst (v := 1) C0.1 C0.2.1 dX2_goesFrom_24 (by decide) ?_
    refine lv_goto (tgt := 29) C0.1 C0.2.1 dX2_goesFrom_25 (by decide) ?_
    exact retZ C0 hr hlk hP hS rfl ⟨(bI_t (by simp only [Bool.eq_false_iff, ne_eq, Bool.and_eq_true, Bool.or_eq_true, decide_eq_true_eq, Int32.le_iff_toInt_le, Int32.lt_iff_toInt_lt, ← Int32.toInt_inj, Int32.reduceToInt] at c_9 ⊢; omega)).symm, rfl, rfl⟩ dX2_goesFrom_29
  · refine lv_aload_n C0.1 C0.2.1 dX2_goesFrom_12 rfl (lv_at hl 0 rfl) ?_
    refine g82_goal C0 hK hP (hd.1 _ (by decide)) fl_X2_20 dX2_goesFrom_13 ?_
    refine lv_iload_n C0.1 C0.2.1 dX2_goesFrom_16 rfl (lv_at hl 1 rfl) ?_
    refine k_X5_get (v := rg (S 5) 6 q) 5 (by decide) hd (by decide) (by decide) C0 hK hP rfl hS hA hl.1 ml_X2_43 ⟨Nat.le_of_ble_eq_true rfl, Nat.le_of_ble_eq_true rfl⟩ ⟨Nat.zero_le _, Nat.zero_le _⟩ (Nat.le_of_ble_eq_true rfl) dX2_goesFrom_17 (fun H locs hP hS => ?_)
    refine lv_iload_n C0.1 C0.2.1 dX2_goesFrom_20 rfl (lv_at hl 2 rfl) ?_
    refine lv_icmp_ne (tgt := 28) C0.1 C0.2.1 dX2_goesFrom_21 (by decide) (fun c_21 => ?_) (fun c_21 => ?_)
    · refine lv_iconst (v := 0) C0.1 C0.2.1 dX2_goesFrom_28 (by decide) ?_
      exact retZ C0 hr hlk hP hS rfl ⟨(bI_f (by simp only [Bool.eq_false_iff, ne_eq, Bool.and_eq_true, Bool.or_eq_true, decide_eq_true_eq, Int32.le_iff_toInt_le, Int32.lt_iff_toInt_lt, ← Int32.toInt_inj, Int32.reduceToInt] at c_9 c_21 ⊢; omega)).symm, rfl, rfl⟩ dX2_goesFrom_29
    · refine lv_iconst (v := 1) C0.1 C0.2.1 dX2_goesFrom_24 (by decide) ?_
      refine lv_goto (tgt := 29) C0.1 C0.2.1 dX2_goesFrom_25 (by decide) ?_
      exact retZ C0 hr hlk hP hS rfl ⟨(bI_t (by simp only [Bool.eq_false_iff, ne_eq, Bool.and_eq_true, Bool.or_eq_true, decide_eq_true_eq, Int32.le_iff_toInt_le, Int32.lt_iff_toInt_lt, ← Int32.toInt_inj, Int32.reduceToInt] at c_9 c_21 ⊢; omega)).symm, rfl, rfl⟩ dX2_goesFrom_29
theorem k_X2_goesFrom {n : List Nat} (hd : Hd n a I) (hsub : ∀ k ∈ nCH, k ∈ n) (C0 : CallFix p m c cc nL s args GW own) (hK : KK D cA s) (hP : WP D cA a S X I H) {q : Int32} {x : Int32} {v : Int32} (hv : (bI (decide (rg (S 4) 6 q = x) || decide (rg (S 5) 6 q = x))) = v) (hS : va_S A0 H0 H locs) (hA : ∀ q, AI a I q → A0 q) (hls : ls.size = nL) {idx : Nat} (hlink : Cond.methodLink own idx yX2_goesFrom ∈ GW) (hR : 2 ≤ R.frames ∧ 43 ≤ R.locals) (hcs : cells ≤ R.cells ∧ slots ≤ R.slots) (hrest : (rest.map fun v => v.category).sum ≤ 8) (hdg : decode cc pc = .ok (.invokevirtual idx, 3)) (kk : ∀ (H1 : Heap) (locs1 : List Loc), WP D cA a S X I H1 → va_S A0 H0 H1 locs1 → W p l e R s m args below meth c H1 locs1 cells slots Q (F0 m (pc + 3) ls (.int v :: rest))) : W p l e R s m args below meth c H locs cells slots Q (F0 m pc ls (.int x :: .int q :: .ref (a 82) :: rest)) := by
  subst hv
  exact goI (rV (n := 2) (c_X2_goesFrom l D cA a S X I (hd.sub hsub) q x ) C0 hlink im_X2_goesFrom se_X2_goesFrom in_X2 co_X2_goesFrom ⟨rfl, by decide⟩ hR hK hP (hd.1 _ (hsub _ (by decide))) rfl rfl rfl hls hrest rfl hdg hcs) hS hA (fun r S1 X1 H1 locs1 hp hP1 hS1 => by obtain ⟨rfl, rfl, rfl⟩ := hp; exact kk H1 locs1 hP1 hS1)
set_option maxHeartbeats 4000000 in
set_option maxRecDepth 100000 in
theorem c_X2_otherEnd (l : Launch) (D : va_G) (cA : ClassId) (a : Adr) (S X : Mem) (I : Nat → Prop) (hd : Hd nCH a I) (q : Int32) (x : Int32) : MI l yX2_otherEnd cX2_otherEnd 3 (some .int) 1 21 D cA a S X I [.ref (a 82), .int q, .int x] (fun r S1 X1 => r = (if rg (S 4) 6 q = x then rg (S 5) 6 q else rg (S 4) 6 q) ∧ S1 = S ∧ X1 = X) := by
  refine mGo (by decide) (Nat.le_of_ble_eq_true rfl) ?_
  intro p e s m args below meth c ls C0 hr hlk hK hP hS hl hargs
  obtain ⟨H, hHe⟩ : ∃ H, H = s.heap := ⟨_, rfl⟩
  obtain ⟨locs, hlo⟩ : ∃ L : List Loc, L = [] := ⟨_, rfl⟩
  have hP : WP D cA a S X I H := hHe ▸ hP
  have hS : va_S (AI a I) s.heap H locs := by rw [hHe, hlo]; exact hS
  rw [← hHe, ← hlo]
  have hA : ∀ q, AI a I q → AI a I q := fun _ h => h
  refine lv_aload_n C0.1 C0.2.1 dX2_otherEnd_0 rfl (lv_at hl 0 rfl) ?_
  refine g82_home C0 hK hP (hd.1 _ (by decide)) fl_X2_14 dX2_otherEnd_1 ?_
  refine lv_iload_n C0.1 C0.2.1 dX2_otherEnd_4 rfl (lv_at hl 1 rfl) ?_
  refine k_X5_get (v := rg (S 4) 6 q) 4 (by decide) hd (by decide) (by decide) C0 hK hP rfl hS hA hl.1 ml_X2_43 ⟨Nat.le_of_ble_eq_true rfl, Nat.le_of_ble_eq_true rfl⟩ ⟨Nat.zero_le _, Nat.zero_le _⟩ (Nat.le_of_ble_eq_true rfl) dX2_otherEnd_5 (fun H locs hP hS => ?_)
  refine lv_iload_n C0.1 C0.2.1 dX2_otherEnd_8 rfl (lv_at hl 2 rfl) ?_
  refine lv_icmp_ne (tgt := 23) C0.1 C0.2.1 dX2_otherEnd_9 (by decide) (fun c_9 => ?_) (fun c_9 => ?_)
  · refine lv_aload_n C0.1 C0.2.1 dX2_otherEnd_23 rfl (lv_at hl 0 rfl) ?_
    refine g82_home C0 hK hP (hd.1 _ (by decide)) fl_X2_14 dX2_otherEnd_24 ?_
    refine lv_iload_n C0.1 C0.2.1 dX2_otherEnd_27 rfl (lv_at hl 1 rfl) ?_
    refine k_X5_get (v := rg (S 4) 6 q) 4 (by decide) hd (by decide) (by decide) C0 hK hP rfl hS hA hl.1 ml_X2_43 ⟨Nat.le_of_ble_eq_true rfl, Nat.le_of_ble_eq_true rfl⟩ ⟨Nat.zero_le _, Nat.zero_le _⟩ (Nat.le_of_ble_eq_true rfl) dX2_otherEnd_28 (fun H locs hP hS => ?_)
    exact retI C0 hr hlk hP hS ⟨by simp_all only [if_true, if_false], rfl, rfl⟩ dX2_otherEnd_31
  · refine lv_aload_n C0.1 C0.2.1 dX2_otherEnd_12 rfl (lv_at hl 0 rfl) ?_
    refine g82_goal C0 hK hP (hd.1 _ (by decide)) fl_X2_20 dX2_otherEnd_13 ?_
    refine lv_iload_n C0.1 C0.2.1 dX2_otherEnd_16 rfl (lv_at hl 1 rfl) ?_
    refine k_X5_get (v := rg (S 5) 6 q) 5 (by decide) hd (by decide) (by decide) C0 hK hP rfl hS hA hl.1 ml_X2_43 ⟨Nat.le_of_ble_eq_true rfl, Nat.le_of_ble_eq_true rfl⟩ ⟨Nat.zero_le _, Nat.zero_le _⟩ (Nat.le_of_ble_eq_true rfl) dX2_otherEnd_17 (fun H locs hP hS => ?_)
    refine lv_goto (tgt := 31) C0.1 C0.2.1 dX2_otherEnd_20 (by decide) ?_
    exact retI C0 hr hlk hP hS ⟨by simp_all only [if_true, if_false], rfl, rfl⟩ dX2_otherEnd_31
theorem k_X2_otherEnd {n : List Nat} (hd : Hd n a I) (hsub : ∀ k ∈ nCH, k ∈ n) (C0 : CallFix p m c cc nL s args GW own) (hK : KK D cA s) (hP : WP D cA a S X I H) {q : Int32} {x : Int32} {v : Int32} (hv : (if rg (S 4) 6 q = x then rg (S 5) 6 q else rg (S 4) 6 q) = v) (hS : va_S A0 H0 H locs) (hA : ∀ q, AI a I q → A0 q) (hls : ls.size = nL) {idx : Nat} (hlink : Cond.methodLink own idx yX2_otherEnd ∈ GW) (hR : 2 ≤ R.frames ∧ 43 ≤ R.locals) (hcs : cells ≤ R.cells ∧ slots ≤ R.slots) (hrest : (rest.map fun v => v.category).sum ≤ 8) (hdg : decode cc pc = .ok (.invokevirtual idx, 3)) (kk : ∀ (H1 : Heap) (locs1 : List Loc), WP D cA a S X I H1 → va_S A0 H0 H1 locs1 → W p l e R s m args below meth c H1 locs1 cells slots Q (F0 m (pc + 3) ls (.int v :: rest))) : W p l e R s m args below meth c H locs cells slots Q (F0 m pc ls (.int x :: .int q :: .ref (a 82) :: rest)) := by
  subst hv
  exact goI (rV (n := 2) (c_X2_otherEnd l D cA a S X I (hd.sub hsub) q x ) C0 hlink im_X2_otherEnd se_X2_otherEnd in_X2 co_X2_otherEnd ⟨rfl, by decide⟩ hR hK hP (hd.1 _ (hsub _ (by decide))) rfl rfl rfl hls hrest rfl hdg hcs) hS hA (fun r S1 X1 H1 locs1 hp hP1 hS1 => by obtain ⟨rfl, rfl, rfl⟩ := hp; exact kk H1 locs1 hP1 hS1)
set_option maxHeartbeats 4000000 in
set_option maxRecDepth 100000 in
theorem c_X2_puntsFrom (l : Launch) (D : va_G) (cA : ClassId) (a : Adr) (S X : Mem) (I : Nat → Prop) (hd : Hd nT a I) (x : Int32) {P : Nat} (hnP : S 82 0 = nI P) (hP6 : P ≤ 6) : MI l yX2_puntsFrom cX2_puntsFrom 2 (some .int) 1 24 D cA a S X I [.ref (a 82), .int x] (fun r S1 X1 => r = (nI (cnt (fun j => decide ((S 4) j = x)) P) + nI (cnt (fun j => decide ((S 5) j = x)) P)) ∧ S1 = S ∧ X1 = X) := by
  refine mGo (by decide) (Nat.le_of_ble_eq_true rfl) ?_
  intro p e s m args below meth c ls C0 hr hlk hK hP hS hl hargs
  obtain ⟨H, hHe⟩ : ∃ H, H = s.heap := ⟨_, rfl⟩
  obtain ⟨locs, hlo⟩ : ∃ L : List Loc, L = [] := ⟨_, rfl⟩
  have hP : WP D cA a S X I H := hHe ▸ hP
  have hS : va_S (AI a I) s.heap H locs := by rw [hHe, hlo]; exact hS
  rw [← hHe, ← hlo]
  have hA : ∀ q, AI a I q → AI a I q := fun _ h => h
  refine lv_aload_n C0.1 C0.2.1 dX2_puntsFrom_0 rfl (lv_at hl 0 rfl) ?_
  refine g82_home C0 hK hP (hd.1 _ (by decide)) fl_X2_14 dX2_puntsFrom_1 ?_
  refine lv_iload_n C0.1 C0.2.1 dX2_puntsFrom_4 rfl (lv_at hl 1 rfl) ?_
  refine lv_aload_n C0.1 C0.2.1 dX2_puntsFrom_5 rfl (lv_at hl 0 rfl) ?_
  refine g82_number (v := nI P) C0 hK hP (hd.1 _ (by decide)) fl_X2_35 hnP dX2_puntsFrom_6 ?_
  refine k_X5_howMany (v := nI (cnt (fun j => decide ((S 4) j = x)) P)) 4 (by decide) hd (by decide) (by decide) C0 hK hP (show P ≤ 6 by omega) rfl hS hA hl.1 ml_X2_47 ⟨Nat.le_of_ble_eq_true rfl, Nat.le_of_ble_eq_true rfl⟩ ⟨Nat.zero_le _, Nat.zero_le _⟩ (Nat.le_of_ble_eq_true rfl) dX2_puntsFrom_9 (fun H locs hP hS => ?_)
  refine lv_aload_n C0.1 C0.2.1 dX2_puntsFrom_12 rfl (lv_at hl 0 rfl) ?_
  refine g82_goal C0 hK hP (hd.1 _ (by decide)) fl_X2_20 dX2_puntsFrom_13 ?_
  refine lv_iload_n C0.1 C0.2.1 dX2_puntsFrom_16 rfl (lv_at hl 1 rfl) ?_
  refine lv_aload_n C0.1 C0.2.1 dX2_puntsFrom_17 rfl (lv_at hl 0 rfl) ?_
  refine g82_number (v := nI P) C0 hK hP (hd.1 _ (by decide)) fl_X2_35 hnP dX2_puntsFrom_18 ?_
  refine k_X5_howMany (v := nI (cnt (fun j => decide ((S 5) j = x)) P)) 5 (by decide) hd (by decide) (by decide) C0 hK hP (show P ≤ 6 by omega) rfl hS hA hl.1 ml_X2_47 ⟨Nat.le_of_ble_eq_true rfl, Nat.le_of_ble_eq_true rfl⟩ ⟨Nat.zero_le _, Nat.zero_le _⟩ (Nat.le_of_ble_eq_true rfl) dX2_puntsFrom_21 (fun H locs hP hS => ?_)
  refine lv_iadd C0.1 C0.2.1 dX2_puntsFrom_24 ?_
  exact retI C0 hr hlk hP hS ⟨rfl, rfl, rfl⟩ dX2_puntsFrom_25
theorem k_X2_puntsFrom {n : List Nat} (hd : Hd n a I) (hsub : ∀ k ∈ nT, k ∈ n) (C0 : CallFix p m c cc nL s args GW own) (hK : KK D cA s) (hP : WP D cA a S X I H) {x : Int32} {P : Nat} (hnP : S 82 0 = nI P) (hP6 : P ≤ 6) {v : Int32} (hv : (nI (cnt (fun j => decide ((S 4) j = x)) P) + nI (cnt (fun j => decide ((S 5) j = x)) P)) = v) (hS : va_S A0 H0 H locs) (hA : ∀ q, AI a I q → A0 q) (hls : ls.size = nL) {idx : Nat} (hlink : Cond.methodLink own idx yX2_puntsFrom ∈ GW) (hR : 2 ≤ R.frames ∧ 45 ≤ R.locals) (hcs : cells ≤ R.cells ∧ slots ≤ R.slots) (hrest : (rest.map fun v => v.category).sum ≤ 8) (hdg : decode cc pc = .ok (.invokevirtual idx, 3)) (kk : ∀ (H1 : Heap) (locs1 : List Loc), WP D cA a S X I H1 → va_S A0 H0 H1 locs1 → W p l e R s m args below meth c H1 locs1 cells slots Q (F0 m (pc + 3) ls (.int v :: rest))) : W p l e R s m args below meth c H locs cells slots Q (F0 m pc ls (.int x :: .ref (a 82) :: rest)) := by
  subst hv
  exact goI (rV (n := 1) (c_X2_puntsFrom l D cA a S X I (hd.sub hsub) x hnP hP6) C0 hlink im_X2_puntsFrom se_X2_puntsFrom in_X2 co_X2_puntsFrom ⟨rfl, by decide⟩ hR hK hP (hd.1 _ (hsub _ (by decide))) rfl rfl rfl hls hrest rfl hdg hcs) hS hA (fun r S1 X1 H1 locs1 hp hP1 hS1 => by obtain ⟨rfl, rfl, rfl⟩ := hp; exact kk H1 locs1 hP1 hS1)
end CLS
