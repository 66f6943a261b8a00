/-! THE REFERENCE'S FACE: what is thrown by it is a number. -/
def kd (c1 c2 c3 : Bool) (k1 k2 k3 : Int32) : Int32 := if c1 = true then (if c2 = true then (if c3 = true then 0 else k3) else k2) else k1
theorem kd_1 {c1 c2 c3 : Bool} {k1 k2 k3 : Int32} (h : c1 = false) : kd c1 c2 c3 k1 k2 k3 = k1 := by rw [h]; rfl
theorem kd_2 {c1 c2 c3 : Bool} {k1 k2 k3 : Int32} (h1 : c1 = true) (h : c2 = false) : kd c1 c2 c3 k1 k2 k3 = k2 := by rw [h1, h]; rfl
theorem kd_3 {c1 c2 c3 : Bool} {k1 k2 k3 : Int32} (h1 : c1 = true) (h2 : c2 = true) (h : c3 = false) : kd c1 c2 c3 k1 k2 k3 = k3 := by rw [h1, h2, h]; rfl
theorem kd_0 {c1 c2 c3 : Bool} {k1 k2 k3 : Int32} (h1 : c1 = true) (h2 : c2 = true) (h : c3 = true) : kd c1 c2 c3 k1 k2 k3 = 0 := by rw [h1, h2, h]; rfl
theorem pfail {k v x : Int32} {P : Prop} {S S1 : Mem} (hk : k = v) (hx : x = v) (h0 : ¬ v = 0) (hS : S1 = S) : x = k ∧ (k = 0 → P) ∧ (¬ k = 0 → S1 = S) := ⟨hx.trans hk.symm, fun h => absurd (hk.symm.trans h) h0, fun _ => hS⟩
theorem pok {k x : Int32} {P : Prop} {S S1 : Mem} (hk : k = 0) (hx : x = 0) (h : P) : x = k ∧ (k = 0 → P) ∧ (¬ k = 0 → S1 = S) := ⟨hx.trans hk.symm, fun _ => h, fun h2 => absurd hk h2⟩
theorem one_c {x k j : Int32} {n : Nat} (hk : k = nI n - 1) (hj : j = nI n) (hn : n < 2 ^ 31) : (decide (0 ≤ x) && decide (x ≤ k)) = oneB x j := by
  subst hk
  subst hj
  exact one_pred hn
theorem isc_eq (x y : Int32) : ((decide (0 ≤ x) && decide (x ≤ 13)) && (decide (0 ≤ y) && decide (y ≤ 13))) = plB x y := by
  rw [one_c (x := x) (k := 13) (j := 14) (n := 14) (by decide) (by decide) (by decide), one_c (x := y) (k := 13) (j := 14) (n := 14) (by decide) (by decide) (by decide)]
theorem cel_nat {x y : Int32} (h : plB x y = true) : ∃ k, k < 196 ∧ x + 14 * y = nI k := by
  have h1 := (Bool.and_eq_true (oneB x 14) (oneB y 14)).mp h
  obtain ⟨i, hi, rfl⟩ := one_nat (n := 14) (by decide) (show oneB x (nI 14) = true from h1.1)
  obtain ⟨j, hj, rfl⟩ := one_nat (n := 14) (by decide) (show oneB y (nI 14) = true from h1.2)
  exact ⟨i + 14 * j, by omega, by rw [show (14 : Int32) = nI 14 from rfl, pk_mul, nI_add]⟩
theorem cel_in {x y : Int32} (h : plB x y = true) : vp_in (x + 14 * y) 196 := by
  obtain ⟨k, hk, e⟩ := cel_nat h
  rw [e]
  exact vp_in_nI hk (by decide)
theorem one_in {x k : Int32} {n : Nat} (hk : k = nI n) (hn : n < 2 ^ 31) (h : oneB x k = true) : vp_in x n := by
  subst hk
  obtain ⟨i, hi, rfl⟩ := one_nat hn h
  exact vp_in_nI hi hn
theorem celR_T {S : Mem} {P L h k : Nat} {w : Int32} (hL : L ≤ 8) (hk : k < 196) : celR S P L h (nI k) w = celT S P L h k w := by
  unfold celR celT
  rw [rg_nI hk (by decide), rg_nI hk (by decide), fnd3 hL]
theorem st4 (S X : Mem) {u w : Nat} (x : Int32) (hw : w < 6) (q : Nat) : rwm (up S (4 + w) (upd (S (4 + w)) u x)) X 4 q = upd (rwm S X 4) (6 * u + w) x q := by
  show up S (4 + w) (upd (S (4 + w)) u x) (4 + q % 6) (q / 6) = if q = 6 * u + w then x else S (4 + q % 6) (q / 6)
  by_cases h1 : q % 6 = w
  · rw [h1, up_eq]
    by_cases h2 : q / 6 = u
    · rw [if_pos (by omega), h2]; exact if_pos rfl
    · rw [if_neg (by omega)]; exact if_neg h2
  · rw [up_ne (by omega), if_neg (by omega)]
theorem al_eq {S : Mem} {L : Nat} {v : Int32} (hL : L ≤ 8) : fndF (fun j => decide (rg (S 3) 8 (nI j) = v)) 0 L = fndF (fun j => decide (S 3 j = v)) 0 L := fndF_congr L 0 fun j _ h => by rw [rg_nI (by omega) (by decide)]
theorem full_f {n m : Nat} {k : Int32} (hk : k = nI m) (hm : m < 2 ^ 30) (hn : n ≤ m) (h : nI n = k) : (!decide (k ≤ nI n)) = false := by
  rw [h, decide_eq_true Int32.le_rfl]; rfl
theorem full_t {n m : Nat} {k : Int32} (hk : k = nI m) (hm : m < 2 ^ 30) (hn : n ≤ m) (h : ¬ nI n = k) : (!decide (k ≤ nI n)) = true := by
  subst hk
  rw [decide_eq_false (fun q => h ((nI_eq (by omega) (by omega)).mpr (by have := (nI_leI (by omega) (by omega)).mp q; omega)))]; rfl
theorem full_lt {n m : Nat} {k : Int32} (hk : k = nI m) (hm : m < 2 ^ 30) (hn : n ≤ m) (h : ¬ nI n = k) : n < m := by
  subst hk
  have : n ≠ m := fun e => h (by rw [e])
  omega
section CLS
variable {p : Program} {l : Launch} {e : Env} {R : Room} {s : State} {m : MethodId} {args : Array Value} {below : List Frame} {meth : Method} {c : Code} {H : Heap} {locs : List Loc} {cells slots : Nat} {Q : State → Prop}
variable {cc : ByteArray} {nL : Nat} {own : String} {pc : Nat} {ls : Array Slot} {rest : List Value} {D : va_G} {cA : ClassId} {a : Adr} {S X : Mem} {I : Nat → Prop} {H0 : Heap} {A0 : Nat → Prop}
set_option maxHeartbeats 4000000 in
set_option maxRecDepth 100000 in
theorem c_X9_setGround (l : Launch) (D : va_G) (cA : ClassId) (a : Adr) (S X : Mem) (I : Nat → Prop) (hd : Hd nM a I) (x : Int32) (y : Int32) (z : Int32) : NI l yX9_setGround cX9_setGround 5 (some .int) 2 43 D cA a S X I [.ref (a 20), .int x, .int y, .int z] (fun r S1 X1 => X1 87 0 = kd (plB x y) (inB z 0 20) (true) 1 2 3 ∧ (kd (plB x y) (inB z 0 20) (true) 1 2 3 = 0 → r = rg (S 0) 196 (x + 14 * y) ∧ S1 = up S 0 (us (S 0) 196 (x + 14 * y) z)) ∧ (¬ kd (plB x y) (inB z 0 20) (true) 1 2 3 = 0 → S1 = S)) := by
  refine nGo (by decide) (Nat.le_of_ble_eq_true rfl) ?_
  intro p e s m args below meth c ls C0 hr hlk hK hP hS hl hargs
  obtain ⟨H, hHe⟩ : ∃ H, H = s.heap := ⟨_, rfl⟩
  obtain ⟨locs, hlo⟩ : ∃ L : List Loc, L = [] := ⟨_, rfl⟩
  have hP : WQ D cA a S X I H := hHe ▸ hP
  have hS : va_S (AI a I) s.heap H locs := by rw [hHe, hlo]; exact hS
  rw [← hHe, ← hlo]
  have hA : ∀ q, AI a I q → AI a I q := fun _ h => h
  refine lv_aload_n C0.1 C0.2.1 dX9_setGround_0 rfl (lv_at hl 0 rfl) ?_
  refine lv_iconst (v := 0) C0.1 C0.2.1 dX9_setGround_1 (by decide) ?_
  refine p20 C0 hK hP hS hA (hd.1 _ (by decide)) hd.2.2 0 (by decide) fl_X9_40 rfl (by decide +kernel) (x := 0) S (up X 87 (fun _ => 0)) rfl (fun k9 _ h9 => cm_num (fun _ _ => rfl) (fun k9 h9 => up_ne (by omega)) h9) dX9_setGround_2 (fun H locs hP hS => ?_)
  have hP : WQ D cA a S (up X 87 (fun _ => 0)) I H := hP
  refine lv_iload_n C0.1 C0.2.1 dX9_setGround_5 rfl (lv_at hl 1 rfl) ?_
  refine lv_iload_n C0.1 C0.2.1 dX9_setGround_6 rfl (lv_at hl 2 rfl) ?_
  refine k_X9_isCell hd s0 C0 hK hP  (v := bI ((decide (0 ≤ x) && decide (x ≤ 13)) && (decide (0 ≤ y) && decide (y ≤ 13)))) rfl hS hA hl.1 ml_X9_69 ⟨Nat.le_of_ble_eq_true rfl, Nat.le_of_ble_eq_true rfl⟩ ⟨Nat.zero_le _, Nat.zero_le _⟩ (Nat.le_of_ble_eq_true rfl) dX9_setGround_7 (fun H locs hP hS => ?_)
  refine lv_if_ne (tgt := 19) C0.1 C0.2.1 dX9_setGround_10 (by decide) (fun c_10 => ?_) (fun c_10 => ?_)
  · have c_10 := bI_ne c_10
    have hc_10 : plB x y = true := (isc_eq x y).symm.trans c_10
    refine lv_iload_n C0.1 C0.2.1 dX9_setGround_19 rfl (lv_at hl 3 rfl) ?_
    refine lv_iconst (v := 0) C0.1 C0.2.1 dX9_setGround_20 (by decide) ?_
    refine lv_bipush (v := 20) C0.1 C0.2.1 dX9_setGround_21 (by decide) ?_
    refine k_X9_isIn hd s0 C0 hK hP  (v := bI (decide (0 ≤ z) && decide (z ≤ 20))) rfl hS hA hl.1 ml_X9_44 ⟨Nat.le_of_ble_eq_true rfl, Nat.le_of_ble_eq_true rfl⟩ ⟨Nat.zero_le _, Nat.zero_le _⟩ (Nat.le_of_ble_eq_true rfl) dX9_setGround_23 (fun H locs hP hS => ?_)
    refine lv_if_ne (tgt := 35) C0.1 C0.2.1 dX9_setGround_26 (by decide) (fun c_26 => ?_) (fun c_26 => ?_)
    · have c_26 := bI_ne c_26
      have hc_26 : inB z 0 20 = true := ((rfl : (decide (0 ≤ z) && decide (z ≤ 20)) = inB z 0 20)).symm.trans c_26
      refine lv_aload_n C0.1 C0.2.1 dX9_setGround_35 rfl (lv_at hl 0 rfl) ?_
      refine g20 C0 hK hP (hd.1 _ (by decide)) 1 (by decide) fl_X9_9 rfl dX9_setGround_36 ?_
      refine lv_iload_n C0.1 C0.2.1 dX9_setGround_39 rfl (lv_at hl 1 rfl) ?_
      refine lv_bipush (v := 14) C0.1 C0.2.1 dX9_setGround_40 (by decide) ?_
      refine lv_iload_n C0.1 C0.2.1 dX9_setGround_42 rfl (lv_at hl 2 rfl) ?_
      refine lv_imul C0.1 C0.2.1 dX9_setGround_43 ?_
      refine lv_iadd C0.1 C0.2.1 dX9_setGround_44 ?_
      refine mld (k := 0) (by decide) C0 hK hP (hd.1 _ (by decide)) (v := rg (S 0) 196 (x + (14 * y))) (cel_in hc_10) ((rg_in (n := 196) (cel_in hc_10)).symm.trans rfl) dX9_setGround_45 ?_
      refine lv_istore (lv' := [(4, .int (rg (S 0) 196 (x + (14 * y)))), (0, .ref (a 20)), (1, .int x), (2, .int y), (3, .int z)]) C0.1 C0.2.1 dX9_setGround_46 hl (by decide) rfl (fun ls hl => ?_)
      refine lv_aload_n C0.1 C0.2.1 dX9_setGround_48 rfl (lv_at hl 1 rfl) ?_
      refine g20 C0 hK hP (hd.1 _ (by decide)) 1 (by decide) fl_X9_9 rfl dX9_setGround_49 ?_
      refine lv_iload_n C0.1 C0.2.1 dX9_setGround_52 rfl (lv_at hl 2 rfl) ?_
      refine lv_bipush (v := 14) C0.1 C0.2.1 dX9_setGround_53 (by decide) ?_
      refine lv_iload_n C0.1 C0.2.1 dX9_setGround_55 rfl (lv_at hl 3 rfl) ?_
      refine lv_imul C0.1 C0.2.1 dX9_setGround_56 ?_
      refine lv_iadd C0.1 C0.2.1 dX9_setGround_57 ?_
      refine lv_iload_n C0.1 C0.2.1 dX9_setGround_58 rfl (lv_at hl 4 rfl) ?_
      refine mst (k := 0) (by decide) C0 hK hP hS hA (hd.1 _ (by decide)) hd.2.2 (cel_in hc_10) (up S 0 (us (S 0) 196 (x + (14 * y)) z)) (up X 87 (fun _ => 0)) (fun q9 => (congrFun (us_in (cel_in hc_10)) q9)) (fun j9 _ h9 => cm_at (lo := 0) (hi := 1) (fun k9 h8 => up_ne (by omega)) (fun _ => rfl) (by omega) h9) dX9_setGround_59 (fun H locs hP hS => ?_)
      have hP : WQ D cA a (up S 0 (us (S 0) 196 (x + (14 * y)) z)) (up X 87 (fun _ => 0)) I H := hP
      refine lv_iload C0.1 C0.2.1 dX9_setGround_60 (lv_at hl 0 rfl) ?_
      exact rtI C0 hr hlk hP hS (pok (kd_0 (by simp only [hc_10, hc_26, Bool.and_true, Bool.true_and, Bool.and_false, Bool.false_and, Bool.and_self]) (by simp only [hc_10, hc_26, Bool.and_true, Bool.true_and, Bool.and_false, Bool.false_and, Bool.and_self]) rfl) rfl (⟨rfl, rfl⟩)) dX9_setGround_62
    · have c_26 := bI_eq c_26
      have hc_26 : inB z 0 20 = false := ((rfl : (decide (0 ≤ z) && decide (z ≤ 20)) = inB z 0 20)).symm.trans c_26
      refine lv_aload_n C0.1 C0.2.1 dX9_setGround_29 rfl (lv_at hl 0 rfl) ?_
      refine lv_iconst (v := 2) C0.1 C0.2.1 dX9_setGround_30 (by decide) ?_
      refine k_X9_fail hd sId C0 hK hP  (v := 0) rfl hS hA hl.1 ml_X9_73 ⟨Nat.le_of_ble_eq_true rfl, Nat.le_of_ble_eq_true rfl⟩ ⟨Nat.zero_le _, Nat.zero_le _⟩ (Nat.le_of_ble_eq_true rfl) dX9_setGround_31 (fun H locs hP hS => ?_)
      have hP : WQ D cA a S (up X 87 (fun _ => 2)) I H := WQ.congr (show WQ D cA a S (up (up X 87 (fun _ => 0)) 87 (fun _ => 2)) I H from hP) (fun _ => rfl) (fun k => by
          by_cases h_87 : k = 87
          · subst h_87; rfl
          simp only [up, h_87, if_false])
      exact rtI C0 hr hlk hP hS (pfail (kd_2 (by simp only [hc_10, hc_26, Bool.and_true, Bool.true_and, Bool.and_false, Bool.false_and, Bool.and_self]) (by simp only [hc_10, hc_26, Bool.and_true, Bool.true_and, Bool.and_false, Bool.false_and, Bool.and_self])) rfl (by decide) rfl) dX9_setGround_34
  · have c_10 := bI_eq c_10
    have hc_10 : plB x y = false := (isc_eq x y).symm.trans c_10
    refine lv_aload_n C0.1 C0.2.1 dX9_setGround_13 rfl (lv_at hl 0 rfl) ?_
    refine lv_iconst (v := 1) C0.1 C0.2.1 dX9_setGround_14 (by decide) ?_
    refine k_X9_fail hd sId C0 hK hP  (v := 0) rfl hS hA hl.1 ml_X9_73 ⟨Nat.le_of_ble_eq_true rfl, Nat.le_of_ble_eq_true rfl⟩ ⟨Nat.zero_le _, Nat.zero_le _⟩ (Nat.le_of_ble_eq_true rfl) dX9_setGround_15 (fun H locs hP hS => ?_)
    have hP : WQ D cA a S (up X 87 (fun _ => 1)) I H := WQ.congr (show WQ D cA a S (up (up X 87 (fun _ => 0)) 87 (fun _ => 1)) I H from hP) (fun _ => rfl) (fun k => by
        by_cases h_87 : k = 87
        · subst h_87; rfl
        simp only [up, h_87, if_false])
    exact rtI C0 hr hlk hP hS (pfail (kd_1 (by simp only [hc_10, Bool.and_true, Bool.true_and, Bool.and_false, Bool.false_and, Bool.and_self])) rfl (by decide) rfl) dX9_setGround_18
theorem k_X9_setGround {n : List Nat} (hd : Hd n a I) (hsub : ∀ k ∈ nM, k ∈ n) (C0 : CallFix p m c cc nL s args GW own) (hK : KK D cA s) (hP : WQ D cA a S X I H) {x : Int32} {y : Int32} {z : Int32} (hS : va_S A0 H0 H locs) (hA : ∀ q, AI a I q → A0 q) (hls : ls.size = nL) {idx : Nat} (hlink : Cond.methodLink own idx yX9_setGround ∈ GW) (hR : 3 ≤ R.frames ∧ 67 ≤ R.locals) (hcs : cells ≤ R.cells ∧ slots ≤ R.slots) (hrest : (rest.map fun v => v.category).sum ≤ 8) (hdg : decode cc pc = .ok (.invokevirtual idx, 3)) (kk : ∀ (v : Int32) (S1 X1 : Mem) (H1 : Heap) (locs1 : List Loc), (fun r S1 X1 => X1 87 0 = kd (plB x y) (inB z 0 20) (true) 1 2 3 ∧ (kd (plB x y) (inB z 0 20) (true) 1 2 3 = 0 → r = rg (S 0) 196 (x + 14 * y) ∧ S1 = up S 0 (us (S 0) 196 (x + 14 * y) z)) ∧ (¬ kd (plB x y) (inB z 0 20) (true) 1 2 3 = 0 → S1 = S)) v S1 X1 → WQ D cA a S1 X1 I H1 → va_S A0 H0 H1 locs1 → W p l e R s m args below meth c H1 locs1 cells slots Q (F0 m (pc + 3) ls (.int v :: rest))) : W p l e R s m args below meth c H locs cells slots Q (F0 m pc ls (.int z :: .int y :: .int x :: .ref (a 20) :: rest)) := by
  exact hoI (qV (n := 3) (c_X9_setGround l D cA a S X I (hd.sub hsub) x y z ) C0 hlink im_X9_setGround se_X9_setGround in_X9 co_X9_setGround ⟨rfl, by decide⟩ hR hK hP (hd.1 _ (hsub _ (by decide))) rfl rfl rfl hls hrest rfl hdg hcs) hS hA kk
set_option maxHeartbeats 4000000 in
set_option maxRecDepth 100000 in
theorem c_X9_setWater (l : Launch) (D : va_G) (cA : ClassId) (a : Adr) (S X : Mem) (I : Nat → Prop) (hd : Hd nM a I) (x : Int32) (z : Int32) : NI l yX9_setWater cX9_setWater 4 (some .int) 1 22 D cA a S X I [.ref (a 20), .int x, .int z] (fun r S1 X1 => X1 87 0 = kd (oneB x 12) (inB z 0 24) (true) 1 2 3 ∧ (kd (oneB x 12) (inB z 0 24) (true) 1 2 3 = 0 → r = rg (S 2) 12 x ∧ S1 = up S 2 (us (S 2) 12 x z)) ∧ (¬ kd (oneB x 12) (inB z 0 24) (true) 1 2 3 = 0 → S1 = S)) := by
  refine nGo (by decide) (Nat.le_of_ble_eq_true rfl) ?_
  intro p e s m args below meth c ls C0 hr hlk hK hP hS hl hargs
  obtain ⟨H, hHe⟩ : ∃ H, H = s.heap := ⟨_, rfl⟩
  obtain ⟨locs, hlo⟩ : ∃ L : List Loc, L = [] := ⟨_, rfl⟩
  have hP : WQ D cA a S X I H := hHe ▸ hP
  have hS : va_S (AI a I) s.heap H locs := by rw [hHe, hlo]; exact hS
  rw [← hHe, ← hlo]
  have hA : ∀ q, AI a I q → AI a I q := fun _ h => h
  refine lv_aload_n C0.1 C0.2.1 dX9_setWater_0 rfl (lv_at hl 0 rfl) ?_
  refine lv_iconst (v := 0) C0.1 C0.2.1 dX9_setWater_1 (by decide) ?_
  refine p20 C0 hK hP hS hA (hd.1 _ (by decide)) hd.2.2 0 (by decide) fl_X9_40 rfl (by decide +kernel) (x := 0) S (up X 87 (fun _ => 0)) rfl (fun k9 _ h9 => cm_num (fun _ _ => rfl) (fun k9 h9 => up_ne (by omega)) h9) dX9_setWater_2 (fun H locs hP hS => ?_)
  have hP : WQ D cA a S (up X 87 (fun _ => 0)) I H := hP
  refine lv_iload_n C0.1 C0.2.1 dX9_setWater_5 rfl (lv_at hl 1 rfl) ?_
  refine lv_iconst (v := 0) C0.1 C0.2.1 dX9_setWater_6 (by decide) ?_
  refine lv_bipush (v := 11) C0.1 C0.2.1 dX9_setWater_7 (by decide) ?_
  refine k_X9_isIn hd s0 C0 hK hP  (v := bI (decide (0 ≤ x) && decide (x ≤ 11))) rfl hS hA hl.1 ml_X9_44 ⟨Nat.le_of_ble_eq_true rfl, Nat.le_of_ble_eq_true rfl⟩ ⟨Nat.zero_le _, Nat.zero_le _⟩ (Nat.le_of_ble_eq_true rfl) dX9_setWater_9 (fun H locs hP hS => ?_)
  refine lv_if_ne (tgt := 21) C0.1 C0.2.1 dX9_setWater_12 (by decide) (fun c_12 => ?_) (fun c_12 => ?_)
  · have c_12 := bI_ne c_12
    have hc_12 : oneB x 12 = true := (one_c (x := x) (k := 11) (j := 12) (n := 12) (by decide) (by decide) (by decide)).symm.trans c_12
    refine lv_iload_n C0.1 C0.2.1 dX9_setWater_21 rfl (lv_at hl 2 rfl) ?_
    refine lv_iconst (v := 0) C0.1 C0.2.1 dX9_setWater_22 (by decide) ?_
    refine lv_bipush (v := 24) C0.1 C0.2.1 dX9_setWater_23 (by decide) ?_
    refine k_X9_isIn hd s0 C0 hK hP  (v := bI (decide (0 ≤ z) && decide (z ≤ 24))) rfl hS hA hl.1 ml_X9_44 ⟨Nat.le_of_ble_eq_true rfl, Nat.le_of_ble_eq_true rfl⟩ ⟨Nat.zero_le _, Nat.zero_le _⟩ (Nat.le_of_ble_eq_true rfl) dX9_setWater_25 (fun H locs hP hS => ?_)
    refine lv_if_ne (tgt := 37) C0.1 C0.2.1 dX9_setWater_28 (by decide) (fun c_28 => ?_) (fun c_28 => ?_)
    · have c_28 := bI_ne c_28
      have hc_28 : inB z 0 24 = true := ((rfl : (decide (0 ≤ z) && decide (z ≤ 24)) = inB z 0 24)).symm.trans c_28
      refine lv_aload_n C0.1 C0.2.1 dX9_setWater_37 rfl (lv_at hl 0 rfl) ?_
      refine g20 C0 hK hP (hd.1 _ (by decide)) 3 (by decide) fl_X9_16 rfl dX9_setWater_38 ?_
      refine lv_iload_n C0.1 C0.2.1 dX9_setWater_41 rfl (lv_at hl 1 rfl) ?_
      refine mld (k := 2) (by decide) C0 hK hP (hd.1 _ (by decide)) (v := rg (S 2) 12 x) (one_in (by decide) (by decide) hc_12) ((rg_in (n := 12) (one_in (by decide) (by decide) hc_12)).symm.trans rfl) dX9_setWater_42 ?_
      refine lv_istore_n (lv' := [(3, .int (rg (S 2) 12 x)), (0, .ref (a 20)), (1, .int x), (2, .int z)]) C0.1 C0.2.1 dX9_setWater_43 rfl hl (by decide) rfl (fun ls hl => ?_)
      refine lv_aload_n C0.1 C0.2.1 dX9_setWater_44 rfl (lv_at hl 1 rfl) ?_
      refine g20 C0 hK hP (hd.1 _ (by decide)) 3 (by decide) fl_X9_16 rfl dX9_setWater_45 ?_
      refine lv_iload_n C0.1 C0.2.1 dX9_setWater_48 rfl (lv_at hl 2 rfl) ?_
      refine lv_iload_n C0.1 C0.2.1 dX9_setWater_49 rfl (lv_at hl 3 rfl) ?_
      refine mst (k := 2) (by decide) C0 hK hP hS hA (hd.1 _ (by decide)) hd.2.2 (one_in (by decide) (by decide) hc_12) (up S 2 (us (S 2) 12 x z)) (up X 87 (fun _ => 0)) (fun q9 => (congrFun (us_in (one_in (by decide) (by decide) hc_12)) q9)) (fun j9 _ h9 => cm_at (lo := 2) (hi := 3) (fun k9 h8 => up_ne (by omega)) (fun _ => rfl) (by omega) h9) dX9_setWater_50 (fun H locs hP hS => ?_)
      have hP : WQ D cA a (up S 2 (us (S 2) 12 x z)) (up X 87 (fun _ => 0)) I H := hP
      refine lv_iload_n C0.1 C0.2.1 dX9_setWater_51 rfl (lv_at hl 0 rfl) ?_
      exact rtI C0 hr hlk hP hS (pok (kd_0 (by simp only [hc_12, hc_28, Bool.and_true, Bool.true_and, Bool.and_false, Bool.false_and, Bool.and_self]) (by simp only [hc_12, hc_28, Bool.and_true, Bool.true_and, Bool.and_false, Bool.false_and, Bool.and_self]) rfl) rfl (⟨rfl, rfl⟩)) dX9_setWater_52
    · have c_28 := bI_eq c_28
      have hc_28 : inB z 0 24 = false := ((rfl : (decide (0 ≤ z) && decide (z ≤ 24)) = inB z 0 24)).symm.trans c_28
      refine lv_aload_n C0.1 C0.2.1 dX9_setWater_31 rfl (lv_at hl 0 rfl) ?_
      refine lv_iconst (v := 2) C0.1 C0.2.1 dX9_setWater_32 (by decide) ?_
      refine k_X9_fail hd sId C0 hK hP  (v := 0) rfl hS hA hl.1 ml_X9_73 ⟨Nat.le_of_ble_eq_true rfl, Nat.le_of_ble_eq_true rfl⟩ ⟨Nat.zero_le _, Nat.zero_le _⟩ (Nat.le_of_ble_eq_true rfl) dX9_setWater_33 (fun H locs hP hS => ?_)
      have hP : WQ D cA a S (up X 87 (fun _ => 2)) I H := WQ.congr (show WQ D cA a S (up (up X 87 (fun _ => 0)) 87 (fun _ => 2)) I H from hP) (fun _ => rfl) (fun k => by
          by_cases h_87 : k = 87
          · subst h_87; rfl
          simp only [up, h_87, if_false])
      exact rtI C0 hr hlk hP hS (pfail (kd_2 (by simp only [hc_12, hc_28, Bool.and_true, Bool.true_and, Bool.and_false, Bool.false_and, Bool.and_self]) (by simp only [hc_12, hc_28, Bool.and_true, Bool.true_and, Bool.and_false, Bool.false_and, Bool.and_self])) rfl (by decide) rfl) dX9_setWater_36
  · have c_12 := bI_eq c_12
    have hc_12 : oneB x 12 = false := (one_c (x := x) (k := 11) (j := 12) (n := 12) (by decide) (by decide) (by decide)).symm.trans c_12
    refine lv_aload_n C0.1 C0.2.1 dX9_setWater_15 rfl (lv_at hl 0 rfl) ?_
    refine lv_iconst (v := 1) C0.1 C0.2.1 dX9_setWater_16 (by decide) ?_
    refine k_X9_fail hd sId C0 hK hP  (v := 0) rfl hS hA hl.1 ml_X9_73 ⟨Nat.le_of_ble_eq_true rfl, Nat.le_of_ble_eq_true rfl⟩ ⟨Nat.zero_le _, Nat.zero_le _⟩ (Nat.le_of_ble_eq_true rfl) dX9_setWater_17 (fun H locs hP hS => ?_)
    have hP : WQ D cA a S (up X 87 (fun _ => 1)) I H := WQ.congr (show WQ D cA a S (up (up X 87 (fun _ => 0)) 87 (fun _ => 1)) I H from hP) (fun _ => rfl) (fun k => by
        by_cases h_87 : k = 87
        · subst h_87; rfl
        simp only [up, h_87, if_false])
    exact rtI C0 hr hlk hP hS (pfail (kd_1 (by simp only [hc_12, Bool.and_true, Bool.true_and, Bool.and_false, Bool.false_and, Bool.and_self])) rfl (by decide) rfl) dX9_setWater_20
theorem k_X9_setWater {n : List Nat} (hd : Hd n a I) (hsub : ∀ k ∈ nM, k ∈ n) (C0 : CallFix p m c cc nL s args GW own) (hK : KK D cA s) (hP : WQ D cA a S X I H) {x : Int32} {z : Int32} (hS : va_S A0 H0 H locs) (hA : ∀ q, AI a I q → A0 q) (hls : ls.size = nL) {idx : Nat} (hlink : Cond.methodLink own idx yX9_setWater ∈ GW) (hR : 2 ≤ R.frames ∧ 45 ≤ R.locals) (hcs : cells ≤ R.cells ∧ slots ≤ R.slots) (hrest : (rest.map fun v => v.category).sum ≤ 8) (hdg : decode cc pc = .ok (.invokevirtual idx, 3)) (kk : ∀ (v : Int32) (S1 X1 : Mem) (H1 : Heap) (locs1 : List Loc), (fun r S1 X1 => X1 87 0 = kd (oneB x 12) (inB z 0 24) (true) 1 2 3 ∧ (kd (oneB x 12) (inB z 0 24) (true) 1 2 3 = 0 → r = rg (S 2) 12 x ∧ S1 = up S 2 (us (S 2) 12 x z)) ∧ (¬ kd (oneB x 12) (inB z 0 24) (true) 1 2 3 = 0 → S1 = S)) v S1 X1 → WQ D cA a S1 X1 I H1 → va_S A0 H0 H1 locs1 → W p l e R s m args below meth c H1 locs1 cells slots Q (F0 m (pc + 3) ls (.int v :: rest))) : W p l e R s m args below meth c H locs cells slots Q (F0 m pc ls (.int z :: .int x :: .ref (a 20) :: rest)) := by
  exact hoI (qV (n := 2) (c_X9_setWater l D cA a S X I (hd.sub hsub) x z ) C0 hlink im_X9_setWater se_X9_setWater in_X9 co_X9_setWater ⟨rfl, by decide⟩ hR hK hP (hd.1 _ (hsub _ (by decide))) rfl rfl rfl hls hrest rfl hdg hcs) hS hA kk
set_option maxHeartbeats 4000000 in
set_option maxRecDepth 100000 in
theorem c_X9_setStake (l : Launch) (D : va_G) (cA : ClassId) (a : Adr) (S X : Mem) (I : Nat → Prop) (hd : Hd nM a I) (x : Int32) (y : Int32) (z : Int32) : NI l yX9_setStake cX9_setStake 5 (some .int) 2 43 D cA a S X I [.ref (a 20), .int x, .int y, .int z] (fun r S1 X1 => X1 87 0 = kd (plB x y) (inB z 0 9) (true) 1 2 3 ∧ (kd (plB x y) (inB z 0 9) (true) 1 2 3 = 0 → r = rg (S 1) 196 (x + 14 * y) ∧ S1 = up S 1 (us (S 1) 196 (x + 14 * y) z)) ∧ (¬ kd (plB x y) (inB z 0 9) (true) 1 2 3 = 0 → S1 = S)) := by
  refine nGo (by decide) (Nat.le_of_ble_eq_true rfl) ?_
  intro p e s m args below meth c ls C0 hr hlk hK hP hS hl hargs
  obtain ⟨H, hHe⟩ : ∃ H, H = s.heap := ⟨_, rfl⟩
  obtain ⟨locs, hlo⟩ : ∃ L : List Loc, L = [] := ⟨_, rfl⟩
  have hP : WQ D cA a S X I H := hHe ▸ hP
  have hS : va_S (AI a I) s.heap H locs := by rw [hHe, hlo]; exact hS
  rw [← hHe, ← hlo]
  have hA : ∀ q, AI a I q → AI a I q := fun _ h => h
  refine lv_aload_n C0.1 C0.2.1 dX9_setStake_0 rfl (lv_at hl 0 rfl) ?_
  refine lv_iconst (v := 0) C0.1 C0.2.1 dX9_setStake_1 (by decide) ?_
  refine p20 C0 hK hP hS hA (hd.1 _ (by decide)) hd.2.2 0 (by decide) fl_X9_40 rfl (by decide +kernel) (x := 0) S (up X 87 (fun _ => 0)) rfl (fun k9 _ h9 => cm_num (fun _ _ => rfl) (fun k9 h9 => up_ne (by omega)) h9) dX9_setStake_2 (fun H locs hP hS => ?_)
  have hP : WQ D cA a S (up X 87 (fun _ => 0)) I H := hP
  refine lv_iload_n C0.1 C0.2.1 dX9_setStake_5 rfl (lv_at hl 1 rfl) ?_
  refine lv_iload_n C0.1 C0.2.1 dX9_setStake_6 rfl (lv_at hl 2 rfl) ?_
  refine k_X9_isCell hd s0 C0 hK hP  (v := bI ((decide (0 ≤ x) && decide (x ≤ 13)) && (decide (0 ≤ y) && decide (y ≤ 13)))) rfl hS hA hl.1 ml_X9_69 ⟨Nat.le_of_ble_eq_true rfl, Nat.le_of_ble_eq_true rfl⟩ ⟨Nat.zero_le _, Nat.zero_le _⟩ (Nat.le_of_ble_eq_true rfl) dX9_setStake_7 (fun H locs hP hS => ?_)
  refine lv_if_ne (tgt := 19) C0.1 C0.2.1 dX9_setStake_10 (by decide) (fun c_10 => ?_) (fun c_10 => ?_)
  · have c_10 := bI_ne c_10
    have hc_10 : plB x y = true := (isc_eq x y).symm.trans c_10
    refine lv_iload_n C0.1 C0.2.1 dX9_setStake_19 rfl (lv_at hl 3 rfl) ?_
    refine lv_iconst (v := 0) C0.1 C0.2.1 dX9_setStake_20 (by decide) ?_
    refine lv_bipush (v := 9) C0.1 C0.2.1 dX9_setStake_21 (by decide) ?_
    refine k_X9_isIn hd s0 C0 hK hP  (v := bI (decide (0 ≤ z) && decide (z ≤ 9))) rfl hS hA hl.1 ml_X9_44 ⟨Nat.le_of_ble_eq_true rfl, Nat.le_of_ble_eq_true rfl⟩ ⟨Nat.zero_le _, Nat.zero_le _⟩ (Nat.le_of_ble_eq_true rfl) dX9_setStake_23 (fun H locs hP hS => ?_)
    refine lv_if_ne (tgt := 35) C0.1 C0.2.1 dX9_setStake_26 (by decide) (fun c_26 => ?_) (fun c_26 => ?_)
    · have c_26 := bI_ne c_26
      have hc_26 : inB z 0 9 = true := ((rfl : (decide (0 ≤ z) && decide (z ≤ 9)) = inB z 0 9)).symm.trans c_26
      refine lv_aload_n C0.1 C0.2.1 dX9_setStake_35 rfl (lv_at hl 0 rfl) ?_
      refine g20 C0 hK hP (hd.1 _ (by decide)) 2 (by decide) fl_X9_13 rfl dX9_setStake_36 ?_
      refine lv_iload_n C0.1 C0.2.1 dX9_setStake_39 rfl (lv_at hl 1 rfl) ?_
      refine lv_bipush (v := 14) C0.1 C0.2.1 dX9_setStake_40 (by decide) ?_
      refine lv_iload_n C0.1 C0.2.1 dX9_setStake_42 rfl (lv_at hl 2 rfl) ?_
      refine lv_imul C0.1 C0.2.1 dX9_setStake_43 ?_
      refine lv_iadd C0.1 C0.2.1 dX9_setStake_44 ?_
      refine mld (k := 1) (by decide) C0 hK hP (hd.1 _ (by decide)) (v := rg (S 1) 196 (x + (14 * y))) (cel_in hc_10) ((rg_in (n := 196) (cel_in hc_10)).symm.trans rfl) dX9_setStake_45 ?_
      refine lv_istore (lv' := [(4, .int (rg (S 1) 196 (x + (14 * y)))), (0, .ref (a 20)), (1, .int x), (2, .int y), (3, .int z)]) C0.1 C0.2.1 dX9_setStake_46 hl (by decide) rfl (fun ls hl => ?_)
      refine lv_aload_n C0.1 C0.2.1 dX9_setStake_48 rfl (lv_at hl 1 rfl) ?_
      refine g20 C0 hK hP (hd.1 _ (by decide)) 2 (by decide) fl_X9_13 rfl dX9_setStake_49 ?_
      refine lv_iload_n C0.1 C0.2.1 dX9_setStake_52 rfl (lv_at hl 2 rfl) ?_
      refine lv_bipush (v := 14) C0.1 C0.2.1 dX9_setStake_53 (by decide) ?_
      refine lv_iload_n C0.1 C0.2.1 dX9_setStake_55 rfl (lv_at hl 3 rfl) ?_
      refine lv_imul C0.1 C0.2.1 dX9_setStake_56 ?_
      refine lv_iadd C0.1 C0.2.1 dX9_setStake_57 ?_
      refine lv_iload_n C0.1 C0.2.1 dX9_setStake_58 rfl (lv_at hl 4 rfl) ?_
      refine mst (k := 1) (by decide) C0 hK hP hS hA (hd.1 _ (by decide)) hd.2.2 (cel_in hc_10) (up S 1 (us (S 1) 196 (x + (14 * y)) z)) (up X 87 (fun _ => 0)) (fun q9 => (congrFun (us_in (cel_in hc_10)) q9)) (fun j9 _ h9 => cm_at (lo := 1) (hi := 2) (fun k9 h8 => up_ne (by omega)) (fun _ => rfl) (by omega) h9) dX9_setStake_59 (fun H locs hP hS => ?_)
      have hP : WQ D cA a (up S 1 (us (S 1) 196 (x + (14 * y)) z)) (up X 87 (fun _ => 0)) I H := hP
      refine lv_iload C0.1 C0.2.1 dX9_setStake_60 (lv_at hl 0 rfl) ?_
      exact rtI C0 hr hlk hP hS (pok (kd_0 (by simp only [hc_10, hc_26, Bool.and_true, Bool.true_and, Bool.and_false, Bool.false_and, Bool.and_self]) (by simp only [hc_10, hc_26, Bool.and_true, Bool.true_and, Bool.and_false, Bool.false_and, Bool.and_self]) rfl) rfl (⟨rfl, rfl⟩)) dX9_setStake_62
    · have c_26 := bI_eq c_26
      have hc_26 : inB z 0 9 = false := ((rfl : (decide (0 ≤ z) && decide (z ≤ 9)) = inB z 0 9)).symm.trans c_26
      refine lv_aload_n C0.1 C0.2.1 dX9_setStake_29 rfl (lv_at hl 0 rfl) ?_
      refine lv_iconst (v := 2) C0.1 C0.2.1 dX9_setStake_30 (by decide) ?_
      refine k_X9_fail hd sId C0 hK hP  (v := 0) rfl hS hA hl.1 ml_X9_73 ⟨Nat.le_of_ble_eq_true rfl, Nat.le_of_ble_eq_true rfl⟩ ⟨Nat.zero_le _, Nat.zero_le _⟩ (Nat.le_of_ble_eq_true rfl) dX9_setStake_31 (fun H locs hP hS => ?_)
      have hP : WQ D cA a S (up X 87 (fun _ => 2)) I H := WQ.congr (show WQ D cA a S (up (up X 87 (fun _ => 0)) 87 (fun _ => 2)) I H from hP) (fun _ => rfl) (fun k => by
          by_cases h_87 : k = 87
          · subst h_87; rfl
          simp only [up, h_87, if_false])
      exact rtI C0 hr hlk hP hS (pfail (kd_2 (by simp only [hc_10, hc_26, Bool.and_true, Bool.true_and, Bool.and_false, Bool.false_and, Bool.and_self]) (by simp only [hc_10, hc_26, Bool.and_true, Bool.true_and, Bool.and_false, Bool.false_and, Bool.and_self])) rfl (by decide) rfl) dX9_setStake_34
  · have c_10 := bI_eq c_10
    have hc_10 : plB x y = false := (isc_eq x y).symm.trans c_10
    refine lv_aload_n C0.1 C0.2.1 dX9_setStake_13 rfl (lv_at hl 0 rfl) ?_
    refine lv_iconst (v := 1) C0.1 C0.2.1 dX9_setStake_14 (by decide) ?_
    refine k_X9_fail hd sId C0 hK hP  (v := 0) rfl hS hA hl.1 ml_X9_73 ⟨Nat.le_of_ble_eq_true rfl, Nat.le_of_ble_eq_true rfl⟩ ⟨Nat.zero_le _, Nat.zero_le _⟩ (Nat.le_of_ble_eq_true rfl) dX9_setStake_15 (fun H locs hP hS => ?_)
    have hP : WQ D cA a S (up X 87 (fun _ => 1)) I H := WQ.congr (show WQ D cA a S (up (up X 87 (fun _ => 0)) 87 (fun _ => 1)) I H from hP) (fun _ => rfl) (fun k => by
        by_cases h_87 : k = 87
        · subst h_87; rfl
        simp only [up, h_87, if_false])
    exact rtI C0 hr hlk hP hS (pfail (kd_1 (by simp only [hc_10, Bool.and_true, Bool.true_and, Bool.and_false, Bool.false_and, Bool.and_self])) rfl (by decide) rfl) dX9_setStake_18
theorem k_X9_setStake {n : List Nat} (hd : Hd n a I) (hsub : ∀ k ∈ nM, k ∈ n) (C0 : CallFix p m c cc nL s args GW own) (hK : KK D cA s) (hP : WQ D cA a S X I H) {x : Int32} {y : Int32} {z : Int32} (hS : va_S A0 H0 H locs) (hA : ∀ q, AI a I q → A0 q) (hls : ls.size = nL) {idx : Nat} (hlink : Cond.methodLink own idx yX9_setStake ∈ GW) (hR : 3 ≤ R.frames ∧ 67 ≤ R.locals) (hcs : cells ≤ R.cells ∧ slots ≤ R.slots) (hrest : (rest.map fun v => v.category).sum ≤ 8) (hdg : decode cc pc = .ok (.invokevirtual idx, 3)) (kk : ∀ (v : Int32) (S1 X1 : Mem) (H1 : Heap) (locs1 : List Loc), (fun r S1 X1 => X1 87 0 = kd (plB x y) (inB z 0 9) (true) 1 2 3 ∧ (kd (plB x y) (inB z 0 9) (true) 1 2 3 = 0 → r = rg (S 1) 196 (x + 14 * y) ∧ S1 = up S 1 (us (S 1) 196 (x + 14 * y) z)) ∧ (¬ kd (plB x y) (inB z 0 9) (true) 1 2 3 = 0 → S1 = S)) v S1 X1 → WQ D cA a S1 X1 I H1 → va_S A0 H0 H1 locs1 → W p l e R s m args below meth c H1 locs1 cells slots Q (F0 m (pc + 3) ls (.int v :: rest))) : W p l e R s m args below meth c H locs cells slots Q (F0 m pc ls (.int z :: .int y :: .int x :: .ref (a 20) :: rest)) := by
  exact hoI (qV (n := 3) (c_X9_setStake l D cA a S X I (hd.sub hsub) x y z ) C0 hlink im_X9_setStake se_X9_setStake in_X9 co_X9_setStake ⟨rfl, by decide⟩ hR hK hP (hd.1 _ (hsub _ (by decide))) rfl rfl rfl hls hrest rfl hdg hcs) hS hA kk
set_option maxHeartbeats 4000000 in
set_option maxRecDepth 100000 in
theorem c_X9_cell (l : Launch) (D : va_G) (cA : ClassId) (a : Adr) (S X : Mem) (I : Nat → Prop) (hd : Hd nM a I) (x : Int32) (y : Int32) (w : Int32) {P : Nat} {L : Nat} {h : Nat} (hnP : S 82 0 = nI P) (hP6 : P ≤ 6) (hnL : S 81 0 = nI L) (hL8 : L ≤ 8) (hnH : S 86 0 = nI h) (hh : h < 2 ^ 31) : NI l yX9_cell cX9_cell 4 (some .int) 3 67 D cA a S X I [.ref (a 20), .int x, .int y, .int w] (fun r S1 X1 => X1 87 0 = kd (plB x y && oneB w 6) (true) (true) 1 2 3 ∧ (kd (plB x y && oneB w 6) (true) (true) 1 2 3 = 0 → r = celR S P L h (x + 14 * y) w ∧ S1 = S) ∧ (¬ kd (plB x y && oneB w 6) (true) (true) 1 2 3 = 0 → S1 = S)) := by
  refine nGo (by decide) (Nat.le_of_ble_eq_true rfl) ?_
  intro p e s m args below meth c ls C0 hr hlk hK hP hS hl hargs
  obtain ⟨H, hHe⟩ : ∃ H, H = s.heap := ⟨_, rfl⟩
  obtain ⟨locs, hlo⟩ : ∃ L : List Loc, L = [] := ⟨_, rfl⟩
  have hP : WQ D cA a S X I H := hHe ▸ hP
  have hS : va_S (AI a I) s.heap H locs := by rw [hHe, hlo]; exact hS
  rw [← hHe, ← hlo]
  have hA : ∀ q, AI a I q → AI a I q := fun _ h => h
  refine lv_aload_n C0.1 C0.2.1 dX9_cell_0 rfl (lv_at hl 0 rfl) ?_
  refine lv_iconst (v := 0) C0.1 C0.2.1 dX9_cell_1 (by decide) ?_
  refine p20 C0 hK hP hS hA (hd.1 _ (by decide)) hd.2.2 0 (by decide) fl_X9_40 rfl (by decide +kernel) (x := 0) S (up X 87 (fun _ => 0)) rfl (fun k9 _ h9 => cm_num (fun _ _ => rfl) (fun k9 h9 => up_ne (by omega)) h9) dX9_cell_2 (fun H locs hP hS => ?_)
  have hP : WQ D cA a S (up X 87 (fun _ => 0)) I H := hP
  refine lv_iload_n C0.1 C0.2.1 dX9_cell_5 rfl (lv_at hl 1 rfl) ?_
  refine lv_iload_n C0.1 C0.2.1 dX9_cell_6 rfl (lv_at hl 2 rfl) ?_
  refine k_X9_isCell hd s0 C0 hK hP  (v := bI ((decide (0 ≤ x) && decide (x ≤ 13)) && (decide (0 ≤ y) && decide (y ≤ 13)))) rfl hS hA hl.1 ml_X9_69 ⟨Nat.le_of_ble_eq_true rfl, Nat.le_of_ble_eq_true rfl⟩ ⟨Nat.zero_le _, Nat.zero_le _⟩ (Nat.le_of_ble_eq_true rfl) dX9_cell_7 (fun H locs hP hS => ?_)
  refine lv_if_eq (tgt := 36) C0.1 C0.2.1 dX9_cell_10 (by decide) (fun c_10 => ?_) (fun c_10 => ?_)
  · have c_10 := bI_eq c_10
    have hc_10 : plB x y = false := (isc_eq x y).symm.trans c_10
    refine lv_aload_n C0.1 C0.2.1 dX9_cell_36 rfl (lv_at hl 0 rfl) ?_
    refine lv_iconst (v := 1) C0.1 C0.2.1 dX9_cell_37 (by decide) ?_
    refine k_X9_fail hd sId C0 hK hP  (v := 0) rfl hS hA hl.1 ml_X9_73 ⟨Nat.le_of_ble_eq_true rfl, Nat.le_of_ble_eq_true rfl⟩ ⟨Nat.zero_le _, Nat.zero_le _⟩ (Nat.le_of_ble_eq_true rfl) dX9_cell_38 (fun H locs hP hS => ?_)
    have hP : WQ D cA a S (up X 87 (fun _ => 1)) I H := WQ.congr (show WQ D cA a S (up (up X 87 (fun _ => 0)) 87 (fun _ => 1)) I H from hP) (fun _ => rfl) (fun k => by
        by_cases h_87 : k = 87
        · subst h_87; rfl
        simp only [up, h_87, if_false])
    exact rtI C0 hr hlk hP hS (pfail (kd_1 (by simp only [hc_10, Bool.and_true, Bool.true_and, Bool.and_false, Bool.false_and, Bool.and_self])) rfl (by decide) rfl) dX9_cell_41
  · have c_10 := bI_ne c_10
    have hc_10 : plB x y = true := (isc_eq x y).symm.trans c_10
    refine lv_iload_n C0.1 C0.2.1 dX9_cell_13 rfl (lv_at hl 3 rfl) ?_
    refine lv_iconst (v := 0) C0.1 C0.2.1 dX9_cell_14 (by decide) ?_
    refine lv_iconst (v := 5) C0.1 C0.2.1 dX9_cell_15 (by decide) ?_
    refine k_X9_isIn hd s0 C0 hK hP  (v := bI (decide (0 ≤ w) && decide (w ≤ 5))) rfl hS hA hl.1 ml_X9_44 ⟨Nat.le_of_ble_eq_true rfl, Nat.le_of_ble_eq_true rfl⟩ ⟨Nat.zero_le _, Nat.zero_le _⟩ (Nat.le_of_ble_eq_true rfl) dX9_cell_16 (fun H locs hP hS => ?_)
    refine lv_if_eq (tgt := 36) C0.1 C0.2.1 dX9_cell_19 (by decide) (fun c_19 => ?_) (fun c_19 => ?_)
    · have c_19 := bI_eq c_19
      have hc_19 : oneB w 6 = false := (one_c (x := w) (k := 5) (j := 6) (n := 6) (by decide) (by decide) (by decide)).symm.trans c_19
      refine lv_aload_n C0.1 C0.2.1 dX9_cell_36 rfl (lv_at hl 0 rfl) ?_
      refine lv_iconst (v := 1) C0.1 C0.2.1 dX9_cell_37 (by decide) ?_
      refine k_X9_fail hd sId C0 hK hP  (v := 0) rfl hS hA hl.1 ml_X9_73 ⟨Nat.le_of_ble_eq_true rfl, Nat.le_of_ble_eq_true rfl⟩ ⟨Nat.zero_le _, Nat.zero_le _⟩ (Nat.le_of_ble_eq_true rfl) dX9_cell_38 (fun H locs hP hS => ?_)
      have hP : WQ D cA a S (up X 87 (fun _ => 1)) I H := WQ.congr (show WQ D cA a S (up (up X 87 (fun _ => 0)) 87 (fun _ => 1)) I H from hP) (fun _ => rfl) (fun k => by
          by_cases h_87 : k = 87
          · subst h_87; rfl
          simp only [up, h_87, if_false])
      exact rtI C0 hr hlk hP hS (pfail (kd_1 (by simp only [hc_10, hc_19, Bool.and_true, Bool.true_and, Bool.and_false, Bool.false_and, Bool.and_self])) rfl (by decide) rfl) dX9_cell_41
    · have c_19 := bI_ne c_19
      have hc_19 : oneB w 6 = true := (one_c (x := w) (k := 5) (j := 6) (n := 6) (by decide) (by decide) (by decide)).symm.trans c_19
      refine lv_aload_n C0.1 C0.2.1 dX9_cell_22 rfl (lv_at hl 0 rfl) ?_
      refine lv_iload_n C0.1 C0.2.1 dX9_cell_23 rfl (lv_at hl 1 rfl) ?_
      refine lv_bipush (v := 14) C0.1 C0.2.1 dX9_cell_24 (by decide) ?_
      refine lv_iload_n C0.1 C0.2.1 dX9_cell_26 rfl (lv_at hl 2 rfl) ?_
      refine lv_imul C0.1 C0.2.1 dX9_cell_27 ?_
      refine lv_iadd C0.1 C0.2.1 dX9_cell_28 ?_
      obtain ⟨k, hk, hke⟩ := cel_nat hc_10
      rw [hke]
      refine lv_iload_n C0.1 C0.2.1 dX9_cell_29 rfl (lv_at hl 3 rfl) ?_
      refine k_X9_cellTold hd sId C0 hK hP hk hnP hP6 hnL hL8 hnH hh (v := celT S P L h k w) rfl hS hA hl.1 ml_X9_87 ⟨Nat.le_of_ble_eq_true rfl, Nat.le_of_ble_eq_true rfl⟩ ⟨Nat.zero_le _, Nat.zero_le _⟩ (Nat.le_of_ble_eq_true rfl) dX9_cell_30 (fun H locs hP hS => ?_)
      refine lv_goto (tgt := 41) C0.1 C0.2.1 dX9_cell_33 (by decide) ?_
      exact rtI C0 hr hlk hP hS (pok (kd_0 (by simp only [hc_10, hc_19, Bool.and_true, Bool.true_and, Bool.and_false, Bool.false_and, Bool.and_self]) rfl rfl) rfl (⟨by rw [celR_T hL8 hk], rfl⟩)) dX9_cell_41
theorem k_X9_cell {n : List Nat} (hd : Hd n a I) (hsub : ∀ k ∈ nM, k ∈ n) (C0 : CallFix p m c cc nL s args GW own) (hK : KK D cA s) (hP : WQ D cA a S X I H) {x : Int32} {y : Int32} {w : Int32} {P : Nat} {L : Nat} {h : Nat} (hnP : S 82 0 = nI P) (hP6 : P ≤ 6) (hnL : S 81 0 = nI L) (hL8 : L ≤ 8) (hnH : S 86 0 = nI h) (hh : h < 2 ^ 31) (hS : va_S A0 H0 H locs) (hA : ∀ q, AI a I q → A0 q) (hls : ls.size = nL) {idx : Nat} (hlink : Cond.methodLink own idx yX9_cell ∈ GW) (hR : 4 ≤ R.frames ∧ 90 ≤ R.locals) (hcs : cells ≤ R.cells ∧ slots ≤ R.slots) (hrest : (rest.map fun v => v.category).sum ≤ 8) (hdg : decode cc pc = .ok (.invokevirtual idx, 3)) (kk : ∀ (v : Int32) (S1 X1 : Mem) (H1 : Heap) (locs1 : List Loc), (fun r S1 X1 => X1 87 0 = kd (plB x y && oneB w 6) (true) (true) 1 2 3 ∧ (kd (plB x y && oneB w 6) (true) (true) 1 2 3 = 0 → r = celR S P L h (x + 14 * y) w ∧ S1 = S) ∧ (¬ kd (plB x y && oneB w 6) (true) (true) 1 2 3 = 0 → S1 = S)) v S1 X1 → WQ D cA a S1 X1 I H1 → va_S A0 H0 H1 locs1 → W p l e R s m args below meth c H1 locs1 cells slots Q (F0 m (pc + 3) ls (.int v :: rest))) : W p l e R s m args below meth c H locs cells slots Q (F0 m pc ls (.int w :: .int y :: .int x :: .ref (a 20) :: rest)) := by
  exact hoI (qV (n := 3) (c_X9_cell l D cA a S X I (hd.sub hsub) x y w hnP hP6 hnL hL8 hnH hh) C0 hlink im_X9_cell se_X9_cell in_X9 co_X9_cell ⟨rfl, by decide⟩ hR hK hP (hd.1 _ (hsub _ (by decide))) rfl rfl rfl hls hrest rfl hdg hcs) hS hA kk
set_option maxHeartbeats 4000000 in
set_option maxRecDepth 100000 in
theorem c_X9_addLanding (l : Launch) (D : va_G) (cA : ClassId) (a : Adr) (S X : Mem) (I : Nat → Prop) (hd : Hd nM a I) (x : Int32) (y : Int32) {L : Nat} (hnL : S 81 0 = nI L) (hL8 : L ≤ 8) : NI l yX9_addLanding cX9_addLanding 3 (some .int) 2 43 D cA a S X I [.ref (a 20), .int x, .int y] (fun r S1 X1 => X1 87 0 = kd (plB x y) (true) (decide ((fndF (fun j => decide (rg (S 3) 8 (nI j) = x + 14 * y)) 0 L) = -1) && !decide (8 ≤ nI L)) 1 9 2 ∧ (kd (plB x y) (true) (decide ((fndF (fun j => decide (rg (S 3) 8 (nI j) = x + 14 * y)) 0 L) = -1) && !decide (8 ≤ nI L)) 1 9 2 = 0 → r = nI L ∧ S1 = up (up S 3 (us (S 3) 8 (S 81 0) (x + 14 * y))) 81 (fun _ => S 81 0 + 1)) ∧ (¬ kd (plB x y) (true) (decide ((fndF (fun j => decide (rg (S 3) 8 (nI j) = x + 14 * y)) 0 L) = -1) && !decide (8 ≤ nI L)) 1 9 2 = 0 → S1 = S)) := by
  refine nGo (by decide) (Nat.le_of_ble_eq_true rfl) ?_
  intro p e s m args below meth c ls C0 hr hlk hK hP hS hl hargs
  obtain ⟨H, hHe⟩ : ∃ H, H = s.heap := ⟨_, rfl⟩
  obtain ⟨locs, hlo⟩ : ∃ L : List Loc, L = [] := ⟨_, rfl⟩
  have hP : WQ D cA a S X I H := hHe ▸ hP
  have hS : va_S (AI a I) s.heap H locs := by rw [hHe, hlo]; exact hS
  rw [← hHe, ← hlo]
  have hA : ∀ q, AI a I q → AI a I q := fun _ h => h
  refine lv_aload_n C0.1 C0.2.1 dX9_addLanding_0 rfl (lv_at hl 0 rfl) ?_
  refine lv_iconst (v := 0) C0.1 C0.2.1 dX9_addLanding_1 (by decide) ?_
  refine p20 C0 hK hP hS hA (hd.1 _ (by decide)) hd.2.2 0 (by decide) fl_X9_40 rfl (by decide +kernel) (x := 0) S (up X 87 (fun _ => 0)) rfl (fun k9 _ h9 => cm_num (fun _ _ => rfl) (fun k9 h9 => up_ne (by omega)) h9) dX9_addLanding_2 (fun H locs hP hS => ?_)
  have hP : WQ D cA a S (up X 87 (fun _ => 0)) I H := hP
  refine lv_iload_n C0.1 C0.2.1 dX9_addLanding_5 rfl (lv_at hl 1 rfl) ?_
  refine lv_iload_n C0.1 C0.2.1 dX9_addLanding_6 rfl (lv_at hl 2 rfl) ?_
  refine k_X9_isCell hd s0 C0 hK hP  (v := bI ((decide (0 ≤ x) && decide (x ≤ 13)) && (decide (0 ≤ y) && decide (y ≤ 13)))) rfl hS hA hl.1 ml_X9_69 ⟨Nat.le_of_ble_eq_true rfl, Nat.le_of_ble_eq_true rfl⟩ ⟨Nat.zero_le _, Nat.zero_le _⟩ (Nat.le_of_ble_eq_true rfl) dX9_addLanding_7 (fun H locs hP hS => ?_)
  refine lv_if_ne (tgt := 19) C0.1 C0.2.1 dX9_addLanding_10 (by decide) (fun c_10 => ?_) (fun c_10 => ?_)
  · have c_10 := bI_ne c_10
    have hc_10 : plB x y = true := (isc_eq x y).symm.trans c_10
    refine lv_aload_n C0.1 C0.2.1 dX9_addLanding_19 rfl (lv_at hl 0 rfl) ?_
    refine lv_iload_n C0.1 C0.2.1 dX9_addLanding_20 rfl (lv_at hl 1 rfl) ?_
    refine lv_bipush (v := 14) C0.1 C0.2.1 dX9_addLanding_21 (by decide) ?_
    refine lv_iload_n C0.1 C0.2.1 dX9_addLanding_23 rfl (lv_at hl 2 rfl) ?_
    refine lv_imul C0.1 C0.2.1 dX9_addLanding_24 ?_
    refine lv_iadd C0.1 C0.2.1 dX9_addLanding_25 ?_
    refine k_X9_landingAt hd sId C0 hK hP hnL hL8 (v := fndF (fun j => decide ((S 3) j = (x + (14 * y)))) 0 L) rfl hS hA hl.1 ml_X9_84 ⟨Nat.le_of_ble_eq_true rfl, Nat.le_of_ble_eq_true rfl⟩ ⟨Nat.zero_le _, Nat.zero_le _⟩ (Nat.le_of_ble_eq_true rfl) dX9_addLanding_26 (fun H locs hP hS => ?_)
    refine lv_iconst (v := (-1)) C0.1 C0.2.1 dX9_addLanding_29 (by decide) ?_
    refine lv_icmp_ne (tgt := 42) C0.1 C0.2.1 dX9_addLanding_30 (by decide) (fun c_30 => ?_) (fun c_30 => ?_)
    · have hc_30 : decide ((fndF (fun j => decide (rg (S 3) 8 (nI j) = x + 14 * y)) 0 L) = -1) = false := by rw [decide_eq_false (show ¬ (fndF (fun j => decide (rg (S 3) 8 (nI j) = x + 14 * y)) 0 L) = -1 by rw [al_eq hL8]; exact c_30)]
      refine lv_aload_n C0.1 C0.2.1 dX9_addLanding_42 rfl (lv_at hl 0 rfl) ?_
      refine lv_iconst (v := 2) C0.1 C0.2.1 dX9_addLanding_43 (by decide) ?_
      refine k_X9_fail hd sId C0 hK hP  (v := 0) rfl hS hA hl.1 ml_X9_73 ⟨Nat.le_of_ble_eq_true rfl, Nat.le_of_ble_eq_true rfl⟩ ⟨Nat.zero_le _, Nat.zero_le _⟩ (Nat.le_of_ble_eq_true rfl) dX9_addLanding_44 (fun H locs hP hS => ?_)
      have hP : WQ D cA a S (up X 87 (fun _ => 2)) I H := WQ.congr (show WQ D cA a S (up (up X 87 (fun _ => 0)) 87 (fun _ => 2)) I H from hP) (fun _ => rfl) (fun k => by
          by_cases h_87 : k = 87
          · subst h_87; rfl
          simp only [up, h_87, if_false])
      exact rtI C0 hr hlk hP hS (pfail (kd_3 (by simp only [hc_10, hc_30, Bool.and_true, Bool.true_and, Bool.and_false, Bool.false_and, Bool.and_self]) rfl (by simp only [hc_10, hc_30, Bool.and_true, Bool.true_and, Bool.and_false, Bool.false_and, Bool.and_self])) rfl (by decide) rfl) dX9_addLanding_47
    · have hc_30 : decide ((fndF (fun j => decide (rg (S 3) 8 (nI j) = x + 14 * y)) 0 L) = -1) = true := by rw [decide_eq_true (show (fndF (fun j => decide (rg (S 3) 8 (nI j) = x + 14 * y)) 0 L) = -1 by rw [al_eq hL8]; exact c_30)]
      refine lv_aload_n C0.1 C0.2.1 dX9_addLanding_33 rfl (lv_at hl 0 rfl) ?_
      refine g20i (v := nI L) C0 hK hP (hd.1 _ (by decide)) 4 (by decide) fl_X9_48 rfl hnL dX9_addLanding_34 ?_
      refine lv_bipush (v := 8) C0.1 C0.2.1 dX9_addLanding_37 (by decide) ?_
      refine lv_icmp_ne (tgt := 48) C0.1 C0.2.1 dX9_addLanding_39 (by decide) (fun c_39 => ?_) (fun c_39 => ?_)
      · have hc_39 : (!decide (8 ≤ nI L)) = true := full_t (n := L) (m := 8) (by decide) (by decide) hL8 c_39
        have hLt := full_lt (n := L) (m := 8) (by decide) (by decide) hL8 c_39
        refine lv_aload_n C0.1 C0.2.1 dX9_addLanding_48 rfl (lv_at hl 0 rfl) ?_
        refine g20 C0 hK hP (hd.1 _ (by decide)) 5 (by decide) fl_X9_19 rfl dX9_addLanding_49 ?_
        refine lv_aload_n C0.1 C0.2.1 dX9_addLanding_52 rfl (lv_at hl 0 rfl) ?_
        refine g20i (v := nI L) C0 hK hP (hd.1 _ (by decide)) 4 (by decide) fl_X9_48 rfl hnL dX9_addLanding_53 ?_
        refine lv_iload_n C0.1 C0.2.1 dX9_addLanding_56 rfl (lv_at hl 1 rfl) ?_
        refine lv_bipush (v := 14) C0.1 C0.2.1 dX9_addLanding_57 (by decide) ?_
        refine lv_iload_n C0.1 C0.2.1 dX9_addLanding_59 rfl (lv_at hl 2 rfl) ?_
        refine lv_imul C0.1 C0.2.1 dX9_addLanding_60 ?_
        refine lv_iadd C0.1 C0.2.1 dX9_addLanding_61 ?_
        refine mst (k := 3) (by decide) C0 hK hP hS hA (hd.1 _ (by decide)) hd.2.2 (vp_in_nI (show L < 8 by omega) (by decide)) (up S 3 (upd (S 3) L (x + (14 * y)))) (up X 87 (fun _ => 0)) (fun q9 => (show upd (S 3) L (x + (14 * y)) q9 = upd (S 3) (nI L).toNatClampNeg (x + (14 * y)) q9 by rw [nI_clamp (by omega)])) (fun j9 _ h9 => cm_at (lo := 3) (hi := 4) (fun k9 h8 => up_ne (by omega)) (fun _ => rfl) (by omega) h9) dX9_addLanding_62 (fun H locs hP hS => ?_)
        have hP : WQ D cA a (up S 3 (upd (S 3) L (x + (14 * y)))) (up X 87 (fun _ => 0)) I H := hP
        refine lv_aload_n C0.1 C0.2.1 dX9_addLanding_63 rfl (lv_at hl 0 rfl) ?_
        refine lv_dup C0.1 C0.2.1 dX9_addLanding_64 rfl ?_
        refine g20i (v := nI L) C0 hK hP (hd.1 _ (by decide)) 4 (by decide) fl_X9_48 rfl hnL dX9_addLanding_65 ?_
        refine lv_iconst (v := 1) C0.1 C0.2.1 dX9_addLanding_68 (by decide) ?_
        refine lv_iadd C0.1 C0.2.1 dX9_addLanding_69 ?_
        refine p20 C0 hK hP hS hA (hd.1 _ (by decide)) hd.2.2 4 (by decide) fl_X9_48 rfl (by decide +kernel) (x := (nI L) + 1) (up (up S 3 (upd (S 3) L (x + (14 * y)))) 81 (fun _ => (nI L) + 1)) (up X 87 (fun _ => 0)) rfl (fun k9 _ h9 => cm_num (fun k9 h9 => up_ne (by omega)) (fun _ _ => rfl) h9) dX9_addLanding_70 (fun H locs hP hS => ?_)
        have hP : WQ D cA a (up (up S 3 (upd (S 3) L (x + (14 * y)))) 81 (fun _ => (nI L) + 1)) (up X 87 (fun _ => 0)) I H := hP
        refine lv_aload_n C0.1 C0.2.1 dX9_addLanding_73 rfl (lv_at hl 0 rfl) ?_
        refine g20i (v := (nI L) + 1) C0 hK hP (hd.1 _ (by decide)) 4 (by decide) fl_X9_48 rfl rfl dX9_addLanding_74 ?_
        refine lv_iconst (v := 1) C0.1 C0.2.1 dX9_addLanding_77 (by decide) ?_
        refine lv_isub C0.1 C0.2.1 dX9_addLanding_78 ?_
        exact rtI C0 hr hlk hP hS (pok (kd_0 (by simp only [hc_10, hc_30, hc_39, Bool.and_true, Bool.true_and, Bool.and_false, Bool.false_and, Bool.and_self]) rfl (by simp only [hc_10, hc_30, hc_39, Bool.and_true, Bool.true_and, Bool.and_false, Bool.false_and, Bool.and_self])) rfl (⟨by rw [nI_1, nI_pred], by rw [hnL, us_nI hLt (by decide)]⟩)) dX9_addLanding_79
      · have hc_39 : (!decide (8 ≤ nI L)) = false := full_f (n := L) (m := 8) (by decide) (by decide) hL8 c_39
        refine lv_aload_n C0.1 C0.2.1 dX9_addLanding_42 rfl (lv_at hl 0 rfl) ?_
        refine lv_iconst (v := 2) C0.1 C0.2.1 dX9_addLanding_43 (by decide) ?_
        refine k_X9_fail hd sId C0 hK hP  (v := 0) rfl hS hA hl.1 ml_X9_73 ⟨Nat.le_of_ble_eq_true rfl, Nat.le_of_ble_eq_true rfl⟩ ⟨Nat.zero_le _, Nat.zero_le _⟩ (Nat.le_of_ble_eq_true rfl) dX9_addLanding_44 (fun H locs hP hS => ?_)
        have hP : WQ D cA a S (up X 87 (fun _ => 2)) I H := WQ.congr (show WQ D cA a S (up (up X 87 (fun _ => 0)) 87 (fun _ => 2)) I H from hP) (fun _ => rfl) (fun k => by
            by_cases h_87 : k = 87
            · subst h_87; rfl
            simp only [up, h_87, if_false])
        exact rtI C0 hr hlk hP hS (pfail (kd_3 (by simp only [hc_10, hc_30, hc_39, Bool.and_true, Bool.true_and, Bool.and_false, Bool.false_and, Bool.and_self]) rfl (by simp only [hc_10, hc_30, hc_39, Bool.and_true, Bool.true_and, Bool.and_false, Bool.false_and, Bool.and_self])) rfl (by decide) rfl) dX9_addLanding_47
  · have c_10 := bI_eq c_10
    have hc_10 : plB x y = false := (isc_eq x y).symm.trans c_10
    refine lv_aload_n C0.1 C0.2.1 dX9_addLanding_13 rfl (lv_at hl 0 rfl) ?_
    refine lv_iconst (v := 1) C0.1 C0.2.1 dX9_addLanding_14 (by decide) ?_
    refine k_X9_fail hd sId C0 hK hP  (v := 0) rfl hS hA hl.1 ml_X9_73 ⟨Nat.le_of_ble_eq_true rfl, Nat.le_of_ble_eq_true rfl⟩ ⟨Nat.zero_le _, Nat.zero_le _⟩ (Nat.le_of_ble_eq_true rfl) dX9_addLanding_15 (fun H locs hP hS => ?_)
    have hP : WQ D cA a S (up X 87 (fun _ => 1)) I H := WQ.congr (show WQ D cA a S (up (up X 87 (fun _ => 0)) 87 (fun _ => 1)) I H from hP) (fun _ => rfl) (fun k => by
        by_cases h_87 : k = 87
        · subst h_87; rfl
        simp only [up, h_87, if_false])
    exact rtI C0 hr hlk hP hS (pfail (kd_1 (by simp only [hc_10, Bool.and_true, Bool.true_and, Bool.and_false, Bool.false_and, Bool.and_self])) rfl (by decide) rfl) dX9_addLanding_18
theorem k_X9_addLanding {n : List Nat} (hd : Hd n a I) (hsub : ∀ k ∈ nM, k ∈ n) (C0 : CallFix p m c cc nL s args GW own) (hK : KK D cA s) (hP : WQ D cA a S X I H) {x : Int32} {y : Int32} {L : Nat} (hnL : S 81 0 = nI L) (hL8 : L ≤ 8) (hS : va_S A0 H0 H locs) (hA : ∀ q, AI a I q → A0 q) (hls : ls.size = nL) {idx : Nat} (hlink : Cond.methodLink own idx yX9_addLanding ∈ GW) (hR : 3 ≤ R.frames ∧ 65 ≤ R.locals) (hcs : cells ≤ R.cells ∧ slots ≤ R.slots) (hrest : (rest.map fun v => v.category).sum ≤ 8) (hdg : decode cc pc = .ok (.invokevirtual idx, 3)) (kk : ∀ (v : Int32) (S1 X1 : Mem) (H1 : Heap) (locs1 : List Loc), (fun r S1 X1 => X1 87 0 = kd (plB x y) (true) (decide ((fndF (fun j => decide (rg (S 3) 8 (nI j) = x + 14 * y)) 0 L) = -1) && !decide (8 ≤ nI L)) 1 9 2 ∧ (kd (plB x y) (true) (decide ((fndF (fun j => decide (rg (S 3) 8 (nI j) = x + 14 * y)) 0 L) = -1) && !decide (8 ≤ nI L)) 1 9 2 = 0 → r = nI L ∧ S1 = up (up S 3 (us (S 3) 8 (S 81 0) (x + 14 * y))) 81 (fun _ => S 81 0 + 1)) ∧ (¬ kd (plB x y) (true) (decide ((fndF (fun j => decide (rg (S 3) 8 (nI j) = x + 14 * y)) 0 L) = -1) && !decide (8 ≤ nI L)) 1 9 2 = 0 → S1 = S)) v S1 X1 → WQ D cA a S1 X1 I H1 → va_S A0 H0 H1 locs1 → W p l e R s m args below meth c H1 locs1 cells slots Q (F0 m (pc + 3) ls (.int v :: rest))) : W p l e R s m args below meth c H locs cells slots Q (F0 m pc ls (.int y :: .int x :: .ref (a 20) :: rest)) := by
  exact hoI (qV (n := 2) (c_X9_addLanding l D cA a S X I (hd.sub hsub) x y hnL hL8) C0 hlink im_X9_addLanding se_X9_addLanding in_X9 co_X9_addLanding ⟨rfl, by decide⟩ hR hK hP (hd.1 _ (hsub _ (by decide))) rfl rfl rfl hls hrest rfl hdg hcs) hS hA kk
set_option maxHeartbeats 4000000 in
set_option maxRecDepth 100000 in
theorem c_X9_setToll (l : Launch) (D : va_G) (cA : ClassId) (a : Adr) (S X : Mem) (I : Nat → Prop) (hd : Hd nM a I) (x : Int32) (z : Int32) {P : Nat} (hnP : S 82 0 = nI P) (hP6 : P ≤ 6) : NI l yX9_setToll cX9_setToll 4 (some .int) 2 43 D cA a S X I [.ref (a 20), .int x, .int z] (fun r S1 X1 => X1 87 0 = kd (oneB x (nI P)) (inB z 0 50) (true) 1 2 3 ∧ (kd (oneB x (nI P)) (inB z 0 50) (true) 1 2 3 = 0 → r = rg (S 9) 6 x ∧ S1 = up S 9 (us (S 9) 6 x z)) ∧ (¬ kd (oneB x (nI P)) (inB z 0 50) (true) 1 2 3 = 0 → S1 = S)) := by
  refine nGo (by decide) (Nat.le_of_ble_eq_true rfl) ?_
  intro p e s m args below meth c ls C0 hr hlk hK hP hS hl hargs
  obtain ⟨H, hHe⟩ : ∃ H, H = s.heap := ⟨_, rfl⟩
  obtain ⟨locs, hlo⟩ : ∃ L : List Loc, L = [] := ⟨_, rfl⟩
  have hP : WQ D cA a S X I H := hHe ▸ hP
  have hS : va_S (AI a I) s.heap H locs := by rw [hHe, hlo]; exact hS
  rw [← hHe, ← hlo]
  have hA : ∀ q, AI a I q → AI a I q := fun _ h => h
  refine lv_aload_n C0.1 C0.2.1 dX9_setToll_0 rfl (lv_at hl 0 rfl) ?_
  refine lv_iconst (v := 0) C0.1 C0.2.1 dX9_setToll_1 (by decide) ?_
  refine p20 C0 hK hP hS hA (hd.1 _ (by decide)) hd.2.2 0 (by decide) fl_X9_40 rfl (by decide +kernel) (x := 0) S (up X 87 (fun _ => 0)) rfl (fun k9 _ h9 => cm_num (fun _ _ => rfl) (fun k9 h9 => up_ne (by omega)) h9) dX9_setToll_2 (fun H locs hP hS => ?_)
  have hP : WQ D cA a S (up X 87 (fun _ => 0)) I H := hP
  refine lv_aload_n C0.1 C0.2.1 dX9_setToll_5 rfl (lv_at hl 0 rfl) ?_
  refine lv_iload_n C0.1 C0.2.1 dX9_setToll_6 rfl (lv_at hl 1 rfl) ?_
  refine k_X9_isPunt hd sId C0 hK hP hnP hP6 (v := bI (oneB x (nI P))) rfl hS hA hl.1 ml_X9_104 ⟨Nat.le_of_ble_eq_true rfl, Nat.le_of_ble_eq_true rfl⟩ ⟨Nat.zero_le _, Nat.zero_le _⟩ (Nat.le_of_ble_eq_true rfl) dX9_setToll_7 (fun H locs hP hS => ?_)
  refine lv_if_ne (tgt := 19) C0.1 C0.2.1 dX9_setToll_10 (by decide) (fun c_10 => ?_) (fun c_10 => ?_)
  · have c_10 := bI_ne c_10
    have hc_10 : oneB x (nI P) = true := ((rfl : oneB x (nI P) = oneB x (nI P))).symm.trans c_10
    refine lv_iload_n C0.1 C0.2.1 dX9_setToll_19 rfl (lv_at hl 2 rfl) ?_
    refine lv_iconst (v := 0) C0.1 C0.2.1 dX9_setToll_20 (by decide) ?_
    refine lv_bipush (v := 50) C0.1 C0.2.1 dX9_setToll_21 (by decide) ?_
    refine k_X9_isIn hd s0 C0 hK hP  (v := bI (decide (0 ≤ z) && decide (z ≤ 50))) rfl hS hA hl.1 ml_X9_44 ⟨Nat.le_of_ble_eq_true rfl, Nat.le_of_ble_eq_true rfl⟩ ⟨Nat.zero_le _, Nat.zero_le _⟩ (Nat.le_of_ble_eq_true rfl) dX9_setToll_23 (fun H locs hP hS => ?_)
    refine lv_if_ne (tgt := 35) C0.1 C0.2.1 dX9_setToll_26 (by decide) (fun c_26 => ?_) (fun c_26 => ?_)
    · have c_26 := bI_ne c_26
      have hc_26 : inB z 0 50 = true := ((rfl : (decide (0 ≤ z) && decide (z ≤ 50)) = inB z 0 50)).symm.trans c_26
      obtain ⟨u, hu, hxe⟩ := one_nat (n := P) (by omega) (show oneB x (nI P) = true from hc_10)
      subst hxe
      refine lv_aload_n C0.1 C0.2.1 dX9_setToll_35 rfl (lv_at hl 0 rfl) ?_
      refine lv_iload_n C0.1 C0.2.1 dX9_setToll_36 rfl (lv_at hl 1 rfl) ?_
      refine lv_iconst (v := 5) C0.1 C0.2.1 dX9_setToll_37 (by decide) ?_
      refine k_X9_pu_5 hd sId C0 hK hP (by omega) (v := S 9 u) rfl hS hA hl.1 ml_X9_66 ⟨Nat.le_of_ble_eq_true rfl, Nat.le_of_ble_eq_true rfl⟩ ⟨Nat.zero_le _, Nat.zero_le _⟩ (Nat.le_of_ble_eq_true rfl) dX9_setToll_38 (fun H locs hP hS => ?_)
      refine lv_istore_n (lv' := [(3, .int (S 9 u)), (0, .ref (a 20)), (1, .int (nI u)), (2, .int z)]) C0.1 C0.2.1 dX9_setToll_41 rfl hl (by decide) rfl (fun ls hl => ?_)
      refine lv_aload_n C0.1 C0.2.1 dX9_setToll_42 rfl (lv_at hl 1 rfl) ?_
      refine g20 C0 hK hP (hd.1 _ (by decide)) 7 (by decide) fl_X9_22 rfl dX9_setToll_43 ?_
      refine lv_bipush (v := 6) C0.1 C0.2.1 dX9_setToll_46 (by decide) ?_
      refine lv_iload_n C0.1 C0.2.1 dX9_setToll_48 rfl (lv_at hl 2 rfl) ?_
      refine lv_imul C0.1 C0.2.1 dX9_setToll_49 ?_
      refine lv_iconst (v := 5) C0.1 C0.2.1 dX9_setToll_50 (by decide) ?_
      refine lv_iadd C0.1 C0.2.1 dX9_setToll_51 ?_
      refine lv_iload_n C0.1 C0.2.1 dX9_setToll_52 rfl (lv_at hl 3 rfl) ?_
      rw [show (6 : Int32) * nI u + 5 = nI (6 * u + 5) from pk_ix3 6 u 5]
      refine mst (k := 4) (by decide) C0 hK hP hS hA (hd.1 _ (by decide)) hd.2.2 (vp_in_nI (show 6 * u + 5 < 36 by omega) (by decide)) (up S 9 (upd (S 9) u z)) (up X 87 (fun _ => 0)) (fun q9 => by rw [nI_clamp (by omega)]; exact st4 (u := u) (w := 5) _ _ _ (by omega) q9) (fun j9 _ h9 => cm_at (lo := 4) (hi := 10) (fun k9 h8 => up_ne (by omega)) (fun _ => rfl) (by omega) h9) dX9_setToll_53 (fun H locs hP hS => ?_)
      have hP : WQ D cA a (up S 9 (upd (S 9) u z)) (up X 87 (fun _ => 0)) I H := hP
      refine lv_iload_n C0.1 C0.2.1 dX9_setToll_54 rfl (lv_at hl 0 rfl) ?_
      exact rtI C0 hr hlk hP hS (pok (kd_0 (by simp only [hc_10, hc_26, Bool.and_true, Bool.true_and, Bool.and_false, Bool.false_and, Bool.and_self]) (by simp only [hc_10, hc_26, Bool.and_true, Bool.true_and, Bool.and_false, Bool.false_and, Bool.and_self]) rfl) rfl (⟨by rw [rg_nI (by omega) (by decide)], by rw [us_nI (by omega) (by decide)]⟩)) dX9_setToll_55
    · have c_26 := bI_eq c_26
      have hc_26 : inB z 0 50 = false := ((rfl : (decide (0 ≤ z) && decide (z ≤ 50)) = inB z 0 50)).symm.trans c_26
      refine lv_aload_n C0.1 C0.2.1 dX9_setToll_29 rfl (lv_at hl 0 rfl) ?_
      refine lv_iconst (v := 2) C0.1 C0.2.1 dX9_setToll_30 (by decide) ?_
      refine k_X9_fail hd sId C0 hK hP  (v := 0) rfl hS hA hl.1 ml_X9_73 ⟨Nat.le_of_ble_eq_true rfl, Nat.le_of_ble_eq_true rfl⟩ ⟨Nat.zero_le _, Nat.zero_le _⟩ (Nat.le_of_ble_eq_true rfl) dX9_setToll_31 (fun H locs hP hS => ?_)
      have hP : WQ D cA a S (up X 87 (fun _ => 2)) I H := WQ.congr (show WQ D cA a S (up (up X 87 (fun _ => 0)) 87 (fun _ => 2)) I H from hP) (fun _ => rfl) (fun k => by
          by_cases h_87 : k = 87
          · subst h_87; rfl
          simp only [up, h_87, if_false])
      exact rtI C0 hr hlk hP hS (pfail (kd_2 (by simp only [hc_10, hc_26, Bool.and_true, Bool.true_and, Bool.and_false, Bool.false_and, Bool.and_self]) (by simp only [hc_10, hc_26, Bool.and_true, Bool.true_and, Bool.and_false, Bool.false_and, Bool.and_self])) rfl (by decide) rfl) dX9_setToll_34
  · have c_10 := bI_eq c_10
    have hc_10 : oneB x (nI P) = false := ((rfl : oneB x (nI P) = oneB x (nI P))).symm.trans c_10
    refine lv_aload_n C0.1 C0.2.1 dX9_setToll_13 rfl (lv_at hl 0 rfl) ?_
    refine lv_iconst (v := 1) C0.1 C0.2.1 dX9_setToll_14 (by decide) ?_
    refine k_X9_fail hd sId C0 hK hP  (v := 0) rfl hS hA hl.1 ml_X9_73 ⟨Nat.le_of_ble_eq_true rfl, Nat.le_of_ble_eq_true rfl⟩ ⟨Nat.zero_le _, Nat.zero_le _⟩ (Nat.le_of_ble_eq_true rfl) dX9_setToll_15 (fun H locs hP hS => ?_)
    have hP : WQ D cA a S (up X 87 (fun _ => 1)) I H := WQ.congr (show WQ D cA a S (up (up X 87 (fun _ => 0)) 87 (fun _ => 1)) I H from hP) (fun _ => rfl) (fun k => by
        by_cases h_87 : k = 87
        · subst h_87; rfl
        simp only [up, h_87, if_false])
    exact rtI C0 hr hlk hP hS (pfail (kd_1 (by simp only [hc_10, Bool.and_true, Bool.true_and, Bool.and_false, Bool.false_and, Bool.and_self])) rfl (by decide) rfl) dX9_setToll_18
theorem k_X9_setToll {n : List Nat} (hd : Hd n a I) (hsub : ∀ k ∈ nM, k ∈ n) (C0 : CallFix p m c cc nL s args GW own) (hK : KK D cA s) (hP : WQ D cA a S X I H) {x : Int32} {z : Int32} {P : Nat} (hnP : S 82 0 = nI P) (hP6 : P ≤ 6) (hS : va_S A0 H0 H locs) (hA : ∀ q, AI a I q → A0 q) (hls : ls.size = nL) {idx : Nat} (hlink : Cond.methodLink own idx yX9_setToll ∈ GW) (hR : 3 ≤ R.frames ∧ 66 ≤ R.locals) (hcs : cells ≤ R.cells ∧ slots ≤ R.slots) (hrest : (rest.map fun v => v.category).sum ≤ 8) (hdg : decode cc pc = .ok (.invokevirtual idx, 3)) (kk : ∀ (v : Int32) (S1 X1 : Mem) (H1 : Heap) (locs1 : List Loc), (fun r S1 X1 => X1 87 0 = kd (oneB x (nI P)) (inB z 0 50) (true) 1 2 3 ∧ (kd (oneB x (nI P)) (inB z 0 50) (true) 1 2 3 = 0 → r = rg (S 9) 6 x ∧ S1 = up S 9 (us (S 9) 6 x z)) ∧ (¬ kd (oneB x (nI P)) (inB z 0 50) (true) 1 2 3 = 0 → S1 = S)) v S1 X1 → WQ D cA a S1 X1 I H1 → va_S A0 H0 H1 locs1 → W p l e R s m args below meth c H1 locs1 cells slots Q (F0 m (pc + 3) ls (.int v :: rest))) : W p l e R s m args below meth c H locs cells slots Q (F0 m pc ls (.int z :: .int x :: .ref (a 20) :: rest)) := by
  exact hoI (qV (n := 2) (c_X9_setToll l D cA a S X I (hd.sub hsub) x z hnP hP6) C0 hlink im_X9_setToll se_X9_setToll in_X9 co_X9_setToll ⟨rfl, by decide⟩ hR hK hP (hd.1 _ (hsub _ (by decide))) rfl rfl rfl hls hrest rfl hdg hcs) hS hA kk
set_option maxHeartbeats 4000000 in
set_option maxRecDepth 100000 in
theorem c_X9_punt (l : Launch) (D : va_G) (cA : ClassId) (a : Adr) (S X : Mem) (I : Nat → Prop) (hd : Hd nM a I) (x : Int32) (w : Int32) {P : Nat} {L : Nat} {T : Nat} {h : Nat} (hnP : S 82 0 = nI P) (hnT : S 85 0 = nI T) (hT30 : T ≤ 30) (hnH : S 86 0 = nI h) (hh : h < 2 ^ 31) (hTW : TW S P L) : NI l yX9_punt cX9_punt 3 (some .int) 5 116 D cA a S X I [.ref (a 20), .int x, .int w] (fun r S1 X1 => X1 87 0 = kd (oneB x (nI P) && oneB w 9) (true) (true) 1 2 3 ∧ (kd (oneB x (nI P) && oneB w 9) (true) (true) 1 2 3 = 0 → r = punS S T h (nv x) w ∧ S1 = S) ∧ (¬ kd (oneB x (nI P) && oneB w 9) (true) (true) 1 2 3 = 0 → S1 = S)) := by
  refine nGo (by decide) (Nat.le_of_ble_eq_true rfl) ?_
  intro p e s m args below meth c ls C0 hr hlk hK hP hS hl hargs
  obtain ⟨H, hHe⟩ : ∃ H, H = s.heap := ⟨_, rfl⟩
  obtain ⟨locs, hlo⟩ : ∃ L : List Loc, L = [] := ⟨_, rfl⟩
  have hP : WQ D cA a S X I H := hHe ▸ hP
  have hS : va_S (AI a I) s.heap H locs := by rw [hHe, hlo]; exact hS
  rw [← hHe, ← hlo]
  have hA : ∀ q, AI a I q → AI a I q := fun _ h => h
  obtain ⟨hLnk, hP6, hL8, h17, h16, h8, h3, h2⟩ := id hTW
  refine lv_aload_n C0.1 C0.2.1 dX9_punt_0 rfl (lv_at hl 0 rfl) ?_
  refine lv_iconst (v := 0) C0.1 C0.2.1 dX9_punt_1 (by decide) ?_
  refine p20 C0 hK hP hS hA (hd.1 _ (by decide)) hd.2.2 0 (by decide) fl_X9_40 rfl (by decide +kernel) (x := 0) S (up X 87 (fun _ => 0)) rfl (fun k9 _ h9 => cm_num (fun _ _ => rfl) (fun k9 h9 => up_ne (by omega)) h9) dX9_punt_2 (fun H locs hP hS => ?_)
  have hP : WQ D cA a S (up X 87 (fun _ => 0)) I H := hP
  refine lv_aload_n C0.1 C0.2.1 dX9_punt_5 rfl (lv_at hl 0 rfl) ?_
  refine lv_iload_n C0.1 C0.2.1 dX9_punt_6 rfl (lv_at hl 1 rfl) ?_
  refine k_X9_isPunt hd sId C0 hK hP hnP hP6 (v := bI (oneB x (nI P))) rfl hS hA hl.1 ml_X9_104 ⟨Nat.le_of_ble_eq_true rfl, Nat.le_of_ble_eq_true rfl⟩ ⟨Nat.zero_le _, Nat.zero_le _⟩ (Nat.le_of_ble_eq_true rfl) dX9_punt_7 (fun H locs hP hS => ?_)
  refine lv_if_eq (tgt := 32) C0.1 C0.2.1 dX9_punt_10 (by decide) (fun c_10 => ?_) (fun c_10 => ?_)
  · have c_10 := bI_eq c_10
    have hc_10 : oneB x (nI P) = false := ((rfl : oneB x (nI P) = oneB x (nI P))).symm.trans c_10
    refine lv_aload_n C0.1 C0.2.1 dX9_punt_32 rfl (lv_at hl 0 rfl) ?_
    refine lv_iconst (v := 1) C0.1 C0.2.1 dX9_punt_33 (by decide) ?_
    refine k_X9_fail hd sId C0 hK hP  (v := 0) rfl hS hA hl.1 ml_X9_73 ⟨Nat.le_of_ble_eq_true rfl, Nat.le_of_ble_eq_true rfl⟩ ⟨Nat.zero_le _, Nat.zero_le _⟩ (Nat.le_of_ble_eq_true rfl) dX9_punt_34 (fun H locs hP hS => ?_)
    have hP : WQ D cA a S (up X 87 (fun _ => 1)) I H := WQ.congr (show WQ D cA a S (up (up X 87 (fun _ => 0)) 87 (fun _ => 1)) I H from hP) (fun _ => rfl) (fun k => by
        by_cases h_87 : k = 87
        · subst h_87; rfl
        simp only [up, h_87, if_false])
    exact rtI C0 hr hlk hP hS (pfail (kd_1 (by simp only [hc_10, Bool.and_true, Bool.true_and, Bool.and_false, Bool.false_and, Bool.and_self])) rfl (by decide) rfl) dX9_punt_37
  · have c_10 := bI_ne c_10
    have hc_10 : oneB x (nI P) = true := ((rfl : oneB x (nI P) = oneB x (nI P))).symm.trans c_10
    refine lv_iload_n C0.1 C0.2.1 dX9_punt_13 rfl (lv_at hl 2 rfl) ?_
    refine lv_iconst (v := 0) C0.1 C0.2.1 dX9_punt_14 (by decide) ?_
    refine lv_bipush (v := 8) C0.1 C0.2.1 dX9_punt_15 (by decide) ?_
    refine k_X9_isIn hd s0 C0 hK hP  (v := bI (decide (0 ≤ w) && decide (w ≤ 8))) rfl hS hA hl.1 ml_X9_44 ⟨Nat.le_of_ble_eq_true rfl, Nat.le_of_ble_eq_true rfl⟩ ⟨Nat.zero_le _, Nat.zero_le _⟩ (Nat.le_of_ble_eq_true rfl) dX9_punt_17 (fun H locs hP hS => ?_)
    refine lv_if_eq (tgt := 32) C0.1 C0.2.1 dX9_punt_20 (by decide) (fun c_20 => ?_) (fun c_20 => ?_)
    · have c_20 := bI_eq c_20
      have hc_20 : oneB w 9 = false := (one_c (x := w) (k := 8) (j := 9) (n := 9) (by decide) (by decide) (by decide)).symm.trans c_20
      refine lv_aload_n C0.1 C0.2.1 dX9_punt_32 rfl (lv_at hl 0 rfl) ?_
      refine lv_iconst (v := 1) C0.1 C0.2.1 dX9_punt_33 (by decide) ?_
      refine k_X9_fail hd sId C0 hK hP  (v := 0) rfl hS hA hl.1 ml_X9_73 ⟨Nat.le_of_ble_eq_true rfl, Nat.le_of_ble_eq_true rfl⟩ ⟨Nat.zero_le _, Nat.zero_le _⟩ (Nat.le_of_ble_eq_true rfl) dX9_punt_34 (fun H locs hP hS => ?_)
      have hP : WQ D cA a S (up X 87 (fun _ => 1)) I H := WQ.congr (show WQ D cA a S (up (up X 87 (fun _ => 0)) 87 (fun _ => 1)) I H from hP) (fun _ => rfl) (fun k => by
          by_cases h_87 : k = 87
          · subst h_87; rfl
          simp only [up, h_87, if_false])
      exact rtI C0 hr hlk hP hS (pfail (kd_1 (by simp only [hc_10, hc_20, Bool.and_true, Bool.true_and, Bool.and_false, Bool.false_and, Bool.and_self])) rfl (by decide) rfl) dX9_punt_37
    · have c_20 := bI_ne c_20
      have hc_20 : oneB w 9 = true := (one_c (x := w) (k := 8) (j := 9) (n := 9) (by decide) (by decide) (by decide)).symm.trans c_20
      obtain ⟨u, hu, hxe⟩ := one_nat (n := P) (by omega) (show oneB x (nI P) = true from hc_10)
      subst hxe
      refine lv_aload_n C0.1 C0.2.1 dX9_punt_23 rfl (lv_at hl 0 rfl) ?_
      refine lv_iload_n C0.1 C0.2.1 dX9_punt_24 rfl (lv_at hl 1 rfl) ?_
      refine lv_iload_n C0.1 C0.2.1 dX9_punt_25 rfl (lv_at hl 2 rfl) ?_
      refine k_X9_puntTold hd sId C0 hK hP hnP hnT hT30 hnH hh hTW hu hS hA hl.1 ml_X9_131 ⟨Nat.le_of_ble_eq_true rfl, Nat.le_of_ble_eq_true rfl⟩ ⟨Nat.zero_le _, Nat.zero_le _⟩ (Nat.le_of_ble_eq_true rfl) dX9_punt_26 (fun v_4 S_2 X_3 H locs hx_1 hP hS => ?_)
      obtain ⟨hrv, hs1, hXk⟩ := hx_1
      rw [hs1] at hP
      subst hrv
      refine lv_goto (tgt := 37) C0.1 C0.2.1 dX9_punt_29 (by decide) ?_
      exact rtI C0 hr hlk hP hS (pok (kd_0 (by simp only [hc_10, hc_20, Bool.and_true, Bool.true_and, Bool.and_false, Bool.false_and, Bool.and_self]) rfl rfl) (congrFun (hXk 87 (by decide)) 0) (⟨by rw [nv_nI (by omega)], rfl⟩)) dX9_punt_37
theorem k_X9_punt {n : List Nat} (hd : Hd n a I) (hsub : ∀ k ∈ nM, k ∈ n) (C0 : CallFix p m c cc nL s args GW own) (hK : KK D cA s) (hP : WQ D cA a S X I H) {x : Int32} {w : Int32} {P : Nat} {L : Nat} {T : Nat} {h : Nat} (hnP : S 82 0 = nI P) (hnT : S 85 0 = nI T) (hT30 : T ≤ 30) (hnH : S 86 0 = nI h) (hh : h < 2 ^ 31) (hTW : TW S P L) (hS : va_S A0 H0 H locs) (hA : ∀ q, AI a I q → A0 q) (hls : ls.size = nL) {idx : Nat} (hlink : Cond.methodLink own idx yX9_punt ∈ GW) (hR : 6 ≤ R.frames ∧ 138 ≤ R.locals) (hcs : cells ≤ R.cells ∧ slots ≤ R.slots) (hrest : (rest.map fun v => v.category).sum ≤ 8) (hdg : decode cc pc = .ok (.invokevirtual idx, 3)) (kk : ∀ (v : Int32) (S1 X1 : Mem) (H1 : Heap) (locs1 : List Loc), (fun r S1 X1 => X1 87 0 = kd (oneB x (nI P) && oneB w 9) (true) (true) 1 2 3 ∧ (kd (oneB x (nI P) && oneB w 9) (true) (true) 1 2 3 = 0 → r = punS S T h (nv x) w ∧ S1 = S) ∧ (¬ kd (oneB x (nI P) && oneB w 9) (true) (true) 1 2 3 = 0 → S1 = S)) v S1 X1 → WQ D cA a S1 X1 I H1 → va_S A0 H0 H1 locs1 → W p l e R s m args below meth c H1 locs1 cells slots Q (F0 m (pc + 3) ls (.int v :: rest))) : W p l e R s m args below meth c H locs cells slots Q (F0 m pc ls (.int w :: .int x :: .ref (a 20) :: rest)) := by
  exact hoI (qV (n := 2) (c_X9_punt l D cA a S X I (hd.sub hsub) x w hnP hnT hT30 hnH hh hTW) C0 hlink im_X9_punt se_X9_punt in_X9 co_X9_punt ⟨rfl, by decide⟩ hR hK hP (hd.1 _ (hsub _ (by decide))) rfl rfl rfl hls hrest rfl hdg hcs) hS hA kk
set_option maxHeartbeats 4000000 in
set_option maxRecDepth 100000 in
theorem c_X9_traveller (l : Launch) (D : va_G) (cA : ClassId) (a : Adr) (S X : Mem) (I : Nat → Prop) (hd : Hd nM a I) (x : Int32) (w : Int32) {P : Nat} {L : Nat} {T : Nat} (hnP : S 82 0 = nI P) (hnL : S 81 0 = nI L) (hnT : S 85 0 = nI T) (hT30 : T ≤ 30) (hTW : TW S P L) (hTl : TlW S P) (hTr : TrW S P L T) : NI l yX9_traveller cX9_traveller 3 (some .int) 5 114 D cA a S X I [.ref (a 20), .int x, .int w] (fun r S1 X1 => X1 87 0 = kd (oneB x (nI T) && oneB w 7) (true) (true) 1 2 3 ∧ (kd (oneB x (nI T) && oneB w 7) (true) (true) 1 2 3 = 0 → r = trvS S P (nv x) w ∧ S1 = S) ∧ (¬ kd (oneB x (nI T) && oneB w 7) (true) (true) 1 2 3 = 0 → S1 = S)) := by
  refine nGo (by decide) (Nat.le_of_ble_eq_true rfl) ?_
  intro p e s m args below meth c ls C0 hr hlk hK hP hS hl hargs
  obtain ⟨H, hHe⟩ : ∃ H, H = s.heap := ⟨_, rfl⟩
  obtain ⟨locs, hlo⟩ : ∃ L : List Loc, L = [] := ⟨_, rfl⟩
  have hP : WQ D cA a S X I H := hHe ▸ hP
  have hS : va_S (AI a I) s.heap H locs := by rw [hHe, hlo]; exact hS
  rw [← hHe, ← hlo]
  have hA : ∀ q, AI a I q → AI a I q := fun _ h => h
  obtain ⟨hLnk, hP6, hL8, h17, h16, h8, h3, h2⟩ := id hTW
  refine lv_aload_n C0.1 C0.2.1 dX9_traveller_0 rfl (lv_at hl 0 rfl) ?_
  refine lv_iconst (v := 0) C0.1 C0.2.1 dX9_traveller_1 (by decide) ?_
  refine p20 C0 hK hP hS hA (hd.1 _ (by decide)) hd.2.2 0 (by decide) fl_X9_40 rfl (by decide +kernel) (x := 0) S (up X 87 (fun _ => 0)) rfl (fun k9 _ h9 => cm_num (fun _ _ => rfl) (fun k9 h9 => up_ne (by omega)) h9) dX9_traveller_2 (fun H locs hP hS => ?_)
  have hP : WQ D cA a S (up X 87 (fun _ => 0)) I H := hP
  refine lv_iload_n C0.1 C0.2.1 dX9_traveller_5 rfl (lv_at hl 1 rfl) ?_
  refine lv_iconst (v := 0) C0.1 C0.2.1 dX9_traveller_6 (by decide) ?_
  refine lv_aload_n C0.1 C0.2.1 dX9_traveller_7 rfl (lv_at hl 0 rfl) ?_
  refine g20i (v := nI T) C0 hK hP (hd.1 _ (by decide)) 8 (by decide) fl_X9_113 rfl hnT dX9_traveller_8 ?_
  refine lv_iconst (v := 1) C0.1 C0.2.1 dX9_traveller_11 (by decide) ?_
  refine lv_isub C0.1 C0.2.1 dX9_traveller_12 ?_
  refine k_X9_isIn hd s0 C0 hK hP  (v := bI (decide (0 ≤ x) && decide (x ≤ ((nI T) - 1)))) rfl hS hA hl.1 ml_X9_44 ⟨Nat.le_of_ble_eq_true rfl, Nat.le_of_ble_eq_true rfl⟩ ⟨Nat.zero_le _, Nat.zero_le _⟩ (Nat.le_of_ble_eq_true rfl) dX9_traveller_13 (fun H locs hP hS => ?_)
  refine lv_if_eq (tgt := 38) C0.1 C0.2.1 dX9_traveller_16 (by decide) (fun c_16 => ?_) (fun c_16 => ?_)
  · have c_16 := bI_eq c_16
    have hc_16 : oneB x (nI T) = false := (one_pred (x := x) (n := T) (by omega)).symm.trans c_16
    refine lv_aload_n C0.1 C0.2.1 dX9_traveller_38 rfl (lv_at hl 0 rfl) ?_
    refine lv_iconst (v := 1) C0.1 C0.2.1 dX9_traveller_39 (by decide) ?_
    refine k_X9_fail hd sId C0 hK hP  (v := 0) rfl hS hA hl.1 ml_X9_73 ⟨Nat.le_of_ble_eq_true rfl, Nat.le_of_ble_eq_true rfl⟩ ⟨Nat.zero_le _, Nat.zero_le _⟩ (Nat.le_of_ble_eq_true rfl) dX9_traveller_40 (fun H locs hP hS => ?_)
    have hP : WQ D cA a S (up X 87 (fun _ => 1)) I H := WQ.congr (show WQ D cA a S (up (up X 87 (fun _ => 0)) 87 (fun _ => 1)) I H from hP) (fun _ => rfl) (fun k => by
        by_cases h_87 : k = 87
        · subst h_87; rfl
        simp only [up, h_87, if_false])
    exact rtI C0 hr hlk hP hS (pfail (kd_1 (by simp only [hc_16, Bool.and_true, Bool.true_and, Bool.and_false, Bool.false_and, Bool.and_self])) rfl (by decide) rfl) dX9_traveller_43
  · have c_16 := bI_ne c_16
    have hc_16 : oneB x (nI T) = true := (one_pred (x := x) (n := T) (by omega)).symm.trans c_16
    refine lv_iload_n C0.1 C0.2.1 dX9_traveller_19 rfl (lv_at hl 2 rfl) ?_
    refine lv_iconst (v := 0) C0.1 C0.2.1 dX9_traveller_20 (by decide) ?_
    refine lv_bipush (v := 6) C0.1 C0.2.1 dX9_traveller_21 (by decide) ?_
    refine k_X9_isIn hd s0 C0 hK hP  (v := bI (decide (0 ≤ w) && decide (w ≤ 6))) rfl hS hA hl.1 ml_X9_44 ⟨Nat.le_of_ble_eq_true rfl, Nat.le_of_ble_eq_true rfl⟩ ⟨Nat.zero_le _, Nat.zero_le _⟩ (Nat.le_of_ble_eq_true rfl) dX9_traveller_23 (fun H locs hP hS => ?_)
    refine lv_if_eq (tgt := 38) C0.1 C0.2.1 dX9_traveller_26 (by decide) (fun c_26 => ?_) (fun c_26 => ?_)
    · have c_26 := bI_eq c_26
      have hc_26 : oneB w 7 = false := (one_c (x := w) (k := 6) (j := 7) (n := 7) (by decide) (by decide) (by decide)).symm.trans c_26
      refine lv_aload_n C0.1 C0.2.1 dX9_traveller_38 rfl (lv_at hl 0 rfl) ?_
      refine lv_iconst (v := 1) C0.1 C0.2.1 dX9_traveller_39 (by decide) ?_
      refine k_X9_fail hd sId C0 hK hP  (v := 0) rfl hS hA hl.1 ml_X9_73 ⟨Nat.le_of_ble_eq_true rfl, Nat.le_of_ble_eq_true rfl⟩ ⟨Nat.zero_le _, Nat.zero_le _⟩ (Nat.le_of_ble_eq_true rfl) dX9_traveller_40 (fun H locs hP hS => ?_)
      have hP : WQ D cA a S (up X 87 (fun _ => 1)) I H := WQ.congr (show WQ D cA a S (up (up X 87 (fun _ => 0)) 87 (fun _ => 1)) I H from hP) (fun _ => rfl) (fun k => by
          by_cases h_87 : k = 87
          · subst h_87; rfl
          simp only [up, h_87, if_false])
      exact rtI C0 hr hlk hP hS (pfail (kd_1 (by simp only [hc_16, hc_26, Bool.and_true, Bool.true_and, Bool.and_false, Bool.false_and, Bool.and_self])) rfl (by decide) rfl) dX9_traveller_43
    · have c_26 := bI_ne c_26
      have hc_26 : oneB w 7 = true := (one_c (x := w) (k := 6) (j := 7) (n := 7) (by decide) (by decide) (by decide)).symm.trans c_26
      obtain ⟨t, ht, hxe⟩ := one_nat (n := T) (by omega) (show oneB x (nI T) = true from hc_16)
      subst hxe
      obtain ⟨q, hq, hqe⟩ := one_nat (n := 7) (by decide) (show oneB w (nI 7) = true from hc_26)
      subst hqe
      refine lv_aload_n C0.1 C0.2.1 dX9_traveller_29 rfl (lv_at hl 0 rfl) ?_
      refine lv_iload_n C0.1 C0.2.1 dX9_traveller_30 rfl (lv_at hl 1 rfl) ?_
      refine lv_iload_n C0.1 C0.2.1 dX9_traveller_31 rfl (lv_at hl 2 rfl) ?_
      refine k_X9_travellerTold hd sId C0 hK hP hnP hnL hnT hT30 hTW hTl hTr ht hq hS hA hl.1 ml_X9_150 ⟨Nat.le_of_ble_eq_true rfl, Nat.le_of_ble_eq_true rfl⟩ ⟨Nat.zero_le _, Nat.zero_le _⟩ (Nat.le_of_ble_eq_true rfl) dX9_traveller_32 (fun v_4 S_2 X_3 H locs hx_1 hP hS => ?_)
      obtain ⟨hrv, hs1, hXk⟩ := hx_1
      rw [hs1] at hP
      subst hrv
      refine lv_goto (tgt := 43) C0.1 C0.2.1 dX9_traveller_35 (by decide) ?_
      exact rtI C0 hr hlk hP hS (pok (kd_0 (by simp only [hc_16, hc_26, Bool.and_true, Bool.true_and, Bool.and_false, Bool.false_and, Bool.and_self]) rfl rfl) (congrFun (hXk 87 (by decide) (by decide)) 0) (⟨by rw [nv_nI (by omega)], rfl⟩)) dX9_traveller_43
theorem k_X9_traveller {n : List Nat} (hd : Hd n a I) (hsub : ∀ k ∈ nM, k ∈ n) (C0 : CallFix p m c cc nL s args GW own) (hK : KK D cA s) (hP : WQ D cA a S X I H) {x : Int32} {w : Int32} {P : Nat} {L : Nat} {T : Nat} (hnP : S 82 0 = nI P) (hnL : S 81 0 = nI L) (hnT : S 85 0 = nI T) (hT30 : T ≤ 30) (hTW : TW S P L) (hTl : TlW S P) (hTr : TrW S P L T) (hS : va_S A0 H0 H locs) (hA : ∀ q, AI a I q → A0 q) (hls : ls.size = nL) {idx : Nat} (hlink : Cond.methodLink own idx yX9_traveller ∈ GW) (hR : 6 ≤ R.frames ∧ 136 ≤ R.locals) (hcs : cells ≤ R.cells ∧ slots ≤ R.slots) (hrest : (rest.map fun v => v.category).sum ≤ 8) (hdg : decode cc pc = .ok (.invokevirtual idx, 3)) (kk : ∀ (v : Int32) (S1 X1 : Mem) (H1 : Heap) (locs1 : List Loc), (fun r S1 X1 => X1 87 0 = kd (oneB x (nI T) && oneB w 7) (true) (true) 1 2 3 ∧ (kd (oneB x (nI T) && oneB w 7) (true) (true) 1 2 3 = 0 → r = trvS S P (nv x) w ∧ S1 = S) ∧ (¬ kd (oneB x (nI T) && oneB w 7) (true) (true) 1 2 3 = 0 → S1 = S)) v S1 X1 → WQ D cA a S1 X1 I H1 → va_S A0 H0 H1 locs1 → W p l e R s m args below meth c H1 locs1 cells slots Q (F0 m (pc + 3) ls (.int v :: rest))) : W p l e R s m args below meth c H locs cells slots Q (F0 m pc ls (.int w :: .int x :: .ref (a 20) :: rest)) := by
  exact hoI (qV (n := 2) (c_X9_traveller l D cA a S X I (hd.sub hsub) x w hnP hnL hnT hT30 hTW hTl hTr) C0 hlink im_X9_traveller se_X9_traveller in_X9 co_X9_traveller ⟨rfl, by decide⟩ hR hK hP (hd.1 _ (hsub _ (by decide))) rfl rfl rfl hls hrest rfl hdg hcs) hS hA kk
set_option maxHeartbeats 4000000 in
set_option maxRecDepth 100000 in
theorem c_X9_landing (l : Launch) (D : va_G) (cA : ClassId) (a : Adr) (S X : Mem) (I : Nat → Prop) (hd : Hd nM a I) (x : Int32) (w : Int32) {P : Nat} {L : Nat} {T : Nat} (hnP : S 82 0 = nI P) (hnL : S 81 0 = nI L) (hnT : S 85 0 = nI T) (hT30 : T ≤ 30) (hTW : TW S P L) : NI l yX9_landing cX9_landing 3 (some .int) 3 68 D cA a S X I [.ref (a 20), .int x, .int w] (fun r S1 X1 => X1 87 0 = kd (oneB x (nI L) && oneB w 5) (true) (true) 1 2 3 ∧ (kd (oneB x (nI L) && oneB w 5) (true) (true) 1 2 3 = 0 → r = lanS S P T (nv x) w ∧ S1 = S) ∧ (¬ kd (oneB x (nI L) && oneB w 5) (true) (true) 1 2 3 = 0 → S1 = S)) := by
  refine nGo (by decide) (Nat.le_of_ble_eq_true rfl) ?_
  intro p e s m args below meth c ls C0 hr hlk hK hP hS hl hargs
  obtain ⟨H, hHe⟩ : ∃ H, H = s.heap := ⟨_, rfl⟩
  obtain ⟨locs, hlo⟩ : ∃ L : List Loc, L = [] := ⟨_, rfl⟩
  have hP : WQ D cA a S X I H := hHe ▸ hP
  have hS : va_S (AI a I) s.heap H locs := by rw [hHe, hlo]; exact hS
  rw [← hHe, ← hlo]
  have hA : ∀ q, AI a I q → AI a I q := fun _ h => h
  obtain ⟨hLnk, hP6, hL8, h17, h16, h8, h3, h2⟩ := id hTW
  refine lv_aload_n C0.1 C0.2.1 dX9_landing_0 rfl (lv_at hl 0 rfl) ?_
  refine lv_iconst (v := 0) C0.1 C0.2.1 dX9_landing_1 (by decide) ?_
  refine p20 C0 hK hP hS hA (hd.1 _ (by decide)) hd.2.2 0 (by decide) fl_X9_40 rfl (by decide +kernel) (x := 0) S (up X 87 (fun _ => 0)) rfl (fun k9 _ h9 => cm_num (fun _ _ => rfl) (fun k9 h9 => up_ne (by omega)) h9) dX9_landing_2 (fun H locs hP hS => ?_)
  have hP : WQ D cA a S (up X 87 (fun _ => 0)) I H := hP
  refine lv_aload_n C0.1 C0.2.1 dX9_landing_5 rfl (lv_at hl 0 rfl) ?_
  refine lv_iload_n C0.1 C0.2.1 dX9_landing_6 rfl (lv_at hl 1 rfl) ?_
  refine k_X9_isLanding hd sId C0 hK hP hnL hL8 (v := bI (oneB x (nI L))) rfl hS hA hl.1 ml_X9_90 ⟨Nat.le_of_ble_eq_true rfl, Nat.le_of_ble_eq_true rfl⟩ ⟨Nat.zero_le _, Nat.zero_le _⟩ (Nat.le_of_ble_eq_true rfl) dX9_landing_7 (fun H locs hP hS => ?_)
  refine lv_if_eq (tgt := 31) C0.1 C0.2.1 dX9_landing_10 (by decide) (fun c_10 => ?_) (fun c_10 => ?_)
  · have c_10 := bI_eq c_10
    have hc_10 : oneB x (nI L) = false := ((rfl : oneB x (nI L) = oneB x (nI L))).symm.trans c_10
    refine lv_aload_n C0.1 C0.2.1 dX9_landing_31 rfl (lv_at hl 0 rfl) ?_
    refine lv_iconst (v := 1) C0.1 C0.2.1 dX9_landing_32 (by decide) ?_
    refine k_X9_fail hd sId C0 hK hP  (v := 0) rfl hS hA hl.1 ml_X9_73 ⟨Nat.le_of_ble_eq_true rfl, Nat.le_of_ble_eq_true rfl⟩ ⟨Nat.zero_le _, Nat.zero_le _⟩ (Nat.le_of_ble_eq_true rfl) dX9_landing_33 (fun H locs hP hS => ?_)
    have hP : WQ D cA a S (up X 87 (fun _ => 1)) I H := WQ.congr (show WQ D cA a S (up (up X 87 (fun _ => 0)) 87 (fun _ => 1)) I H from hP) (fun _ => rfl) (fun k => by
        by_cases h_87 : k = 87
        · subst h_87; rfl
        simp only [up, h_87, if_false])
    exact rtI C0 hr hlk hP hS (pfail (kd_1 (by simp only [hc_10, Bool.and_true, Bool.true_and, Bool.and_false, Bool.false_and, Bool.and_self])) rfl (by decide) rfl) dX9_landing_36
  · have c_10 := bI_ne c_10
    have hc_10 : oneB x (nI L) = true := ((rfl : oneB x (nI L) = oneB x (nI L))).symm.trans c_10
    refine lv_iload_n C0.1 C0.2.1 dX9_landing_13 rfl (lv_at hl 2 rfl) ?_
    refine lv_iconst (v := 0) C0.1 C0.2.1 dX9_landing_14 (by decide) ?_
    refine lv_iconst (v := 4) C0.1 C0.2.1 dX9_landing_15 (by decide) ?_
    refine k_X9_isIn hd s0 C0 hK hP  (v := bI (decide (0 ≤ w) && decide (w ≤ 4))) rfl hS hA hl.1 ml_X9_44 ⟨Nat.le_of_ble_eq_true rfl, Nat.le_of_ble_eq_true rfl⟩ ⟨Nat.zero_le _, Nat.zero_le _⟩ (Nat.le_of_ble_eq_true rfl) dX9_landing_16 (fun H locs hP hS => ?_)
    refine lv_if_eq (tgt := 31) C0.1 C0.2.1 dX9_landing_19 (by decide) (fun c_19 => ?_) (fun c_19 => ?_)
    · have c_19 := bI_eq c_19
      have hc_19 : oneB w 5 = false := (one_c (x := w) (k := 4) (j := 5) (n := 5) (by decide) (by decide) (by decide)).symm.trans c_19
      refine lv_aload_n C0.1 C0.2.1 dX9_landing_31 rfl (lv_at hl 0 rfl) ?_
      refine lv_iconst (v := 1) C0.1 C0.2.1 dX9_landing_32 (by decide) ?_
      refine k_X9_fail hd sId C0 hK hP  (v := 0) rfl hS hA hl.1 ml_X9_73 ⟨Nat.le_of_ble_eq_true rfl, Nat.le_of_ble_eq_true rfl⟩ ⟨Nat.zero_le _, Nat.zero_le _⟩ (Nat.le_of_ble_eq_true rfl) dX9_landing_33 (fun H locs hP hS => ?_)
      have hP : WQ D cA a S (up X 87 (fun _ => 1)) I H := WQ.congr (show WQ D cA a S (up (up X 87 (fun _ => 0)) 87 (fun _ => 1)) I H from hP) (fun _ => rfl) (fun k => by
          by_cases h_87 : k = 87
          · subst h_87; rfl
          simp only [up, h_87, if_false])
      exact rtI C0 hr hlk hP hS (pfail (kd_1 (by simp only [hc_10, hc_19, Bool.and_true, Bool.true_and, Bool.and_false, Bool.false_and, Bool.and_self])) rfl (by decide) rfl) dX9_landing_36
    · have c_19 := bI_ne c_19
      have hc_19 : oneB w 5 = true := (one_c (x := w) (k := 4) (j := 5) (n := 5) (by decide) (by decide) (by decide)).symm.trans c_19
      obtain ⟨u, hx, hxe⟩ := one_nat (n := L) (by omega) (show oneB x (nI L) = true from hc_10)
      subst hxe
      obtain ⟨q, hq, hqe⟩ := one_nat (n := 5) (by decide) (show oneB w (nI 5) = true from hc_19)
      subst hqe
      refine lv_aload_n C0.1 C0.2.1 dX9_landing_22 rfl (lv_at hl 0 rfl) ?_
      refine lv_iload_n C0.1 C0.2.1 dX9_landing_23 rfl (lv_at hl 1 rfl) ?_
      refine lv_iload_n C0.1 C0.2.1 dX9_landing_24 rfl (lv_at hl 2 rfl) ?_
      refine k_X9_landingTold hd sId C0 hK hP hnP hnT hT30 hTW hx hq (v := lanS S P T u (nI q)) rfl hS hA hl.1 ml_X9_153 ⟨Nat.le_of_ble_eq_true rfl, Nat.le_of_ble_eq_true rfl⟩ ⟨Nat.zero_le _, Nat.zero_le _⟩ (Nat.le_of_ble_eq_true rfl) dX9_landing_25 (fun H locs hP hS => ?_)
      refine lv_goto (tgt := 36) C0.1 C0.2.1 dX9_landing_28 (by decide) ?_
      exact rtI C0 hr hlk hP hS (pok (kd_0 (by simp only [hc_10, hc_19, Bool.and_true, Bool.true_and, Bool.and_false, Bool.false_and, Bool.and_self]) rfl rfl) rfl (⟨by rw [nv_nI (by omega)], rfl⟩)) dX9_landing_36
theorem k_X9_landing {n : List Nat} (hd : Hd n a I) (hsub : ∀ k ∈ nM, k ∈ n) (C0 : CallFix p m c cc nL s args GW own) (hK : KK D cA s) (hP : WQ D cA a S X I H) {x : Int32} {w : Int32} {P : Nat} {L : Nat} {T : Nat} (hnP : S 82 0 = nI P) (hnL : S 81 0 = nI L) (hnT : S 85 0 = nI T) (hT30 : T ≤ 30) (hTW : TW S P L) (hS : va_S A0 H0 H locs) (hA : ∀ q, AI a I q → A0 q) (hls : ls.size = nL) {idx : Nat} (hlink : Cond.methodLink own idx yX9_landing ∈ GW) (hR : 4 ≤ R.frames ∧ 90 ≤ R.locals) (hcs : cells ≤ R.cells ∧ slots ≤ R.slots) (hrest : (rest.map fun v => v.category).sum ≤ 8) (hdg : decode cc pc = .ok (.invokevirtual idx, 3)) (kk : ∀ (v : Int32) (S1 X1 : Mem) (H1 : Heap) (locs1 : List Loc), (fun r S1 X1 => X1 87 0 = kd (oneB x (nI L) && oneB w 5) (true) (true) 1 2 3 ∧ (kd (oneB x (nI L) && oneB w 5) (true) (true) 1 2 3 = 0 → r = lanS S P T (nv x) w ∧ S1 = S) ∧ (¬ kd (oneB x (nI L) && oneB w 5) (true) (true) 1 2 3 = 0 → S1 = S)) v S1 X1 → WQ D cA a S1 X1 I H1 → va_S A0 H0 H1 locs1 → W p l e R s m args below meth c H1 locs1 cells slots Q (F0 m (pc + 3) ls (.int v :: rest))) : W p l e R s m args below meth c H locs cells slots Q (F0 m pc ls (.int w :: .int x :: .ref (a 20) :: rest)) := by
  exact hoI (qV (n := 2) (c_X9_landing l D cA a S X I (hd.sub hsub) x w hnP hnL hnT hT30 hTW) C0 hlink im_X9_landing se_X9_landing in_X9 co_X9_landing ⟨rfl, by decide⟩ hR hK hP (hd.1 _ (hsub _ (by decide))) rfl rfl rfl hls hrest rfl hdg hcs) hS hA kk
set_option maxHeartbeats 4000000 in
set_option maxRecDepth 100000 in
theorem c_X9_count (l : Launch) (D : va_G) (cA : ClassId) (a : Adr) (S X : Mem) (I : Nat → Prop) (hd : Hd nM a I) (w : Int32) {P : Nat} {L : Nat} {T : Nat} {h : Nat} (hnP : S 82 0 = nI P) (hnL : S 81 0 = nI L) (hnT : S 85 0 = nI T) (hT30 : T ≤ 30) (hnH : S 86 0 = nI h) (hh : h < 2 ^ 31) (hTW : TW S P L) : NI l yX9_count cX9_count 2 (some .int) 5 110 D cA a S X I [.ref (a 20), .int w] (fun r S1 X1 => X1 87 0 = kd (oneB w 11) (true) (true) 1 2 3 ∧ (kd (oneB w 11) (true) (true) 1 2 3 = 0 → r = couS S P L T h w ∧ S1 = S) ∧ (¬ kd (oneB w 11) (true) (true) 1 2 3 = 0 → S1 = S)) := by
  refine nGo (by decide) (Nat.le_of_ble_eq_true rfl) ?_
  intro p e s m args below meth c ls C0 hr hlk hK hP hS hl hargs
  obtain ⟨H, hHe⟩ : ∃ H, H = s.heap := ⟨_, rfl⟩
  obtain ⟨locs, hlo⟩ : ∃ L : List Loc, L = [] := ⟨_, rfl⟩
  have hP : WQ D cA a S X I H := hHe ▸ hP
  have hS : va_S (AI a I) s.heap H locs := by rw [hHe, hlo]; exact hS
  rw [← hHe, ← hlo]
  have hA : ∀ q, AI a I q → AI a I q := fun _ h => h
  obtain ⟨hLnk, hP6, hL8, h17, h16, h8, h3, h2⟩ := id hTW
  refine lv_aload_n C0.1 C0.2.1 dX9_count_0 rfl (lv_at hl 0 rfl) ?_
  refine lv_iconst (v := 0) C0.1 C0.2.1 dX9_count_1 (by decide) ?_
  refine p20 C0 hK hP hS hA (hd.1 _ (by decide)) hd.2.2 0 (by decide) fl_X9_40 rfl (by decide +kernel) (x := 0) S (up X 87 (fun _ => 0)) rfl (fun k9 _ h9 => cm_num (fun _ _ => rfl) (fun k9 h9 => up_ne (by omega)) h9) dX9_count_2 (fun H locs hP hS => ?_)
  have hP : WQ D cA a S (up X 87 (fun _ => 0)) I H := hP
  refine lv_iload_n C0.1 C0.2.1 dX9_count_5 rfl (lv_at hl 1 rfl) ?_
  refine lv_iconst (v := 0) C0.1 C0.2.1 dX9_count_6 (by decide) ?_
  refine lv_bipush (v := 10) C0.1 C0.2.1 dX9_count_7 (by decide) ?_
  refine k_X9_isIn hd s0 C0 hK hP  (v := bI (decide (0 ≤ w) && decide (w ≤ 10))) rfl hS hA hl.1 ml_X9_44 ⟨Nat.le_of_ble_eq_true rfl, Nat.le_of_ble_eq_true rfl⟩ ⟨Nat.zero_le _, Nat.zero_le _⟩ (Nat.le_of_ble_eq_true rfl) dX9_count_9 (fun H locs hP hS => ?_)
  refine lv_if_eq (tgt := 23) C0.1 C0.2.1 dX9_count_12 (by decide) (fun c_12 => ?_) (fun c_12 => ?_)
  · have c_12 := bI_eq c_12
    have hc_12 : oneB w 11 = false := (one_c (x := w) (k := 10) (j := 11) (n := 11) (by decide) (by decide) (by decide)).symm.trans c_12
    refine lv_aload_n C0.1 C0.2.1 dX9_count_23 rfl (lv_at hl 0 rfl) ?_
    refine lv_iconst (v := 1) C0.1 C0.2.1 dX9_count_24 (by decide) ?_
    refine k_X9_fail hd sId C0 hK hP  (v := 0) rfl hS hA hl.1 ml_X9_73 ⟨Nat.le_of_ble_eq_true rfl, Nat.le_of_ble_eq_true rfl⟩ ⟨Nat.zero_le _, Nat.zero_le _⟩ (Nat.le_of_ble_eq_true rfl) dX9_count_25 (fun H locs hP hS => ?_)
    have hP : WQ D cA a S (up X 87 (fun _ => 1)) I H := WQ.congr (show WQ D cA a S (up (up X 87 (fun _ => 0)) 87 (fun _ => 1)) I H from hP) (fun _ => rfl) (fun k => by
        by_cases h_87 : k = 87
        · subst h_87; rfl
        simp only [up, h_87, if_false])
    exact rtI C0 hr hlk hP hS (pfail (kd_1 (by simp only [hc_12, Bool.and_true, Bool.true_and, Bool.and_false, Bool.false_and, Bool.and_self])) rfl (by decide) rfl) dX9_count_28
  · have c_12 := bI_ne c_12
    have hc_12 : oneB w 11 = true := (one_c (x := w) (k := 10) (j := 11) (n := 11) (by decide) (by decide) (by decide)).symm.trans c_12
    obtain ⟨q, hq, hqe⟩ := one_nat (n := 11) (by decide) (show oneB w (nI 11) = true from hc_12)
    subst hqe
    refine lv_aload_n C0.1 C0.2.1 dX9_count_15 rfl (lv_at hl 0 rfl) ?_
    refine lv_iload_n C0.1 C0.2.1 dX9_count_16 rfl (lv_at hl 1 rfl) ?_
    refine k_X9_counted hd sId C0 hK hP hnP hnL hnT hT30 hnH hh hTW hq (v := couS S P L T h (nI q)) rfl hS hA hl.1 ml_X9_171 ⟨Nat.le_of_ble_eq_true rfl, Nat.le_of_ble_eq_true rfl⟩ ⟨Nat.zero_le _, Nat.zero_le _⟩ (Nat.le_of_ble_eq_true rfl) dX9_count_17 (fun H locs hP hS => ?_)
    refine lv_goto (tgt := 28) C0.1 C0.2.1 dX9_count_20 (by decide) ?_
    exact rtI C0 hr hlk hP hS (pok (kd_0 (by simp only [hc_12, Bool.and_true, Bool.true_and, Bool.and_false, Bool.false_and, Bool.and_self]) rfl rfl) rfl (⟨rfl, rfl⟩)) dX9_count_28
theorem k_X9_count {n : List Nat} (hd : Hd n a I) (hsub : ∀ k ∈ nM, k ∈ n) (C0 : CallFix p m c cc nL s args GW own) (hK : KK D cA s) (hP : WQ D cA a S X I H) {w : Int32} {P : Nat} {L : Nat} {T : Nat} {h : Nat} (hnP : S 82 0 = nI P) (hnL : S 81 0 = nI L) (hnT : S 85 0 = nI T) (hT30 : T ≤ 30) (hnH : S 86 0 = nI h) (hh : h < 2 ^ 31) (hTW : TW S P L) (hS : va_S A0 H0 H locs) (hA : ∀ q, AI a I q → A0 q) (hls : ls.size = nL) {idx : Nat} (hlink : Cond.methodLink own idx yX9_count ∈ GW) (hR : 6 ≤ R.frames ∧ 131 ≤ R.locals) (hcs : cells ≤ R.cells ∧ slots ≤ R.slots) (hrest : (rest.map fun v => v.category).sum ≤ 8) (hdg : decode cc pc = .ok (.invokevirtual idx, 3)) (kk : ∀ (v : Int32) (S1 X1 : Mem) (H1 : Heap) (locs1 : List Loc), (fun r S1 X1 => X1 87 0 = kd (oneB w 11) (true) (true) 1 2 3 ∧ (kd (oneB w 11) (true) (true) 1 2 3 = 0 → r = couS S P L T h w ∧ S1 = S) ∧ (¬ kd (oneB w 11) (true) (true) 1 2 3 = 0 → S1 = S)) v S1 X1 → WQ D cA a S1 X1 I H1 → va_S A0 H0 H1 locs1 → W p l e R s m args below meth c H1 locs1 cells slots Q (F0 m (pc + 3) ls (.int v :: rest))) : W p l e R s m args below meth c H locs cells slots Q (F0 m pc ls (.int w :: .ref (a 20) :: rest)) := by
  exact hoI (qV (n := 1) (c_X9_count l D cA a S X I (hd.sub hsub) w hnP hnL hnT hT30 hnH hh hTW) C0 hlink im_X9_count se_X9_count in_X9 co_X9_count ⟨rfl, by decide⟩ hR hK hP (hd.1 _ (hsub _ (by decide))) rfl rfl rfl hls hrest rfl hdg hcs) hS hA kk
set_option maxHeartbeats 4000000 in
set_option maxRecDepth 100000 in
theorem c_X9_crossing (l : Launch) (D : va_G) (cA : ClassId) (a : Adr) (S X : Mem) (I : Nat → Prop) (hd : Hd nM a I) (x : Int32) (z : Int32) {P : Nat} {L : Nat} (hnP : S 82 0 = nI P) (hTW : TW S P L) : NI l yX9_crossing cX9_crossing 3 (some .int) 5 116 D cA a S X I [.ref (a 20), .int x, .int z] (fun r S1 X1 => X1 87 0 = kd (oneB x (nI P)) (inB z 0 24) (true) 1 2 3 ∧ (kd (oneB x (nI P)) (inB z 0 24) (true) 1 2 3 = 0 → r = crsS S (nv x) z ∧ S1 = S) ∧ (¬ kd (oneB x (nI P)) (inB z 0 24) (true) 1 2 3 = 0 → S1 = S)) := by
  refine nGo (by decide) (Nat.le_of_ble_eq_true rfl) ?_
  intro p e s m args below meth c ls C0 hr hlk hK hP hS hl hargs
  obtain ⟨H, hHe⟩ : ∃ H, H = s.heap := ⟨_, rfl⟩
  obtain ⟨locs, hlo⟩ : ∃ L : List Loc, L = [] := ⟨_, rfl⟩
  have hP : WQ D cA a S X I H := hHe ▸ hP
  have hS : va_S (AI a I) s.heap H locs := by rw [hHe, hlo]; exact hS
  rw [← hHe, ← hlo]
  have hA : ∀ q, AI a I q → AI a I q := fun _ h => h
  obtain ⟨hLnk, hP6, hL8, h17, h16, h8, h3, h2⟩ := id hTW
  refine lv_aload_n C0.1 C0.2.1 dX9_crossing_0 rfl (lv_at hl 0 rfl) ?_
  refine lv_iconst (v := 0) C0.1 C0.2.1 dX9_crossing_1 (by decide) ?_
  refine p20 C0 hK hP hS hA (hd.1 _ (by decide)) hd.2.2 0 (by decide) fl_X9_40 rfl (by decide +kernel) (x := 0) S (up X 87 (fun _ => 0)) rfl (fun k9 _ h9 => cm_num (fun _ _ => rfl) (fun k9 h9 => up_ne (by omega)) h9) dX9_crossing_2 (fun H locs hP hS => ?_)
  have hP : WQ D cA a S (up X 87 (fun _ => 0)) I H := hP
  refine lv_aload_n C0.1 C0.2.1 dX9_crossing_5 rfl (lv_at hl 0 rfl) ?_
  refine lv_iload_n C0.1 C0.2.1 dX9_crossing_6 rfl (lv_at hl 1 rfl) ?_
  refine k_X9_isPunt hd sId C0 hK hP hnP hP6 (v := bI (oneB x (nI P))) rfl hS hA hl.1 ml_X9_104 ⟨Nat.le_of_ble_eq_true rfl, Nat.le_of_ble_eq_true rfl⟩ ⟨Nat.zero_le _, Nat.zero_le _⟩ (Nat.le_of_ble_eq_true rfl) dX9_crossing_7 (fun H locs hP hS => ?_)
  refine lv_if_ne (tgt := 19) C0.1 C0.2.1 dX9_crossing_10 (by decide) (fun c_10 => ?_) (fun c_10 => ?_)
  · have c_10 := bI_ne c_10
    have hc_10 : oneB x (nI P) = true := ((rfl : oneB x (nI P) = oneB x (nI P))).symm.trans c_10
    refine lv_iload_n C0.1 C0.2.1 dX9_crossing_19 rfl (lv_at hl 2 rfl) ?_
    refine lv_iconst (v := 0) C0.1 C0.2.1 dX9_crossing_20 (by decide) ?_
    refine lv_bipush (v := 24) C0.1 C0.2.1 dX9_crossing_21 (by decide) ?_
    refine k_X9_isIn hd s0 C0 hK hP  (v := bI (decide (0 ≤ z) && decide (z ≤ 24))) rfl hS hA hl.1 ml_X9_44 ⟨Nat.le_of_ble_eq_true rfl, Nat.le_of_ble_eq_true rfl⟩ ⟨Nat.zero_le _, Nat.zero_le _⟩ (Nat.le_of_ble_eq_true rfl) dX9_crossing_23 (fun H locs hP hS => ?_)
    refine lv_if_eq (tgt := 38) C0.1 C0.2.1 dX9_crossing_26 (by decide) (fun c_26 => ?_) (fun c_26 => ?_)
    · have c_26 := bI_eq c_26
      have hc_26 : inB z 0 24 = false := ((rfl : (decide (0 ≤ z) && decide (z ≤ 24)) = inB z 0 24)).symm.trans c_26
      refine lv_aload_n C0.1 C0.2.1 dX9_crossing_38 rfl (lv_at hl 0 rfl) ?_
      refine lv_iconst (v := 2) C0.1 C0.2.1 dX9_crossing_39 (by decide) ?_
      refine k_X9_fail hd sId C0 hK hP  (v := 0) rfl hS hA hl.1 ml_X9_73 ⟨Nat.le_of_ble_eq_true rfl, Nat.le_of_ble_eq_true rfl⟩ ⟨Nat.zero_le _, Nat.zero_le _⟩ (Nat.le_of_ble_eq_true rfl) dX9_crossing_40 (fun H locs hP hS => ?_)
      have hP : WQ D cA a S (up X 87 (fun _ => 2)) I H := WQ.congr (show WQ D cA a S (up (up X 87 (fun _ => 0)) 87 (fun _ => 2)) I H from hP) (fun _ => rfl) (fun k => by
          by_cases h_87 : k = 87
          · subst h_87; rfl
          simp only [up, h_87, if_false])
      exact rtI C0 hr hlk hP hS (pfail (kd_2 (by simp only [hc_10, hc_26, Bool.and_true, Bool.true_and, Bool.and_false, Bool.false_and, Bool.and_self]) (by simp only [hc_10, hc_26, Bool.and_true, Bool.true_and, Bool.and_false, Bool.false_and, Bool.and_self])) rfl (by decide) rfl) dX9_crossing_43
    · have c_26 := bI_ne c_26
      have hc_26 : inB z 0 24 = true := ((rfl : (decide (0 ≤ z) && decide (z ≤ 24)) = inB z 0 24)).symm.trans c_26
      obtain ⟨u, hu, hxe⟩ := one_nat (n := P) (by omega) (show oneB x (nI P) = true from hc_10)
      subst hxe
      refine lv_aload_n C0.1 C0.2.1 dX9_crossing_29 rfl (lv_at hl 0 rfl) ?_
      refine lv_iload_n C0.1 C0.2.1 dX9_crossing_30 rfl (lv_at hl 1 rfl) ?_
      refine lv_iload_n C0.1 C0.2.1 dX9_crossing_31 rfl (lv_at hl 2 rfl) ?_
      refine k_X9_crossingAt hd sId C0 hK hP hTW hu hS hA hl.1 ml_X9_174 ⟨Nat.le_of_ble_eq_true rfl, Nat.le_of_ble_eq_true rfl⟩ ⟨Nat.zero_le _, Nat.zero_le _⟩ (Nat.le_of_ble_eq_true rfl) dX9_crossing_32 (fun v_4 S_2 X_3 H locs hx_1 hP hS => ?_)
      obtain ⟨hrv, hs1, hXk⟩ := hx_1
      rw [hs1] at hP
      subst hrv
      refine lv_goto (tgt := 43) C0.1 C0.2.1 dX9_crossing_35 (by decide) ?_
      exact rtI C0 hr hlk hP hS (pok (kd_0 (by simp only [hc_10, hc_26, Bool.and_true, Bool.true_and, Bool.and_false, Bool.false_and, Bool.and_self]) (by simp only [hc_10, hc_26, Bool.and_true, Bool.true_and, Bool.and_false, Bool.false_and, Bool.and_self]) rfl) (congrFun (hXk 87 (by decide)) 0) (⟨by rw [nv_nI (by omega)], rfl⟩)) dX9_crossing_43
  · have c_10 := bI_eq c_10
    have hc_10 : oneB x (nI P) = false := ((rfl : oneB x (nI P) = oneB x (nI P))).symm.trans c_10
    refine lv_aload_n C0.1 C0.2.1 dX9_crossing_13 rfl (lv_at hl 0 rfl) ?_
    refine lv_iconst (v := 1) C0.1 C0.2.1 dX9_crossing_14 (by decide) ?_
    refine k_X9_fail hd sId C0 hK hP  (v := 0) rfl hS hA hl.1 ml_X9_73 ⟨Nat.le_of_ble_eq_true rfl, Nat.le_of_ble_eq_true rfl⟩ ⟨Nat.zero_le _, Nat.zero_le _⟩ (Nat.le_of_ble_eq_true rfl) dX9_crossing_15 (fun H locs hP hS => ?_)
    have hP : WQ D cA a S (up X 87 (fun _ => 1)) I H := WQ.congr (show WQ D cA a S (up (up X 87 (fun _ => 0)) 87 (fun _ => 1)) I H from hP) (fun _ => rfl) (fun k => by
        by_cases h_87 : k = 87
        · subst h_87; rfl
        simp only [up, h_87, if_false])
    exact rtI C0 hr hlk hP hS (pfail (kd_1 (by simp only [hc_10, Bool.and_true, Bool.true_and, Bool.and_false, Bool.false_and, Bool.and_self])) rfl (by decide) rfl) dX9_crossing_18
theorem k_X9_crossing {n : List Nat} (hd : Hd n a I) (hsub : ∀ k ∈ nM, k ∈ n) (C0 : CallFix p m c cc nL s args GW own) (hK : KK D cA s) (hP : WQ D cA a S X I H) {x : Int32} {z : Int32} {P : Nat} {L : Nat} (hnP : S 82 0 = nI P) (hTW : TW S P L) (hS : va_S A0 H0 H locs) (hA : ∀ q, AI a I q → A0 q) (hls : ls.size = nL) {idx : Nat} (hlink : Cond.methodLink own idx yX9_crossing ∈ GW) (hR : 6 ≤ R.frames ∧ 138 ≤ R.locals) (hcs : cells ≤ R.cells ∧ slots ≤ R.slots) (hrest : (rest.map fun v => v.category).sum ≤ 8) (hdg : decode cc pc = .ok (.invokevirtual idx, 3)) (kk : ∀ (v : Int32) (S1 X1 : Mem) (H1 : Heap) (locs1 : List Loc), (fun r S1 X1 => X1 87 0 = kd (oneB x (nI P)) (inB z 0 24) (true) 1 2 3 ∧ (kd (oneB x (nI P)) (inB z 0 24) (true) 1 2 3 = 0 → r = crsS S (nv x) z ∧ S1 = S) ∧ (¬ kd (oneB x (nI P)) (inB z 0 24) (true) 1 2 3 = 0 → S1 = S)) v S1 X1 → WQ D cA a S1 X1 I H1 → va_S A0 H0 H1 locs1 → W p l e R s m args below meth c H1 locs1 cells slots Q (F0 m (pc + 3) ls (.int v :: rest))) : W p l e R s m args below meth c H locs cells slots Q (F0 m pc ls (.int z :: .int x :: .ref (a 20) :: rest)) := by
  exact hoI (qV (n := 2) (c_X9_crossing l D cA a S X I (hd.sub hsub) x z hnP hTW) C0 hlink im_X9_crossing se_X9_crossing in_X9 co_X9_crossing ⟨rfl, by decide⟩ hR hK hP (hd.1 _ (hsub _ (by decide))) rfl rfl rfl hls hrest rfl hdg hcs) hS hA kk
set_option maxHeartbeats 4000000 in
set_option maxRecDepth 100000 in
theorem c_X9_opens (l : Launch) (D : va_G) (cA : ClassId) (a : Adr) (S X : Mem) (I : Nat → Prop) (hd : Hd nM a I) (x : Int32) {P : Nat} {L : Nat} (hnP : S 82 0 = nI P) (hTW : TW S P L) : NI l yX9_opens cX9_opens 3 (some .int) 5 116 D cA a S X I [.ref (a 20), .int x] (fun r S1 X1 => X1 87 0 = kd (oneB x (nI P)) (true) (true) 1 2 3 ∧ (kd (oneB x (nI P)) (true) (true) 1 2 3 = 0 → r = opnS S (nv x) ∧ S1 = S) ∧ (¬ kd (oneB x (nI P)) (true) (true) 1 2 3 = 0 → S1 = S)) := by
  refine nGo (by decide) (Nat.le_of_ble_eq_true rfl) ?_
  intro p e s m args below meth c ls C0 hr hlk hK hP hS hl hargs
  obtain ⟨H, hHe⟩ : ∃ H, H = s.heap := ⟨_, rfl⟩
  obtain ⟨locs, hlo⟩ : ∃ L : List Loc, L = [] := ⟨_, rfl⟩
  have hP : WQ D cA a S X I H := hHe ▸ hP
  have hS : va_S (AI a I) s.heap H locs := by rw [hHe, hlo]; exact hS
  rw [← hHe, ← hlo]
  have hA : ∀ q, AI a I q → AI a I q := fun _ h => h
  obtain ⟨hLnk, hP6, hL8, h17, h16, h8, h3, h2⟩ := id hTW
  refine lv_aload_n C0.1 C0.2.1 dX9_opens_0 rfl (lv_at hl 0 rfl) ?_
  refine lv_iconst (v := 0) C0.1 C0.2.1 dX9_opens_1 (by decide) ?_
  refine p20 C0 hK hP hS hA (hd.1 _ (by decide)) hd.2.2 0 (by decide) fl_X9_40 rfl (by decide +kernel) (x := 0) S (up X 87 (fun _ => 0)) rfl (fun k9 _ h9 => cm_num (fun _ _ => rfl) (fun k9 h9 => up_ne (by omega)) h9) dX9_opens_2 (fun H locs hP hS => ?_)
  have hP : WQ D cA a S (up X 87 (fun _ => 0)) I H := hP
  refine lv_aload_n C0.1 C0.2.1 dX9_opens_5 rfl (lv_at hl 0 rfl) ?_
  refine lv_iload_n C0.1 C0.2.1 dX9_opens_6 rfl (lv_at hl 1 rfl) ?_
  refine k_X9_isPunt hd sId C0 hK hP hnP hP6 (v := bI (oneB x (nI P))) rfl hS hA hl.1 ml_X9_104 ⟨Nat.le_of_ble_eq_true rfl, Nat.le_of_ble_eq_true rfl⟩ ⟨Nat.zero_le _, Nat.zero_le _⟩ (Nat.le_of_ble_eq_true rfl) dX9_opens_7 (fun H locs hP hS => ?_)
  refine lv_if_ne (tgt := 19) C0.1 C0.2.1 dX9_opens_10 (by decide) (fun c_10 => ?_) (fun c_10 => ?_)
  · have c_10 := bI_ne c_10
    have hc_10 : oneB x (nI P) = true := ((rfl : oneB x (nI P) = oneB x (nI P))).symm.trans c_10
    obtain ⟨u, hu, hxe⟩ := one_nat (n := P) (by omega) (show oneB x (nI P) = true from hc_10)
    subst hxe
    refine lv_iconst (v := 0) C0.1 C0.2.1 dX9_opens_19 (by decide) ?_
    refine lv_istore_n (lv' := [(2, .int 0), (0, .ref (a 20)), (1, .int (nI u))]) C0.1 C0.2.1 dX9_opens_20 rfl hl (by decide) rfl (fun ls hl => ?_)
    have loop21 : ∀ (n : Nat) (i : Nat) (Xv : Mem), (i ≤ 25) → (26 ≤ i + n) → (Xv 87 0 = 0) → (opnS S u = fndF (fun v => !decide (crsS S u (nI v) = -1)) i (25 - i)) → ∀ (H : Heap) (locs : List Loc) (ls : Array Slot), WQ D cA a S Xv I H → va_S (AI a I) s.heap H locs → lv_has ls 3 [(2, .int (nI i)), (0, .ref (a 20)), (1, .int (nI u))] → W p l e { frames := 5, cells := 0, slots := 0, locals := 116 } s m args below meth c H locs (0) (0) (MQ below (QqI D cA a I (fun r S1 X1 => X1 87 0 = kd (oneB (nI u) (nI P)) (true) (true) 1 2 3 ∧ (kd (oneB (nI u) (nI P)) (true) (true) 1 2 3 = 0 → r = opnS S (nv (nI u)) ∧ S1 = S) ∧ (¬ kd (oneB (nI u) (nI P)) (true) (true) 1 2 3 = 0 → S1 = S))) args s 0 0 (AI a I)) (F0 m 21 ls []) := by
      intro n
      induction n with
      | zero => intro i Xv hi hf hX0 hfd; exfalso; omega
      | succ n ih21 =>
        intro i Xv hi hf hX0 hfd H locs ls hP hS hl
        refine lv_iload_n C0.1 C0.2.1 dX9_opens_21 rfl (lv_at hl 0 rfl) ?_
        refine lv_bipush (v := 24) C0.1 C0.2.1 dX9_opens_22 (by decide) ?_
        refine lv_icmp_gt (tgt := 45) C0.1 C0.2.1 dX9_opens_24 (by decide) (fun c_24 => ?_) (fun c_24 => ?_)
        · have hge : 25 ≤ i := (nI_ltI (a := 24) (by omega) (by omega)).mp c_24
          refine lv_iconst (v := (-1)) C0.1 C0.2.1 dX9_opens_45 (by decide) ?_
          exact rtI C0 hr hlk hP hS (pok (kd_0 (by simp only [hc_10, Bool.and_true, Bool.true_and, Bool.and_false, Bool.false_and, Bool.and_self]) rfl rfl) hX0 (⟨by rw [nv_nI (by omega), hfd, show 25 - i = 0 by omega]; rfl, rfl⟩)) dX9_opens_46
        · have hlt : i < 25 := Nat.not_le.mp fun q => c_24 (show (24 : Int32) < nI i from nI_lt (show 24 < i by omega) (by omega))
          refine lv_aload_n C0.1 C0.2.1 dX9_opens_27 rfl (lv_at hl 1 rfl) ?_
          refine lv_iload_n C0.1 C0.2.1 dX9_opens_28 rfl (lv_at hl 2 rfl) ?_
          refine lv_iload_n C0.1 C0.2.1 dX9_opens_29 rfl (lv_at hl 0 rfl) ?_
          refine k_X9_crossingAt hd sId C0 hK hP hTW hu hS hA hl.1 ml_X9_174 ⟨Nat.le_of_ble_eq_true rfl, Nat.le_of_ble_eq_true rfl⟩ ⟨Nat.zero_le _, Nat.zero_le _⟩ (Nat.le_of_ble_eq_true rfl) dX9_opens_30 (fun v_4 S_2 X_3 H locs hx_1 hP hS => ?_)
          obtain ⟨hrv, hs1, hXk⟩ := hx_1
          rw [hs1] at hP
          subst hrv
          refine lv_iconst (v := (-1)) C0.1 C0.2.1 dX9_opens_33 (by decide) ?_
          refine lv_icmp_eq (tgt := 39) C0.1 C0.2.1 dX9_opens_34 (by decide) (fun c_34 => ?_) (fun c_34 => ?_)
          · refine lv_iinc (v := nI (i + 1)) (lv' := [(2, .int (nI (i + 1))), (0, .ref (a 20)), (1, .int (nI u))]) C0.1 C0.2.1 dX9_opens_39 hl (k := 0) rfl (nI_1 _) (by decide) rfl (fun ls hl => ?_)
            refine lv_goto (tgt := 21) C0.1 C0.2.1 dX9_opens_42 (by decide) ?_
            exact ih21 (i + 1) _ (by omega) (by omega) ((congrFun (hXk 87 (by decide)) 0).trans hX0) (by rw [hfd, show 25 - i = 25 - (i + 1) + 1 by omega, fndF_no (by rw [decide_eq_true c_34]; exact Bool.false_ne_true)]) _ _ _ hP hS (lv_sub hl [0, 1, 2] rfl)
          · refine lv_iload_n C0.1 C0.2.1 dX9_opens_37 rfl (lv_at hl 0 rfl) ?_
            exact rtI C0 hr hlk hP hS (pok (kd_0 (by simp only [hc_10, Bool.and_true, Bool.true_and, Bool.and_false, Bool.false_and, Bool.and_self]) rfl rfl) ((congrFun (hXk 87 (by decide)) 0).trans hX0) (⟨by rw [nv_nI (by omega), hfd, show 25 - i = 25 - (i + 1) + 1 by omega, fndF_yes (by rw [decide_eq_false c_34]; rfl)], rfl⟩)) dX9_opens_38
    exact loop21 26 0 _ (by omega) (by omega) rfl rfl _ _ _ hP hS (lv_sub hl [0, 1, 2] rfl)
  · have c_10 := bI_eq c_10
    have hc_10 : oneB x (nI P) = false := ((rfl : oneB x (nI P) = oneB x (nI P))).symm.trans c_10
    refine lv_aload_n C0.1 C0.2.1 dX9_opens_13 rfl (lv_at hl 0 rfl) ?_
    refine lv_iconst (v := 1) C0.1 C0.2.1 dX9_opens_14 (by decide) ?_
    refine k_X9_fail hd sId C0 hK hP  (v := 0) rfl hS hA hl.1 ml_X9_73 ⟨Nat.le_of_ble_eq_true rfl, Nat.le_of_ble_eq_true rfl⟩ ⟨Nat.zero_le _, Nat.zero_le _⟩ (Nat.le_of_ble_eq_true rfl) dX9_opens_15 (fun H locs hP hS => ?_)
    have hP : WQ D cA a S (up X 87 (fun _ => 1)) I H := WQ.congr (show WQ D cA a S (up (up X 87 (fun _ => 0)) 87 (fun _ => 1)) I H from hP) (fun _ => rfl) (fun k => by
        by_cases h_87 : k = 87
        · subst h_87; rfl
        simp only [up, h_87, if_false])
    exact rtI C0 hr hlk hP hS (pfail (kd_1 (by simp only [hc_10, Bool.and_true, Bool.true_and, Bool.and_false, Bool.false_and, Bool.and_self])) rfl (by decide) rfl) dX9_opens_18
theorem k_X9_opens {n : List Nat} (hd : Hd n a I) (hsub : ∀ k ∈ nM, k ∈ n) (C0 : CallFix p m c cc nL s args GW own) (hK : KK D cA s) (hP : WQ D cA a S X I H) {x : Int32} {P : Nat} {L : Nat} (hnP : S 82 0 = nI P) (hTW : TW S P L) (hS : va_S A0 H0 H locs) (hA : ∀ q, AI a I q → A0 q) (hls : ls.size = nL) {idx : Nat} (hlink : Cond.methodLink own idx yX9_opens ∈ GW) (hR : 6 ≤ R.frames ∧ 138 ≤ R.locals) (hcs : cells ≤ R.cells ∧ slots ≤ R.slots) (hrest : (rest.map fun v => v.category).sum ≤ 8) (hdg : decode cc pc = .ok (.invokevirtual idx, 3)) (kk : ∀ (v : Int32) (S1 X1 : Mem) (H1 : Heap) (locs1 : List Loc), (fun r S1 X1 => X1 87 0 = kd (oneB x (nI P)) (true) (true) 1 2 3 ∧ (kd (oneB x (nI P)) (true) (true) 1 2 3 = 0 → r = opnS S (nv x) ∧ S1 = S) ∧ (¬ kd (oneB x (nI P)) (true) (true) 1 2 3 = 0 → S1 = S)) v S1 X1 → WQ D cA a S1 X1 I H1 → va_S A0 H0 H1 locs1 → W p l e R s m args below meth c H1 locs1 cells slots Q (F0 m (pc + 3) ls (.int v :: rest))) : W p l e R s m args below meth c H locs cells slots Q (F0 m pc ls (.int x :: .ref (a 20) :: rest)) := by
  exact hoI (qV (n := 1) (c_X9_opens l D cA a S X I (hd.sub hsub) x hnP hTW) C0 hlink im_X9_opens se_X9_opens in_X9 co_X9_opens ⟨rfl, by decide⟩ hR hK hP (hd.1 _ (hsub _ (by decide))) rfl rfl rfl hls hrest rfl hdg hcs) hS hA kk
set_option maxHeartbeats 4000000 in
set_option maxRecDepth 100000 in
theorem c_X9_chain (l : Launch) (D : va_G) (cA : ClassId) (a : Adr) (S X : Mem) (I : Nat → Prop) (hd : Hd nM a I) (x : Int32) (y : Int32) (w : Int32) {P : Nat} {L : Nat} (hnP : S 82 0 = nI P) (hnL : S 81 0 = nI L) (hTW : TW S P L) (hTl : TlW S P) : NI l yX9_chain cX9_chain 4 (some .int) 4 94 D cA a S X I [.ref (a 20), .int x, .int y, .int w] (fun r S1 X1 => X1 87 0 = kd (oneB x (nI L) && oneB y (nI L) && oneB w 3) (true) (true) 1 2 3 ∧ (kd (oneB x (nI L) && oneB y (nI L) && oneB w 3) (true) (true) 1 2 3 = 0 → r = chaS S P (nv x) (nv y) w ∧ S1 = S) ∧ (¬ kd (oneB x (nI L) && oneB y (nI L) && oneB w 3) (true) (true) 1 2 3 = 0 → S1 = S)) := by
  refine nGo (by decide) (Nat.le_of_ble_eq_true rfl) ?_
  intro p e s m args below meth c ls C0 hr hlk hK hP hS hl hargs
  obtain ⟨H, hHe⟩ : ∃ H, H = s.heap := ⟨_, rfl⟩
  obtain ⟨locs, hlo⟩ : ∃ L : List Loc, L = [] := ⟨_, rfl⟩
  have hP : WQ D cA a S X I H := hHe ▸ hP
  have hS : va_S (AI a I) s.heap H locs := by rw [hHe, hlo]; exact hS
  rw [← hHe, ← hlo]
  have hA : ∀ q, AI a I q → AI a I q := fun _ h => h
  obtain ⟨hLnk, hP6, hL8, h17, h16, h8, h3, h2⟩ := id hTW
  refine lv_aload_n C0.1 C0.2.1 dX9_chain_0 rfl (lv_at hl 0 rfl) ?_
  refine lv_iconst (v := 0) C0.1 C0.2.1 dX9_chain_1 (by decide) ?_
  refine p20 C0 hK hP hS hA (hd.1 _ (by decide)) hd.2.2 0 (by decide) fl_X9_40 rfl (by decide +kernel) (x := 0) S (up X 87 (fun _ => 0)) rfl (fun k9 _ h9 => cm_num (fun _ _ => rfl) (fun k9 h9 => up_ne (by omega)) h9) dX9_chain_2 (fun H locs hP hS => ?_)
  have hP : WQ D cA a S (up X 87 (fun _ => 0)) I H := hP
  refine lv_aload_n C0.1 C0.2.1 dX9_chain_5 rfl (lv_at hl 0 rfl) ?_
  refine lv_iload_n C0.1 C0.2.1 dX9_chain_6 rfl (lv_at hl 1 rfl) ?_
  refine k_X9_isLanding hd sId C0 hK hP hnL hL8 (v := bI (oneB x (nI L))) rfl hS hA hl.1 ml_X9_90 ⟨Nat.le_of_ble_eq_true rfl, Nat.le_of_ble_eq_true rfl⟩ ⟨Nat.zero_le _, Nat.zero_le _⟩ (Nat.le_of_ble_eq_true rfl) dX9_chain_7 (fun H locs hP hS => ?_)
  refine lv_if_eq (tgt := 30) C0.1 C0.2.1 dX9_chain_10 (by decide) (fun c_10 => ?_) (fun c_10 => ?_)
  · have c_10 := bI_eq c_10
    have hc_10 : oneB x (nI L) = false := ((rfl : oneB x (nI L) = oneB x (nI L))).symm.trans c_10
    refine lv_aload_n C0.1 C0.2.1 dX9_chain_30 rfl (lv_at hl 0 rfl) ?_
    refine lv_iconst (v := 1) C0.1 C0.2.1 dX9_chain_31 (by decide) ?_
    refine k_X9_fail hd sId C0 hK hP  (v := 0) rfl hS hA hl.1 ml_X9_73 ⟨Nat.le_of_ble_eq_true rfl, Nat.le_of_ble_eq_true rfl⟩ ⟨Nat.zero_le _, Nat.zero_le _⟩ (Nat.le_of_ble_eq_true rfl) dX9_chain_32 (fun H locs hP hS => ?_)
    have hP : WQ D cA a S (up X 87 (fun _ => 1)) I H := WQ.congr (show WQ D cA a S (up (up X 87 (fun _ => 0)) 87 (fun _ => 1)) I H from hP) (fun _ => rfl) (fun k => by
        by_cases h_87 : k = 87
        · subst h_87; rfl
        simp only [up, h_87, if_false])
    exact rtI C0 hr hlk hP hS (pfail (kd_1 (by simp only [hc_10, Bool.and_true, Bool.true_and, Bool.and_false, Bool.false_and, Bool.and_self])) rfl (by decide) rfl) dX9_chain_35
  · have c_10 := bI_ne c_10
    have hc_10 : oneB x (nI L) = true := ((rfl : oneB x (nI L) = oneB x (nI L))).symm.trans c_10
    refine lv_aload_n C0.1 C0.2.1 dX9_chain_13 rfl (lv_at hl 0 rfl) ?_
    refine lv_iload_n C0.1 C0.2.1 dX9_chain_14 rfl (lv_at hl 2 rfl) ?_
    refine k_X9_isLanding hd sId C0 hK hP hnL hL8 (v := bI (oneB y (nI L))) rfl hS hA hl.1 ml_X9_90 ⟨Nat.le_of_ble_eq_true rfl, Nat.le_of_ble_eq_true rfl⟩ ⟨Nat.zero_le _, Nat.zero_le _⟩ (Nat.le_of_ble_eq_true rfl) dX9_chain_15 (fun H locs hP hS => ?_)
    refine lv_if_eq (tgt := 30) C0.1 C0.2.1 dX9_chain_18 (by decide) (fun c_18 => ?_) (fun c_18 => ?_)
    · have c_18 := bI_eq c_18
      have hc_18 : oneB y (nI L) = false := ((rfl : oneB y (nI L) = oneB y (nI L))).symm.trans c_18
      refine lv_aload_n C0.1 C0.2.1 dX9_chain_30 rfl (lv_at hl 0 rfl) ?_
      refine lv_iconst (v := 1) C0.1 C0.2.1 dX9_chain_31 (by decide) ?_
      refine k_X9_fail hd sId C0 hK hP  (v := 0) rfl hS hA hl.1 ml_X9_73 ⟨Nat.le_of_ble_eq_true rfl, Nat.le_of_ble_eq_true rfl⟩ ⟨Nat.zero_le _, Nat.zero_le _⟩ (Nat.le_of_ble_eq_true rfl) dX9_chain_32 (fun H locs hP hS => ?_)
      have hP : WQ D cA a S (up X 87 (fun _ => 1)) I H := WQ.congr (show WQ D cA a S (up (up X 87 (fun _ => 0)) 87 (fun _ => 1)) I H from hP) (fun _ => rfl) (fun k => by
          by_cases h_87 : k = 87
          · subst h_87; rfl
          simp only [up, h_87, if_false])
      exact rtI C0 hr hlk hP hS (pfail (kd_1 (by simp only [hc_10, hc_18, Bool.and_true, Bool.true_and, Bool.and_false, Bool.false_and, Bool.and_self])) rfl (by decide) rfl) dX9_chain_35
    · have c_18 := bI_ne c_18
      have hc_18 : oneB y (nI L) = true := ((rfl : oneB y (nI L) = oneB y (nI L))).symm.trans c_18
      refine lv_iload_n C0.1 C0.2.1 dX9_chain_21 rfl (lv_at hl 3 rfl) ?_
      refine lv_iconst (v := 0) C0.1 C0.2.1 dX9_chain_22 (by decide) ?_
      refine lv_iconst (v := 2) C0.1 C0.2.1 dX9_chain_23 (by decide) ?_
      refine k_X9_isIn hd s0 C0 hK hP  (v := bI (decide (0 ≤ w) && decide (w ≤ 2))) rfl hS hA hl.1 ml_X9_44 ⟨Nat.le_of_ble_eq_true rfl, Nat.le_of_ble_eq_true rfl⟩ ⟨Nat.zero_le _, Nat.zero_le _⟩ (Nat.le_of_ble_eq_true rfl) dX9_chain_24 (fun H locs hP hS => ?_)
      refine lv_if_ne (tgt := 36) C0.1 C0.2.1 dX9_chain_27 (by decide) (fun c_27 => ?_) (fun c_27 => ?_)
      · have c_27 := bI_ne c_27
        have hc_27 : oneB w 3 = true := (one_c (x := w) (k := 2) (j := 3) (n := 3) (by decide) (by decide) (by decide)).symm.trans c_27
        obtain ⟨u, hu, hxe⟩ := one_nat (n := L) (by omega) (show oneB x (nI L) = true from hc_10)
        subst hxe
        obtain ⟨u2, hu2, hxe2⟩ := one_nat (n := L) (by omega) (show oneB y (nI L) = true from hc_18)
        subst hxe2
        refine lv_iload_n C0.1 C0.2.1 dX9_chain_36 rfl (lv_at hl 3 rfl) ?_
        refine lv_iconst (v := 1) C0.1 C0.2.1 dX9_chain_37 (by decide) ?_
        refine lv_icmp_ne (tgt := 48) C0.1 C0.2.1 dX9_chain_38 (by decide) (fun c_38 => ?_) (fun c_38 => ?_)
        · refine lv_aload_n C0.1 C0.2.1 dX9_chain_48 rfl (lv_at hl 0 rfl) ?_
          refine lv_iload_n C0.1 C0.2.1 dX9_chain_49 rfl (lv_at hl 2 rfl) ?_
          refine k_X9_link hd sId C0 hK hP hnP hP6 hnL hL8 hLnk hTl hu2 hS hA hl.1 ml_X9_140 ⟨Nat.le_of_ble_eq_true rfl, Nat.le_of_ble_eq_true rfl⟩ ⟨Nat.zero_le _, Nat.zero_le _⟩ (Nat.le_of_ble_eq_true rfl) dX9_chain_50 (fun S_2 X_3 H locs hx_1 hP hS => ?_)
          obtain ⟨hs1, hfw, htl, hXk⟩ := hx_1
          rw [hs1] at hP
          refine lv_iload_n C0.1 C0.2.1 dX9_chain_53 rfl (lv_at hl 3 rfl) ?_
          refine lv_if_eq (tgt := 67) C0.1 C0.2.1 dX9_chain_54 (by decide) (fun c_54 => ?_) (fun c_54 => ?_)
          · refine lv_aload_n C0.1 C0.2.1 dX9_chain_67 rfl (lv_at hl 0 rfl) ?_
            refine g20 C0 hK hP (hd.1 _ (by decide)) 13 (by decide) fl_X9_34 rfl dX9_chain_68 ?_
            refine lv_iload_n C0.1 C0.2.1 dX9_chain_71 rfl (lv_at hl 1 rfl) ?_
            refine mld (k := 8) (by decide) C0 hK hP (hd.1 _ (by decide)) (v := lenM S P u u2) (vp_in_nI (show u < 8 by omega) (by decide)) ((rg_in (n := 8) (vp_in_nI (show u < 8 by omega) (by decide))).symm.trans ((rg_nI (show u < 8 by omega) (by decide)).trans (hfw u hu))) dX9_chain_72 ?_
            refine lv_goto (tgt := 82) C0.1 C0.2.1 dX9_chain_73 (by decide) ?_
            exact rtI C0 hr hlk hP hS (pok (kd_0 (by simp only [hc_10, hc_18, hc_27, Bool.and_true, Bool.true_and, Bool.and_false, Bool.false_and, Bool.and_self]) rfl rfl) (congrFun (hXk 87 (by decide) (by decide)) 0) (⟨by rw [nv_nI (by omega), nv_nI (by omega)]; unfold chaS; rw [c_54]; rfl, rfl⟩)) dX9_chain_82
          · refine lv_aload_n C0.1 C0.2.1 dX9_chain_57 rfl (lv_at hl 0 rfl) ?_
            refine g20 C0 hK hP (hd.1 _ (by decide)) 13 (by decide) fl_X9_34 rfl dX9_chain_58 ?_
            refine lv_iload_n C0.1 C0.2.1 dX9_chain_61 rfl (lv_at hl 1 rfl) ?_
            refine mld (k := 8) (by decide) C0 hK hP (hd.1 _ (by decide)) (v := lenM S P u u2) (vp_in_nI (show u < 8 by omega) (by decide)) ((rg_in (n := 8) (vp_in_nI (show u < 8 by omega) (by decide))).symm.trans ((rg_nI (show u < 8 by omega) (by decide)).trans (hfw u hu))) dX9_chain_62 ?_
            refine lv_iconst (v := (-1)) C0.1 C0.2.1 dX9_chain_63 (by decide) ?_
            refine lv_icmp_ne (tgt := 76) C0.1 C0.2.1 dX9_chain_64 (by decide) (fun c_64 => ?_) (fun c_64 => ?_)
            · refine lv_aload_n C0.1 C0.2.1 dX9_chain_76 rfl (lv_at hl 0 rfl) ?_
              refine g20 C0 hK hP (hd.1 _ (by decide)) 14 (by decide) fl_X9_37 rfl dX9_chain_77 ?_
              refine lv_iload_n C0.1 C0.2.1 dX9_chain_80 rfl (lv_at hl 1 rfl) ?_
              refine mld (k := 9) (by decide) C0 hK hP (hd.1 _ (by decide)) (v := X_3 12 u) (vp_in_nI (show u < 8 by omega) (by decide)) ((rg_in (n := 8) (vp_in_nI (show u < 8 by omega) (by decide))).symm.trans (rg_nI (show u < 8 by omega) (by decide))) dX9_chain_81 ?_
              exact rtI C0 hr hlk hP hS (pok (kd_0 (by simp only [hc_10, hc_18, hc_27, Bool.and_true, Bool.true_and, Bool.and_false, Bool.false_and, Bool.and_self]) rfl rfl) (congrFun (hXk 87 (by decide) (by decide)) 0) (⟨by rw [nv_nI (by omega), nv_nI (by omega)]; unfold chaS; rw [if_neg c_54, if_neg c_38, if_neg c_64]; exact (by rcases lenM_val (hLnk.mono hL8) hP6 (show u < 8 by omega) (show u2 < 8 by omega) with h9 | ⟨k9, h9, h8⟩; exact absurd h9 c_64; rw [h8, nv_nI (by omega)]; exact htl u hu k9 h9 h8), rfl⟩)) dX9_chain_82
            · refine lv_aload_n C0.1 C0.2.1 dX9_chain_67 rfl (lv_at hl 0 rfl) ?_
              refine g20 C0 hK hP (hd.1 _ (by decide)) 13 (by decide) fl_X9_34 rfl dX9_chain_68 ?_
              refine lv_iload_n C0.1 C0.2.1 dX9_chain_71 rfl (lv_at hl 1 rfl) ?_
              refine mld (k := 8) (by decide) C0 hK hP (hd.1 _ (by decide)) (v := lenM S P u u2) (vp_in_nI (show u < 8 by omega) (by decide)) ((rg_in (n := 8) (vp_in_nI (show u < 8 by omega) (by decide))).symm.trans ((rg_nI (show u < 8 by omega) (by decide)).trans (hfw u hu))) dX9_chain_72 ?_
              refine lv_goto (tgt := 82) C0.1 C0.2.1 dX9_chain_73 (by decide) ?_
              exact rtI C0 hr hlk hP hS (pok (kd_0 (by simp only [hc_10, hc_18, hc_27, Bool.and_true, Bool.true_and, Bool.and_false, Bool.false_and, Bool.and_self]) rfl rfl) (congrFun (hXk 87 (by decide) (by decide)) 0) (⟨by rw [nv_nI (by omega), nv_nI (by omega)]; unfold chaS; rw [if_neg c_54, if_neg c_38, if_pos c_64]; exact c_64, rfl⟩)) dX9_chain_82
        · refine lv_aload_n C0.1 C0.2.1 dX9_chain_41 rfl (lv_at hl 0 rfl) ?_
          refine lv_iload_n C0.1 C0.2.1 dX9_chain_42 rfl (lv_at hl 1 rfl) ?_
          refine lv_iload_n C0.1 C0.2.1 dX9_chain_43 rfl (lv_at hl 2 rfl) ?_
          refine k_X9_takes hd sId C0 hK hP hnP hP6 hnL hL8 hLnk hTl hu hu2 hS hA hl.1 ml_X9_159 ⟨Nat.le_of_ble_eq_true rfl, Nat.le_of_ble_eq_true rfl⟩ ⟨Nat.zero_le _, Nat.zero_le _⟩ (Nat.le_of_ble_eq_true rfl) dX9_chain_44 (fun v_8 S_6 X_7 H locs hx_5 hP hS => ?_)
          obtain ⟨hrv, hs1, hXk⟩ := hx_5
          rw [hs1] at hP
          subst hrv
          exact rtI C0 hr hlk hP hS (pok (kd_0 (by simp only [hc_10, hc_18, hc_27, Bool.and_true, Bool.true_and, Bool.and_false, Bool.false_and, Bool.and_self]) rfl rfl) (congrFun (hXk 87 (by decide) (by decide)) 0) (⟨by rw [nv_nI (by omega), nv_nI (by omega)]; unfold chaS; rw [c_38]; rfl, rfl⟩)) dX9_chain_47
      · have c_27 := bI_eq c_27
        have hc_27 : oneB w 3 = false := (one_c (x := w) (k := 2) (j := 3) (n := 3) (by decide) (by decide) (by decide)).symm.trans c_27
        refine lv_aload_n C0.1 C0.2.1 dX9_chain_30 rfl (lv_at hl 0 rfl) ?_
        refine lv_iconst (v := 1) C0.1 C0.2.1 dX9_chain_31 (by decide) ?_
        refine k_X9_fail hd sId C0 hK hP  (v := 0) rfl hS hA hl.1 ml_X9_73 ⟨Nat.le_of_ble_eq_true rfl, Nat.le_of_ble_eq_true rfl⟩ ⟨Nat.zero_le _, Nat.zero_le _⟩ (Nat.le_of_ble_eq_true rfl) dX9_chain_32 (fun H locs hP hS => ?_)
        have hP : WQ D cA a S (up X 87 (fun _ => 1)) I H := WQ.congr (show WQ D cA a S (up (up X 87 (fun _ => 0)) 87 (fun _ => 1)) I H from hP) (fun _ => rfl) (fun k => by
            by_cases h_87 : k = 87
            · subst h_87; rfl
            simp only [up, h_87, if_false])
        exact rtI C0 hr hlk hP hS (pfail (kd_1 (by simp only [hc_10, hc_18, hc_27, Bool.and_true, Bool.true_and, Bool.and_false, Bool.false_and, Bool.and_self])) rfl (by decide) rfl) dX9_chain_35
theorem k_X9_chain {n : List Nat} (hd : Hd n a I) (hsub : ∀ k ∈ nM, k ∈ n) (C0 : CallFix p m c cc nL s args GW own) (hK : KK D cA s) (hP : WQ D cA a S X I H) {x : Int32} {y : Int32} {w : Int32} {P : Nat} {L : Nat} (hnP : S 82 0 = nI P) (hnL : S 81 0 = nI L) (hTW : TW S P L) (hTl : TlW S P) (hS : va_S A0 H0 H locs) (hA : ∀ q, AI a I q → A0 q) (hls : ls.size = nL) {idx : Nat} (hlink : Cond.methodLink own idx yX9_chain ∈ GW) (hR : 5 ≤ R.frames ∧ 117 ≤ R.locals) (hcs : cells ≤ R.cells ∧ slots ≤ R.slots) (hrest : (rest.map fun v => v.category).sum ≤ 8) (hdg : decode cc pc = .ok (.invokevirtual idx, 3)) (kk : ∀ (v : Int32) (S1 X1 : Mem) (H1 : Heap) (locs1 : List Loc), (fun r S1 X1 => X1 87 0 = kd (oneB x (nI L) && oneB y (nI L) && oneB w 3) (true) (true) 1 2 3 ∧ (kd (oneB x (nI L) && oneB y (nI L) && oneB w 3) (true) (true) 1 2 3 = 0 → r = chaS S P (nv x) (nv y) w ∧ S1 = S) ∧ (¬ kd (oneB x (nI L) && oneB y (nI L) && oneB w 3) (true) (true) 1 2 3 = 0 → S1 = S)) v S1 X1 → WQ D cA a S1 X1 I H1 → va_S A0 H0 H1 locs1 → W p l e R s m args below meth c H1 locs1 cells slots Q (F0 m (pc + 3) ls (.int v :: rest))) : W p l e R s m args below meth c H locs cells slots Q (F0 m pc ls (.int w :: .int y :: .int x :: .ref (a 20) :: rest)) := by
  exact hoI (qV (n := 3) (c_X9_chain l D cA a S X I (hd.sub hsub) x y w hnP hnL hTW hTl) C0 hlink im_X9_chain se_X9_chain in_X9 co_X9_chain ⟨rfl, by decide⟩ hR hK hP (hd.1 _ (hsub _ (by decide))) rfl rfl rfl hls hrest rfl hdg hcs) hS hA kk
set_option maxHeartbeats 4000000 in
set_option maxRecDepth 100000 in
theorem c_X9_pass (l : Launch) (D : va_G) (cA : ClassId) (a : Adr) (S X : Mem) (I : Nat → Prop) (hd : Hd nM a I) (x : Int32) {P : Nat} {L : Nat} {T : Nat} {h : Nat} {F : Int32 → Int32 → Int32} (hnP : S 82 0 = nI P) (hnL : S 81 0 = nI L) (hnT : S 85 0 = nI T) (hT30 : T ≤ 30) (hnH : S 86 0 = nI h) (hhp : h + 100 < 2 ^ 31) (hTW : TW S P L) (hTl : TlW S P) (hFW : FW F S P L) (hWi : WiW S L T) : NI l yX9_pass cX9_pass 4 (some .int) 6 141 D cA a S X I [.ref (a 20), .int x] (fun r S1 X1 => X1 87 0 = kd (true) (inB x 1 100) (true) 9 1 3 ∧ (kd (true) (inB x 1 100) (true) 9 1 3 = 0 → r = (hrsM F S P T h (nv x)).2 ∧ S1 = (hrsM F S P T h (nv x)).1) ∧ (¬ kd (true) (inB x 1 100) (true) 9 1 3 = 0 → S1 = S)) := by
  refine nGo (by decide) (Nat.le_of_ble_eq_true rfl) ?_
  intro p e s m args below meth c ls C0 hr hlk hK hP hS hl hargs
  obtain ⟨H, hHe⟩ : ∃ H, H = s.heap := ⟨_, rfl⟩
  obtain ⟨locs, hlo⟩ : ∃ L : List Loc, L = [] := ⟨_, rfl⟩
  have hP : WQ D cA a S X I H := hHe ▸ hP
  have hS : va_S (AI a I) s.heap H locs := by rw [hHe, hlo]; exact hS
  rw [← hHe, ← hlo]
  have hA : ∀ q, AI a I q → AI a I q := fun _ h => h
  obtain ⟨hLnk, hP6, hL8, h17, h16, h8, h3, h2⟩ := id hTW
  refine lv_aload_n C0.1 C0.2.1 dX9_pass_0 rfl (lv_at hl 0 rfl) ?_
  refine lv_iconst (v := 0) C0.1 C0.2.1 dX9_pass_1 (by decide) ?_
  refine p20 C0 hK hP hS hA (hd.1 _ (by decide)) hd.2.2 0 (by decide) fl_X9_40 rfl (by decide +kernel) (x := 0) S (up X 87 (fun _ => 0)) rfl (fun k9 _ h9 => cm_num (fun _ _ => rfl) (fun k9 h9 => up_ne (by omega)) h9) dX9_pass_2 (fun H locs hP hS => ?_)
  have hP : WQ D cA a S (up X 87 (fun _ => 0)) I H := hP
  refine lv_iload_n C0.1 C0.2.1 dX9_pass_5 rfl (lv_at hl 1 rfl) ?_
  refine lv_iconst (v := 1) C0.1 C0.2.1 dX9_pass_6 (by decide) ?_
  refine lv_bipush (v := 100) C0.1 C0.2.1 dX9_pass_7 (by decide) ?_
  refine k_X9_isIn hd s0 C0 hK hP  (v := bI (decide (1 ≤ x) && decide (x ≤ 100))) rfl hS hA hl.1 ml_X9_44 ⟨Nat.le_of_ble_eq_true rfl, Nat.le_of_ble_eq_true rfl⟩ ⟨Nat.zero_le _, Nat.zero_le _⟩ (Nat.le_of_ble_eq_true rfl) dX9_pass_9 (fun H locs hP hS => ?_)
  refine lv_if_ne (tgt := 21) C0.1 C0.2.1 dX9_pass_12 (by decide) (fun c_12 => ?_) (fun c_12 => ?_)
  · have c_12 := bI_ne c_12
    have hc_12 : inB x 1 100 = true := ((rfl : (decide (1 ≤ x) && decide (x ≤ 100)) = inB x 1 100)).symm.trans c_12
    obtain ⟨N, hN, hxe⟩ := in_nat (m := 100) (by decide) (show inB x 0 (nI 100) = true from in_low hc_12)
    subst hxe
    refine lv_iconst (v := 0) C0.1 C0.2.1 dX9_pass_21 (by decide) ?_
    refine lv_istore_n (lv' := [(2, .int 0), (0, .ref (a 20)), (1, .int (nI N))]) C0.1 C0.2.1 dX9_pass_22 rfl hl (by decide) rfl (fun ls hl => ?_)
    refine lv_iconst (v := 0) C0.1 C0.2.1 dX9_pass_23 (by decide) ?_
    refine lv_istore_n (lv' := [(3, .int 0), (2, .int 0), (0, .ref (a 20)), (1, .int (nI N))]) C0.1 C0.2.1 dX9_pass_24 rfl hl (by decide) rfl (fun ls hl => ?_)
    have loop25 : ∀ (n : Nat) (i : Nat) (Xv : Mem), (i ≤ N) → (N + 1 ≤ i + n) → (Xv 87 0 = 0) → ∀ (H : Heap) (locs : List Loc) (ls : Array Slot), WQ D cA a (hrsM F S P T h i).1 Xv I H → va_S (AI a I) s.heap H locs → lv_has ls 4 [(3, .int (nI i)), (2, .int ((hrsM F S P T h i).2)), (0, .ref (a 20)), (1, .int (nI N))] → W p l e { frames := 6, cells := 0, slots := 0, locals := 141 } s m args below meth c H locs (0) (0) (MQ below (QqI D cA a I (fun r S1 X1 => X1 87 0 = kd (true) (inB (nI N) 1 100) (true) 9 1 3 ∧ (kd (true) (inB (nI N) 1 100) (true) 9 1 3 = 0 → r = (hrsM F S P T h (nv (nI N))).2 ∧ S1 = (hrsM F S P T h (nv (nI N))).1) ∧ (¬ kd (true) (inB (nI N) 1 100) (true) 9 1 3 = 0 → S1 = S))) args s 0 0 (AI a I)) (F0 m 25 ls []) := by
      intro n
      induction n with
      | zero => intro i Xv hi hf hX0; exfalso; omega
      | succ n ih25 =>
        intro i Xv hi hf hX0 H locs ls hP hS hl
        refine lv_iload_n C0.1 C0.2.1 dX9_pass_25 rfl (lv_at hl 0 rfl) ?_
        refine lv_iload_n C0.1 C0.2.1 dX9_pass_26 rfl (lv_at hl 3 rfl) ?_
        refine lv_icmp_ge (tgt := 43) C0.1 C0.2.1 dX9_pass_27 (by decide) (fun c_27 => ?_) (fun c_27 => ?_)
        · have hge : N ≤ i := (nI_leI (by omega) (by omega)).mp c_27
          refine lv_iload_n C0.1 C0.2.1 dX9_pass_43 rfl (lv_at hl 1 rfl) ?_
          exact rtI C0 hr hlk hP hS (pok (kd_0 rfl (by simp only [hc_12, Bool.and_true, Bool.true_and, Bool.and_false, Bool.false_and, Bool.and_self]) rfl) hX0 (⟨by rw [nv_nI (by omega), show i = N by omega], by rw [nv_nI (by omega), show i = N by omega]⟩)) dX9_pass_44
        · have hlt : i < N := Nat.not_le.mp fun q => c_27 (nI_le q (by omega))
          refine lv_iload_n C0.1 C0.2.1 dX9_pass_30 rfl (lv_at hl 1 rfl) ?_
          refine lv_aload_n C0.1 C0.2.1 dX9_pass_31 rfl (lv_at hl 2 rfl) ?_
          refine k_X9_hourOn hd sId C0 hK hP ((congrFun ((hrsM_sta F S P T h i) 82 (by omega)) 0).trans hnP) ((congrFun ((hrsM_sta F S P T h i) 81 (by omega)) 0).trans hnL) ((congrFun ((hrsM_sta F S P T h i) 85 (by omega)) 0).trans hnT) hT30 (h := h + i) (hrsM_86 hnH i) (by omega) (hrsM_TW hTW i) (hTl.sta (hrsM_sta F S P T h i)) (hFW.sta (hrsM_sta F S P T h i)) (hWi.sta (hrsM_sta F S P T h i)) hS hA hl.1 ml_X9_168 ⟨Nat.le_of_ble_eq_true rfl, Nat.le_of_ble_eq_true rfl⟩ ⟨Nat.zero_le _, Nat.zero_le _⟩ (Nat.le_of_ble_eq_true rfl) dX9_pass_32 (fun v_4 S_2 X_3 H locs hx_1 hP hS => ?_)
          obtain ⟨hrv, hs1, hXk⟩ := hx_1
          rw [hs1] at hP
          subst hrv
          have hP : WQ D cA a (hrsM F S P T h (i + 1)).1 X_3 I H := hP
          refine lv_iadd C0.1 C0.2.1 dX9_pass_35 ?_
          refine lv_istore_n (lv' := [(2, .int (((hrsM F S P T h i).2) + (cameM F (hrsM F S P T h i).1 P T (h + i)))), (3, .int (nI i)), (0, .ref (a 20)), (1, .int (nI N))]) C0.1 C0.2.1 dX9_pass_36 rfl hl (by decide) rfl (fun ls hl => ?_)
          refine lv_iinc (v := nI (i + 1)) (lv' := [(3, .int (nI (i + 1))), (2, .int (((hrsM F S P T h i).2) + (cameM F (hrsM F S P T h i).1 P T (h + i)))), (0, .ref (a 20)), (1, .int (nI N))]) C0.1 C0.2.1 dX9_pass_37 hl (k := 1) rfl (nI_1 _) (by decide) rfl (fun ls hl => ?_)
          refine lv_goto (tgt := 25) C0.1 C0.2.1 dX9_pass_40 (by decide) ?_
          exact ih25 (i + 1) _ (by omega) (by omega) ((congrFun (hXk 87 (by decide) (by decide) (by decide)) 0).trans hX0) _ _ _ hP hS (lv_sub hl [0, 1, 2, 3] rfl)
    have hP : WQ D cA a (hrsM F S P T h 0).1 (up X 87 (fun _ => 0)) I H := hP
    exact loop25 (N + 1) 0 _ (by omega) (by omega) rfl _ _ _ hP hS (lv_sub hl [0, 1, 2, 3] rfl)
  · have c_12 := bI_eq c_12
    have hc_12 : inB x 1 100 = false := ((rfl : (decide (1 ≤ x) && decide (x ≤ 100)) = inB x 1 100)).symm.trans c_12
    refine lv_aload_n C0.1 C0.2.1 dX9_pass_15 rfl (lv_at hl 0 rfl) ?_
    refine lv_iconst (v := 1) C0.1 C0.2.1 dX9_pass_16 (by decide) ?_
    refine k_X9_fail hd sId C0 hK hP  (v := 0) rfl hS hA hl.1 ml_X9_73 ⟨Nat.le_of_ble_eq_true rfl, Nat.le_of_ble_eq_true rfl⟩ ⟨Nat.zero_le _, Nat.zero_le _⟩ (Nat.le_of_ble_eq_true rfl) dX9_pass_17 (fun H locs hP hS => ?_)
    have hP : WQ D cA a S (up X 87 (fun _ => 1)) I H := WQ.congr (show WQ D cA a S (up (up X 87 (fun _ => 0)) 87 (fun _ => 1)) I H from hP) (fun _ => rfl) (fun k => by
        by_cases h_87 : k = 87
        · subst h_87; rfl
        simp only [up, h_87, if_false])
    exact rtI C0 hr hlk hP hS (pfail (kd_2 rfl (by simp only [hc_12, Bool.and_true, Bool.true_and, Bool.and_false, Bool.false_and, Bool.and_self])) rfl (by decide) rfl) dX9_pass_20
theorem k_X9_pass {n : List Nat} (hd : Hd n a I) (hsub : ∀ k ∈ nM, k ∈ n) (C0 : CallFix p m c cc nL s args GW own) (hK : KK D cA s) (hP : WQ D cA a S X I H) {x : Int32} {P : Nat} {L : Nat} {T : Nat} {h : Nat} {F : Int32 → Int32 → Int32} (hnP : S 82 0 = nI P) (hnL : S 81 0 = nI L) (hnT : S 85 0 = nI T) (hT30 : T ≤ 30) (hnH : S 86 0 = nI h) (hhp : h + 100 < 2 ^ 31) (hTW : TW S P L) (hTl : TlW S P) (hFW : FW F S P L) (hWi : WiW S L T) (hS : va_S A0 H0 H locs) (hA : ∀ q, AI a I q → A0 q) (hls : ls.size = nL) {idx : Nat} (hlink : Cond.methodLink own idx yX9_pass ∈ GW) (hR : 7 ≤ R.frames ∧ 164 ≤ R.locals) (hcs : cells ≤ R.cells ∧ slots ≤ R.slots) (hrest : (rest.map fun v => v.category).sum ≤ 8) (hdg : decode cc pc = .ok (.invokevirtual idx, 3)) (kk : ∀ (v : Int32) (S1 X1 : Mem) (H1 : Heap) (locs1 : List Loc), (fun r S1 X1 => X1 87 0 = kd (true) (inB x 1 100) (true) 9 1 3 ∧ (kd (true) (inB x 1 100) (true) 9 1 3 = 0 → r = (hrsM F S P T h (nv x)).2 ∧ S1 = (hrsM F S P T h (nv x)).1) ∧ (¬ kd (true) (inB x 1 100) (true) 9 1 3 = 0 → S1 = S)) v S1 X1 → WQ D cA a S1 X1 I H1 → va_S A0 H0 H1 locs1 → W p l e R s m args below meth c H1 locs1 cells slots Q (F0 m (pc + 3) ls (.int v :: rest))) : W p l e R s m args below meth c H locs cells slots Q (F0 m pc ls (.int x :: .ref (a 20) :: rest)) := by
  exact hoI (qV (n := 1) (c_X9_pass l D cA a S X I (hd.sub hsub) x hnP hnL hnT hT30 hnH hhp hTW hTl hFW hWi) C0 hlink im_X9_pass se_X9_pass in_X9 co_X9_pass ⟨rfl, by decide⟩ hR hK hP (hd.1 _ (hsub _ (by decide))) rfl rfl rfl hls hrest rfl hdg hcs) hS hA kk
end CLS
