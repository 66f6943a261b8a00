def rg (f : Nat → Int32) (n : Nat) (i : Int32) : Int32 := if i < 0 ∨ n ≤ i.toNatClampNeg then 0 else f i.toNatClampNeg
def us (f : Nat → Int32) (n : Nat) (i x : Int32) : Nat → Int32 := if i < 0 ∨ n ≤ i.toNatClampNeg then f else upd f i.toNatClampNeg x
def fl (f : Nat → Int32) (n : Nat) (v : Int32) : Nat → Int32 := fun j => if j < n then v else f j
def tk (f g : Nat → Int32) (n : Nat) : Nat → Int32 := fun j => if j < n then g j else f j
def cnt (P : Nat → Bool) : Nat → Nat
  | 0 => 0
  | n + 1 => cnt P n + (if P n = true then 1 else 0)
theorem cnt_le (P : Nat → Bool) (n : Nat) : cnt P n ≤ n := by
  induction n with
  | zero => exact Nat.le_refl _
  | succ n ih => unfold cnt; split <;> omega
theorem ln_lt (k : Nat) : ln k < 2 ^ 31 := by unfold ln; split <;> decide
theorem ix_hi {i : Int32} {n : Nat} (h0 : ¬ i < 0) (hn : n < 2 ^ 31) (h : nI n ≤ i) : n ≤ i.toNatClampNeg := by
  obtain ⟨j, hj, rfl⟩ := nI_of h0
  rw [nI_clamp hj]
  exact (nI_leI hn hj).mp h
theorem ix_lo {i : Int32} {n : Nat} (h0 : ¬ i < 0) (hn : n < 2 ^ 31) (h : ¬ nI n ≤ i) : ¬ n ≤ i.toNatClampNeg := by
  obtain ⟨j, hj, rfl⟩ := nI_of h0
  rw [nI_clamp hj]
  exact fun q => h ((nI_leI hn hj).mpr q)
theorem rg_lo {f : Nat → Int32} {n : Nat} {i : Int32} (h : i < 0) : rg f n i = 0 := if_pos (Or.inl h)
theorem rg_hi {f : Nat → Int32} {n : Nat} {i : Int32} (h0 : ¬ i < 0) (hn : n < 2 ^ 31) (h : nI n ≤ i) : rg f n i = 0 := if_pos (Or.inr (ix_hi h0 hn h))
theorem rg_in {f : Nat → Int32} {n : Nat} {i : Int32} (h : vp_in i n) : rg f n i = f i.toNatClampNeg := if_neg h
theorem us_lo {f : Nat → Int32} {n : Nat} {i x : Int32} (h : i < 0) : us f n i x = f := if_pos (Or.inl h)
theorem us_hi {f : Nat → Int32} {n : Nat} {i x : Int32} (h0 : ¬ i < 0) (hn : n < 2 ^ 31) (h : nI n ≤ i) : us f n i x = f := if_pos (Or.inr (ix_hi h0 hn h))
theorem us_in {f : Nat → Int32} {n : Nat} {i x : Int32} (h : vp_in i n) : us f n i x = upd f i.toNatClampNeg x := if_neg h
theorem rg_nI {f : Nat → Int32} {n j : Nat} (h : j < n) (hn : n < 2 ^ 31) : rg f n (nI j) = f j := by rw [rg_in (vp_in_nI h hn), nI_clamp (by omega)]
theorem us_nI {f : Nat → Int32} {n j : Nat} {x : Int32} (h : j < n) (hn : n < 2 ^ 31) : us f n (nI j) x = upd f j x := by rw [us_in (vp_in_nI h hn), nI_clamp (by omega)]
theorem up_self (S : Mem) (k : Nat) : up S k (S k) = S := by funext j; by_cases h : j = k <;> simp [up, h]
theorem wS_me (S X : Mem) (k : Nat) : wS S k (me S X k) = S := by unfold wS me; cases inX k <;> simp [up_self]
theorem wX_me (S X : Mem) (k : Nat) : wX X k (me S X k) = X := by unfold wX me; cases inX k <;> simp [up_self]
theorem up_up (S : Mem) (k : Nat) (f g : Nat → Int32) : up (up S k f) k g = up S k g := by funext j; by_cases h : j = k <;> simp [up, h]
theorem wS_wS (S : Mem) (k : Nat) (f g : Nat → Int32) : wS (wS S k f) k g = wS S k g := by unfold wS; cases inX k <;> simp [up_up]
theorem wX_wX (X : Mem) (k : Nat) (f g : Nat → Int32) : wX (wX X k f) k g = wX X k g := by unfold wX; cases inX k <;> simp [up_up]

section ROW
variable {p : Program} {l : Launch} {e : Env} {R : Room} {s : State} {m : MethodId} {args : Array Value} {below : List Frame} {meth : Method} {c : Code} {H : Heap} {locs : List Loc} {cells slots : Nat} {Q : State → Prop}
variable {cc : ByteArray} {nL : Nat} {own : String} {pc : Nat} {ls : Array Slot} {rest : List Value} {D : va_G} {cA : ClassId} {a : Adr} {S X : Mem} {I : Nat → Prop} {H0 : Heap} {A0 : Nat → Prop}
set_option maxHeartbeats 4000000 in
set_option maxRecDepth 100000 in
theorem c_X5_get (l : Launch) (D : va_G) (cA : ClassId) (a : Adr) (S X : Mem) (I : Nat → Prop) (k : Nat) (hk : k < 34) (hd : Hd [k, 40 + k] a I) (i : Int32) : MI l yX5_get cX5_get 2 (some .int) 0 0 D cA a S X I [.ref (a (40 + k)), .int i] (fun r S1 X1 => r = rg (me S X k) (ln k) i ∧ S1 = S ∧ X1 = X) := by
  refine mGo (by decide) (Nat.le_of_ble_eq_true rfl) ?_
  intro p e s m args below meth c ls C0 hr hlk hK hP hS hl hargs
  have hA : ∀ q, AI a I q → AI a I q := fun _ h => h
  refine lv_iload_n C0.1 C0.2.1 dX5_get_0 rfl (lv_at hl 1 rfl) ?_
  refine lv_if_lt (tgt := 22) C0.1 C0.2.1 dX5_get_1 (by decide) (fun c_1 => ?_) (fun c_1 => ?_)
  · refine lv_iconst (v := 0) C0.1 C0.2.1 dX5_get_22 (by decide) ?_
    exact retI C0 hr hlk hP hS ⟨(rg_lo c_1).symm, rfl, rfl⟩ dX5_get_23
  · refine lv_iload_n C0.1 C0.2.1 dX5_get_4 rfl (lv_at hl 1 rfl) ?_
    refine lv_aload_n C0.1 C0.2.1 dX5_get_5 rfl (lv_at hl 0 rfl) ?_
    refine gRow hk C0 hK hP (hd.1 _ (by simp)) fl_X5_7 dX5_get_6 ?_
    refine arrLen hk C0 hK hP (hd.1 _ (by simp)) dX5_get_9 ?_
    refine lv_icmp_ge (tgt := 22) C0.1 C0.2.1 dX5_get_10 (by decide) (fun c_10 => ?_) (fun c_10 => ?_)
    · refine lv_iconst (v := 0) C0.1 C0.2.1 dX5_get_22 (by decide) ?_
      exact retI C0 hr hlk hP hS ⟨(rg_hi c_1 (ln_lt k) c_10).symm, rfl, rfl⟩ dX5_get_23
    · have hin : vp_in i (ln k) := fun q => q.elim c_1 (ix_lo c_1 (ln_lt k) c_10)
      refine lv_aload_n C0.1 C0.2.1 dX5_get_13 rfl (lv_at hl 0 rfl) ?_
      refine gRow hk C0 hK hP (hd.1 _ (by simp)) fl_X5_7 dX5_get_14 ?_
      refine lv_iload_n C0.1 C0.2.1 dX5_get_17 rfl (lv_at hl 1 rfl) ?_
      refine arrLd hk C0 hK hP (hd.1 _ (by simp)) hin dX5_get_18 ?_
      refine lv_goto (tgt := 23) C0.1 C0.2.1 dX5_get_19 (by decide) ?_
      exact retI C0 hr hlk hP hS ⟨(rg_in hin).symm, rfl, rfl⟩ dX5_get_23

theorem k_X5_get {n : List Nat} (k : Nat) (hk : k < 34) (hd : Hd n a I) (h1 : k ∈ n) (h2 : 40 + k ∈ n) {i : Int32}  (C0 : CallFix p m c cc nL s args GW own) (hK : KK D cA s) (hP : WP D cA a S X I H) {v : Int32} (hv : rg (me S X k) (ln k) i = v) (hS : va_S A0 H0 H locs) (hA : ∀ q, AI a I q → A0 q) (hls : ls.size = nL) {idx : Nat} (hlink : Cond.methodLink own idx yX5_get ∈ GW) (hR : 1 ≤ R.frames ∧ 21 ≤ R.locals) (hcs : cells ≤ R.cells ∧ slots ≤ R.slots) (hrest : (rest.map fun v => v.category).sum ≤ 8) (hdg : decode cc pc = .ok (.invokevirtual idx, 3)) (kk : ∀ (H1 : Heap) (locs1 : List Loc), WP D cA a S X I H1 → va_S A0 H0 H1 locs1 → W p l e R s m args below meth c H1 locs1 cells slots Q (F0 m (pc + 3) ls (.int v :: rest))) : W p l e R s m args below meth c H locs cells slots Q (F0 m pc ls (.int i :: .ref (a (40 + k)) :: rest)) := by
  subst hv
  exact goI (rV (n := 1) (c_X5_get l D cA a S X I k hk (hd.sub (by simp [h1, h2])) i) C0 hlink im_X5_get se_X5_get in_X5 co_X5_get ⟨rfl, by decide⟩ hR hK hP (hd.1 _ h2) (ct_row cA a S X hk) rfl rfl hls hrest rfl hdg hcs) hS hA (fun r S1 X1 H1 locs1 hp hP1 hS1 => by obtain ⟨rfl, rfl, rfl⟩ := hp; exact kk H1 locs1 hP1 hS1)

set_option maxHeartbeats 4000000 in
set_option maxRecDepth 100000 in
theorem c_X5_set (l : Launch) (D : va_G) (cA : ClassId) (a : Adr) (S X : Mem) (I : Nat → Prop) (k : Nat) (hk : k < 34) (hd : Hd [k, 40 + k] a I) (i x : Int32) : MV l yX5_set cX5_set 3 none 0 0 D cA a S X I [.ref (a (40 + k)), .int i, .int x] (fun S1 X1 => S1 = (wS S k (us (me S X k) (ln k) i x)) ∧ X1 = (wX X k (us (me S X k) (ln k) i x))) := by
  refine mGo (by decide) (Nat.le_of_ble_eq_true rfl) ?_
  intro p e s m args below meth c ls C0 hr hlk hK hP hS hl hargs
  have hA : ∀ q, AI a I q → AI a I q := fun _ h => h
  refine lv_iload_n C0.1 C0.2.1 dX5_set_0 rfl (lv_at hl 1 rfl) ?_
  refine lv_if_lt (tgt := 20) C0.1 C0.2.1 dX5_set_1 (by decide) (fun c_1 => ?_) (fun c_1 => ?_)
  · exact retV C0 hr hlk hP hS ⟨by rw [us_lo c_1, wS_me], by rw [us_lo c_1, wX_me]⟩ dX5_set_20
  · refine lv_iload_n C0.1 C0.2.1 dX5_set_4 rfl (lv_at hl 1 rfl) ?_
    refine lv_aload_n C0.1 C0.2.1 dX5_set_5 rfl (lv_at hl 0 rfl) ?_
    refine gRow hk C0 hK hP (hd.1 _ (by simp)) fl_X5_7 dX5_set_6 ?_
    refine arrLen hk C0 hK hP (hd.1 _ (by simp)) dX5_set_9 ?_
    refine lv_icmp_ge (tgt := 20) C0.1 C0.2.1 dX5_set_10 (by decide) (fun c_10 => ?_) (fun c_10 => ?_)
    · exact retV C0 hr hlk hP hS ⟨by rw [us_hi c_1 (ln_lt k) c_10, wS_me], by rw [us_hi c_1 (ln_lt k) c_10, wX_me]⟩ dX5_set_20
    · have hin : vp_in i (ln k) := fun q => q.elim c_1 (ix_lo c_1 (ln_lt k) c_10)
      refine lv_aload_n C0.1 C0.2.1 dX5_set_13 rfl (lv_at hl 0 rfl) ?_
      refine gRow hk C0 hK hP (hd.1 _ (by simp)) fl_X5_7 dX5_set_14 ?_
      refine lv_iload_n C0.1 C0.2.1 dX5_set_17 rfl (lv_at hl 1 rfl) ?_
      refine lv_iload_n C0.1 C0.2.1 dX5_set_18 rfl (lv_at hl 2 rfl) ?_
      refine ast hk C0 hK hP hS hA (hd.1 _ (by simp)) hd.2.2 hin dX5_set_19 (fun H locs hP hS => ?_)
      exact retV C0 hr hlk hP hS ⟨by rw [us_in hin], by rw [us_in hin]⟩ dX5_set_20

theorem k_X5_set {n : List Nat} (k : Nat) (hk : k < 34) (hd : Hd n a I) (h1 : k ∈ n) (h2 : 40 + k ∈ n) {i x : Int32}  (C0 : CallFix p m c cc nL s args GW own) (hK : KK D cA s) (hP : WP D cA a S X I H) (hS : va_S A0 H0 H locs) (hA : ∀ q, AI a I q → A0 q) (hls : ls.size = nL) {idx : Nat} (hlink : Cond.methodLink own idx yX5_set ∈ GW) (hR : 1 ≤ R.frames ∧ 22 ≤ R.locals) (hcs : cells ≤ R.cells ∧ slots ≤ R.slots) (hrest : (rest.map fun v => v.category).sum ≤ 8) (hdg : decode cc pc = .ok (.invokevirtual idx, 3)) (kk : ∀ (H1 : Heap) (locs1 : List Loc), WP D cA a (wS S k (us (me S X k) (ln k) i x)) (wX X k (us (me S X k) (ln k) i x)) I H1 → va_S A0 H0 H1 locs1 → W p l e R s m args below meth c H1 locs1 cells slots Q (F0 m (pc + 3) ls rest)) : W p l e R s m args below meth c H locs cells slots Q (F0 m pc ls (.int x :: .int i :: .ref (a (40 + k)) :: rest)) := by
  exact goV (rV (n := 2) (c_X5_set l D cA a S X I k hk (hd.sub (by simp [h1, h2])) i x) C0 hlink im_X5_set se_X5_set in_X5 co_X5_set ⟨rfl, by decide⟩ hR hK hP (hd.1 _ h2) (ct_row cA a S X hk) rfl rfl hls hrest rfl hdg hcs) hS hA (fun S1 X1 H1 locs1 hp hP1 hS1 => by obtain ⟨rfl, rfl⟩ := hp; exact kk H1 locs1 hP1 hS1)

set_option maxHeartbeats 4000000 in
set_option maxRecDepth 100000 in
theorem c_X5_put (l : Launch) (D : va_G) (cA : ClassId) (a : Adr) (S X : Mem) (I : Nat → Prop) (k : Nat) (hk : k < 34) (hd : Hd [k, 40 + k] a I) (i x : Int32) : MI l yX5_put cX5_put 4 (some .int) 1 22 D cA a S X I [.ref (a (40 + k)), .int i, .int x] (fun r S1 X1 => r = rg (me S X k) (ln k) i ∧ S1 = (wS S k (us (me S X k) (ln k) i x)) ∧ X1 = (wX X k (us (me S X k) (ln k) i x))) := by
  refine mGo (by decide) (Nat.le_of_ble_eq_true rfl) ?_
  intro p e s m args below meth c ls C0 hr hlk hK hP hS hl hargs
  have hA : ∀ q, AI a I q → AI a I q := fun _ h => h
  refine lv_aload_n C0.1 C0.2.1 dX5_put_0 rfl (lv_at hl 0 rfl) ?_
  refine lv_iload_n C0.1 C0.2.1 dX5_put_1 rfl (lv_at hl 1 rfl) ?_
  refine k_X5_get (v := rg (me S X k) (ln k) i) k hk hd (by simp) (by simp) C0 hK hP rfl hS hA hl.1 ml_X5_13 ⟨Nat.le_of_ble_eq_true rfl, Nat.le_of_ble_eq_true rfl⟩ ⟨Nat.zero_le _, Nat.zero_le _⟩ (Nat.le_of_ble_eq_true rfl) dX5_put_2 (fun H locs hP hS => ?_)
  refine lv_istore_n (lv' := [(3, .int (rg (me S X k) (ln k) i)), (0, .ref (a (40 + k))), (1, .int i), (2, .int x)]) C0.1 C0.2.1 dX5_put_5 rfl hl (by decide) rfl (fun ls hl => ?_)
  refine lv_aload_n C0.1 C0.2.1 dX5_put_6 rfl (lv_at hl 1 rfl) ?_
  refine lv_iload_n C0.1 C0.2.1 dX5_put_7 rfl (lv_at hl 2 rfl) ?_
  refine lv_iload_n C0.1 C0.2.1 dX5_put_8 rfl (lv_at hl 3 rfl) ?_
  refine k_X5_set k hk hd (by simp) (by simp) C0 hK hP hS hA hl.1 ml_X5_17 ⟨Nat.le_of_ble_eq_true rfl, Nat.le_of_ble_eq_true rfl⟩ ⟨Nat.zero_le _, Nat.zero_le _⟩ (Nat.le_of_ble_eq_true rfl) dX5_put_9 (fun H locs hP hS => ?_)
  refine lv_iload_n C0.1 C0.2.1 dX5_put_12 rfl (lv_at hl 0 rfl) ?_
  exact retI C0 hr hlk hP hS ⟨rfl, rfl, rfl⟩ dX5_put_13

theorem k_X5_put {n : List Nat} (k : Nat) (hk : k < 34) (hd : Hd n a I) (h1 : k ∈ n) (h2 : 40 + k ∈ n) {i x : Int32}  (C0 : CallFix p m c cc nL s args GW own) (hK : KK D cA s) (hP : WP D cA a S X I H) {v : Int32} (hv : rg (me S X k) (ln k) i = v) (hS : va_S A0 H0 H locs) (hA : ∀ q, AI a I q → A0 q) (hls : ls.size = nL) {idx : Nat} (hlink : Cond.methodLink own idx yX5_put ∈ GW) (hR : 2 ≤ R.frames ∧ 45 ≤ R.locals) (hcs : cells ≤ R.cells ∧ slots ≤ R.slots) (hrest : (rest.map fun v => v.category).sum ≤ 8) (hdg : decode cc pc = .ok (.invokevirtual idx, 3)) (kk : ∀ (H1 : Heap) (locs1 : List Loc), WP D cA a (wS S k (us (me S X k) (ln k) i x)) (wX X k (us (me S X k) (ln k) i x)) I H1 → va_S A0 H0 H1 locs1 → W p l e R s m args below meth c H1 locs1 cells slots Q (F0 m (pc + 3) ls (.int v :: rest))) : W p l e R s m args below meth c H locs cells slots Q (F0 m pc ls (.int x :: .int i :: .ref (a (40 + k)) :: rest)) := by
  subst hv
  exact goI (rV (n := 2) (c_X5_put l D cA a S X I k hk (hd.sub (by simp [h1, h2])) i x) C0 hlink im_X5_put se_X5_put in_X5 co_X5_put ⟨rfl, by decide⟩ hR hK hP (hd.1 _ h2) (ct_row cA a S X hk) rfl rfl hls hrest rfl hdg hcs) hS hA (fun r S1 X1 H1 locs1 hp hP1 hS1 => by obtain ⟨rfl, rfl, rfl⟩ := hp; exact kk H1 locs1 hP1 hS1)

set_option maxHeartbeats 4000000 in
set_option maxRecDepth 100000 in
theorem c_X5_add (l : Launch) (D : va_G) (cA : ClassId) (a : Adr) (S X : Mem) (I : Nat → Prop) (k : Nat) (hk : k < 34) (hd : Hd [k, 40 + k] a I) (i x : Int32) : MV l yX5_add cX5_add 3 none 1 22 D cA a S X I [.ref (a (40 + k)), .int i, .int x] (fun S1 X1 => S1 = (wS S k (us (me S X k) (ln k) i (rg (me S X k) (ln k) i + x))) ∧ X1 = (wX X k (us (me S X k) (ln k) i (rg (me S X k) (ln k) i + x)))) := by
  refine mGo (by decide) (Nat.le_of_ble_eq_true rfl) ?_
  intro p e s m args below meth c ls C0 hr hlk hK hP hS hl hargs
  have hA : ∀ q, AI a I q → AI a I q := fun _ h => h
  refine lv_aload_n C0.1 C0.2.1 dX5_add_0 rfl (lv_at hl 0 rfl) ?_
  refine lv_iload_n C0.1 C0.2.1 dX5_add_1 rfl (lv_at hl 1 rfl) ?_
  refine lv_aload_n C0.1 C0.2.1 dX5_add_2 rfl (lv_at hl 0 rfl) ?_
  refine lv_iload_n C0.1 C0.2.1 dX5_add_3 rfl (lv_at hl 1 rfl) ?_
  refine k_X5_get (v := rg (me S X k) (ln k) i) k hk hd (by simp) (by simp) C0 hK hP rfl hS hA hl.1 ml_X5_13 ⟨Nat.le_of_ble_eq_true rfl, Nat.le_of_ble_eq_true rfl⟩ ⟨Nat.zero_le _, Nat.zero_le _⟩ (Nat.le_of_ble_eq_true rfl) dX5_add_4 (fun H locs hP hS => ?_)
  refine lv_iload_n C0.1 C0.2.1 dX5_add_7 rfl (lv_at hl 2 rfl) ?_
  refine lv_iadd C0.1 C0.2.1 dX5_add_8 ?_
  refine k_X5_set k hk hd (by simp) (by simp) C0 hK hP hS hA hl.1 ml_X5_17 ⟨Nat.le_of_ble_eq_true rfl, Nat.le_of_ble_eq_true rfl⟩ ⟨Nat.zero_le _, Nat.zero_le _⟩ (Nat.le_of_ble_eq_true rfl) dX5_add_9 (fun H locs hP hS => ?_)
  exact retV C0 hr hlk hP hS ⟨rfl, rfl⟩ dX5_add_12

theorem k_X5_add {n : List Nat} (k : Nat) (hk : k < 34) (hd : Hd n a I) (h1 : k ∈ n) (h2 : 40 + k ∈ n) {i x : Int32}  (C0 : CallFix p m c cc nL s args GW own) (hK : KK D cA s) (hP : WP D cA a S X I H) (hS : va_S A0 H0 H locs) (hA : ∀ q, AI a I q → A0 q) (hls : ls.size = nL) {idx : Nat} (hlink : Cond.methodLink own idx yX5_add ∈ GW) (hR : 2 ≤ R.frames ∧ 44 ≤ R.locals) (hcs : cells ≤ R.cells ∧ slots ≤ R.slots) (hrest : (rest.map fun v => v.category).sum ≤ 8) (hdg : decode cc pc = .ok (.invokevirtual idx, 3)) (kk : ∀ (H1 : Heap) (locs1 : List Loc), WP D cA a (wS S k (us (me S X k) (ln k) i (rg (me S X k) (ln k) i + x))) (wX X k (us (me S X k) (ln k) i (rg (me S X k) (ln k) i + x))) I H1 → va_S A0 H0 H1 locs1 → W p l e R s m args below meth c H1 locs1 cells slots Q (F0 m (pc + 3) ls rest)) : W p l e R s m args below meth c H locs cells slots Q (F0 m pc ls (.int x :: .int i :: .ref (a (40 + k)) :: rest)) := by
  exact goV (rV (n := 2) (c_X5_add l D cA a S X I k hk (hd.sub (by simp [h1, h2])) i x) C0 hlink im_X5_add se_X5_add in_X5 co_X5_add ⟨rfl, by decide⟩ hR hK hP (hd.1 _ h2) (ct_row cA a S X hk) rfl rfl hls hrest rfl hdg hcs) hS hA (fun S1 X1 H1 locs1 hp hP1 hS1 => by obtain ⟨rfl, rfl⟩ := hp; exact kk H1 locs1 hP1 hS1)

theorem fl_zero (f : Nat → Int32) (v : Int32) : fl f 0 v = f := by funext j; simp [fl]
theorem fl_succ (f : Nat → Int32) (i : Nat) (v : Int32) : upd (fl f i v) i v = fl f (i + 1) v := by
  funext j
  unfold upd fl
  by_cases h : j = i
  · subst h; simp
  · by_cases h2 : j < i
    · simp [h, h2, show j < i + 1 by omega]
    · simp [h, h2, show ¬ j < i + 1 by omega]
theorem tk_zero (f g : Nat → Int32) : tk f g 0 = f := by funext j; simp [tk]
theorem tk_succ (f g : Nat → Int32) (i : Nat) : upd (tk f g i) i (g i) = tk f g (i + 1) := by
  funext j
  unfold upd tk
  by_cases h : j = i
  · subst h; simp
  · by_cases h2 : j < i
    · simp [h, h2, show j < i + 1 by omega]
    · simp [h, h2, show ¬ j < i + 1 by omega]

set_option maxHeartbeats 4000000 in
set_option maxRecDepth 100000 in
theorem c_J7_fill_53178 (l : Launch) (D : va_G) (cA : ClassId) (a : Adr) (S X : Mem) (I : Nat → Prop) (k : Nat) (hk : k < 34) (hd : Hd [k] a I) (v : Int32) : MV l yJ7_fill_53178 cJ7_fill_53178 4 none 0 0 D cA a S X I [.ref (a k), .int v] (fun S1 X1 => S1 = (wS S k (fl (me S X k) (ln k) v)) ∧ X1 = (wX X k (fl (me S X k) (ln k) v))) := by
  refine mGo (by decide) (Nat.le_of_ble_eq_true rfl) ?_
  intro p e s m args below meth c ls C0 hr hlk hK hP hS hl hargs
  have hA : ∀ q, AI a I q → AI a I q := fun _ h => h
  obtain ⟨H, hHe⟩ : ∃ H, H = s.heap := ⟨_, rfl⟩
  obtain ⟨locs, hlo⟩ : ∃ L : List Loc, L = [] := ⟨_, rfl⟩
  have hP : WP D cA a S X I H := hHe ▸ hP
  have hS : va_S (AI a I) s.heap H locs := by rw [hHe, hlo]; exact hS
  rw [← hHe, ← hlo]
  have hn := ln_lt k
  refine lv_iconst (v := 0) C0.1 C0.2.1 dJ7_fill_53178_0 (by decide) ?_
  refine lv_istore_n (lv' := [(2, .int 0), (0, .ref (a k)), (1, .int v)]) C0.1 C0.2.1 dJ7_fill_53178_1 rfl hl (by decide) rfl (fun ls hl => ?_)
  refine lv_aload_n C0.1 C0.2.1 dJ7_fill_53178_2 rfl (lv_at hl 1 rfl) ?_
  refine arrLen hk C0 hK hP (hd.1 _ (by simp)) dJ7_fill_53178_3 ?_
  refine lv_istore_n (lv' := [(3, .int (nI (ln k))), (2, .int 0), (0, .ref (a k)), (1, .int v)]) C0.1 C0.2.1 dJ7_fill_53178_4 rfl hl (by decide) rfl (fun ls hl => ?_)
  have loop5 : ∀ (n : Nat) (i : Nat), (i ≤ ln k) → (ln k + 1 ≤ i + n) → ∀ (H : Heap) (locs : List Loc) (ls : Array Slot), WP D cA a (wS S k (fl (me S X k) i v)) (wX X k (fl (me S X k) i v)) I H → va_S (AI a I) s.heap H locs → lv_has ls 4 [(2, .int (nI i)), (3, .int (nI (ln k))), (0, .ref (a k)), (1, .int v)] → W p l e { frames := 0, cells := 0, slots := 0, locals := 0 } s m args below meth c H locs (0) (0) (MQ below (QpV D cA a I (fun S1 X1 => S1 = (wS S k (fl (me S X k) (ln k) v)) ∧ X1 = (wX X k (fl (me S X k) (ln k) v)))) args s 0 0 (AI a I)) (F0 m 5 ls []) := by
    intro n
    induction n with
    | zero => intro i hi hf; exfalso; omega
    | succ n ih5 =>
      intro i hi hf H locs ls hP hS hl
      refine lv_iload_n C0.1 C0.2.1 dJ7_fill_53178_5 rfl (lv_at hl 0 rfl) ?_
      refine lv_iload_n C0.1 C0.2.1 dJ7_fill_53178_6 rfl (lv_at hl 1 rfl) ?_
      refine lv_icmp_ge (tgt := 20) C0.1 C0.2.1 dJ7_fill_53178_7 (by decide) (fun c_7 => ?_) (fun c_7 => ?_)
      · have hge : ln k ≤ i := (nI_leI hn (by omega)).mp c_7
        exact retV C0 hr hlk hP hS ⟨by rw [show i = ln k by omega], by rw [show i = ln k by omega]⟩ dJ7_fill_53178_20
      · have hlt : i < ln k := Nat.not_le.mp fun q => c_7 (nI_le q (by omega))
        have hin : vp_in (nI i) (ln k) := vp_in_nI hlt hn
        refine lv_aload_n C0.1 C0.2.1 dJ7_fill_53178_10 rfl (lv_at hl 2 rfl) ?_
        refine lv_iload_n C0.1 C0.2.1 dJ7_fill_53178_11 rfl (lv_at hl 0 rfl) ?_
        refine lv_iload_n C0.1 C0.2.1 dJ7_fill_53178_12 rfl (lv_at hl 3 rfl) ?_
        refine ast hk C0 hK hP hS hA (hd.1 _ (by simp)) hd.2.2 hin dJ7_fill_53178_13 (fun H locs hP hS => ?_)
        refine lv_iinc (v := nI (i + 1)) (lv' := [(2, .int (nI (i + 1))), (3, .int (nI (ln k))), (0, .ref (a k)), (1, .int v)]) C0.1 C0.2.1 dJ7_fill_53178_14 hl (k := 0) rfl (nI_1 _) (by decide) rfl (fun ls hl => ?_)
        refine lv_goto (tgt := 5) C0.1 C0.2.1 dJ7_fill_53178_17 (by decide) ?_
        rw [me_eq, wS_wS, wX_wX, nI_clamp (by omega), fl_succ] at hP
        exact ih5 (i + 1) (by omega) (by omega) _ _ _ hP hS (lv_sub hl [0, 1, 2, 3] rfl)
  have hP : WP D cA a (wS S k (fl (me S X k) 0 v)) (wX X k (fl (me S X k) 0 v)) I H := by rw [fl_zero, wS_me, wX_me]; exact hP
  exact loop5 (ln k + 1) 0 (by omega) (by omega) _ _ _ hP hS (lv_sub hl [1, 0, 2, 3] rfl)

set_option maxHeartbeats 4000000 in
set_option maxRecDepth 100000 in
theorem c_X5_fill (l : Launch) (D : va_G) (cA : ClassId) (a : Adr) (S X : Mem) (I : Nat → Prop) (k : Nat) (hk : k < 34) (hd : Hd [k, 40 + k] a I) (v : Int32) : MV l yX5_fill cX5_fill 2 none 1 23 D cA a S X I [.ref (a (40 + k)), .int v] (fun S1 X1 => S1 = (wS S k (fl (me S X k) (ln k) v)) ∧ X1 = (wX X k (fl (me S X k) (ln k) v))) := by
  refine mGo (by decide) (Nat.le_of_ble_eq_true rfl) ?_
  intro p e s m args below meth c ls C0 hr hlk hK hP hS hl hargs
  have hA : ∀ q, AI a I q → AI a I q := fun _ h => h
  refine lv_aload_n C0.1 C0.2.1 dX5_fill_0 rfl (lv_at hl 0 rfl) ?_
  refine gRow hk C0 hK hP (hd.1 _ (by simp)) fl_X5_7 dX5_fill_1 ?_
  refine lv_iload_n C0.1 C0.2.1 dX5_fill_4 rfl (lv_at hl 1 rfl) ?_
  refine goV (rS (n := 2) (c_J7_fill_53178 l D cA a S X I k hk (hd.sub (by simp)) v) C0 ml_X5_21 sm_J7_fill_53178 in_J7 co_J7_fill_53178 (by decide) ⟨Nat.le_of_ble_eq_true rfl, Nat.le_of_ble_eq_true rfl⟩ hK hP rfl hl.1 (Nat.le_of_ble_eq_true rfl) rfl dX5_fill_5 ⟨Nat.zero_le _, Nat.zero_le _⟩) hS hA (fun S1 X1 H locs hp hP hS => ?_)
  obtain ⟨rfl, rfl⟩ := hp
  exact retV C0 hr hlk hP hS ⟨rfl, rfl⟩ dX5_fill_8

theorem k_X5_fill {n : List Nat} (k : Nat) (hk : k < 34) (hd : Hd n a I) (h1 : k ∈ n) (h2 : 40 + k ∈ n) {v : Int32}  (C0 : CallFix p m c cc nL s args GW own) (hK : KK D cA s) (hP : WP D cA a S X I H) (hS : va_S A0 H0 H locs) (hA : ∀ q, AI a I q → A0 q) (hls : ls.size = nL) {idx : Nat} (hlink : Cond.methodLink own idx yX5_fill ∈ GW) (hR : 2 ≤ R.frames ∧ 44 ≤ R.locals) (hcs : cells ≤ R.cells ∧ slots ≤ R.slots) (hrest : (rest.map fun v => v.category).sum ≤ 8) (hdg : decode cc pc = .ok (.invokevirtual idx, 3)) (kk : ∀ (H1 : Heap) (locs1 : List Loc), WP D cA a (wS S k (fl (me S X k) (ln k) v)) (wX X k (fl (me S X k) (ln k) v)) I H1 → va_S A0 H0 H1 locs1 → W p l e R s m args below meth c H1 locs1 cells slots Q (F0 m (pc + 3) ls rest)) : W p l e R s m args below meth c H locs cells slots Q (F0 m pc ls (.int v :: .ref (a (40 + k)) :: rest)) := by
  exact goV (rV (n := 1) (c_X5_fill l D cA a S X I k hk (hd.sub (by simp [h1, h2])) v) C0 hlink im_X5_fill se_X5_fill in_X5 co_X5_fill ⟨rfl, by decide⟩ hR hK hP (hd.1 _ h2) (ct_row cA a S X hk) rfl rfl hls hrest rfl hdg hcs) hS hA (fun S1 X1 H1 locs1 hp hP1 hS1 => by obtain ⟨rfl, rfl⟩ := hp; exact kk H1 locs1 hP1 hS1)

theorem cnt_yes {P : Nat → Bool} {i : Nat} (h : P i = true) : cnt P (i + 1) = cnt P i + 1 := by show cnt P i + _ = _; rw [if_pos h]
theorem cnt_no {P : Nat → Bool} {i : Nat} (h : ¬ P i = true) : cnt P (i + 1) = cnt P i := by show cnt P i + _ = _; rw [if_neg h]; rfl

set_option maxHeartbeats 4000000 in
set_option maxRecDepth 100000 in
theorem c_X5_howMany (l : Launch) (D : va_G) (cA : ClassId) (a : Adr) (S X : Mem) (I : Nat → Prop) (k : Nat) (hk : k < 34) (hd : Hd [k, 40 + k] a I) (v : Int32) (q : Nat) (hq : q ≤ ln k) : MI l yX5_howMany cX5_howMany 5 (some .int) 0 0 D cA a S X I [.ref (a (40 + k)), .int v, .int (nI q)] (fun r S1 X1 => r = nI (cnt (fun j => decide (me S X k j = v)) q) ∧ S1 = S ∧ X1 = X) := by
  refine mGo (by decide) (Nat.le_of_ble_eq_true rfl) ?_
  intro p e s m args below meth c ls C0 hr hlk hK hP hS hl hargs
  have hA : ∀ q, AI a I q → AI a I q := fun _ h => h
  obtain ⟨H, hHe⟩ : ∃ H, H = s.heap := ⟨_, rfl⟩
  obtain ⟨locs, hlo⟩ : ∃ L : List Loc, L = [] := ⟨_, rfl⟩
  have hP : WP D cA a S X I H := hHe ▸ hP
  have hS : va_S (AI a I) s.heap H locs := by rw [hHe, hlo]; exact hS
  rw [← hHe, ← hlo]
  have hn := ln_lt k
  refine lv_iconst (v := 0) C0.1 C0.2.1 dX5_howMany_0 (by decide) ?_
  refine lv_istore_n (lv' := [(3, .int 0), (0, .ref (a (40 + k))), (1, .int v), (2, .int (nI q))]) C0.1 C0.2.1 dX5_howMany_1 rfl hl (by decide) rfl (fun ls hl => ?_)
  refine lv_iconst (v := 0) C0.1 C0.2.1 dX5_howMany_2 (by decide) ?_
  refine lv_istore (lv' := [(4, .int 0), (3, .int 0), (0, .ref (a (40 + k))), (1, .int v), (2, .int (nI q))]) C0.1 C0.2.1 dX5_howMany_3 hl (by decide) rfl (fun ls hl => ?_)
  have loop5 : ∀ (n : Nat) (i : Nat) (f : Int32), (i ≤ q) → (q + 1 ≤ i + n) → (f = nI (cnt (fun j => decide (me S X k j = v)) i)) → ∀ (H : Heap) (locs : List Loc) (ls : Array Slot), WP D cA a S X I H → va_S (AI a I) s.heap H locs → lv_has ls 5 [(3, .int f), (4, .int (nI i)), (0, .ref (a (40 + k))), (1, .int v), (2, .int (nI q))] → W p l e { frames := 0, cells := 0, slots := 0, locals := 0 } s m args below meth c H locs (0) (0) (MQ below (QpI D cA a I (fun r S1 X1 => r = nI (cnt (fun j => decide (me S X k j = v)) q) ∧ S1 = S ∧ X1 = X)) args s 0 0 (AI a I)) (F0 m 5 ls []) := by
    intro n
    induction n with
    | zero => intro i f hi hf hcn; exfalso; omega
    | succ n ih5 =>
      intro i f hi hf hcn H locs ls hP hS hl
      refine lv_iload C0.1 C0.2.1 dX5_howMany_5 (lv_at hl 1 rfl) ?_
      refine lv_iload_n C0.1 C0.2.1 dX5_howMany_7 rfl (lv_at hl 4 rfl) ?_
      refine lv_icmp_ge (tgt := 41) C0.1 C0.2.1 dX5_howMany_8 (by decide) (fun c_8 => ?_) (fun c_8 => ?_)
      · have hge : q ≤ i := (nI_leI (by omega) (by omega)).mp c_8
        refine lv_iload_n C0.1 C0.2.1 dX5_howMany_41 rfl (lv_at hl 0 rfl) ?_
        exact retI C0 hr hlk hP hS ⟨by rw [hcn, show i = q by omega], rfl, rfl⟩ dX5_howMany_42
      · have hlt : i < q := Nat.not_le.mp fun h => c_8 (nI_le h (by omega))
        have hin : vp_in (nI i) (ln k) := vp_in_nI (by omega) hn
        refine lv_iload C0.1 C0.2.1 dX5_howMany_11 (lv_at hl 1 rfl) ?_
        refine lv_aload_n C0.1 C0.2.1 dX5_howMany_13 rfl (lv_at hl 2 rfl) ?_
        refine gRow hk C0 hK hP (hd.1 _ (by simp)) fl_X5_7 dX5_howMany_14 ?_
        refine arrLen hk C0 hK hP (hd.1 _ (by simp)) dX5_howMany_17 ?_
        refine lv_icmp_ge (tgt := 41) C0.1 C0.2.1 dX5_howMany_18 (by decide) (fun c_18 => ?_) (fun c_18 => ?_)
        · exact absurd c_18 (nI_ge (by omega) hn)
        · refine lv_aload_n C0.1 C0.2.1 dX5_howMany_21 rfl (lv_at hl 2 rfl) ?_
          refine gRow hk C0 hK hP (hd.1 _ (by simp)) fl_X5_7 dX5_howMany_22 ?_
          refine lv_iload C0.1 C0.2.1 dX5_howMany_25 (lv_at hl 1 rfl) ?_
          refine arrLd hk C0 hK hP (hd.1 _ (by simp)) hin dX5_howMany_27 ?_
          refine lv_iload_n C0.1 C0.2.1 dX5_howMany_28 rfl (lv_at hl 3 rfl) ?_
          refine lv_icmp_ne (tgt := 35) C0.1 C0.2.1 dX5_howMany_29 (by decide) (fun c_29 => ?_) (fun c_29 => ?_)
          · have hv : ¬ me S X k i = v := by rw [nI_clamp (by omega)] at c_29; exact c_29
            refine lv_iinc (v := nI (i + 1)) (lv' := [(4, .int (nI (i + 1))), (3, .int f), (0, .ref (a (40 + k))), (1, .int v), (2, .int (nI q))]) C0.1 C0.2.1 dX5_howMany_35 hl (k := 1) rfl (nI_1 _) (by decide) rfl (fun ls hl => ?_)
            refine lv_goto (tgt := 5) C0.1 C0.2.1 dX5_howMany_38 (by decide) ?_
            exact ih5 (i + 1) _ (by omega) (by omega) (by rw [hcn, cnt_no (fun h => hv (of_decide_eq_true h))]) _ _ _ hP hS (lv_sub hl [1, 0, 2, 3, 4] rfl)
          · have hv : me S X k i = v := by rw [nI_clamp (by omega)] at c_29; exact c_29
            refine lv_iinc (v := f + 1) (lv' := [(3, .int (f + 1)), (4, .int (nI i)), (0, .ref (a (40 + k))), (1, .int v), (2, .int (nI q))]) C0.1 C0.2.1 dX5_howMany_32 hl (k := 0) rfl rfl (by decide) rfl (fun ls hl => ?_)
            refine lv_iinc (v := nI (i + 1)) (lv' := [(4, .int (nI (i + 1))), (3, .int (f + 1)), (0, .ref (a (40 + k))), (1, .int v), (2, .int (nI q))]) C0.1 C0.2.1 dX5_howMany_35 hl (k := 1) rfl (nI_1 _) (by decide) rfl (fun ls hl => ?_)
            refine lv_goto (tgt := 5) C0.1 C0.2.1 dX5_howMany_38 (by decide) ?_
            exact ih5 (i + 1) _ (by omega) (by omega) (by rw [hcn, cnt_yes (decide_eq_true hv), nI_1]) _ _ _ hP hS (lv_sub hl [1, 0, 2, 3, 4] rfl)
  exact loop5 (q + 1) 0 _ (by omega) (by omega) nI_0.symm _ _ _ hP hS (lv_sub hl [1, 0, 2, 3, 4] rfl)

theorem k_X5_howMany {n : List Nat} (k : Nat) (hk : k < 34) (hd : Hd n a I) (h1 : k ∈ n) (h2 : 40 + k ∈ n) {v0 : Int32} {q : Nat}  (C0 : CallFix p m c cc nL s args GW own) (hK : KK D cA s) (hP : WP D cA a S X I H) (hq : q ≤ ln k) {v : Int32} (hv : nI (cnt (fun j => decide (me S X k j = v0)) q) = v) (hS : va_S A0 H0 H locs) (hA : ∀ q, AI a I q → A0 q) (hls : ls.size = nL) {idx : Nat} (hlink : Cond.methodLink own idx yX5_howMany ∈ GW) (hR : 1 ≤ R.frames ∧ 24 ≤ R.locals) (hcs : cells ≤ R.cells ∧ slots ≤ R.slots) (hrest : (rest.map fun v => v.category).sum ≤ 8) (hdg : decode cc pc = .ok (.invokevirtual idx, 3)) (kk : ∀ (H1 : Heap) (locs1 : List Loc), WP D cA a S X I H1 → va_S A0 H0 H1 locs1 → W p l e R s m args below meth c H1 locs1 cells slots Q (F0 m (pc + 3) ls (.int v :: rest))) : W p l e R s m args below meth c H locs cells slots Q (F0 m pc ls (.int (nI q) :: .int v0 :: .ref (a (40 + k)) :: rest)) := by
  subst hv
  exact goI (rV (n := 2) (c_X5_howMany l D cA a S X I k hk (hd.sub (by simp [h1, h2])) v0 q hq) C0 hlink im_X5_howMany se_X5_howMany in_X5 co_X5_howMany ⟨rfl, by decide⟩ hR hK hP (hd.1 _ h2) (ct_row cA a S X hk) rfl rfl hls hrest rfl hdg hcs) hS hA (fun r S1 X1 H1 locs1 hp hP1 hS1 => by obtain ⟨rfl, rfl, rfl⟩ := hp; exact kk H1 locs1 hP1 hS1)

set_option maxHeartbeats 4000000 in
set_option maxRecDepth 100000 in
theorem c_X5_takeOver (l : Launch) (D : va_G) (cA : ClassId) (a : Adr) (S X : Mem) (I : Nat → Prop) (k k2 : Nat) (hk : k < 34) (hk2 : k2 < 34) (hkk : k2 ≠ k) (hln : ln k2 = ln k) (hd : Hd [k, 40 + k, k2, 40 + k2] a I)  : MV l yX5_takeOver cX5_takeOver 3 none 1 21 D cA a S X I [.ref (a (40 + k)), .ref (a (40 + k2))] (fun S1 X1 => S1 = (wS S k (tk (me S X k) (me S X k2) (ln k))) ∧ X1 = (wX X k (tk (me S X k) (me S X k2) (ln k)))) := by
  refine mGo (by decide) (Nat.le_of_ble_eq_true rfl) ?_
  intro p e s m args below meth c ls C0 hr hlk hK hP hS hl hargs
  have hA : ∀ q, AI a I q → AI a I q := fun _ h => h
  obtain ⟨H, hHe⟩ : ∃ H, H = s.heap := ⟨_, rfl⟩
  obtain ⟨locs, hlo⟩ : ∃ L : List Loc, L = [] := ⟨_, rfl⟩
  have hP : WP D cA a S X I H := hHe ▸ hP
  have hS : va_S (AI a I) s.heap H locs := by rw [hHe, hlo]; exact hS
  rw [← hHe, ← hlo]
  have hn := ln_lt k
  refine lv_iconst (v := 0) C0.1 C0.2.1 dX5_takeOver_0 (by decide) ?_
  refine lv_istore_n (lv' := [(2, .int 0), (0, .ref (a (40 + k))), (1, .ref (a (40 + k2)))]) C0.1 C0.2.1 dX5_takeOver_1 rfl hl (by decide) rfl (fun ls hl => ?_)
  have loop2 : ∀ (n : Nat) (i : Nat), (i ≤ ln k) → (ln k + 1 ≤ i + n) → ∀ (H : Heap) (locs : List Loc) (ls : Array Slot), WP D cA a (wS S k (tk (me S X k) (me S X k2) i)) (wX X k (tk (me S X k) (me S X k2) i)) I H → va_S (AI a I) s.heap H locs → lv_has ls 3 [(2, .int (nI i)), (0, .ref (a (40 + k))), (1, .ref (a (40 + k2)))] → W p l e { frames := 1, cells := 0, slots := 0, locals := 21 } s m args below meth c H locs (0) (0) (MQ below (QpV D cA a I (fun S1 X1 => S1 = (wS S k (tk (me S X k) (me S X k2) (ln k))) ∧ X1 = (wX X k (tk (me S X k) (me S X k2) (ln k))))) args s 0 0 (AI a I)) (F0 m 2 ls []) := by
    intro n
    induction n with
    | zero => intro i hi hf; exfalso; omega
    | succ n ih2 =>
      intro i hi hf H locs ls hP hS hl
      refine lv_iload_n C0.1 C0.2.1 dX5_takeOver_2 rfl (lv_at hl 0 rfl) ?_
      refine lv_aload_n C0.1 C0.2.1 dX5_takeOver_3 rfl (lv_at hl 1 rfl) ?_
      refine gRow hk C0 hK hP (hd.1 _ (by simp)) fl_X5_7 dX5_takeOver_4 ?_
      refine arrLen hk C0 hK hP (hd.1 _ (by simp)) dX5_takeOver_7 ?_
      refine lv_icmp_ge (tgt := 28) C0.1 C0.2.1 dX5_takeOver_8 (by decide) (fun c_8 => ?_) (fun c_8 => ?_)
      · have hge : ln k ≤ i := (nI_leI hn (by omega)).mp c_8
        exact retV C0 hr hlk hP hS ⟨by rw [show i = ln k by omega], by rw [show i = ln k by omega]⟩ dX5_takeOver_28
      · have hlt : i < ln k := Nat.not_le.mp fun q => c_8 (nI_le q (by omega))
        have hin : vp_in (nI i) (ln k) := vp_in_nI hlt hn
        refine lv_aload_n C0.1 C0.2.1 dX5_takeOver_11 rfl (lv_at hl 1 rfl) ?_
        refine gRow hk C0 hK hP (hd.1 _ (by simp)) fl_X5_7 dX5_takeOver_12 ?_
        refine lv_iload_n C0.1 C0.2.1 dX5_takeOver_15 rfl (lv_at hl 0 rfl) ?_
        refine lv_aload_n C0.1 C0.2.1 dX5_takeOver_16 rfl (lv_at hl 2 rfl) ?_
        refine lv_iload_n C0.1 C0.2.1 dX5_takeOver_17 rfl (lv_at hl 0 rfl) ?_
        refine k_X5_get (v := me S X k2 i) k2 hk2 hd (by simp) (by simp) C0 hK hP (by rw [rg_nI (by omega) (ln_lt k2), me_ne _ _ _ hkk]) hS hA hl.1 ml_X5_13 ⟨Nat.le_of_ble_eq_true rfl, Nat.le_of_ble_eq_true rfl⟩ ⟨Nat.zero_le _, Nat.zero_le _⟩ (Nat.le_of_ble_eq_true rfl) dX5_takeOver_18 (fun H locs hP hS => ?_)
        refine ast hk C0 hK hP hS hA (hd.1 _ (by simp)) hd.2.2 hin dX5_takeOver_21 (fun H locs hP hS => ?_)
        refine lv_iinc (v := nI (i + 1)) (lv' := [(2, .int (nI (i + 1))), (0, .ref (a (40 + k))), (1, .ref (a (40 + k2)))]) C0.1 C0.2.1 dX5_takeOver_22 hl (k := 0) rfl (nI_1 _) (by decide) rfl (fun ls hl => ?_)
        refine lv_goto (tgt := 2) C0.1 C0.2.1 dX5_takeOver_25 (by decide) ?_
        rw [me_eq, wS_wS, wX_wX, nI_clamp (by omega), tk_succ] at hP
        exact ih2 (i + 1) (by omega) (by omega) _ _ _ hP hS (lv_sub hl [0, 1, 2] rfl)
  have hP : WP D cA a (wS S k (tk (me S X k) (me S X k2) 0)) (wX X k (tk (me S X k) (me S X k2) 0)) I H := by rw [tk_zero, wS_me, wX_me]; exact hP
  exact loop2 (ln k + 1) 0 (by omega) (by omega) _ _ _ hP hS (lv_sub hl [0, 1, 2] rfl)

theorem k_X5_takeOver {n : List Nat} (k k2 : Nat) (hk : k < 34) (hk2 : k2 < 34) (hkk : k2 ≠ k) (hln : ln k2 = ln k) (hd : Hd n a I) (h1 : k ∈ n) (h2 : 40 + k ∈ n) (h3 : k2 ∈ n) (h4 : 40 + k2 ∈ n)  (C0 : CallFix p m c cc nL s args GW own) (hK : KK D cA s) (hP : WP D cA a S X I H) (hS : va_S A0 H0 H locs) (hA : ∀ q, AI a I q → A0 q) (hls : ls.size = nL) {idx : Nat} (hlink : Cond.methodLink own idx yX5_takeOver ∈ GW) (hR : 2 ≤ R.frames ∧ 43 ≤ R.locals) (hcs : cells ≤ R.cells ∧ slots ≤ R.slots) (hrest : (rest.map fun v => v.category).sum ≤ 8) (hdg : decode cc pc = .ok (.invokevirtual idx, 3)) (kk : ∀ (H1 : Heap) (locs1 : List Loc), WP D cA a (wS S k (tk (me S X k) (me S X k2) (ln k))) (wX X k (tk (me S X k) (me S X k2) (ln k))) I H1 → va_S A0 H0 H1 locs1 → W p l e R s m args below meth c H1 locs1 cells slots Q (F0 m (pc + 3) ls rest)) : W p l e R s m args below meth c H locs cells slots Q (F0 m pc ls (.ref (a (40 + k2)) :: .ref (a (40 + k)) :: rest)) := by
  exact goV (rV (n := 1) (c_X5_takeOver l D cA a S X I k k2 hk hk2 hkk hln (hd.sub (by simp [h1, h2, h3, h4]))) C0 hlink im_X5_takeOver se_X5_takeOver in_X5 co_X5_takeOver ⟨rfl, by decide⟩ hR hK hP (hd.1 _ h2) (ct_row cA a S X hk) rfl rfl hls hrest rfl hdg hcs) hS hA (fun S1 X1 H1 locs1 hp hP1 hS1 => by obtain ⟨rfl, rfl⟩ := hp; exact kk H1 locs1 hP1 hS1)

end ROW
