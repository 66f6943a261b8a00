theorem lv_raw {f : Nat → Int32} {h : Nat} (hh : h < 2 ^ 31) : rg f 12 (nI h - nI h / 12 * 12) = f (h % 12) := by
  rw [show (12 : Int32) = nI 12 from rfl, pk_rem hh (by decide) (by decide), rg_nI (Nat.mod_lt _ (by decide)) (by decide)]
abbrev FX (X : Mem) : Int32 → Int32 → Int32 := fun l w => lnI (X 11) l w
theorem turnM_86 (F : Int32 → Int32 → Int32) (S : Mem) (p T h : Nat) : turnM F S p T h 86 = S 86 := rfl
theorem landM_86 (F : Int32 → Int32 → Int32) (S : Mem) (T h : Nat) : ∀ n, (landM F S T h n).1 86 = S 86 := by
  intro n
  induction n with
  | zero => rfl
  | succ n ih =>
    unfold landM
    split
    · exact ih
    · exact ih
theorem stepM_86 (S : Mem) (p h : Nat) : stepM S p h 86 = S 86 := by
  unfold stepM
  split
  · rfl
  · rfl
theorem stepsM_86 (S : Mem) (h : Nat) : ∀ n, stepsM S h n 86 = S 86 := by
  intro n
  induction n with
  | zero => rfl
  | succ n ih => exact (stepM_86 _ n h).trans ih
def smI (f : Nat → Int32) : Nat → Int32
  | 0 => 0
  | n + 1 => smI f n + f n
section CLS
variable {p : Program} {l : Launch} {e : Env} {R : Room} {s : State} {m : MethodId} {args : Array Value} {below : List Frame} {meth : Method} {c : Code} {H : Heap} {locs : List Loc} {cells slots : Nat} {Q : State → Prop}
variable {cc : ByteArray} {nL : Nat} {own : String} {pc : Nat} {ls : Array Slot} {rest : List Value} {D : va_G} {cA : ClassId} {a : Adr} {S X : Mem} {I : Nat → Prop} {H0 : Heap} {A0 : Nat → Prop}
set_option maxHeartbeats 4000000 in
set_option maxRecDepth 100000 in
theorem c_X6_place (l : Launch) (D : va_G) (cA : ClassId) (a : Adr) (S X : Mem) (I : Nat → Prop) (hd : Hd nT a I) (u : Nat) (x : Int32) (y : Int32) (hp : u < 6) : MV l yX6_place cX6_place 4 none 1 22 D cA a S X I [.ref (a 86), .int (nI u), .int x, .int y] (fun S1 X1 => S1 = (up (up S 16 (upd (S 16) u x)) 17 (upd (S 17) u y)) ∧ X1 = X) := by
  refine mGo (by decide) (Nat.le_of_ble_eq_true rfl) ?_
  intro p e s m args below meth c ls C0 hr hlk hK hP hS hl hargs
  obtain ⟨H, hHe⟩ : ∃ H, H = s.heap := ⟨_, rfl⟩
  obtain ⟨locs, hlo⟩ : ∃ L : List Loc, L = [] := ⟨_, rfl⟩
  have hP : WP D cA a S X I H := hHe ▸ hP
  have hS : va_S (AI a I) s.heap H locs := by rw [hHe, hlo]; exact hS
  rw [← hHe, ← hlo]
  have hA : ∀ q, AI a I q → AI a I q := fun _ h => h
  refine lv_aload_n C0.1 C0.2.1 dX6_place_0 rfl (lv_at hl 0 rfl) ?_
  refine g86_cell C0 hK hP (hd.1 _ (by decide)) fl_X6_14 dX6_place_1 ?_
  refine lv_iload_n C0.1 C0.2.1 dX6_place_4 rfl (lv_at hl 1 rfl) ?_
  refine lv_iload_n C0.1 C0.2.1 dX6_place_5 rfl (lv_at hl 2 rfl) ?_
  refine k_X5_set 16 (by decide) hd (by decide) (by decide) C0 hK hP hS hA hl.1 ml_X6_67 ⟨Nat.le_of_ble_eq_true rfl, Nat.le_of_ble_eq_true rfl⟩ ⟨Nat.zero_le _, Nat.zero_le _⟩ (Nat.le_of_ble_eq_true rfl) dX6_place_6 (fun H locs hP hS => ?_)
  have hP : WP D cA a (up S 16 (us (S 16) 6 (nI u) x)) X I H := hP
  have hP : WP D cA a (up S 16 (upd (S 16) u x)) X I H := WP.congr hP (fun k => by
      by_cases h_16 : k = 16
      · subst h_16; exact ((us_nI (show u < 6 by omega) (by decide)) : (us (S 16) 6 (nI u) x) = (upd (S 16) u x))
      simp only [up, h_16, if_false]) (fun _ => rfl)
  refine lv_aload_n C0.1 C0.2.1 dX6_place_9 rfl (lv_at hl 0 rfl) ?_
  refine g86_bound C0 hK hP (hd.1 _ (by decide)) fl_X6_20 dX6_place_10 ?_
  refine lv_iload_n C0.1 C0.2.1 dX6_place_13 rfl (lv_at hl 1 rfl) ?_
  refine lv_iload_n C0.1 C0.2.1 dX6_place_14 rfl (lv_at hl 3 rfl) ?_
  refine k_X5_set 17 (by decide) hd (by decide) (by decide) C0 hK hP hS hA hl.1 ml_X6_67 ⟨Nat.le_of_ble_eq_true rfl, Nat.le_of_ble_eq_true rfl⟩ ⟨Nat.zero_le _, Nat.zero_le _⟩ (Nat.le_of_ble_eq_true rfl) dX6_place_15 (fun H locs hP hS => ?_)
  have hP : WP D cA a (up (up S 16 (upd (S 16) u x)) 17 (us (S 17) 6 (nI u) y)) X I H := hP
  have hP : WP D cA a (up (up S 16 (upd (S 16) u x)) 17 (upd (S 17) u y)) X I H := WP.congr hP (fun k => by
      by_cases h_16 : k = 16
      · subst h_16; exact (rfl : (upd (S 16) u x) = (upd (S 16) u x))
      by_cases h_17 : k = 17
      · subst h_17; exact ((us_nI (show u < 6 by omega) (by decide)) : (us (S 17) 6 (nI u) y) = (upd (S 17) u y))
      simp only [up, h_16, h_17, if_false]) (fun _ => rfl)
  exact retV C0 hr hlk hP hS ⟨rfl, rfl⟩ dX6_place_18
theorem k_X6_place {n : List Nat} (hd : Hd n a I) (hsub : ∀ k ∈ nT, k ∈ n) (C0 : CallFix p m c cc nL s args GW own) (hK : KK D cA s) (hP : WP D cA a S X I H) {u : Nat} {x : Int32} {y : Int32} (hp : u < 6) (hS : va_S A0 H0 H locs) (hA : ∀ q, AI a I q → A0 q) (hls : ls.size = nL) {idx : Nat} (hlink : Cond.methodLink own idx yX6_place ∈ GW) (hR : 2 ≤ R.frames ∧ 45 ≤ R.locals) (hcs : cells ≤ R.cells ∧ slots ≤ R.slots) (hrest : (rest.map fun v => v.category).sum ≤ 8) (hdg : decode cc pc = .ok (.invokevirtual idx, 3)) (kk : ∀ (H1 : Heap) (locs1 : List Loc), WP D cA a (up (up S 16 (upd (S 16) u x)) 17 (upd (S 17) u y)) X I H1 → va_S A0 H0 H1 locs1 → W p l e R s m args below meth c H1 locs1 cells slots Q (F0 m (pc + 3) ls rest)) : W p l e R s m args below meth c H locs cells slots Q (F0 m pc ls (.int y :: .int x :: .int (nI u) :: .ref (a 86) :: rest)) := by
  exact goV (rV (n := 3) (c_X6_place l D cA a S X I (hd.sub hsub) u x y hp) C0 hlink im_X6_place se_X6_place in_X6 co_X6_place ⟨rfl, by decide⟩ hR hK hP (hd.1 _ (hsub _ (by decide))) rfl rfl rfl hls hrest rfl hdg hcs) hS hA (fun S1 X1 H1 locs1 hp hP1 hS1 => by obtain ⟨rfl, rfl⟩ := hp; exact kk H1 locs1 hP1 hS1)
set_option maxHeartbeats 4000000 in
set_option maxRecDepth 100000 in
theorem c_X6_level (l : Launch) (D : va_G) (cA : ClassId) (a : Adr) (S X : Mem) (I : Nat → Prop) (hd : Hd nT a I) {h : Nat} (hnH : S 86 0 = nI h) (hh : h < 2 ^ 31) : MI l yX6_level cX6_level 1 (some .int) 2 42 D cA a S X I [.ref (a 86)] (fun r S1 X1 => r = (S 2 (h % 12)) ∧ S1 = S ∧ X1 = X) := by
  refine mGo (by decide) (Nat.le_of_ble_eq_true rfl) ?_
  intro p e s m args below meth c ls C0 hr hlk hK hP hS hl hargs
  obtain ⟨H, hHe⟩ : ∃ H, H = s.heap := ⟨_, rfl⟩
  obtain ⟨locs, hlo⟩ : ∃ L : List Loc, L = [] := ⟨_, rfl⟩
  have hP : WP D cA a S X I H := hHe ▸ hP
  have hS : va_S (AI a I) s.heap H locs := by rw [hHe, hlo]; exact hS
  rw [← hHe, ← hlo]
  have hA : ∀ q, AI a I q → AI a I q := fun _ h => h
  refine lv_aload_n C0.1 C0.2.1 dX6_level_0 rfl (lv_at hl 0 rfl) ?_
  refine g86_plain C0 hK hP (hd.1 _ (by decide)) fl_X6_36 dX6_level_1 ?_
  refine lv_aload_n C0.1 C0.2.1 dX6_level_4 rfl (lv_at hl 0 rfl) ?_
  refine g86_hour (v := nI h) C0 hK hP (hd.1 _ (by decide)) fl_X6_56 hnH dX6_level_5 ?_
  refine k_X4_levelAt hd (by decide) C0 hK hP  (v := rg (S 2) 12 ((nI h) - (nI h) / 12 * 12)) rfl hS hA hl.1 ml_X6_71 ⟨Nat.le_of_ble_eq_true rfl, Nat.le_of_ble_eq_true rfl⟩ ⟨Nat.zero_le _, Nat.zero_le _⟩ (Nat.le_of_ble_eq_true rfl) dX6_level_8 (fun H locs hP hS => ?_)
  exact retI C0 hr hlk hP hS ⟨lv_raw hh, rfl, rfl⟩ dX6_level_11
theorem k_X6_level {n : List Nat} (hd : Hd n a I) (hsub : ∀ k ∈ nT, k ∈ n) (C0 : CallFix p m c cc nL s args GW own) (hK : KK D cA s) (hP : WP D cA a S X I H) {h : Nat} (hnH : S 86 0 = nI h) (hh : h < 2 ^ 31) {v : Int32} (hv : (S 2 (h % 12)) = v) (hS : va_S A0 H0 H locs) (hA : ∀ q, AI a I q → A0 q) (hls : ls.size = nL) {idx : Nat} (hlink : Cond.methodLink own idx yX6_level ∈ GW) (hR : 3 ≤ R.frames ∧ 62 ≤ R.locals) (hcs : cells ≤ R.cells ∧ slots ≤ R.slots) (hrest : (rest.map fun v => v.category).sum ≤ 8) (hdg : decode cc pc = .ok (.invokevirtual idx, 3)) (kk : ∀ (H1 : Heap) (locs1 : List Loc), WP D cA a S X I H1 → va_S A0 H0 H1 locs1 → W p l e R s m args below meth c H1 locs1 cells slots Q (F0 m (pc + 3) ls (.int v :: rest))) : W p l e R s m args below meth c H locs cells slots Q (F0 m pc ls (.ref (a 86) :: rest)) := by
  subst hv
  exact goI (rV (n := 0) (c_X6_level l D cA a S X I (hd.sub hsub)  hnH hh) C0 hlink im_X6_level se_X6_level in_X6 co_X6_level ⟨rfl, by decide⟩ hR hK hP (hd.1 _ (hsub _ (by decide))) rfl rfl rfl hls hrest rfl hdg hcs) hS hA (fun r S1 X1 H1 locs1 hp hP1 hS1 => by obtain ⟨rfl, rfl, rfl⟩ := hp; exact kk H1 locs1 hP1 hS1)
set_option maxHeartbeats 4000000 in
set_option maxRecDepth 100000 in
theorem c_X6_isAground (l : Launch) (D : va_G) (cA : ClassId) (a : Adr) (S X : Mem) (I : Nat → Prop) (hd : Hd nT a I) (u : Nat) (hp : u < 6) {h : Nat} (hnH : S 86 0 = nI h) (hh : h < 2 ^ 31) : MI l yX6_isAground cX6_isAground 2 (some .boolean) 3 62 D cA a S X I [.ref (a 86), .int (nI u)] (fun r S1 X1 => r = (bI (!flt S (nI u) (S 16 u) (lvS S h))) ∧ S1 = S ∧ X1 = X) := by
  refine mGo (by decide) (Nat.le_of_ble_eq_true rfl) ?_
  intro p e s m args below meth c ls C0 hr hlk hK hP hS hl hargs
  obtain ⟨H, hHe⟩ : ∃ H, H = s.heap := ⟨_, rfl⟩
  obtain ⟨locs, hlo⟩ : ∃ L : List Loc, L = [] := ⟨_, rfl⟩
  have hP : WP D cA a S X I H := hHe ▸ hP
  have hS : va_S (AI a I) s.heap H locs := by rw [hHe, hlo]; exact hS
  rw [← hHe, ← hlo]
  have hA : ∀ q, AI a I q → AI a I q := fun _ h => h
  refine lv_aload_n C0.1 C0.2.1 dX6_isAground_0 rfl (lv_at hl 0 rfl) ?_
  refine g86_fleet C0 hK hP (hd.1 _ (by decide)) fl_X6_44 dX6_isAground_1 ?_
  refine lv_iload_n C0.1 C0.2.1 dX6_isAground_4 rfl (lv_at hl 1 rfl) ?_
  refine lv_aload_n C0.1 C0.2.1 dX6_isAground_5 rfl (lv_at hl 0 rfl) ?_
  refine g86_plain C0 hK hP (hd.1 _ (by decide)) fl_X6_36 dX6_isAground_6 ?_
  refine lv_aload_n C0.1 C0.2.1 dX6_isAground_9 rfl (lv_at hl 0 rfl) ?_
  refine g86_cell C0 hK hP (hd.1 _ (by decide)) fl_X6_14 dX6_isAground_10 ?_
  refine lv_iload_n C0.1 C0.2.1 dX6_isAground_13 rfl (lv_at hl 1 rfl) ?_
  refine k_X5_get (v := S 16 u) 16 (by decide) hd (by decide) (by decide) C0 hK hP (rg_nI (show u < 6 by omega) (by decide)) hS hA hl.1 ml_X6_77 ⟨Nat.le_of_ble_eq_true rfl, Nat.le_of_ble_eq_true rfl⟩ ⟨Nat.zero_le _, Nat.zero_le _⟩ (Nat.le_of_ble_eq_true rfl) dX6_isAground_14 (fun H locs hP hS => ?_)
  refine lv_aload_n C0.1 C0.2.1 dX6_isAground_17 rfl (lv_at hl 0 rfl) ?_
  refine k_X6_level hd (by decide) C0 hK hP hnH hh (v := S 2 (h % 12)) rfl hS hA hl.1 ml_X6_80 ⟨Nat.le_of_ble_eq_true rfl, Nat.le_of_ble_eq_true rfl⟩ ⟨Nat.zero_le _, Nat.zero_le _⟩ (Nat.le_of_ble_eq_true rfl) dX6_isAground_18 (fun H locs hP hS => ?_)
  refine k_X4_depth hd (by decide) C0 hK hP  (v := dpt S (S 16 u) (S 2 (h % 12))) rfl hS hA hl.1 ml_X6_84 ⟨Nat.le_of_ble_eq_true rfl, Nat.le_of_ble_eq_true rfl⟩ ⟨Nat.zero_le _, Nat.zero_le _⟩ (Nat.le_of_ble_eq_true rfl) dX6_isAground_21 (fun H locs hP hS => ?_)
  refine k_X2_floats hd (by decide) C0 hK hP  (v := bI (decide (rg (S 6) 6 (nI u) ≤ (dpt S (S 16 u) (S 2 (h % 12)))) && decide ((dpt S (S 16 u) (S 2 (h % 12))) ≤ rg (S 7) 6 (nI u)))) rfl hS hA hl.1 ml_X6_88 ⟨Nat.le_of_ble_eq_true rfl, Nat.le_of_ble_eq_true rfl⟩ ⟨Nat.zero_le _, Nat.zero_le _⟩ (Nat.le_of_ble_eq_true rfl) dX6_isAground_24 (fun H locs hP hS => ?_)
  refine lv_if_ne (tgt := 34) C0.1 C0.2.1 dX6_isAground_27 (by decide) (fun c_27 => ?_) (fun c_27 => ?_)
  · have c_27 := bI_ne c_27
    refine lv_iconst (v := 0) C0.1 C0.2.1 dX6_isAground_34 (by decide) ?_
    exact retZ C0 hr hlk hP hS rfl ⟨(bI_f (by rw [show flt S (nI u) (S 16 u) (lvS S h) = true from c_27]; rfl)).symm, rfl, rfl⟩ dX6_isAground_35
  · have c_27 := bI_eq c_27
    refine lv_iconst (v := 1) C0.1 C0.2.1 dX6_isAground_30 (by decide) ?_
    refine lv_goto (tgt := 35) C0.1 C0.2.1 dX6_isAground_31 (by decide) ?_
    exact retZ C0 hr hlk hP hS rfl ⟨(bI_t (by rw [show flt S (nI u) (S 16 u) (lvS S h) = false from c_27]; rfl)).symm, rfl, rfl⟩ dX6_isAground_35
theorem k_X6_isAground {n : List Nat} (hd : Hd n a I) (hsub : ∀ k ∈ nT, k ∈ n) (C0 : CallFix p m c cc nL s args GW own) (hK : KK D cA s) (hP : WP D cA a S X I H) {u : Nat} (hp : u < 6) {h : Nat} (hnH : S 86 0 = nI h) (hh : h < 2 ^ 31) {v : Int32} (hv : (bI (!flt S (nI u) (S 16 u) (lvS S h))) = v) (hS : va_S A0 H0 H locs) (hA : ∀ q, AI a I q → A0 q) (hls : ls.size = nL) {idx : Nat} (hlink : Cond.methodLink own idx yX6_isAground ∈ GW) (hR : 4 ≤ R.frames ∧ 83 ≤ R.locals) (hcs : cells ≤ R.cells ∧ slots ≤ R.slots) (hrest : (rest.map fun v => v.category).sum ≤ 8) (hdg : decode cc pc = .ok (.invokevirtual idx, 3)) (kk : ∀ (H1 : Heap) (locs1 : List Loc), WP D cA a S X I H1 → va_S A0 H0 H1 locs1 → W p l e R s m args below meth c H1 locs1 cells slots Q (F0 m (pc + 3) ls (.int v :: rest))) : W p l e R s m args below meth c H locs cells slots Q (F0 m pc ls (.int (nI u) :: .ref (a 86) :: rest)) := by
  subst hv
  exact goI (rV (n := 1) (c_X6_isAground l D cA a S X I (hd.sub hsub) u hp hnH hh) C0 hlink im_X6_isAground se_X6_isAground in_X6 co_X6_isAground ⟨rfl, by decide⟩ hR hK hP (hd.1 _ (hsub _ (by decide))) rfl rfl rfl hls hrest rfl hdg hcs) hS hA (fun r S1 X1 H1 locs1 hp hP1 hS1 => by obtain ⟨rfl, rfl, rfl⟩ := hp; exact kk H1 locs1 hP1 hS1)
set_option maxHeartbeats 4000000 in
set_option maxRecDepth 100000 in
theorem c_X6_puntsAground (l : Launch) (D : va_G) (cA : ClassId) (a : Adr) (S X : Mem) (I : Nat → Prop) (hd : Hd nT a I) {P : Nat} (hnP : S 82 0 = nI P) (hP6 : P ≤ 6) {h : Nat} (hnH : S 86 0 = nI h) (hh : h < 2 ^ 31) : MI l yX6_puntsAground cX6_puntsAground 3 (some .int) 4 83 D cA a S X I [.ref (a 86)] (fun r S1 X1 => r = (nI (cnt (fun p => !flt S (nI p) ((S 16) p) (lvS S h)) P)) ∧ S1 = S ∧ X1 = X) := by
  refine mGo (by decide) (Nat.le_of_ble_eq_true rfl) ?_
  intro p e s m args below meth c ls C0 hr hlk hK hP hS hl hargs
  obtain ⟨H, hHe⟩ : ∃ H, H = s.heap := ⟨_, rfl⟩
  obtain ⟨locs, hlo⟩ : ∃ L : List Loc, L = [] := ⟨_, rfl⟩
  have hP : WP D cA a S X I H := hHe ▸ hP
  have hS : va_S (AI a I) s.heap H locs := by rw [hHe, hlo]; exact hS
  rw [← hHe, ← hlo]
  have hA : ∀ q, AI a I q → AI a I q := fun _ h => h
  refine lv_iconst (v := 0) C0.1 C0.2.1 dX6_puntsAground_0 (by decide) ?_
  refine lv_istore_n (lv' := [(1, .int 0), (0, .ref (a 86))]) C0.1 C0.2.1 dX6_puntsAground_1 rfl hl (by decide) rfl (fun ls hl => ?_)
  refine lv_iconst (v := 0) C0.1 C0.2.1 dX6_puntsAground_2 (by decide) ?_
  refine lv_istore_n (lv' := [(2, .int 0), (1, .int 0), (0, .ref (a 86))]) C0.1 C0.2.1 dX6_puntsAground_3 rfl hl (by decide) rfl (fun ls hl => ?_)
  have loop4 : ∀ (n : Nat) (i : Nat) (f : Int32), (i ≤ P) → (P + 1 ≤ i + n) → (f = nI (cnt (fun p => !flt S (nI p) (S 16 p) (lvS S h)) i)) → ∀ (H : Heap) (locs : List Loc) (ls : Array Slot), WP D cA a S X I H → va_S (AI a I) s.heap H locs → lv_has ls 3 [(2, .int (nI i)), (1, .int f), (0, .ref (a 86))] → W p l e { frames := 4, cells := 0, slots := 0, locals := 83 } s m args below meth c H locs (0) (0) (MQ below (QpI D cA a I (fun r S1 X1 => r = (nI (cnt (fun p => !flt S (nI p) ((S 16) p) (lvS S h)) P)) ∧ S1 = S ∧ X1 = X)) args s 0 0 (AI a I)) (F0 m 4 ls []) := by
    intro n
    induction n with
    | zero => intro i f hi hf hcn; exfalso; omega
    | succ n ih4 =>
      intro i f hi hf hcn H locs ls hP hS hl
      refine lv_iload_n C0.1 C0.2.1 dX6_puntsAground_4 rfl (lv_at hl 0 rfl) ?_
      refine lv_aload_n C0.1 C0.2.1 dX6_puntsAground_5 rfl (lv_at hl 2 rfl) ?_
      refine g86_fleet C0 hK hP (hd.1 _ (by decide)) fl_X6_44 dX6_puntsAground_6 ?_
      refine g82_number (v := nI P) C0 hK hP (hd.1 _ (by decide)) fl_X6_103 hnP dX6_puntsAground_9 ?_
      refine lv_icmp_ge (tgt := 32) C0.1 C0.2.1 dX6_puntsAground_12 (by decide) (fun c_12 => ?_) (fun c_12 => ?_)
      · have hge : P ≤ i := (nI_leI (by omega) (by omega)).mp c_12
        refine lv_iload_n C0.1 C0.2.1 dX6_puntsAground_32 rfl (lv_at hl 1 rfl) ?_
        exact retI C0 hr hlk hP hS ⟨by rw [hcn, show i = P by omega], rfl, rfl⟩ dX6_puntsAground_33
      · have hlt : i < P := Nat.not_le.mp fun q => c_12 (nI_le q (by omega))
        refine lv_aload_n C0.1 C0.2.1 dX6_puntsAground_15 rfl (lv_at hl 2 rfl) ?_
        refine lv_iload_n C0.1 C0.2.1 dX6_puntsAground_16 rfl (lv_at hl 0 rfl) ?_
        refine k_X6_isAground hd (by decide) C0 hK hP (by omega) hnH hh (v := bI (!flt S (nI i) (S 16 i) (lvS S h))) rfl hS hA hl.1 ml_X6_106 ⟨Nat.le_of_ble_eq_true rfl, Nat.le_of_ble_eq_true rfl⟩ ⟨Nat.zero_le _, Nat.zero_le _⟩ (Nat.le_of_ble_eq_true rfl) dX6_puntsAground_17 (fun H locs hP hS => ?_)
        refine lv_if_eq (tgt := 26) C0.1 C0.2.1 dX6_puntsAground_20 (by decide) (fun c_20 => ?_) (fun c_20 => ?_)
        · have c_20 := bI_eq c_20
          refine lv_iinc (v := nI (i + 1)) (lv' := [(2, .int (nI (i + 1))), (1, .int f), (0, .ref (a 86))]) C0.1 C0.2.1 dX6_puntsAground_26 hl (k := 0) rfl (nI_1 _) (by decide) rfl (fun ls hl => ?_)
          refine lv_goto (tgt := 4) C0.1 C0.2.1 dX6_puntsAground_29 (by decide) ?_
          exact ih4 (i + 1) _ (by omega) (by omega) (by rw [hcn, cnt_no (by rw [c_20]; exact Bool.false_ne_true)]) _ _ _ hP hS (lv_sub hl [0, 1, 2] rfl)
        · have c_20 := bI_ne c_20
          refine lv_iinc (v := f + 1) (lv' := [(1, .int (f + 1)), (2, .int (nI i)), (0, .ref (a 86))]) C0.1 C0.2.1 dX6_puntsAground_23 hl (k := 1) rfl rfl (by decide) rfl (fun ls hl => ?_)
          refine lv_iinc (v := nI (i + 1)) (lv' := [(2, .int (nI (i + 1))), (1, .int (f + 1)), (0, .ref (a 86))]) C0.1 C0.2.1 dX6_puntsAground_26 hl (k := 1) rfl (nI_1 _) (by decide) rfl (fun ls hl => ?_)
          refine lv_goto (tgt := 4) C0.1 C0.2.1 dX6_puntsAground_29 (by decide) ?_
          exact ih4 (i + 1) _ (by omega) (by omega) (by rw [hcn, cnt_yes c_20, nI_1]) _ _ _ hP hS (lv_sub hl [0, 1, 2] rfl)
  exact loop4 (P + 1) 0 0 (by omega) (by omega) nI_0.symm _ _ _ hP hS (lv_sub hl [0, 1, 2] rfl)
theorem k_X6_puntsAground {n : List Nat} (hd : Hd n a I) (hsub : ∀ k ∈ nT, k ∈ n) (C0 : CallFix p m c cc nL s args GW own) (hK : KK D cA s) (hP : WP D cA a S X I H) {P : Nat} (hnP : S 82 0 = nI P) (hP6 : P ≤ 6) {h : Nat} (hnH : S 86 0 = nI h) (hh : h < 2 ^ 31) {v : Int32} (hv : (nI (cnt (fun p => !flt S (nI p) ((S 16) p) (lvS S h)) P)) = v) (hS : va_S A0 H0 H locs) (hA : ∀ q, AI a I q → A0 q) (hls : ls.size = nL) {idx : Nat} (hlink : Cond.methodLink own idx yX6_puntsAground ∈ GW) (hR : 5 ≤ R.frames ∧ 105 ≤ R.locals) (hcs : cells ≤ R.cells ∧ slots ≤ R.slots) (hrest : (rest.map fun v => v.category).sum ≤ 8) (hdg : decode cc pc = .ok (.invokevirtual idx, 3)) (kk : ∀ (H1 : Heap) (locs1 : List Loc), WP D cA a S X I H1 → va_S A0 H0 H1 locs1 → W p l e R s m args below meth c H1 locs1 cells slots Q (F0 m (pc + 3) ls (.int v :: rest))) : W p l e R s m args below meth c H locs cells slots Q (F0 m pc ls (.ref (a 86) :: rest)) := by
  subst hv
  exact goI (rV (n := 0) (c_X6_puntsAground l D cA a S X I (hd.sub hsub)  hnP hP6 hnH hh) C0 hlink im_X6_puntsAground se_X6_puntsAground in_X6 co_X6_puntsAground ⟨rfl, by decide⟩ hR hK hP (hd.1 _ (hsub _ (by decide))) rfl rfl rfl hls hrest rfl hdg hcs) hS hA (fun r S1 X1 H1 locs1 hp hP1 hS1 => by obtain ⟨rfl, rfl, rfl⟩ := hp; exact kk H1 locs1 hP1 hS1)
set_option maxHeartbeats 4000000 in
set_option maxRecDepth 100000 in
theorem c_X6_takingsInAll (l : Launch) (D : va_G) (cA : ClassId) (a : Adr) (S X : Mem) (I : Nat → Prop) (hd : Hd nT a I) {P : Nat} (hnP : S 82 0 = nI P) (hP6 : P ≤ 6) : MI l yX6_takingsInAll cX6_takingsInAll 3 (some .int) 1 21 D cA a S X I [.ref (a 86)] (fun r S1 X1 => r = (smI (S 18) P) ∧ S1 = S ∧ X1 = X) := by
  refine mGo (by decide) (Nat.le_of_ble_eq_true rfl) ?_
  intro p e s m args below meth c ls C0 hr hlk hK hP hS hl hargs
  obtain ⟨H, hHe⟩ : ∃ H, H = s.heap := ⟨_, rfl⟩
  obtain ⟨locs, hlo⟩ : ∃ L : List Loc, L = [] := ⟨_, rfl⟩
  have hP : WP D cA a S X I H := hHe ▸ hP
  have hS : va_S (AI a I) s.heap H locs := by rw [hHe, hlo]; exact hS
  rw [← hHe, ← hlo]
  have hA : ∀ q, AI a I q → AI a I q := fun _ h => h
  refine lv_iconst (v := 0) C0.1 C0.2.1 dX6_takingsInAll_0 (by decide) ?_
  refine lv_istore_n (lv' := [(1, .int 0), (0, .ref (a 86))]) C0.1 C0.2.1 dX6_takingsInAll_1 rfl hl (by decide) rfl (fun ls hl => ?_)
  refine lv_iconst (v := 0) C0.1 C0.2.1 dX6_takingsInAll_2 (by decide) ?_
  refine lv_istore_n (lv' := [(2, .int 0), (1, .int 0), (0, .ref (a 86))]) C0.1 C0.2.1 dX6_takingsInAll_3 rfl hl (by decide) rfl (fun ls hl => ?_)
  have loop4 : ∀ (n : Nat) (i : Nat) (f : Int32), (i ≤ P) → (P + 1 ≤ i + n) → (f = smI (S 18) i) → ∀ (H : Heap) (locs : List Loc) (ls : Array Slot), WP D cA a S X I H → va_S (AI a I) s.heap H locs → lv_has ls 3 [(2, .int (nI i)), (1, .int f), (0, .ref (a 86))] → W p l e { frames := 1, cells := 0, slots := 0, locals := 21 } s m args below meth c H locs (0) (0) (MQ below (QpI D cA a I (fun r S1 X1 => r = (smI (S 18) P) ∧ S1 = S ∧ X1 = X)) args s 0 0 (AI a I)) (F0 m 4 ls []) := by
    intro n
    induction n with
    | zero => intro i f hi hf hcn; exfalso; omega
    | succ n ih4 =>
      intro i f hi hf hcn H locs ls hP hS hl
      refine lv_iload_n C0.1 C0.2.1 dX6_takingsInAll_4 rfl (lv_at hl 0 rfl) ?_
      refine lv_aload_n C0.1 C0.2.1 dX6_takingsInAll_5 rfl (lv_at hl 2 rfl) ?_
      refine g86_fleet C0 hK hP (hd.1 _ (by decide)) fl_X6_44 dX6_takingsInAll_6 ?_
      refine g82_number (v := nI P) C0 hK hP (hd.1 _ (by decide)) fl_X6_103 hnP dX6_takingsInAll_9 ?_
      refine lv_icmp_ge (tgt := 32) C0.1 C0.2.1 dX6_takingsInAll_12 (by decide) (fun c_12 => ?_) (fun c_12 => ?_)
      · have hge : P ≤ i := (nI_leI (by omega) (by omega)).mp c_12
        refine lv_iload_n C0.1 C0.2.1 dX6_takingsInAll_32 rfl (lv_at hl 1 rfl) ?_
        exact retI C0 hr hlk hP hS ⟨by rw [hcn, show i = P by omega], rfl, rfl⟩ dX6_takingsInAll_33
      · have hlt : i < P := Nat.not_le.mp fun q => c_12 (nI_le q (by omega))
        refine lv_iload_n C0.1 C0.2.1 dX6_takingsInAll_15 rfl (lv_at hl 1 rfl) ?_
        refine lv_aload_n C0.1 C0.2.1 dX6_takingsInAll_16 rfl (lv_at hl 2 rfl) ?_
        refine g86_takings C0 hK hP (hd.1 _ (by decide)) fl_X6_23 dX6_takingsInAll_17 ?_
        refine lv_iload_n C0.1 C0.2.1 dX6_takingsInAll_20 rfl (lv_at hl 0 rfl) ?_
        refine k_X5_get (v := S 18 i) 18 (by decide) hd (by decide) (by decide) C0 hK hP (rg_nI (show i < 6 by omega) (by decide)) hS hA hl.1 ml_X6_77 ⟨Nat.le_of_ble_eq_true rfl, Nat.le_of_ble_eq_true rfl⟩ ⟨Nat.zero_le _, Nat.zero_le _⟩ (Nat.le_of_ble_eq_true rfl) dX6_takingsInAll_21 (fun H locs hP hS => ?_)
        refine lv_iadd C0.1 C0.2.1 dX6_takingsInAll_24 ?_
        refine lv_istore_n (lv' := [(1, .int (f + (S 18 i))), (2, .int (nI i)), (0, .ref (a 86))]) C0.1 C0.2.1 dX6_takingsInAll_25 rfl hl (by decide) rfl (fun ls hl => ?_)
        refine lv_iinc (v := nI (i + 1)) (lv' := [(2, .int (nI (i + 1))), (1, .int (f + (S 18 i))), (0, .ref (a 86))]) C0.1 C0.2.1 dX6_takingsInAll_26 hl (k := 1) rfl (nI_1 _) (by decide) rfl (fun ls hl => ?_)
        refine lv_goto (tgt := 4) C0.1 C0.2.1 dX6_takingsInAll_29 (by decide) ?_
        exact ih4 (i + 1) _ (by omega) (by omega) (by rw [hcn]; rfl) _ _ _ hP hS (lv_sub hl [0, 1, 2] rfl)
  exact loop4 (P + 1) 0 0 (by omega) (by omega) rfl _ _ _ hP hS (lv_sub hl [0, 1, 2] rfl)
theorem k_X6_takingsInAll {n : List Nat} (hd : Hd n a I) (hsub : ∀ k ∈ nT, k ∈ n) (C0 : CallFix p m c cc nL s args GW own) (hK : KK D cA s) (hP : WP D cA a S X I H) {P : Nat} (hnP : S 82 0 = nI P) (hP6 : P ≤ 6) {v : Int32} (hv : (smI (S 18) P) = v) (hS : va_S A0 H0 H locs) (hA : ∀ q, AI a I q → A0 q) (hls : ls.size = nL) {idx : Nat} (hlink : Cond.methodLink own idx yX6_takingsInAll ∈ GW) (hR : 2 ≤ R.frames ∧ 43 ≤ R.locals) (hcs : cells ≤ R.cells ∧ slots ≤ R.slots) (hrest : (rest.map fun v => v.category).sum ≤ 8) (hdg : decode cc pc = .ok (.invokevirtual idx, 3)) (kk : ∀ (H1 : Heap) (locs1 : List Loc), WP D cA a S X I H1 → va_S A0 H0 H1 locs1 → W p l e R s m args below meth c H1 locs1 cells slots Q (F0 m (pc + 3) ls (.int v :: rest))) : W p l e R s m args below meth c H locs cells slots Q (F0 m pc ls (.ref (a 86) :: rest)) := by
  subst hv
  exact goI (rV (n := 0) (c_X6_takingsInAll l D cA a S X I (hd.sub hsub)  hnP hP6) C0 hlink im_X6_takingsInAll se_X6_takingsInAll in_X6 co_X6_takingsInAll ⟨rfl, by decide⟩ hR hK hP (hd.1 _ (hsub _ (by decide))) rfl rfl rfl hls hrest rfl hdg hcs) hS hA (fun r S1 X1 H1 locs1 hp hP1 hS1 => by obtain ⟨rfl, rfl, rfl⟩ := hp; exact kk H1 locs1 hP1 hS1)
set_option maxHeartbeats 4000000 in
set_option maxRecDepth 100000 in
theorem c_X6_hasLanded (l : Launch) (D : va_G) (cA : ClassId) (a : Adr) (S X : Mem) (I : Nat → Prop) (hd : Hd nT a I) (u : Nat) (hp : u < 6) : MI l yX6_hasLanded cX6_hasLanded 2 (some .boolean) 1 21 D cA a S X I [.ref (a 86), .int (nI u)] (fun r S1 X1 => r = (bI (lndM S u)) ∧ S1 = S ∧ X1 = X) := by
  refine mGo (by decide) (Nat.le_of_ble_eq_true rfl) ?_
  intro p e s m args below meth c ls C0 hr hlk hK hP hS hl hargs
  obtain ⟨H, hHe⟩ : ∃ H, H = s.heap := ⟨_, rfl⟩
  obtain ⟨locs, hlo⟩ : ∃ L : List Loc, L = [] := ⟨_, rfl⟩
  have hP : WP D cA a S X I H := hHe ▸ hP
  have hS : va_S (AI a I) s.heap H locs := by rw [hHe, hlo]; exact hS
  rw [← hHe, ← hlo]
  have hA : ∀ q, AI a I q → AI a I q := fun _ h => h
  refine lv_aload_n C0.1 C0.2.1 dX6_hasLanded_0 rfl (lv_at hl 0 rfl) ?_
  refine g86_cell C0 hK hP (hd.1 _ (by decide)) fl_X6_14 dX6_hasLanded_1 ?_
  refine lv_iload_n C0.1 C0.2.1 dX6_hasLanded_4 rfl (lv_at hl 1 rfl) ?_
  refine k_X5_get (v := S 16 u) 16 (by decide) hd (by decide) (by decide) C0 hK hP (rg_nI (show u < 6 by omega) (by decide)) hS hA hl.1 ml_X6_77 ⟨Nat.le_of_ble_eq_true rfl, Nat.le_of_ble_eq_true rfl⟩ ⟨Nat.zero_le _, Nat.zero_le _⟩ (Nat.le_of_ble_eq_true rfl) dX6_hasLanded_5 (fun H locs hP hS => ?_)
  refine lv_aload_n C0.1 C0.2.1 dX6_hasLanded_8 rfl (lv_at hl 0 rfl) ?_
  refine g86_landings C0 hK hP (hd.1 _ (by decide)) fl_X6_40 dX6_hasLanded_9 ?_
  refine g81_cell C0 hK hP (hd.1 _ (by decide)) fl_X6_136 dX6_hasLanded_12 ?_
  refine lv_aload_n C0.1 C0.2.1 dX6_hasLanded_15 rfl (lv_at hl 0 rfl) ?_
  refine g86_bound C0 hK hP (hd.1 _ (by decide)) fl_X6_20 dX6_hasLanded_16 ?_
  refine lv_iload_n C0.1 C0.2.1 dX6_hasLanded_19 rfl (lv_at hl 1 rfl) ?_
  refine k_X5_get (v := S 17 u) 17 (by decide) hd (by decide) (by decide) C0 hK hP (rg_nI (show u < 6 by omega) (by decide)) hS hA hl.1 ml_X6_77 ⟨Nat.le_of_ble_eq_true rfl, Nat.le_of_ble_eq_true rfl⟩ ⟨Nat.zero_le _, Nat.zero_le _⟩ (Nat.le_of_ble_eq_true rfl) dX6_hasLanded_20 (fun H locs hP hS => ?_)
  refine k_X5_get (v := rg (S 3) 8 (S 17 u)) 3 (by decide) hd (by decide) (by decide) C0 hK hP rfl hS hA hl.1 ml_X6_77 ⟨Nat.le_of_ble_eq_true rfl, Nat.le_of_ble_eq_true rfl⟩ ⟨Nat.zero_le _, Nat.zero_le _⟩ (Nat.le_of_ble_eq_true rfl) dX6_hasLanded_23 (fun H locs hP hS => ?_)
  refine lv_icmp_ne (tgt := 33) C0.1 C0.2.1 dX6_hasLanded_26 (by decide) (fun c_26 => ?_) (fun c_26 => ?_)
  · refine lv_iconst (v := 0) C0.1 C0.2.1 dX6_hasLanded_33 (by decide) ?_
    exact retZ C0 hr hlk hP hS rfl ⟨by unfold lndM; simp [bI, c_26], rfl, rfl⟩ dX6_hasLanded_34
  · refine lv_iconst (v := 1) C0.1 C0.2.1 dX6_hasLanded_29 (by decide) ?_
    refine lv_goto (tgt := 34) C0.1 C0.2.1 dX6_hasLanded_30 (by decide) ?_
    exact retZ C0 hr hlk hP hS rfl ⟨by unfold lndM; simp [bI, c_26], rfl, rfl⟩ dX6_hasLanded_34
theorem k_X6_hasLanded {n : List Nat} (hd : Hd n a I) (hsub : ∀ k ∈ nT, k ∈ n) (C0 : CallFix p m c cc nL s args GW own) (hK : KK D cA s) (hP : WP D cA a S X I H) {u : Nat} (hp : u < 6) {v : Int32} (hv : (bI (lndM S u)) = v) (hS : va_S A0 H0 H locs) (hA : ∀ q, AI a I q → A0 q) (hls : ls.size = nL) {idx : Nat} (hlink : Cond.methodLink own idx yX6_hasLanded ∈ GW) (hR : 2 ≤ R.frames ∧ 42 ≤ R.locals) (hcs : cells ≤ R.cells ∧ slots ≤ R.slots) (hrest : (rest.map fun v => v.category).sum ≤ 8) (hdg : decode cc pc = .ok (.invokevirtual idx, 3)) (kk : ∀ (H1 : Heap) (locs1 : List Loc), WP D cA a S X I H1 → va_S A0 H0 H1 locs1 → W p l e R s m args below meth c H1 locs1 cells slots Q (F0 m (pc + 3) ls (.int v :: rest))) : W p l e R s m args below meth c H locs cells slots Q (F0 m pc ls (.int (nI u) :: .ref (a 86) :: rest)) := by
  subst hv
  exact goI (rV (n := 1) (c_X6_hasLanded l D cA a S X I (hd.sub hsub) u hp) C0 hlink im_X6_hasLanded se_X6_hasLanded in_X6 co_X6_hasLanded ⟨rfl, by decide⟩ hR hK hP (hd.1 _ (hsub _ (by decide))) rfl rfl rfl hls hrest rfl hdg hcs) hS hA (fun r S1 X1 H1 locs1 hp hP1 hS1 => by obtain ⟨rfl, rfl, rfl⟩ := hp; exact kk H1 locs1 hP1 hS1)
set_option maxHeartbeats 4000000 in
set_option maxRecDepth 100000 in
theorem c_X6_takes (l : Launch) (D : va_G) (cA : ClassId) (a : Adr) (S X : Mem) (I : Nat → Prop) (hd : Hd nT a I) (t : Nat) (q : Int32) (x : Int32) (ht : t < 30) : MI l yX6_takes cX6_takes 4 (some .boolean) 2 43 D cA a S X I [.ref (a 86), .int (nI t), .int q, .int x] (fun r S1 X1 => r = (bI (decide (S 22 t = x) && decide (S 24 t = -1) && decide (lnI (X 11) x (S 20 t) = q))) ∧ S1 = S ∧ X1 = X) := by
  refine mGo (by decide) (Nat.le_of_ble_eq_true rfl) ?_
  intro p e s m args below meth c ls C0 hr hlk hK hP hS hl hargs
  obtain ⟨H, hHe⟩ : ∃ H, H = s.heap := ⟨_, rfl⟩
  obtain ⟨locs, hlo⟩ : ∃ L : List Loc, L = [] := ⟨_, rfl⟩
  have hP : WP D cA a S X I H := hHe ▸ hP
  have hS : va_S (AI a I) s.heap H locs := by rw [hHe, hlo]; exact hS
  rw [← hHe, ← hlo]
  have hA : ∀ q, AI a I q → AI a I q := fun _ h => h
  refine lv_aload_n C0.1 C0.2.1 dX6_takes_0 rfl (lv_at hl 0 rfl) ?_
  refine g86_travellers C0 hK hP (hd.1 _ (by decide)) fl_X6_32 dX6_takes_1 ?_
  refine lv_iload_n C0.1 C0.2.1 dX6_takes_4 rfl (lv_at hl 1 rfl) ?_
  refine lv_iload_n C0.1 C0.2.1 dX6_takes_5 rfl (lv_at hl 3 rfl) ?_
  refine k_X7_waitsAt hd (by decide) C0 hK hP (by omega) (v := bI (decide (S 22 t = x) && decide (S 24 t = -1))) rfl hS hA hl.1 ml_X6_169 ⟨Nat.le_of_ble_eq_true rfl, Nat.le_of_ble_eq_true rfl⟩ ⟨Nat.zero_le _, Nat.zero_le _⟩ (Nat.le_of_ble_eq_true rfl) dX6_takes_6 (fun H locs hP hS => ?_)
  refine lv_if_eq (tgt := 39) C0.1 C0.2.1 dX6_takes_9 (by decide) (fun c_9 => ?_) (fun c_9 => ?_)
  · have c_9 := bI_eq c_9
    refine lv_iconst (v := 0) C0.1 C0.2.1 dX6_takes_39 (by decide) ?_
    exact retZ C0 hr hlk hP hS rfl ⟨by rw [bI_f (by rw [c_9]; rfl)], rfl, rfl⟩ dX6_takes_40
  · have c_9 := bI_ne c_9
    refine lv_aload_n C0.1 C0.2.1 dX6_takes_12 rfl (lv_at hl 0 rfl) ?_
    refine g86_chains C0 hK hP (hd.1 _ (by decide)) fl_X6_48 dX6_takes_13 ?_
    refine lv_iload_n C0.1 C0.2.1 dX6_takes_16 rfl (lv_at hl 3 rfl) ?_
    refine lv_aload_n C0.1 C0.2.1 dX6_takes_17 rfl (lv_at hl 0 rfl) ?_
    refine g86_travellers C0 hK hP (hd.1 _ (by decide)) fl_X6_32 dX6_takes_18 ?_
    refine g85_wish C0 hK hP (hd.1 _ (by decide)) fl_X6_110 dX6_takes_21 ?_
    refine lv_iload_n C0.1 C0.2.1 dX6_takes_24 rfl (lv_at hl 1 rfl) ?_
    refine k_X5_get (v := S 20 t) 20 (by decide) hd (by decide) (by decide) C0 hK hP (rg_nI (show t < 30 by omega) (by decide)) hS hA hl.1 ml_X6_77 ⟨Nat.le_of_ble_eq_true rfl, Nat.le_of_ble_eq_true rfl⟩ ⟨Nat.zero_le _, Nat.zero_le _⟩ (Nat.le_of_ble_eq_true rfl) dX6_takes_25 (fun H locs hP hS => ?_)
    refine k_X0_firstPunt hd (by decide) C0 hK hP  (v := lnI (X 11) x (S 20 t)) rfl hS hA hl.1 ml_X6_172 ⟨Nat.le_of_ble_eq_true rfl, Nat.le_of_ble_eq_true rfl⟩ ⟨Nat.zero_le _, Nat.zero_le _⟩ (Nat.le_of_ble_eq_true rfl) dX6_takes_28 (fun H locs hP hS => ?_)
    refine lv_iload_n C0.1 C0.2.1 dX6_takes_31 rfl (lv_at hl 2 rfl) ?_
    refine lv_icmp_ne (tgt := 39) C0.1 C0.2.1 dX6_takes_32 (by decide) (fun c_32 => ?_) (fun c_32 => ?_)
    · refine lv_iconst (v := 0) C0.1 C0.2.1 dX6_takes_39 (by decide) ?_
      exact retZ C0 hr hlk hP hS rfl ⟨by rw [bI_f (by rw [c_9, decide_eq_false c_32]; rfl)], rfl, rfl⟩ dX6_takes_40
    · refine lv_iconst (v := 1) C0.1 C0.2.1 dX6_takes_35 (by decide) ?_
      refine lv_goto (tgt := 40) C0.1 C0.2.1 dX6_takes_36 (by decide) ?_
      exact retZ C0 hr hlk hP hS rfl ⟨by rw [bI_t (by rw [c_9, decide_eq_true c_32]; rfl)], rfl, rfl⟩ dX6_takes_40
theorem k_X6_takes {n : List Nat} (hd : Hd n a I) (hsub : ∀ k ∈ nT, k ∈ n) (C0 : CallFix p m c cc nL s args GW own) (hK : KK D cA s) (hP : WP D cA a S X I H) {t : Nat} {q : Int32} {x : Int32} (ht : t < 30) {v : Int32} (hv : (bI (decide (S 22 t = x) && decide (S 24 t = -1) && decide (lnI (X 11) x (S 20 t) = q))) = v) (hS : va_S A0 H0 H locs) (hA : ∀ q, AI a I q → A0 q) (hls : ls.size = nL) {idx : Nat} (hlink : Cond.methodLink own idx yX6_takes ∈ GW) (hR : 3 ≤ R.frames ∧ 66 ≤ R.locals) (hcs : cells ≤ R.cells ∧ slots ≤ R.slots) (hrest : (rest.map fun v => v.category).sum ≤ 8) (hdg : decode cc pc = .ok (.invokevirtual idx, 3)) (kk : ∀ (H1 : Heap) (locs1 : List Loc), WP D cA a S X I H1 → va_S A0 H0 H1 locs1 → W p l e R s m args below meth c H1 locs1 cells slots Q (F0 m (pc + 3) ls (.int v :: rest))) : W p l e R s m args below meth c H locs cells slots Q (F0 m pc ls (.int x :: .int q :: .int (nI t) :: .ref (a 86) :: rest)) := by
  subst hv
  exact goI (rV (n := 3) (c_X6_takes l D cA a S X I (hd.sub hsub) t q x ht) C0 hlink im_X6_takes se_X6_takes in_X6 co_X6_takes ⟨rfl, by decide⟩ hR hK hP (hd.1 _ (hsub _ (by decide))) rfl rfl rfl hls hrest rfl hdg hcs) hS hA (fun r S1 X1 H1 locs1 hp hP1 hS1 => by obtain ⟨rfl, rfl, rfl⟩ := hp; exact kk H1 locs1 hP1 hS1)
set_option maxHeartbeats 4000000 in
set_option maxRecDepth 100000 in
theorem c_X6_load (l : Launch) (D : va_G) (cA : ClassId) (a : Adr) (S X : Mem) (I : Nat → Prop) (hd : Hd nT a I) (u : Nat) (x : Int32) (hp : u < 6) {T : Nat} (hnT : S 85 0 = nI T) (hT30 : T ≤ 30) {r : Nat} (hr8 : S 8 u = nI r) (hr6 : r ≤ 6) : MV l yX6_load cX6_load 6 none 3 67 D cA a S X I [.ref (a 86), .int (nI u), .int x] (fun S1 X1 => S1 = (loadM (FX X) S u x r T) ∧ X1 = X) := by
  refine mGo (by decide) (Nat.le_of_ble_eq_true rfl) ?_
  intro p e s m args below meth c ls C0 hr hlk hK hP hS hl hargs
  obtain ⟨H, hHe⟩ : ∃ H, H = s.heap := ⟨_, rfl⟩
  obtain ⟨locs, hlo⟩ : ∃ L : List Loc, L = [] := ⟨_, rfl⟩
  have hP : WP D cA a S X I H := hHe ▸ hP
  have hS : va_S (AI a I) s.heap H locs := by rw [hHe, hlo]; exact hS
  rw [← hHe, ← hlo]
  have hA : ∀ q, AI a I q → AI a I q := fun _ h => h
  refine lv_aload_n C0.1 C0.2.1 dX6_load_0 rfl (lv_at hl 0 rfl) ?_
  refine g86_fleet C0 hK hP (hd.1 _ (by decide)) fl_X6_44 dX6_load_1 ?_
  refine g82_toll C0 hK hP (hd.1 _ (by decide)) fl_X6_148 dX6_load_4 ?_
  refine lv_iload_n C0.1 C0.2.1 dX6_load_7 rfl (lv_at hl 1 rfl) ?_
  refine k_X5_get (v := S 9 u) 9 (by decide) hd (by decide) (by decide) C0 hK hP (rg_nI (show u < 6 by omega) (by decide)) hS hA hl.1 ml_X6_77 ⟨Nat.le_of_ble_eq_true rfl, Nat.le_of_ble_eq_true rfl⟩ ⟨Nat.zero_le _, Nat.zero_le _⟩ (Nat.le_of_ble_eq_true rfl) dX6_load_8 (fun H locs hP hS => ?_)
  refine lv_istore_n (lv' := [(3, .int (S 9 u)), (0, .ref (a 86)), (1, .int (nI u)), (2, .int x)]) C0.1 C0.2.1 dX6_load_11 rfl hl (by decide) rfl (fun ls hl => ?_)
  refine lv_aload_n C0.1 C0.2.1 dX6_load_12 rfl (lv_at hl 1 rfl) ?_
  refine g86_fleet C0 hK hP (hd.1 _ (by decide)) fl_X6_44 dX6_load_13 ?_
  refine g82_room C0 hK hP (hd.1 _ (by decide)) fl_X6_151 dX6_load_16 ?_
  refine lv_iload_n C0.1 C0.2.1 dX6_load_19 rfl (lv_at hl 2 rfl) ?_
  refine k_X5_get (v := nI r) 8 (by decide) hd (by decide) (by decide) C0 hK hP ((rg_nI (show u < 6 by omega) (by decide)).trans hr8) hS hA hl.1 ml_X6_77 ⟨Nat.le_of_ble_eq_true rfl, Nat.le_of_ble_eq_true rfl⟩ ⟨Nat.zero_le _, Nat.zero_le _⟩ (Nat.le_of_ble_eq_true rfl) dX6_load_20 (fun H locs hP hS => ?_)
  refine lv_istore (lv' := [(4, .int (nI r)), (3, .int (S 9 u)), (0, .ref (a 86)), (1, .int (nI u)), (2, .int x)]) C0.1 C0.2.1 dX6_load_23 hl (by decide) rfl (fun ls hl => ?_)
  refine lv_iconst (v := 0) C0.1 C0.2.1 dX6_load_25 (by decide) ?_
  refine lv_istore (lv' := [(5, .int 0), (4, .int (nI r)), (3, .int (S 9 u)), (0, .ref (a 86)), (1, .int (nI u)), (2, .int x)]) C0.1 C0.2.1 dX6_load_26 hl (by decide) rfl (fun ls hl => ?_)
  have loop28 : ∀ (n : Nat) (i : Nat) (f : Int32), (i ≤ T) → (T + 1 ≤ i + n) → (cnt (ldb (FX X) S u x r) i ≤ r) → (f = nI (r - cnt (ldb (FX X) S u x r) i)) → ∀ (H : Heap) (locs : List Loc) (ls : Array Slot), WP D cA a (up (up (up (up S 21 (goA (S 21) (ldb (FX X) S u x r) (fun t => S 21 t + -S 9 u) i)) 22 (goA (S 22) (ldb (FX X) S u x r) (fun _ => -1) i)) 23 (goA (S 23) (ldb (FX X) S u x r) (fun _ => nI u) i)) 18 (upd (S 18) u (S 18 u + nI (cnt (ldb (FX X) S u x r) i) * S 9 u))) X I H → va_S (AI a I) s.heap H locs → lv_has ls 6 [(5, .int (nI i)), (4, .int f), (3, .int (S 9 u)), (0, .ref (a 86)), (1, .int (nI u)), (2, .int x)] → W p l e { frames := 3, cells := 0, slots := 0, locals := 67 } s m args below meth c H locs (0) (0) (MQ below (QpV D cA a I (fun S1 X1 => S1 = (loadM (FX X) S u x r T) ∧ X1 = X)) args s 0 0 (AI a I)) (F0 m 28 ls []) := by
    intro n
    induction n with
    | zero => intro i f hi hf hcr hpl; exfalso; omega
    | succ n ih28 =>
      intro i f hi hf hcr hpl H locs ls hP hS hl
      refine lv_iload C0.1 C0.2.1 dX6_load_28 (lv_at hl 0 rfl) ?_
      refine lv_aload_n C0.1 C0.2.1 dX6_load_30 rfl (lv_at hl 3 rfl) ?_
      refine g86_travellers C0 hK hP (hd.1 _ (by decide)) fl_X6_32 dX6_load_31 ?_
      refine g85_number (v := nI T) C0 hK hP (hd.1 _ (by decide)) fl_X6_154 hnT dX6_load_34 ?_
      refine lv_icmp_ge (tgt := 101) C0.1 C0.2.1 dX6_load_37 (by decide) (fun c_37 => ?_) (fun c_37 => ?_)
      · have hge : T ≤ i := (nI_leI (by omega) (by omega)).mp c_37
        rw [show i = T by omega] at hP
        exact retV C0 hr hlk hP hS ⟨rfl, rfl⟩ dX6_load_101
      · have hlt : i < T := Nat.not_le.mp fun q => c_37 (nI_le q (by omega))
        refine lv_iload C0.1 C0.2.1 dX6_load_40 (lv_at hl 1 rfl) ?_
        refine lv_if_le (tgt := 101) C0.1 C0.2.1 dX6_load_42 (by decide) (fun c_42 => ?_) (fun c_42 => ?_)
        · have hfull : r ≤ cnt (ldb (FX X) S u x r) i := by rw [hpl, show (0 : Int32) = nI 0 from nI_0.symm, nI_leI (by omega) (by omega)] at c_42; omega
          have hs : ∀ t, i ≤ t → ldb (FX X) S u x r t = false := fun t ht => ldb_full hfull ht
          have hP : WP D cA a (up (up (up (up S 21 (goA (S 21) (ldb (FX X) S u x r) (fun t => S 21 t + -S 9 u) T)) 22 (goA (S 22) (ldb (FX X) S u x r) (fun _ => -1) T)) 23 (goA (S 23) (ldb (FX X) S u x r) (fun _ => nI u) T)) 18 (upd (S 18) u (S 18 u + nI (cnt (ldb (FX X) S u x r) T) * S 9 u))) X I H := WP.congr hP (fun k => by
              by_cases h_21 : k = 21
              · subst h_21; exact (goA_stop hi hs : (goA (S 21) (ldb (FX X) S u x r) (fun t => S 21 t + -S 9 u) i) = (goA (S 21) (ldb (FX X) S u x r) (fun t => S 21 t + -S 9 u) T))
              by_cases h_22 : k = 22
              · subst h_22; exact (goA_stop hi hs : (goA (S 22) (ldb (FX X) S u x r) (fun _ => -1) i) = (goA (S 22) (ldb (FX X) S u x r) (fun _ => -1) T))
              by_cases h_23 : k = 23
              · subst h_23; exact (goA_stop hi hs : (goA (S 23) (ldb (FX X) S u x r) (fun _ => nI u) i) = (goA (S 23) (ldb (FX X) S u x r) (fun _ => nI u) T))
              by_cases h_18 : k = 18
              · subst h_18; exact ((by rw [cnt_stop hi hs]) : (upd (S 18) u (S 18 u + nI (cnt (ldb (FX X) S u x r) i) * S 9 u)) = (upd (S 18) u (S 18 u + nI (cnt (ldb (FX X) S u x r) T) * S 9 u)))
              simp only [up, h_21, h_22, h_23, h_18, if_false]) (fun _ => rfl)
          exact retV C0 hr hlk hP hS ⟨rfl, rfl⟩ dX6_load_101
        · refine lv_aload_n C0.1 C0.2.1 dX6_load_45 rfl (lv_at hl 3 rfl) ?_
          refine lv_iload C0.1 C0.2.1 dX6_load_46 (lv_at hl 0 rfl) ?_
          refine lv_iload_n C0.1 C0.2.1 dX6_load_48 rfl (lv_at hl 4 rfl) ?_
          refine lv_iload_n C0.1 C0.2.1 dX6_load_49 rfl (lv_at hl 5 rfl) ?_
          refine k_X6_takes hd (by decide) C0 hK hP (by omega) (v := bI (decide (S 22 i = x) && decide (S 24 i = -1) && decide (lnI (X 11) x (S 20 i) = (nI u)))) (by show (bI (decide ((goA (S 22) (ldb (FX X) S u x r) (fun _ => -1) i) i = x) && decide (S 24 i = -1) && decide (lnI (X 11) x (S 20 i) = (nI u)))) = bI (decide (S 22 i = x) && decide (S 24 i = -1) && decide (lnI (X 11) x (S 20 i) = (nI u))); simp only [goA_self]) hS hA hl.1 ml_X6_155 ⟨Nat.le_of_ble_eq_true rfl, Nat.le_of_ble_eq_true rfl⟩ ⟨Nat.zero_le _, Nat.zero_le _⟩ (Nat.le_of_ble_eq_true rfl) dX6_load_50 (fun H locs hP hS => ?_)
          refine lv_if_eq (tgt := 95) C0.1 C0.2.1 dX6_load_53 (by decide) (fun c_53 => ?_) (fun c_53 => ?_)
          · have c_53 := bI_eq c_53
            refine lv_iinc (v := nI (i + 1)) (lv' := [(5, .int (nI (i + 1))), (4, .int f), (3, .int (S 9 u)), (0, .ref (a 86)), (1, .int (nI u)), (2, .int x)]) C0.1 C0.2.1 dX6_load_95 hl (k := 0) rfl (nI_1 _) (by decide) rfl (fun ls hl => ?_)
            refine lv_goto (tgt := 28) C0.1 C0.2.1 dX6_load_98 (by decide) ?_
            have he : elg (FX X) S u x i = false := by unfold elg; rw [c_53]; rfl
            have hb : ¬ ldb (FX X) S u x r i = true := by unfold ldb; rw [he]; simp
            have hP : WP D cA a (up (up (up (up S 21 (goA (S 21) (ldb (FX X) S u x r) (fun t => S 21 t + -S 9 u) (i + 1))) 22 (goA (S 22) (ldb (FX X) S u x r) (fun _ => -1) (i + 1))) 23 (goA (S 23) (ldb (FX X) S u x r) (fun _ => nI u) (i + 1))) 18 (upd (S 18) u (S 18 u + nI (cnt (ldb (FX X) S u x r) (i + 1)) * S 9 u))) X I H := WP.congr hP (fun k => by
                by_cases h_21 : k = 21
                · subst h_21; exact (goA_no hb : (goA (S 21) (ldb (FX X) S u x r) (fun t => S 21 t + -S 9 u) i) = (goA (S 21) (ldb (FX X) S u x r) (fun t => S 21 t + -S 9 u) (i + 1)))
                by_cases h_22 : k = 22
                · subst h_22; exact (goA_no hb : (goA (S 22) (ldb (FX X) S u x r) (fun _ => -1) i) = (goA (S 22) (ldb (FX X) S u x r) (fun _ => -1) (i + 1)))
                by_cases h_23 : k = 23
                · subst h_23; exact (goA_no hb : (goA (S 23) (ldb (FX X) S u x r) (fun _ => nI u) i) = (goA (S 23) (ldb (FX X) S u x r) (fun _ => nI u) (i + 1)))
                by_cases h_18 : k = 18
                · subst h_18; exact ((by rw [cnt_no hb]) : (upd (S 18) u (S 18 u + nI (cnt (ldb (FX X) S u x r) i) * S 9 u)) = (upd (S 18) u (S 18 u + nI (cnt (ldb (FX X) S u x r) (i + 1)) * S 9 u)))
                simp only [up, h_21, h_22, h_23, h_18, if_false]) (fun _ => rfl)
            exact ih28 (i + 1) _ (by omega) (by omega) (by rw [cnt_no hb]; omega) (by rw [hpl, cnt_no hb]) _ _ _ hP hS (lv_sub hl [0, 1, 2, 3, 4, 5] rfl)
          · have c_53 := bI_ne c_53
            refine lv_aload_n C0.1 C0.2.1 dX6_load_56 rfl (lv_at hl 3 rfl) ?_
            refine g86_travellers C0 hK hP (hd.1 _ (by decide)) fl_X6_32 dX6_load_57 ?_
            refine g85_purse C0 hK hP (hd.1 _ (by decide)) fl_X6_159 dX6_load_60 ?_
            refine lv_iload C0.1 C0.2.1 dX6_load_63 (lv_at hl 0 rfl) ?_
            refine k_X5_get (v := S 21 i) 21 (by decide) hd (by decide) (by decide) C0 hK hP ((rg_nI (show i < 30 by omega) (by decide)).trans (show (goA (S 21) (ldb (FX X) S u x r) (fun t => S 21 t + -S 9 u) i) i = S 21 i from goA_self _ _ _ _)) hS hA hl.1 ml_X6_77 ⟨Nat.le_of_ble_eq_true rfl, Nat.le_of_ble_eq_true rfl⟩ ⟨Nat.zero_le _, Nat.zero_le _⟩ (Nat.le_of_ble_eq_true rfl) dX6_load_65 (fun H locs hP hS => ?_)
            refine lv_iload_n C0.1 C0.2.1 dX6_load_68 rfl (lv_at hl 2 rfl) ?_
            refine lv_icmp_lt (tgt := 95) C0.1 C0.2.1 dX6_load_69 (by decide) (fun c_69 => ?_) (fun c_69 => ?_)
            · refine lv_iinc (v := nI (i + 1)) (lv' := [(5, .int (nI (i + 1))), (4, .int f), (3, .int (S 9 u)), (0, .ref (a 86)), (1, .int (nI u)), (2, .int x)]) C0.1 C0.2.1 dX6_load_95 hl (k := 0) rfl (nI_1 _) (by decide) rfl (fun ls hl => ?_)
              refine lv_goto (tgt := 28) C0.1 C0.2.1 dX6_load_98 (by decide) ?_
              have he : elg (FX X) S u x i = false := by unfold elg; rw [decide_eq_true c_69]; simp
              have hb : ¬ ldb (FX X) S u x r i = true := by unfold ldb; rw [he]; simp
              have hP : WP D cA a (up (up (up (up S 21 (goA (S 21) (ldb (FX X) S u x r) (fun t => S 21 t + -S 9 u) (i + 1))) 22 (goA (S 22) (ldb (FX X) S u x r) (fun _ => -1) (i + 1))) 23 (goA (S 23) (ldb (FX X) S u x r) (fun _ => nI u) (i + 1))) 18 (upd (S 18) u (S 18 u + nI (cnt (ldb (FX X) S u x r) (i + 1)) * S 9 u))) X I H := WP.congr hP (fun k => by
                  by_cases h_21 : k = 21
                  · subst h_21; exact (goA_no hb : (goA (S 21) (ldb (FX X) S u x r) (fun t => S 21 t + -S 9 u) i) = (goA (S 21) (ldb (FX X) S u x r) (fun t => S 21 t + -S 9 u) (i + 1)))
                  by_cases h_22 : k = 22
                  · subst h_22; exact (goA_no hb : (goA (S 22) (ldb (FX X) S u x r) (fun _ => -1) i) = (goA (S 22) (ldb (FX X) S u x r) (fun _ => -1) (i + 1)))
                  by_cases h_23 : k = 23
                  · subst h_23; exact (goA_no hb : (goA (S 23) (ldb (FX X) S u x r) (fun _ => nI u) i) = (goA (S 23) (ldb (FX X) S u x r) (fun _ => nI u) (i + 1)))
                  by_cases h_18 : k = 18
                  · subst h_18; exact ((by rw [cnt_no hb]) : (upd (S 18) u (S 18 u + nI (cnt (ldb (FX X) S u x r) i) * S 9 u)) = (upd (S 18) u (S 18 u + nI (cnt (ldb (FX X) S u x r) (i + 1)) * S 9 u)))
                  simp only [up, h_21, h_22, h_23, h_18, if_false]) (fun _ => rfl)
              exact ih28 (i + 1) _ (by omega) (by omega) (by rw [cnt_no hb]; omega) (by rw [hpl, cnt_no hb]) _ _ _ hP hS (lv_sub hl [0, 1, 2, 3, 4, 5] rfl)
            · refine lv_aload_n C0.1 C0.2.1 dX6_load_72 rfl (lv_at hl 3 rfl) ?_
              refine g86_travellers C0 hK hP (hd.1 _ (by decide)) fl_X6_32 dX6_load_73 ?_
              refine lv_iload C0.1 C0.2.1 dX6_load_76 (lv_at hl 0 rfl) ?_
              refine lv_iload_n C0.1 C0.2.1 dX6_load_78 rfl (lv_at hl 4 rfl) ?_
              refine lv_iload_n C0.1 C0.2.1 dX6_load_79 rfl (lv_at hl 2 rfl) ?_
              refine k_X7_getIn hd (by decide) C0 hK hP (by omega) hS hA hl.1 ml_X6_162 ⟨Nat.le_of_ble_eq_true rfl, Nat.le_of_ble_eq_true rfl⟩ ⟨Nat.zero_le _, Nat.zero_le _⟩ (Nat.le_of_ble_eq_true rfl) dX6_load_80 (fun H locs hP hS => ?_)
              have hP : WP D cA a (up (up (up (up S 18 (upd (S 18) u (S 18 u + nI (cnt (ldb (FX X) S u x r) i) * S 9 u))) 21 (upd (goA (S 21) (ldb (FX X) S u x r) (fun t => S 21 t + -S 9 u) i) i ((goA (S 21) (ldb (FX X) S u x r) (fun t => S 21 t + -S 9 u) i) i + -(S 9 u)))) 22 (upd (goA (S 22) (ldb (FX X) S u x r) (fun _ => -1) i) i (-1))) 23 (upd (goA (S 23) (ldb (FX X) S u x r) (fun _ => nI u) i) i (nI u))) X I H := WP.congr (show WP D cA a (up (up (up (up (up (up (up S 21 (goA (S 21) (ldb (FX X) S u x r) (fun t => S 21 t + -S 9 u) i)) 22 (goA (S 22) (ldb (FX X) S u x r) (fun _ => -1) i)) 23 (goA (S 23) (ldb (FX X) S u x r) (fun _ => nI u) i)) 18 (upd (S 18) u (S 18 u + nI (cnt (ldb (FX X) S u x r) i) * S 9 u))) 21 (upd (goA (S 21) (ldb (FX X) S u x r) (fun t => S 21 t + -S 9 u) i) i ((goA (S 21) (ldb (FX X) S u x r) (fun t => S 21 t + -S 9 u) i) i + -(S 9 u)))) 22 (upd (goA (S 22) (ldb (FX X) S u x r) (fun _ => -1) i) i (-1))) 23 (upd (goA (S 23) (ldb (FX X) S u x r) (fun _ => nI u) i) i (nI u))) X I H from hP) (fun k => by
                  by_cases h_18 : k = 18
                  · subst h_18; rfl
                  by_cases h_21 : k = 21
                  · subst h_21; rfl
                  by_cases h_22 : k = 22
                  · subst h_22; rfl
                  by_cases h_23 : k = 23
                  · subst h_23; rfl
                  simp only [up, h_18, h_21, h_22, h_23, if_false]) (fun _ => rfl)
              refine lv_aload_n C0.1 C0.2.1 dX6_load_83 rfl (lv_at hl 3 rfl) ?_
              refine g86_takings C0 hK hP (hd.1 _ (by decide)) fl_X6_23 dX6_load_84 ?_
              refine lv_iload_n C0.1 C0.2.1 dX6_load_87 rfl (lv_at hl 4 rfl) ?_
              refine lv_iload_n C0.1 C0.2.1 dX6_load_88 rfl (lv_at hl 2 rfl) ?_
              refine k_X5_add 18 (by decide) hd (by decide) (by decide) C0 hK hP hS hA hl.1 ml_X6_166 ⟨Nat.le_of_ble_eq_true rfl, Nat.le_of_ble_eq_true rfl⟩ ⟨Nat.zero_le _, Nat.zero_le _⟩ (Nat.le_of_ble_eq_true rfl) dX6_load_89 (fun H locs hP hS => ?_)
              have hP : WP D cA a (up (up (up (up S 21 (upd (goA (S 21) (ldb (FX X) S u x r) (fun t => S 21 t + -S 9 u) i) i ((goA (S 21) (ldb (FX X) S u x r) (fun t => S 21 t + -S 9 u) i) i + -(S 9 u)))) 22 (upd (goA (S 22) (ldb (FX X) S u x r) (fun _ => -1) i) i (-1))) 23 (upd (goA (S 23) (ldb (FX X) S u x r) (fun _ => nI u) i) i (nI u))) 18 (us (upd (S 18) u (S 18 u + nI (cnt (ldb (FX X) S u x r) i) * S 9 u)) 6 (nI u) (rg (upd (S 18) u (S 18 u + nI (cnt (ldb (FX X) S u x r) i) * S 9 u)) 6 (nI u) + (S 9 u)))) X I H := WP.congr (show WP D cA a (up (up (up (up (up S 18 (upd (S 18) u (S 18 u + nI (cnt (ldb (FX X) S u x r) i) * S 9 u))) 21 (upd (goA (S 21) (ldb (FX X) S u x r) (fun t => S 21 t + -S 9 u) i) i ((goA (S 21) (ldb (FX X) S u x r) (fun t => S 21 t + -S 9 u) i) i + -(S 9 u)))) 22 (upd (goA (S 22) (ldb (FX X) S u x r) (fun _ => -1) i) i (-1))) 23 (upd (goA (S 23) (ldb (FX X) S u x r) (fun _ => nI u) i) i (nI u))) 18 (us (upd (S 18) u (S 18 u + nI (cnt (ldb (FX X) S u x r) i) * S 9 u)) 6 (nI u) (rg (upd (S 18) u (S 18 u + nI (cnt (ldb (FX X) S u x r) i) * S 9 u)) 6 (nI u) + (S 9 u)))) X I H from hP) (fun k => by
                  by_cases h_21 : k = 21
                  · subst h_21; rfl
                  by_cases h_22 : k = 22
                  · subst h_22; rfl
                  by_cases h_23 : k = 23
                  · subst h_23; rfl
                  by_cases h_18 : k = 18
                  · subst h_18; rfl
                  simp only [up, h_21, h_22, h_23, h_18, if_false]) (fun _ => rfl)
              have hP : WP D cA a (up (up (up (up S 21 (upd (goA (S 21) (ldb (FX X) S u x r) (fun t => S 21 t + -S 9 u) i) i ((goA (S 21) (ldb (FX X) S u x r) (fun t => S 21 t + -S 9 u) i) i + -(S 9 u)))) 22 (upd (goA (S 22) (ldb (FX X) S u x r) (fun _ => -1) i) i (-1))) 23 (upd (goA (S 23) (ldb (FX X) S u x r) (fun _ => nI u) i) i (nI u))) 18 (upd (upd (S 18) u (S 18 u + nI (cnt (ldb (FX X) S u x r) i) * S 9 u)) u (((upd (S 18) u (S 18 u + nI (cnt (ldb (FX X) S u x r) i) * S 9 u)) u) + (S 9 u)))) X I H := WP.congr hP (fun k => by
                  by_cases h_21 : k = 21
                  · subst h_21; exact (rfl : (upd (goA (S 21) (ldb (FX X) S u x r) (fun t => S 21 t + -S 9 u) i) i ((goA (S 21) (ldb (FX X) S u x r) (fun t => S 21 t + -S 9 u) i) i + -(S 9 u))) = (upd (goA (S 21) (ldb (FX X) S u x r) (fun t => S 21 t + -S 9 u) i) i ((goA (S 21) (ldb (FX X) S u x r) (fun t => S 21 t + -S 9 u) i) i + -(S 9 u))))
                  by_cases h_22 : k = 22
                  · subst h_22; exact (rfl : (upd (goA (S 22) (ldb (FX X) S u x r) (fun _ => -1) i) i (-1)) = (upd (goA (S 22) (ldb (FX X) S u x r) (fun _ => -1) i) i (-1)))
                  by_cases h_23 : k = 23
                  · subst h_23; exact (rfl : (upd (goA (S 23) (ldb (FX X) S u x r) (fun _ => nI u) i) i (nI u)) = (upd (goA (S 23) (ldb (FX X) S u x r) (fun _ => nI u) i) i (nI u)))
                  by_cases h_18 : k = 18
                  · subst h_18; exact ((show us (upd (S 18) u (S 18 u + nI (cnt (ldb (FX X) S u x r) i) * S 9 u)) 6 (nI u) (rg (upd (S 18) u (S 18 u + nI (cnt (ldb (FX X) S u x r) i) * S 9 u)) 6 (nI u) + (S 9 u)) = upd (upd (S 18) u (S 18 u + nI (cnt (ldb (FX X) S u x r) i) * S 9 u)) u (((upd (S 18) u (S 18 u + nI (cnt (ldb (FX X) S u x r) i) * S 9 u)) u) + (S 9 u)) from (us_nI (show u < 6 by omega) (by decide)).trans (congrArg (fun z => upd (upd (S 18) u (S 18 u + nI (cnt (ldb (FX X) S u x r) i) * S 9 u)) u (z + (S 9 u))) (rg_nI (show u < 6 by omega) (by decide)))) : (us (upd (S 18) u (S 18 u + nI (cnt (ldb (FX X) S u x r) i) * S 9 u)) 6 (nI u) (rg (upd (S 18) u (S 18 u + nI (cnt (ldb (FX X) S u x r) i) * S 9 u)) 6 (nI u) + (S 9 u))) = (upd (upd (S 18) u (S 18 u + nI (cnt (ldb (FX X) S u x r) i) * S 9 u)) u (((upd (S 18) u (S 18 u + nI (cnt (ldb (FX X) S u x r) i) * S 9 u)) u) + (S 9 u))))
                  simp only [up, h_21, h_22, h_23, h_18, if_false]) (fun _ => rfl)
              refine lv_iinc (v := f + (-1)) (lv' := [(4, .int (f + (-1))), (5, .int (nI i)), (3, .int (S 9 u)), (0, .ref (a 86)), (1, .int (nI u)), (2, .int x)]) C0.1 C0.2.1 dX6_load_92 hl (k := 1) rfl rfl (by decide) rfl (fun ls hl => ?_)
              refine lv_iinc (v := nI (i + 1)) (lv' := [(5, .int (nI (i + 1))), (4, .int (f + (-1))), (3, .int (S 9 u)), (0, .ref (a 86)), (1, .int (nI u)), (2, .int x)]) C0.1 C0.2.1 dX6_load_95 hl (k := 1) rfl (nI_1 _) (by decide) rfl (fun ls hl => ?_)
              refine lv_goto (tgt := 28) C0.1 C0.2.1 dX6_load_98 (by decide) ?_
              have hpos : cnt (ldb (FX X) S u x r) i < r := Nat.lt_of_not_le fun q => c_42 (by rw [hpl, show r - cnt (ldb (FX X) S u x r) i = 0 by omega]; decide)
              have he : elg (FX X) S u x i = true := by unfold elg; rw [c_53, decide_eq_false c_69]; rfl
              have hb : ldb (FX X) S u x r i = true := by unfold ldb; rw [he, decide_eq_true (by have := cnt_ldb (FX X) S u x r i; omega)]; rfl
              have hP : WP D cA a (up (up (up (up S 21 (goA (S 21) (ldb (FX X) S u x r) (fun t => S 21 t + -S 9 u) (i + 1))) 22 (goA (S 22) (ldb (FX X) S u x r) (fun _ => -1) (i + 1))) 23 (goA (S 23) (ldb (FX X) S u x r) (fun _ => nI u) (i + 1))) 18 (upd (S 18) u (S 18 u + nI (cnt (ldb (FX X) S u x r) (i + 1)) * S 9 u))) X I H := WP.congr hP (fun k => by
                  by_cases h_21 : k = 21
                  · subst h_21; exact ((by rw [goA_self]; exact goA_yes (v := fun t => S 21 t + -S 9 u) hb) : (upd (goA (S 21) (ldb (FX X) S u x r) (fun t => S 21 t + -S 9 u) i) i ((goA (S 21) (ldb (FX X) S u x r) (fun t => S 21 t + -S 9 u) i) i + -(S 9 u))) = (goA (S 21) (ldb (FX X) S u x r) (fun t => S 21 t + -S 9 u) (i + 1)))
                  by_cases h_22 : k = 22
                  · subst h_22; exact (goA_yes hb : (upd (goA (S 22) (ldb (FX X) S u x r) (fun _ => -1) i) i (-1)) = (goA (S 22) (ldb (FX X) S u x r) (fun _ => -1) (i + 1)))
                  by_cases h_23 : k = 23
                  · subst h_23; exact (goA_yes hb : (upd (goA (S 23) (ldb (FX X) S u x r) (fun _ => nI u) i) i (nI u)) = (goA (S 23) (ldb (FX X) S u x r) (fun _ => nI u) (i + 1)))
                  by_cases h_18 : k = 18
                  · subst h_18; exact ((by funext j; unfold upd; by_cases e : j = u <;> simp [e, cnt_yes hb, mul_succ]) : (upd (upd (S 18) u (S 18 u + nI (cnt (ldb (FX X) S u x r) i) * S 9 u)) u (((upd (S 18) u (S 18 u + nI (cnt (ldb (FX X) S u x r) i) * S 9 u)) u) + (S 9 u))) = (upd (S 18) u (S 18 u + nI (cnt (ldb (FX X) S u x r) (i + 1)) * S 9 u)))
                  simp only [up, h_21, h_22, h_23, h_18, if_false]) (fun _ => rfl)
              exact ih28 (i + 1) _ (by omega) (by omega) (by rw [cnt_yes hb]; omega) (by rw [hpl, cnt_yes hb, show nI (r - cnt (ldb (FX X) S u x r) i) = nI (r - (cnt (ldb (FX X) S u x r) i + 1) + 1) from by congr 1; omega]; exact pk_m1 _) _ _ _ hP hS (lv_sub hl [0, 1, 2, 3, 4, 5] rfl)
  have hP : WP D cA a (up (up (up (up S 21 (goA (S 21) (ldb (FX X) S u x r) (fun t => S 21 t + -S 9 u) 0)) 22 (goA (S 22) (ldb (FX X) S u x r) (fun _ => -1) 0)) 23 (goA (S 23) (ldb (FX X) S u x r) (fun _ => nI u) 0)) 18 (upd (S 18) u (S 18 u + nI (cnt (ldb (FX X) S u x r) 0) * S 9 u))) X I H := WP.congr hP (fun k => by rw [goA_zero, goA_zero, goA_zero, up_self, up_self, up_self, show cnt (ldb (FX X) S u x r) 0 = 0 from rfl, nI_0, Int32.zero_mul, Int32.add_zero, show upd (S 18) u (S 18 u) = S 18 from by funext j; unfold upd; by_cases e : j = u <;> simp [e], up_self]) (fun _ => rfl)
  exact loop28 (T + 1) 0 (nI r) (by omega) (by omega) (Nat.zero_le _) rfl _ _ _ hP hS (lv_sub hl [0, 1, 2, 3, 4, 5] rfl)
theorem k_X6_load {n : List Nat} (hd : Hd n a I) (hsub : ∀ k ∈ nT, k ∈ n) (C0 : CallFix p m c cc nL s args GW own) (hK : KK D cA s) (hP : WP D cA a S X I H) {u : Nat} {x : Int32} (hp : u < 6) {T : Nat} (hnT : S 85 0 = nI T) (hT30 : T ≤ 30) {r : Nat} (hr8 : S 8 u = nI r) (hr6 : r ≤ 6) (hS : va_S A0 H0 H locs) (hA : ∀ q, AI a I q → A0 q) (hls : ls.size = nL) {idx : Nat} (hlink : Cond.methodLink own idx yX6_load ∈ GW) (hR : 4 ≤ R.frames ∧ 92 ≤ R.locals) (hcs : cells ≤ R.cells ∧ slots ≤ R.slots) (hrest : (rest.map fun v => v.category).sum ≤ 8) (hdg : decode cc pc = .ok (.invokevirtual idx, 3)) (kk : ∀ (H1 : Heap) (locs1 : List Loc), WP D cA a (loadM (FX X) S u x r T) X I H1 → va_S A0 H0 H1 locs1 → W p l e R s m args below meth c H1 locs1 cells slots Q (F0 m (pc + 3) ls rest)) : W p l e R s m args below meth c H locs cells slots Q (F0 m pc ls (.int x :: .int (nI u) :: .ref (a 86) :: rest)) := by
  exact goV (rV (n := 2) (c_X6_load l D cA a S X I (hd.sub hsub) u x hp hnT hT30 hr8 hr6) C0 hlink im_X6_load se_X6_load in_X6 co_X6_load ⟨rfl, by decide⟩ hR hK hP (hd.1 _ (hsub _ (by decide))) rfl rfl rfl hls hrest rfl hdg hcs) hS hA (fun S1 X1 H1 locs1 hp hP1 hS1 => by obtain ⟨rfl, rfl⟩ := hp; exact kk H1 locs1 hP1 hS1)
set_option maxHeartbeats 4000000 in
set_option maxRecDepth 100000 in
theorem c_X6_turnRound (l : Launch) (D : va_G) (cA : ClassId) (a : Adr) (S X : Mem) (I : Nat → Prop) (hd : Hd nT a I) (u : Nat) (hp : u < 6) {T : Nat} (hnT : S 85 0 = nI T) (hT30 : T ≤ 30) {h : Nat} (hnH : S 86 0 = nI h) (hh : h < 2 ^ 31) {r : Nat} (hr8 : S 8 u = nI r) (hr6 : r ≤ 6) : MI l yX6_turnRound cX6_turnRound 4 (some .int) 4 92 D cA a S X I [.ref (a 86), .int (nI u)] (fun r S1 X1 => r = (outN S (nI u) (S 17 u) T) ∧ S1 = (turnM (FX X) S u T h) ∧ X1 = X) := by
  refine mGo (by decide) (Nat.le_of_ble_eq_true rfl) ?_
  intro p e s m args below meth c ls C0 hr hlk hK hP hS hl hargs
  obtain ⟨H, hHe⟩ : ∃ H, H = s.heap := ⟨_, rfl⟩
  obtain ⟨locs, hlo⟩ : ∃ L : List Loc, L = [] := ⟨_, rfl⟩
  have hP : WP D cA a S X I H := hHe ▸ hP
  have hS : va_S (AI a I) s.heap H locs := by rw [hHe, hlo]; exact hS
  rw [← hHe, ← hlo]
  have hA : ∀ q, AI a I q → AI a I q := fun _ h => h
  refine lv_aload_n C0.1 C0.2.1 dX6_turnRound_0 rfl (lv_at hl 0 rfl) ?_
  refine g86_bound C0 hK hP (hd.1 _ (by decide)) fl_X6_20 dX6_turnRound_1 ?_
  refine lv_iload_n C0.1 C0.2.1 dX6_turnRound_4 rfl (lv_at hl 1 rfl) ?_
  refine k_X5_get (v := S 17 u) 17 (by decide) hd (by decide) (by decide) C0 hK hP (rg_nI (show u < 6 by omega) (by decide)) hS hA hl.1 ml_X6_77 ⟨Nat.le_of_ble_eq_true rfl, Nat.le_of_ble_eq_true rfl⟩ ⟨Nat.zero_le _, Nat.zero_le _⟩ (Nat.le_of_ble_eq_true rfl) dX6_turnRound_5 (fun H locs hP hS => ?_)
  refine lv_istore_n (lv' := [(2, .int (S 17 u)), (0, .ref (a 86)), (1, .int (nI u))]) C0.1 C0.2.1 dX6_turnRound_8 rfl hl (by decide) rfl (fun ls hl => ?_)
  refine lv_aload_n C0.1 C0.2.1 dX6_turnRound_9 rfl (lv_at hl 1 rfl) ?_
  refine g86_travellers C0 hK hP (hd.1 _ (by decide)) fl_X6_32 dX6_turnRound_10 ?_
  refine lv_iload_n C0.1 C0.2.1 dX6_turnRound_13 rfl (lv_at hl 2 rfl) ?_
  refine lv_iload_n C0.1 C0.2.1 dX6_turnRound_14 rfl (lv_at hl 0 rfl) ?_
  refine lv_aload_n C0.1 C0.2.1 dX6_turnRound_15 rfl (lv_at hl 1 rfl) ?_
  refine g86_hour (v := nI h) C0 hK hP (hd.1 _ (by decide)) fl_X6_56 hnH dX6_turnRound_16 ?_
  refine k_X7_getOut hd (by decide) C0 hK hP hnT hT30 (v := nI (cnt (fun t => decide ((S 23) t = (nI u)) && decide ((S 20) t = (S 17 u))) T)) rfl hS hA hl.1 ml_X6_139 ⟨Nat.le_of_ble_eq_true rfl, Nat.le_of_ble_eq_true rfl⟩ ⟨Nat.zero_le _, Nat.zero_le _⟩ (Nat.le_of_ble_eq_true rfl) dX6_turnRound_19 (fun H locs hP hS => ?_)
  have hP : WP D cA a (up (up (up S 23 (goA (S 23) (fun t => decide ((S 23) t = (nI u))) (fun _ => -1) T)) 22 (goA (S 22) (fun t => decide ((S 23) t = (nI u))) (fun _ => (S 17 u)) T)) 24 (goA (S 24) (fun t => decide ((S 23) t = (nI u)) && decide ((S 20) t = (S 17 u))) (fun _ => (nI h)) T)) X I H := hP
  refine lv_istore_n (lv' := [(3, .int (nI (cnt (fun t => decide ((S 23) t = (nI u)) && decide ((S 20) t = (S 17 u))) T))), (2, .int (S 17 u)), (0, .ref (a 86)), (1, .int (nI u))]) C0.1 C0.2.1 dX6_turnRound_22 rfl hl (by decide) rfl (fun ls hl => ?_)
  refine lv_aload_n C0.1 C0.2.1 dX6_turnRound_23 rfl (lv_at hl 2 rfl) ?_
  refine g86_bound C0 hK hP (hd.1 _ (by decide)) fl_X6_20 dX6_turnRound_24 ?_
  refine lv_iload_n C0.1 C0.2.1 dX6_turnRound_27 rfl (lv_at hl 3 rfl) ?_
  refine lv_aload_n C0.1 C0.2.1 dX6_turnRound_28 rfl (lv_at hl 2 rfl) ?_
  refine g86_fleet C0 hK hP (hd.1 _ (by decide)) fl_X6_44 dX6_turnRound_29 ?_
  refine lv_iload_n C0.1 C0.2.1 dX6_turnRound_32 rfl (lv_at hl 3 rfl) ?_
  refine lv_iload_n C0.1 C0.2.1 dX6_turnRound_33 rfl (lv_at hl 1 rfl) ?_
  refine k_X2_otherEnd hd (by decide) C0 hK hP  (v := if rg (S 4) 6 (nI u) = (S 17 u) then rg (S 5) 6 (nI u) else rg (S 4) 6 (nI u)) rfl hS hA hl.1 ml_X6_142 ⟨Nat.le_of_ble_eq_true rfl, Nat.le_of_ble_eq_true rfl⟩ ⟨Nat.zero_le _, Nat.zero_le _⟩ (Nat.le_of_ble_eq_true rfl) dX6_turnRound_34 (fun H locs hP hS => ?_)
  refine k_X5_set 17 (by decide) hd (by decide) (by decide) C0 hK hP hS hA hl.1 ml_X6_67 ⟨Nat.le_of_ble_eq_true rfl, Nat.le_of_ble_eq_true rfl⟩ ⟨Nat.zero_le _, Nat.zero_le _⟩ (Nat.le_of_ble_eq_true rfl) dX6_turnRound_37 (fun H locs hP hS => ?_)
  have hP : WP D cA a (up (up (up (up S 23 (goA (S 23) (fun t => decide ((S 23) t = (nI u))) (fun _ => -1) T)) 22 (goA (S 22) (fun t => decide ((S 23) t = (nI u))) (fun _ => (S 17 u)) T)) 24 (goA (S 24) (fun t => decide ((S 23) t = (nI u)) && decide ((S 20) t = (S 17 u))) (fun _ => (nI h)) T)) 17 (us (S 17) 6 (nI u) (if rg (S 4) 6 (nI u) = (S 17 u) then rg (S 5) 6 (nI u) else rg (S 4) 6 (nI u)))) X I H := hP
  have hP : WP D cA a (up (up (up (up S 23 (goA (S 23) (fun t => decide ((S 23) t = (nI u))) (fun _ => -1) T)) 22 (goA (S 22) (fun t => decide ((S 23) t = (nI u))) (fun _ => (S 17 u)) T)) 24 (goA (S 24) (fun t => decide ((S 23) t = (nI u)) && decide ((S 20) t = (S 17 u))) (fun _ => (nI h)) T)) 17 (upd (S 17) u (if rg (S 4) 6 (nI u) = (S 17 u) then rg (S 5) 6 (nI u) else rg (S 4) 6 (nI u)))) X I H := WP.congr hP (fun k => by
      by_cases h_23 : k = 23
      · subst h_23; exact (rfl : (goA (S 23) (fun t => decide ((S 23) t = (nI u))) (fun _ => -1) T) = (goA (S 23) (fun t => decide ((S 23) t = (nI u))) (fun _ => -1) T))
      by_cases h_22 : k = 22
      · subst h_22; exact (rfl : (goA (S 22) (fun t => decide ((S 23) t = (nI u))) (fun _ => (S 17 u)) T) = (goA (S 22) (fun t => decide ((S 23) t = (nI u))) (fun _ => (S 17 u)) T))
      by_cases h_24 : k = 24
      · subst h_24; exact (rfl : (goA (S 24) (fun t => decide ((S 23) t = (nI u)) && decide ((S 20) t = (S 17 u))) (fun _ => (nI h)) T) = (goA (S 24) (fun t => decide ((S 23) t = (nI u)) && decide ((S 20) t = (S 17 u))) (fun _ => (nI h)) T))
      by_cases h_17 : k = 17
      · subst h_17; exact ((us_nI (show u < 6 by omega) (by decide)) : (us (S 17) 6 (nI u) (if rg (S 4) 6 (nI u) = (S 17 u) then rg (S 5) 6 (nI u) else rg (S 4) 6 (nI u))) = (upd (S 17) u (if rg (S 4) 6 (nI u) = (S 17 u) then rg (S 5) 6 (nI u) else rg (S 4) 6 (nI u))))
      simp only [up, h_23, h_22, h_24, h_17, if_false]) (fun _ => rfl)
  refine lv_aload_n C0.1 C0.2.1 dX6_turnRound_40 rfl (lv_at hl 2 rfl) ?_
  refine lv_iload_n C0.1 C0.2.1 dX6_turnRound_41 rfl (lv_at hl 3 rfl) ?_
  refine lv_iload_n C0.1 C0.2.1 dX6_turnRound_42 rfl (lv_at hl 1 rfl) ?_
  refine k_X6_load hd (by decide) C0 hK hP (by omega) hnT hT30 hr8 hr6 hS hA hl.1 ml_X6_145 ⟨Nat.le_of_ble_eq_true rfl, Nat.le_of_ble_eq_true rfl⟩ ⟨Nat.zero_le _, Nat.zero_le _⟩ (Nat.le_of_ble_eq_true rfl) dX6_turnRound_43 (fun H locs hP hS => ?_)
  have hP : WP D cA a (loadM (FX X) (up (up (up (up S 23 (goA (S 23) (fun t => decide ((S 23) t = (nI u))) (fun _ => -1) T)) 22 (goA (S 22) (fun t => decide ((S 23) t = (nI u))) (fun _ => (S 17 u)) T)) 24 (goA (S 24) (fun t => decide ((S 23) t = (nI u)) && decide ((S 20) t = (S 17 u))) (fun _ => (nI h)) T)) 17 (upd (S 17) u (if rg (S 4) 6 (nI u) = (S 17 u) then rg (S 5) 6 (nI u) else rg (S 4) 6 (nI u)))) u (S 17 u) r T) X I H := hP
  refine lv_iload_n C0.1 C0.2.1 dX6_turnRound_46 rfl (lv_at hl 0 rfl) ?_
  exact retI C0 hr hlk hP hS ⟨rfl, by unfold turnM bndM othI; rw [hr8, nI_clamp (by omega)]; simp only [rg_nI (show u < 6 by omega) (show 6 < 2 ^ 31 by decide)]; rfl, rfl⟩ dX6_turnRound_47
theorem k_X6_turnRound {n : List Nat} (hd : Hd n a I) (hsub : ∀ k ∈ nT, k ∈ n) (C0 : CallFix p m c cc nL s args GW own) (hK : KK D cA s) (hP : WP D cA a S X I H) {u : Nat} (hp : u < 6) {T : Nat} (hnT : S 85 0 = nI T) (hT30 : T ≤ 30) {h : Nat} (hnH : S 86 0 = nI h) (hh : h < 2 ^ 31) {r : Nat} (hr8 : S 8 u = nI r) (hr6 : r ≤ 6) {v : Int32} (hv : (outN S (nI u) (S 17 u) T) = v) (hS : va_S A0 H0 H locs) (hA : ∀ q, AI a I q → A0 q) (hls : ls.size = nL) {idx : Nat} (hlink : Cond.methodLink own idx yX6_turnRound ∈ GW) (hR : 5 ≤ R.frames ∧ 115 ≤ R.locals) (hcs : cells ≤ R.cells ∧ slots ≤ R.slots) (hrest : (rest.map fun v => v.category).sum ≤ 8) (hdg : decode cc pc = .ok (.invokevirtual idx, 3)) (kk : ∀ (H1 : Heap) (locs1 : List Loc), WP D cA a (turnM (FX X) S u T h) X I H1 → va_S A0 H0 H1 locs1 → W p l e R s m args below meth c H1 locs1 cells slots Q (F0 m (pc + 3) ls (.int v :: rest))) : W p l e R s m args below meth c H locs cells slots Q (F0 m pc ls (.int (nI u) :: .ref (a 86) :: rest)) := by
  subst hv
  exact goI (rV (n := 1) (c_X6_turnRound l D cA a S X I (hd.sub hsub) u hp hnT hT30 hnH hh hr8 hr6) C0 hlink im_X6_turnRound se_X6_turnRound in_X6 co_X6_turnRound ⟨rfl, by decide⟩ hR hK hP (hd.1 _ (hsub _ (by decide))) rfl rfl rfl hls hrest rfl hdg hcs) hS hA (fun r S1 X1 H1 locs1 hp hP1 hS1 => by obtain ⟨rfl, rfl, rfl⟩ := hp; exact kk H1 locs1 hP1 hS1)
end CLS
